def o_PP_beginS : List Cond := [.fieldLink RX15 20 "SsaForgeModel$Phi" "t" "I", .fieldLink RX15 24 "SsaForgeModel$Phi" "n" "I", .fieldLink RX15 27 "SsaForgeModel$Phi" "gone" "Z"]
def v_PP_beginS : List Cond := .code yX15_begin cX15_begin 2 none :: (o_PP_beginS ++ (wsX150 ++ []))
theorem mow_PP_beginS : ∀ w ∈ o_PP_beginS, w ∈ v_PP_beginS := fun _ h => List.mem_cons_of_mem _ (List.mem_append_left _ h)
theorem mem_PP_beginS_0 : ∀ w ∈ wsX150, w ∈ v_PP_beginS := fun _ h => List.mem_cons_of_mem _ (List.mem_append_right _ (List.mem_append_left _ h))
set_option maxRecDepth 20000 in
theorem gw_PP_beginS : v_PP_beginS.all goodWord = true := by decide +kernel
set_option maxHeartbeats 4000000 in
set_option maxRecDepth 100000 in
theorem c_PP_beginS (l : Launch) (dC : Nat → ClassId) (dI : Nat → Nat → Nat) (cO : ClassId) (cI : ClassId) (cZ : ClassId) (L : List Nat) (P : PO) (xp : Nat) (t0 : Int) (hX_p : PIKR L P cI cZ xp) (hNt : 0 ≤ t0 ∧ t0 ≤ 1001) (sz : Nat) : Met l yX15_begin v_PP_beginS ({ frames := 0, cells := 0, slots := 0, locals := 0 }) (va_Pc [.ref xp, .int (zI (t0))] (fun U => U.heap.size = sz ∧ va_P (dC, dI) vwQ ([] ++ va_pl L (pE P)) U.heap ∧ va_K (dC, dI) vwQ [(cO, .object "java/lang/Object"), (cI, .int), (cZ, .boolean)] U ∧ va_D (fun _ => True) ([] ++ va_pl L (pE P)))) (va_Qv (fun _ : Unit => True) (fun (_ : Unit) (t : State) => ∃ (Pn_9 : PO), ((PH1 xp P Pn_9 ∧ PIKR L Pn_9 cI cZ xp ∧ Pn_9.pn xp = 0 ∧ Pn_9.pt xp = t0 ∧ Pn_9.pg xp = 0 ∧ PRQ xp P Pn_9 ∧ RW1 xp P Pn_9)) ∧ va_P (dC, dI) vwQ ([] ++ va_pl L (pE Pn_9)) t.heap ∧ va_K (dC, dI) vwQ [(cO, .object "java/lang/Object"), (cI, .int), (cZ, .boolean)] t ∧ va_D (va_A ([] ++ va_pl L (pE P)) sz) ([] ++ va_pl L (pE Pn_9))) (va_A ([] ++ va_pl L (pE P)) sz)) 0 0 (va_A ([] ++ va_pl L (pE P)) sz) := by
  refine Met.ofW (cc := cX15_begin) (maxL := 2) (ret := none) (by decide) rfl ?_
  intro p e s m args below meth c s₁ B hml hv
  obtain ⟨rfl, hsz, hP, hK, hD0⟩ := hv
  have hx := B.exec
  have hb := B.bytes
  have hr := B.returns
  have hts := atoms_spec (ws := v_PP_beginS) B.pre
  have hown : s.vm.findClass RX15 = some m.cls := findClass_of_methodNamed B.named
  have hlocks := B.notSynchronized
  have ow : ∀ {k : Nat} {w : Cond}, o_PP_beginS[k]? = some w → w.before ([.ref xp, .int (zI (t0))] : List Value).toArray s = true := fun h => hts _ (mow_PP_beginS _ (List.mem_of_getElem? h))
  subst hsz
  have hD := hD0.self (sz := s.heap.size)
  generalize hAe : va_A ([] ++ va_pl L (pE P)) s.heap.size = A at hD ⊢
  have hA : ∀ q : Nat, s.heap.size ≤ q → A q := fun q h => by rw [← hAe]; exact Or.inr h
  have hS : va_S A s.heap s.heap [] := va_S.rf
  have hP : va_P (dC, dI) vwQ ([] ++ va_pl L (pE P)) s.heap := hP
  have hl := lv_entry ([.ref xp, .int (zI (t0))]) (n := 2) (Nat.le_of_ble_eq_true rfl)
  rw [lg_entry_eq]
  generalize (lg_sl ([.ref xp, .int (zI (t0))]) ++ List.replicate (2 - (lg_sl ([.ref xp, .int (zI (t0))])).length) Slot.unset).toArray = ls at hl ⊢
  have hl : lv_has ls 2 [(0, .ref xp), (1, .int (zI (t0)))] := hl
  obtain ⟨H, hH⟩ : ∃ H, H = s.heap := ⟨_, rfl⟩
  rw [← hH] at hP
  have hS : va_S A s.heap H [] := by rw [hH]; exact hS
  rw [← hH]
  refine zW_cap (fun Q hQ => ?_)
  obtain ⟨qp, eqp⟩ : ∃ q9 : Nat, P.pp xp = q9 := ⟨_, rfl⟩
  have hoqp : qp ∈ L ∧ P.kd qp = 40 ∧ P.ac qp = cI ∧ P.ow qp = xp := (by rw [← eqp]; exact hX_p.2.1)
  have hnqp : P.an qp = P.an (P.pp xp) := (by rw [eqp])
  obtain ⟨qu, equ⟩ : ∃ q9 : Nat, P.pu xp = q9 := ⟨_, rfl⟩
  have hoqu : qu ∈ L ∧ P.kd qu = 41 ∧ P.ac qu = cI ∧ P.ow qu = xp := (by rw [← equ]; exact hX_p.2.2.1)
  have hnqu : P.an qu = P.an (P.pu xp) := (by rw [equ])
  obtain ⟨qz, eqz⟩ : ∃ q9 : Nat, P.pr xp = q9 := ⟨_, rfl⟩
  have hoqz : qz ∈ L ∧ P.kd qz = 42 ∧ P.ac qz = cZ ∧ P.ow qz = xp := (by rw [← eqz]; exact hX_p.2.2.2.1)
  have hnqz : P.an qz = P.an (P.pr xp) := (by rw [eqz])
  have hpn := hX_p.2.2.2.2.1
  have hpt := hX_p.2.2.2.2.2.1
  refine lv_aload_n hx hb dX15_begin_0 rfl (lv_at hl 0 rfl) ?_
  refine lv_iload_n hx hb dX15_begin_1 rfl (lv_at hl 1 rfl) ?_
  obtain ⟨kp_1, gkp_1⟩ := va_pl_get (X := []) (f := pE P) hX_p.1.1
  have hkp_1 := gkp_1
  rw [pE_phi hX_p.1.2] at hkp_1
  have hD0 := hD
  refine va_put (D := (dC, dI)) (ci := 20) (v := .int (zI (t0))) (ty := .int) (C := RX15) (T := TX15) (N := 6) hx hb hts mem_PP_beginS_0 tyX15 tyX15_ok nmX15 hown hK hP hD hS kp_1 hkp_1 rfl 0 (by decide) (ow (k := 0) rfl) (fun _ h9 => h9) rfl (by decide +kernel) rfl rfl (Nat.le_of_ble_eq_true rfl) dX15_begin_2 (fun H locs hP hD hS => ?_)
  obtain ⟨Pw_2, ePw_2⟩ : ∃ q9 : PO, q9 = P.rw9 0 xp (t0) := ⟨_, rfl⟩
  have eU : (([] : va_W) ++ va_pl L (pE P)).set kp_1 (xp, phiE (t0) (P.pn xp) (P.pp xp) (P.pu xp) (P.pr xp) (P.pg xp)) = ([] : va_W) ++ va_pl L (pE Pw_2) := (by rw [va_pl_set hD0 hX_p.1.1 gkp_1, ePw_2]; exact congrArg (fun f9 => ([] : va_W) ++ va_pl L f9) (put15_0 hX_p.1.2))
  have hP : va_P (dC, dI) vwQ ([] ++ va_pl L (pE Pw_2)) H := (by rw [← eU]; exact hP)
  have hD : va_D A ([] ++ va_pl L (pE Pw_2)) := (by rw [← eU]; exact hD)
  clear eU hD0 gkp_1 hkp_1
  have wPw_2 : PH1 xp P Pw_2 := (by rw [ePw_2]; exact PH1.put _ _ _ _)
  have hy_3 : Pw_2.kd xp = 15 := (by rw [ePw_2]; exact hX_p.1.2)
  have : Pw_2.pt xp = t0 := (by rw [ePw_2]; exact rw9_at _ _ _ _)
  have : Pw_2.pn xp = P.pn xp := (by rw [ePw_2]; exact rw9_of _ (by decide))
  have : Pw_2.pg xp = P.pg xp := (by rw [ePw_2]; exact rw9_of _ (by decide))
  have hy_4 : Pw_2.kd qp = 40 := (by rw [ePw_2]; exact hoqp.2.1)
  have hy_5 : Pw_2.kd qu = 41 := (by rw [ePw_2]; exact hoqu.2.1)
  have hy_6 : Pw_2.kd qz = 42 := (by rw [ePw_2]; exact hoqz.2.1)
  have hc_7 : Pw_2.ac qp = cI := (by rw [ePw_2]; exact hoqp.2.2.1)
  have : Pw_2.an qp = P.an qp := (by rw [ePw_2]; rfl)
  have hc_8 : Pw_2.ac qu = cI := (by rw [ePw_2]; exact hoqu.2.2.1)
  have : Pw_2.an qu = P.an qu := (by rw [ePw_2]; rfl)
  have hc_9 : Pw_2.ac qz = cZ := (by rw [ePw_2]; exact hoqz.2.2.1)
  have : Pw_2.an qz = P.an qz := (by rw [ePw_2]; rfl)
  have ha_10 : Pw_2.pp xp = qp := (by rw [ePw_2]; exact eqp)
  have ha_11 : Pw_2.pu xp = qu := (by rw [ePw_2]; exact equ)
  have ha_12 : Pw_2.pr xp = qz := (by rw [ePw_2]; exact eqz)
  have ho_13 : Pw_2.ow qp = xp := (by rw [ePw_2]; exact hoqp.2.2.2)
  have ho_14 : Pw_2.ow qu = xp := (by rw [ePw_2]; exact hoqu.2.2.2)
  have ho_15 : Pw_2.ow qz = xp := (by rw [ePw_2]; exact hoqz.2.2.2)
  refine lv_aload_n hx hb dX15_begin_5 rfl (lv_at hl 0 rfl) ?_
  refine lv_iconst (v := 0) hx hb dX15_begin_6 (by decide) ?_
  refine lv_topi (fun z ez => ?_)
  obtain rfl : z = zI (0) := ez
  obtain ⟨kp_16, gkp_16⟩ := va_pl_get (X := []) (f := pE Pw_2) hX_p.1.1
  have hkp_16 := gkp_16
  rw [pE_phi hy_3] at hkp_16
  have hD0 := hD
  refine va_put (D := (dC, dI)) (ci := 20) (v := .int (zI (0))) (ty := .int) (C := RX15) (T := TX15) (N := 6) hx hb hts mem_PP_beginS_0 tyX15 tyX15_ok nmX15 hown hK hP hD hS kp_16 hkp_16 rfl 1 (by decide) (ow (k := 1) rfl) (fun _ h9 => h9) rfl (by decide +kernel) rfl rfl (Nat.le_of_ble_eq_true rfl) dX15_begin_7 (fun H locs hP hD hS => ?_)
  obtain ⟨Pw_17, ePw_17⟩ : ∃ q9 : PO, q9 = Pw_2.rw9 1 xp (0) := ⟨_, rfl⟩
  have eU : (([] : va_W) ++ va_pl L (pE Pw_2)).set kp_16 (xp, phiE (Pw_2.pt xp) (0) (Pw_2.pp xp) (Pw_2.pu xp) (Pw_2.pr xp) (Pw_2.pg xp)) = ([] : va_W) ++ va_pl L (pE Pw_17) := (by rw [va_pl_set hD0 hX_p.1.1 gkp_16, ePw_17]; exact congrArg (fun f9 => ([] : va_W) ++ va_pl L f9) (put15_1 hy_3))
  have hP : va_P (dC, dI) vwQ ([] ++ va_pl L (pE Pw_17)) H := (by rw [← eU]; exact hP)
  have hD : va_D A ([] ++ va_pl L (pE Pw_17)) := (by rw [← eU]; exact hD)
  clear eU hD0 gkp_16 hkp_16
  have wPw_17 : PH1 xp Pw_2 Pw_17 := (by rw [ePw_17]; exact PH1.put _ _ _ _)
  have hy_18 : Pw_17.kd xp = 15 := (by rw [ePw_17]; exact hy_3)
  have : Pw_17.pt xp = Pw_2.pt xp := (by rw [ePw_17]; exact rw9_of _ (by decide))
  have : Pw_17.pn xp = 0 := (by rw [ePw_17]; exact rw9_at _ _ _ _)
  have : Pw_17.pg xp = Pw_2.pg xp := (by rw [ePw_17]; exact rw9_of _ (by decide))
  have hy_19 : Pw_17.kd qp = 40 := (by rw [ePw_17]; exact hy_4)
  have hy_20 : Pw_17.kd qu = 41 := (by rw [ePw_17]; exact hy_5)
  have hy_21 : Pw_17.kd qz = 42 := (by rw [ePw_17]; exact hy_6)
  have hc_22 : Pw_17.ac qp = cI := (by rw [ePw_17]; exact hc_7)
  have : Pw_17.an qp = Pw_2.an qp := (by rw [ePw_17]; rfl)
  have hc_23 : Pw_17.ac qu = cI := (by rw [ePw_17]; exact hc_8)
  have : Pw_17.an qu = Pw_2.an qu := (by rw [ePw_17]; rfl)
  have hc_24 : Pw_17.ac qz = cZ := (by rw [ePw_17]; exact hc_9)
  have : Pw_17.an qz = Pw_2.an qz := (by rw [ePw_17]; rfl)
  have ha_25 : Pw_17.pp xp = qp := (by rw [ePw_17]; exact ha_10)
  have ha_26 : Pw_17.pu xp = qu := (by rw [ePw_17]; exact ha_11)
  have ha_27 : Pw_17.pr xp = qz := (by rw [ePw_17]; exact ha_12)
  have ho_28 : Pw_17.ow qp = xp := (by rw [ePw_17]; exact ho_13)
  have ho_29 : Pw_17.ow qu = xp := (by rw [ePw_17]; exact ho_14)
  have ho_30 : Pw_17.ow qz = xp := (by rw [ePw_17]; exact ho_15)
  refine lv_aload_n hx hb dX15_begin_10 rfl (lv_at hl 0 rfl) ?_
  refine lv_iconst (v := 0) hx hb dX15_begin_11 (by decide) ?_
  refine lv_topi (fun z ez => ?_)
  obtain rfl : z = zI (0) := ez
  obtain ⟨kp_31, gkp_31⟩ := va_pl_get (X := []) (f := pE Pw_17) hX_p.1.1
  have hkp_31 := gkp_31
  rw [pE_phi hy_18] at hkp_31
  have hD0 := hD
  refine va_put (D := (dC, dI)) (ci := 20) (v := .int (zI (0))) (ty := .boolean) (C := RX15) (T := TX15) (N := 6) hx hb hts mem_PP_beginS_0 tyX15 tyX15_ok nmX15 hown hK hP hD hS kp_31 hkp_31 rfl 5 (by decide) (ow (k := 2) rfl) (fun _ h9 => h9) rfl (by decide +kernel) (zI_bool (by omega) (by omega)) (zI_fitb (by omega) (by omega)) (Nat.le_of_ble_eq_true rfl) dX15_begin_12 (fun H locs hP hD hS => ?_)
  obtain ⟨Pw_32, ePw_32⟩ : ∃ q9 : PO, q9 = Pw_17.rw9 2 xp (0) := ⟨_, rfl⟩
  have eU : (([] : va_W) ++ va_pl L (pE Pw_17)).set kp_31 (xp, phiE (Pw_17.pt xp) (Pw_17.pn xp) (Pw_17.pp xp) (Pw_17.pu xp) (Pw_17.pr xp) (0)) = ([] : va_W) ++ va_pl L (pE Pw_32) := (by rw [va_pl_set hD0 hX_p.1.1 gkp_31, ePw_32]; exact congrArg (fun f9 => ([] : va_W) ++ va_pl L f9) (put15_2 hy_18))
  have hP : va_P (dC, dI) vwQ ([] ++ va_pl L (pE Pw_32)) H := (by rw [← eU]; exact hP)
  have hD : va_D A ([] ++ va_pl L (pE Pw_32)) := (by rw [← eU]; exact hD)
  clear eU hD0 gkp_31 hkp_31
  have wPw_32 : PH1 xp Pw_17 Pw_32 := (by rw [ePw_32]; exact PH1.put _ _ _ _)
  have hy_33 : Pw_32.kd xp = 15 := (by rw [ePw_32]; exact hy_18)
  have : Pw_32.pt xp = Pw_17.pt xp := (by rw [ePw_32]; exact rw9_of _ (by decide))
  have : Pw_32.pn xp = Pw_17.pn xp := (by rw [ePw_32]; exact rw9_of _ (by decide))
  have : Pw_32.pg xp = 0 := (by rw [ePw_32]; exact rw9_at _ _ _ _)
  have hy_34 : Pw_32.kd qp = 40 := (by rw [ePw_32]; exact hy_19)
  have hy_35 : Pw_32.kd qu = 41 := (by rw [ePw_32]; exact hy_20)
  have hy_36 : Pw_32.kd qz = 42 := (by rw [ePw_32]; exact hy_21)
  have hc_37 : Pw_32.ac qp = cI := (by rw [ePw_32]; exact hc_22)
  have : Pw_32.an qp = Pw_17.an qp := (by rw [ePw_32]; rfl)
  have hc_38 : Pw_32.ac qu = cI := (by rw [ePw_32]; exact hc_23)
  have : Pw_32.an qu = Pw_17.an qu := (by rw [ePw_32]; rfl)
  have hc_39 : Pw_32.ac qz = cZ := (by rw [ePw_32]; exact hc_24)
  have : Pw_32.an qz = Pw_17.an qz := (by rw [ePw_32]; rfl)
  have ha_40 : Pw_32.pp xp = qp := (by rw [ePw_32]; exact ha_25)
  have ha_41 : Pw_32.pu xp = qu := (by rw [ePw_32]; exact ha_26)
  have ha_42 : Pw_32.pr xp = qz := (by rw [ePw_32]; exact ha_27)
  have ho_43 : Pw_32.ow qp = xp := (by rw [ePw_32]; exact ho_28)
  have ho_44 : Pw_32.ow qu = xp := (by rw [ePw_32]; exact ho_29)
  have ho_45 : Pw_32.ow qz = xp := (by rw [ePw_32]; exact ho_30)
  subst hQ
  refine W.widen (k := 0) (n := 0) (Nat.le_of_ble_eq_true rfl) (Nat.le_of_ble_eq_true rfl) ?_
  exact W.vret hx hb hr (fun t ht hW => ⟨⟨(), rfl, trivial, Pw_32, ⟨wPw_2.trans (wPw_17.trans (wPw_32)), hX_p.of (wPw_2.trans (wPw_17.trans (wPw_32))) (by omega) (by omega) (by omega) (fun i a b => by omega), by omega, by omega, by omega, fun n h i a b => by omega, ((show RW1 xp P Pw_2 from (by rw [ePw_2]; exact RW1.put _ _ _ _)).trans ((show RW1 xp Pw_2 Pw_17 from (by rw [ePw_17]; exact RW1.put _ _ _ _)).trans (show RW1 xp Pw_17 Pw_32 from (by rw [ePw_32]; exact RW1.put _ _ _ _))))⟩, by rw [ht]; exact hP, va_K.moved hW.alike hK, hD⟩, hS.F ht⟩) hS.2.2 dX15_begin_15
