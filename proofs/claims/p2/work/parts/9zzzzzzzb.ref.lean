theorem dX15_begin_0 : decode cX15_begin 0 = .ok (.aload_n 0, 1) := by decide +kernel
theorem dX15_begin_1 : decode cX15_begin 1 = .ok (.iload_n 1, 1) := by decide +kernel
theorem dX15_begin_2 : decode cX15_begin 2 = .ok (.putfield 20, 3) := by decide +kernel
theorem dX15_begin_5 : decode cX15_begin 5 = .ok (.aload_n 0, 1) := by decide +kernel
theorem dX15_begin_6 : decode cX15_begin 6 = .ok (.iconst 0, 1) := by decide +kernel
theorem dX15_begin_7 : decode cX15_begin 7 = .ok (.putfield 24, 3) := by decide +kernel
theorem dX15_begin_10 : decode cX15_begin 10 = .ok (.aload_n 0, 1) := by decide +kernel
theorem dX15_begin_11 : decode cX15_begin 11 = .ok (.iconst 0, 1) := by decide +kernel
theorem dX15_begin_12 : decode cX15_begin 12 = .ok (.putfield 27, 3) := by decide +kernel
theorem dX15_begin_15 : decode cX15_begin 15 = .ok (.return_, 1) := by decide +kernel
def o_PP_begin : List Cond := [.fieldLink RX15 20 "SsaForgeModel$Phi" "t" "I", .fieldLink RX15 24 "SsaForgeModel$Phi" "n" "I", .fieldLink RX15 27 "SsaForgeModel$Phi" "gone" "Z"]
def v_PP_begin : List Cond := .code yX15_begin cX15_begin 2 none :: (o_PP_begin ++ (wsX150 ++ []))
theorem mow_PP_begin : ∀ w ∈ o_PP_begin, w ∈ v_PP_begin := fun _ h => List.mem_cons_of_mem _ (List.mem_append_left _ h)
theorem mem_PP_begin_0 : ∀ w ∈ wsX150, w ∈ v_PP_begin := fun _ h => List.mem_cons_of_mem _ (List.mem_append_right _ (List.mem_append_left _ h))
set_option maxRecDepth 20000 in
theorem gw_PP_begin : v_PP_begin.all goodWord = true := by decide +kernel
set_option maxHeartbeats 4000000 in
set_option maxRecDepth 100000 in
theorem c_PP_begin (l : Launch) (dC : Nat → ClassId) (dI : Nat → Nat → Nat) (cO : ClassId) (cI : ClassId) (cZ : ClassId) (L : List Nat) (P : PO) (xp : Nat) (t0 : Int) (hX_p : PIK L P cI cZ xp) (hNt : 0 ≤ t0 ∧ t0 ≤ 1001) (sz : Nat) : Met l yX15_begin v_PP_begin ({ frames := 0, cells := 0, slots := 0, locals := 0 }) (va_Pc [.ref xp, .int (zI (t0))] (fun U => U.heap.size = sz ∧ va_P (dC, dI) vwQ ([] ++ va_pl L (pE P)) U.heap ∧ va_K (dC, dI) vwQ [(cO, .object "java/lang/Object"), (cI, .int), (cZ, .boolean)] U ∧ va_D (fun _ => True) ([] ++ va_pl L (pE P)))) (va_Qv (fun _ : Unit => True) (fun (_ : Unit) (t : State) => ∃ (Pn_9 : PO), ((PH1 xp P Pn_9 ∧ PIK L Pn_9 cI cZ xp ∧ Pn_9.pn xp = 0 ∧ Pn_9.pt xp = t0 ∧ Pn_9.pg xp = 0 ∧ PRQ xp P Pn_9)) ∧ va_P (dC, dI) vwQ ([] ++ va_pl L (pE Pn_9)) t.heap ∧ va_K (dC, dI) vwQ [(cO, .object "java/lang/Object"), (cI, .int), (cZ, .boolean)] t ∧ va_D (va_A ([] ++ va_pl L (pE P)) sz) ([] ++ va_pl L (pE Pn_9))) (va_A ([] ++ va_pl L (pE P)) sz)) 0 0 (va_A ([] ++ va_pl L (pE P)) sz) := by
  refine Met.ofW (cc := cX15_begin) (maxL := 2) (ret := none) (by decide) rfl ?_
  intro p e s m args below meth c s₁ B hml hv
  obtain ⟨rfl, hsz, hP, hK, hD0⟩ := hv
  have hx := B.exec
  have hb := B.bytes
  have hr := B.returns
  have hts := atoms_spec (ws := v_PP_begin) B.pre
  have hown : s.vm.findClass RX15 = some m.cls := findClass_of_methodNamed B.named
  have hlocks := B.notSynchronized
  have ow : ∀ {k : Nat} {w : Cond}, o_PP_begin[k]? = some w → w.before ([.ref xp, .int (zI (t0))] : List Value).toArray s = true := fun h => hts _ (mow_PP_begin _ (List.mem_of_getElem? h))
  subst hsz
  have hD := hD0.self (sz := s.heap.size)
  generalize hAe : va_A ([] ++ va_pl L (pE P)) s.heap.size = A at hD ⊢
  have hA : ∀ q : Nat, s.heap.size ≤ q → A q := fun q h => by rw [← hAe]; exact Or.inr h
  have hS : va_S A s.heap s.heap [] := va_S.rf
  have hP : va_P (dC, dI) vwQ ([] ++ va_pl L (pE P)) s.heap := hP
  have hl := lv_entry ([.ref xp, .int (zI (t0))]) (n := 2) (Nat.le_of_ble_eq_true rfl)
  rw [lg_entry_eq]
  generalize (lg_sl ([.ref xp, .int (zI (t0))]) ++ List.replicate (2 - (lg_sl ([.ref xp, .int (zI (t0))])).length) Slot.unset).toArray = ls at hl ⊢
  have hl : lv_has ls 2 [(0, .ref xp), (1, .int (zI (t0)))] := hl
  obtain ⟨H, hH⟩ : ∃ H, H = s.heap := ⟨_, rfl⟩
  rw [← hH] at hP
  have hS : va_S A s.heap H [] := by rw [hH]; exact hS
  rw [← hH]
  refine zW_cap (fun Q hQ => ?_)
  obtain ⟨qp, eqp⟩ : ∃ q9 : Nat, P.pp xp = q9 := ⟨_, rfl⟩
  have hoqp : qp ∈ L ∧ P.kd qp = 40 ∧ P.ac qp = cI ∧ P.ow qp = xp := (by rw [← eqp]; exact hX_p.2.1)
  have hnqp : P.an qp = P.an (P.pp xp) := (by rw [eqp])
  obtain ⟨qu, equ⟩ : ∃ q9 : Nat, P.pu xp = q9 := ⟨_, rfl⟩
  have hoqu : qu ∈ L ∧ P.kd qu = 41 ∧ P.ac qu = cI ∧ P.ow qu = xp := (by rw [← equ]; exact hX_p.2.2.1)
  have hnqu : P.an qu = P.an (P.pu xp) := (by rw [equ])
  obtain ⟨qz, eqz⟩ : ∃ q9 : Nat, P.pr xp = q9 := ⟨_, rfl⟩
  have hoqz : qz ∈ L ∧ P.kd qz = 42 ∧ P.ac qz = cZ ∧ P.ow qz = xp := (by rw [← eqz]; exact hX_p.2.2.2.1)
  have hnqz : P.an qz = P.an (P.pr xp) := (by rw [eqz])
  have hpn := hX_p.2.2.2.2.1
  have hpt := hX_p.2.2.2.2.2.1
  have hpa : ∀ i : Int, 0 ≤ i → i < P.pn xp → EF (P.ia qp i) (P.ia qu i) (P.ia qz i) := (fun i a b => by have q9 := hX_p.ef a b; unfold PEF at q9; rw [eqp, equ, eqz] at q9; exact q9)
  refine lv_aload_n hx hb dX15_begin_0 rfl (lv_at hl 0 rfl) ?_
  refine lv_iload_n hx hb dX15_begin_1 rfl (lv_at hl 1 rfl) ?_
  obtain ⟨kp_1, gkp_1⟩ := va_pl_get (X := []) (f := pE P) hX_p.1.1
  have hkp_1 := gkp_1
  rw [pE_phi hX_p.1.2] at hkp_1
  have hD0 := hD
  refine va_put (D := (dC, dI)) (ci := 20) (v := .int (zI (t0))) (ty := .int) (C := RX15) (T := TX15) (N := 6) hx hb hts mem_PP_begin_0 tyX15 tyX15_ok nmX15 hown hK hP hD hS kp_1 hkp_1 rfl 0 (by decide) (ow (k := 0) rfl) (fun _ h9 => h9) rfl (by decide +kernel) rfl rfl (Nat.le_of_ble_eq_true rfl) dX15_begin_2 (fun H locs hP hD hS => ?_)
  obtain ⟨Pw_2, ePw_2⟩ : ∃ q9 : PO, q9 = P.rw9 0 xp (t0) := ⟨_, rfl⟩
  have eU : (([] : va_W) ++ va_pl L (pE P)).set kp_1 (xp, phiE (t0) (P.pn xp) (P.pp xp) (P.pu xp) (P.pr xp) (P.pg xp)) = ([] : va_W) ++ va_pl L (pE Pw_2) := (by rw [va_pl_set hD0 hX_p.1.1 gkp_1, ePw_2]; exact congrArg (fun f9 => ([] : va_W) ++ va_pl L f9) (put15_0 hX_p.1.2))
  have hP : va_P (dC, dI) vwQ ([] ++ va_pl L (pE Pw_2)) H := (by rw [← eU]; exact hP)
  have hD : va_D A ([] ++ va_pl L (pE Pw_2)) := (by rw [← eU]; exact hD)
  clear eU hD0 gkp_1 hkp_1
  have wPw_2 : PH1 xp P Pw_2 := (by rw [ePw_2]; exact PH1.put _ _ _ _)
  have hy_3 : Pw_2.kd xp = 15 := (by rw [ePw_2]; exact hX_p.1.2)
  have : Pw_2.pt xp = t0 := (by rw [ePw_2]; exact rw9_at _ _ _ _)
  have : Pw_2.pn xp = P.pn xp := (by rw [ePw_2]; exact rw9_of _ (by decide))
  have : Pw_2.pg xp = P.pg xp := (by rw [ePw_2]; exact rw9_of _ (by decide))
  have hy_4 : Pw_2.kd qp = 40 := (by rw [ePw_2]; exact hoqp.2.1)
  have hy_5 : Pw_2.kd qu = 41 := (by rw [ePw_2]; exact hoqu.2.1)
  have hy_6 : Pw_2.kd qz = 42 := (by rw [ePw_2]; exact hoqz.2.1)
  have hc_7 : Pw_2.ac qp = cI := (by rw [ePw_2]; exact hoqp.2.2.1)
  have : Pw_2.an qp = P.an qp := (by rw [ePw_2]; rfl)
  have hc_8 : Pw_2.ac qu = cI := (by rw [ePw_2]; exact hoqu.2.2.1)
  have : Pw_2.an qu = P.an qu := (by rw [ePw_2]; rfl)
  have hc_9 : Pw_2.ac qz = cZ := (by rw [ePw_2]; exact hoqz.2.2.1)
  have : Pw_2.an qz = P.an qz := (by rw [ePw_2]; rfl)
  have ha_10 : Pw_2.pp xp = qp := (by rw [ePw_2]; exact eqp)
  have ha_11 : Pw_2.pu xp = qu := (by rw [ePw_2]; exact equ)
  have ha_12 : Pw_2.pr xp = qz := (by rw [ePw_2]; exact eqz)
  have ho_13 : Pw_2.ow qp = xp := (by rw [ePw_2]; exact hoqp.2.2.2)
  have ho_14 : Pw_2.ow qu = xp := (by rw [ePw_2]; exact hoqu.2.2.2)
  have ho_15 : Pw_2.ow qz = xp := (by rw [ePw_2]; exact hoqz.2.2.2)
  refine lv_aload_n hx hb dX15_begin_5 rfl (lv_at hl 0 rfl) ?_
  refine lv_iconst (v := 0) hx hb dX15_begin_6 (by decide) ?_
  refine lv_topi (fun z ez => ?_)
  obtain rfl : z = zI (0) := ez
  obtain ⟨kp_16, gkp_16⟩ := va_pl_get (X := []) (f := pE Pw_2) hX_p.1.1
  have hkp_16 := gkp_16
  rw [pE_phi hy_3] at hkp_16
  have hD0 := hD
  refine va_put (D := (dC, dI)) (ci := 20) (v := .int (zI (0))) (ty := .int) (C := RX15) (T := TX15) (N := 6) hx hb hts mem_PP_begin_0 tyX15 tyX15_ok nmX15 hown hK hP hD hS kp_16 hkp_16 rfl 1 (by decide) (ow (k := 1) rfl) (fun _ h9 => h9) rfl (by decide +kernel) rfl rfl (Nat.le_of_ble_eq_true rfl) dX15_begin_7 (fun H locs hP hD hS => ?_)
  obtain ⟨Pw_17, ePw_17⟩ : ∃ q9 : PO, q9 = Pw_2.rw9 1 xp (0) := ⟨_, rfl⟩
  have eU : (([] : va_W) ++ va_pl L (pE Pw_2)).set kp_16 (xp, phiE (Pw_2.pt xp) (0) (Pw_2.pp xp) (Pw_2.pu xp) (Pw_2.pr xp) (Pw_2.pg xp)) = ([] : va_W) ++ va_pl L (pE Pw_17) := (by rw [va_pl_set hD0 hX_p.1.1 gkp_16, ePw_17]; exact congrArg (fun f9 => ([] : va_W) ++ va_pl L f9) (put15_1 hy_3))
  have hP : va_P (dC, dI) vwQ ([] ++ va_pl L (pE Pw_17)) H := (by rw [← eU]; exact hP)
  have hD : va_D A ([] ++ va_pl L (pE Pw_17)) := (by rw [← eU]; exact hD)
  clear eU hD0 gkp_16 hkp_16
  have wPw_17 : PH1 xp Pw_2 Pw_17 := (by rw [ePw_17]; exact PH1.put _ _ _ _)
  have hy_18 : Pw_17.kd xp = 15 := (by rw [ePw_17]; exact hy_3)
  have : Pw_17.pt xp = Pw_2.pt xp := (by rw [ePw_17]; exact rw9_of _ (by decide))
  have : Pw_17.pn xp = 0 := (by rw [ePw_17]; exact rw9_at _ _ _ _)
  have : Pw_17.pg xp = Pw_2.pg xp := (by rw [ePw_17]; exact rw9_of _ (by decide))
  have hy_19 : Pw_17.kd qp = 40 := (by rw [ePw_17]; exact hy_4)
  have hy_20 : Pw_17.kd qu = 41 := (by rw [ePw_17]; exact hy_5)
  have hy_21 : Pw_17.kd qz = 42 := (by rw [ePw_17]; exact hy_6)
  have hc_22 : Pw_17.ac qp = cI := (by rw [ePw_17]; exact hc_7)
  have : Pw_17.an qp = Pw_2.an qp := (by rw [ePw_17]; rfl)
  have hc_23 : Pw_17.ac qu = cI := (by rw [ePw_17]; exact hc_8)
  have : Pw_17.an qu = Pw_2.an qu := (by rw [ePw_17]; rfl)
  have hc_24 : Pw_17.ac qz = cZ := (by rw [ePw_17]; exact hc_9)
  have : Pw_17.an qz = Pw_2.an qz := (by rw [ePw_17]; rfl)
  have ha_25 : Pw_17.pp xp = qp := (by rw [ePw_17]; exact ha_10)
  have ha_26 : Pw_17.pu xp = qu := (by rw [ePw_17]; exact ha_11)
  have ha_27 : Pw_17.pr xp = qz := (by rw [ePw_17]; exact ha_12)
  have ho_28 : Pw_17.ow qp = xp := (by rw [ePw_17]; exact ho_13)
  have ho_29 : Pw_17.ow qu = xp := (by rw [ePw_17]; exact ho_14)
  have ho_30 : Pw_17.ow qz = xp := (by rw [ePw_17]; exact ho_15)
  refine lv_aload_n hx hb dX15_begin_10 rfl (lv_at hl 0 rfl) ?_
  refine lv_iconst (v := 0) hx hb dX15_begin_11 (by decide) ?_
  refine lv_topi (fun z ez => ?_)
  obtain rfl : z = zI (0) := ez
  obtain ⟨kp_31, gkp_31⟩ := va_pl_get (X := []) (f := pE Pw_17) hX_p.1.1
  have hkp_31 := gkp_31
  rw [pE_phi hy_18] at hkp_31
  have hD0 := hD
  refine va_put (D := (dC, dI)) (ci := 20) (v := .int (zI (0))) (ty := .boolean) (C := RX15) (T := TX15) (N := 6) hx hb hts mem_PP_begin_0 tyX15 tyX15_ok nmX15 hown hK hP hD hS kp_31 hkp_31 rfl 5 (by decide) (ow (k := 2) rfl) (fun _ h9 => h9) rfl (by decide +kernel) (zI_bool (by omega) (by omega)) (zI_fitb (by omega) (by omega)) (Nat.le_of_ble_eq_true rfl) dX15_begin_12 (fun H locs hP hD hS => ?_)
  obtain ⟨Pw_32, ePw_32⟩ : ∃ q9 : PO, q9 = Pw_17.rw9 2 xp (0) := ⟨_, rfl⟩
  have eU : (([] : va_W) ++ va_pl L (pE Pw_17)).set kp_31 (xp, phiE (Pw_17.pt xp) (Pw_17.pn xp) (Pw_17.pp xp) (Pw_17.pu xp) (Pw_17.pr xp) (0)) = ([] : va_W) ++ va_pl L (pE Pw_32) := (by rw [va_pl_set hD0 hX_p.1.1 gkp_31, ePw_32]; exact congrArg (fun f9 => ([] : va_W) ++ va_pl L f9) (put15_2 hy_18))
  have hP : va_P (dC, dI) vwQ ([] ++ va_pl L (pE Pw_32)) H := (by rw [← eU]; exact hP)
  have hD : va_D A ([] ++ va_pl L (pE Pw_32)) := (by rw [← eU]; exact hD)
  clear eU hD0 gkp_31 hkp_31
  have wPw_32 : PH1 xp Pw_17 Pw_32 := (by rw [ePw_32]; exact PH1.put _ _ _ _)
  have hy_33 : Pw_32.kd xp = 15 := (by rw [ePw_32]; exact hy_18)
  have : Pw_32.pt xp = Pw_17.pt xp := (by rw [ePw_32]; exact rw9_of _ (by decide))
  have : Pw_32.pn xp = Pw_17.pn xp := (by rw [ePw_32]; exact rw9_of _ (by decide))
  have : Pw_32.pg xp = 0 := (by rw [ePw_32]; exact rw9_at _ _ _ _)
  have hy_34 : Pw_32.kd qp = 40 := (by rw [ePw_32]; exact hy_19)
  have hy_35 : Pw_32.kd qu = 41 := (by rw [ePw_32]; exact hy_20)
  have hy_36 : Pw_32.kd qz = 42 := (by rw [ePw_32]; exact hy_21)
  have hc_37 : Pw_32.ac qp = cI := (by rw [ePw_32]; exact hc_22)
  have : Pw_32.an qp = Pw_17.an qp := (by rw [ePw_32]; rfl)
  have hc_38 : Pw_32.ac qu = cI := (by rw [ePw_32]; exact hc_23)
  have : Pw_32.an qu = Pw_17.an qu := (by rw [ePw_32]; rfl)
  have hc_39 : Pw_32.ac qz = cZ := (by rw [ePw_32]; exact hc_24)
  have : Pw_32.an qz = Pw_17.an qz := (by rw [ePw_32]; rfl)
  have ha_40 : Pw_32.pp xp = qp := (by rw [ePw_32]; exact ha_25)
  have ha_41 : Pw_32.pu xp = qu := (by rw [ePw_32]; exact ha_26)
  have ha_42 : Pw_32.pr xp = qz := (by rw [ePw_32]; exact ha_27)
  have ho_43 : Pw_32.ow qp = xp := (by rw [ePw_32]; exact ho_28)
  have ho_44 : Pw_32.ow qu = xp := (by rw [ePw_32]; exact ho_29)
  have ho_45 : Pw_32.ow qz = xp := (by rw [ePw_32]; exact ho_30)
  subst hQ
  refine W.widen (k := 0) (n := 0) (Nat.le_of_ble_eq_true rfl) (Nat.le_of_ble_eq_true rfl) ?_
  exact W.vret hx hb hr (fun t ht hW => ⟨⟨(), rfl, trivial, Pw_32, ⟨wPw_2.trans (wPw_17.trans (wPw_32)), hX_p.of (wPw_2.trans (wPw_17.trans (wPw_32))) (by omega) (by omega) (by omega) (fun i a b => by omega), by omega, by omega, by omega, fun n h i a b => by omega⟩, by rw [ht]; exact hP, va_K.moved hW.alike hK, hD⟩, hS.F ht⟩) hS.2.2 dX15_begin_15
theorem dX19_resolve__0 : decode cX19_resolve_ 0 = .ok (.iconst 0, 1) := by decide +kernel
theorem dX19_resolve__1 : decode cX19_resolve_ 1 = .ok (.istore_n 2, 1) := by decide +kernel
theorem dX19_resolve__2 : decode cX19_resolve_ 2 = .ok (.iload_n 2, 1) := by decide +kernel
theorem dX19_resolve__3 : decode cX19_resolve_ 3 = .ok (.aload_n 1, 1) := by decide +kernel
theorem dX19_resolve__4 : decode cX19_resolve_ 4 = .ok (.getfield 81, 3) := by decide +kernel
theorem dX19_resolve__7 : decode cX19_resolve_ 7 = .ok (.if_icmp .ge 77, 3) := by decide +kernel
theorem dX19_resolve__84 : decode cX19_resolve_ 84 = .ok (.return_, 1) := by decide +kernel
theorem dX19_resolve__10 : decode cX19_resolve_ 10 = .ok (.aload_n 1, 1) := by decide +kernel
theorem dX19_resolve__11 : decode cX19_resolve_ 11 = .ok (.getfield 253, 3) := by decide +kernel
theorem dX19_resolve__14 : decode cX19_resolve_ 14 = .ok (.iload_n 2, 1) := by decide +kernel
theorem dX19_resolve__15 : decode cX19_resolve_ 15 = .ok (.baload, 1) := by decide +kernel
theorem dX19_resolve__16 : decode cX19_resolve_ 16 = .ok (.ifCond .ne 6, 3) := by decide +kernel
theorem dX19_resolve__22 : decode cX19_resolve_ 22 = .ok (.aload_n 0, 1) := by decide +kernel
theorem dX19_resolve__23 : decode cX19_resolve_ 23 = .ok (.aload_n 1, 1) := by decide +kernel
theorem dX19_resolve__24 : decode cX19_resolve_ 24 = .ok (.getfield 213, 3) := by decide +kernel
theorem dX19_resolve__27 : decode cX19_resolve_ 27 = .ok (.iload_n 2, 1) := by decide +kernel
theorem dX19_resolve__28 : decode cX19_resolve_ 28 = .ok (.iaload, 1) := by decide +kernel
theorem dX19_resolve__29 : decode cX19_resolve_ 29 = .ok (.invokevirtual 293, 3) := by decide +kernel
theorem dX19_resolve__32 : decode cX19_resolve_ 32 = .ok (.istore_n 3, 1) := by decide +kernel
theorem dX19_resolve__33 : decode cX19_resolve_ 33 = .ok (.aload_n 1, 1) := by decide +kernel
theorem dX19_resolve__34 : decode cX19_resolve_ 34 = .ok (.getfield 253, 3) := by decide +kernel
theorem dX19_resolve__37 : decode cX19_resolve_ 37 = .ok (.iload_n 2, 1) := by decide +kernel
theorem dX19_resolve__38 : decode cX19_resolve_ 38 = .ok (.aload_n 0, 1) := by decide +kernel
theorem dX19_resolve__39 : decode cX19_resolve_ 39 = .ok (.getfield 284, 3) := by decide +kernel
theorem dX19_resolve__42 : decode cX19_resolve_ 42 = .ok (.iload_n 3, 1) := by decide +kernel
theorem dX19_resolve__43 : decode cX19_resolve_ 43 = .ok (.baload, 1) := by decide +kernel
theorem dX19_resolve__44 : decode cX19_resolve_ 44 = .ok (.ifCond .ne 7, 3) := by decide +kernel
theorem dX19_resolve__51 : decode cX19_resolve_ 51 = .ok (.iconst 0, 1) := by decide +kernel
theorem dX19_resolve__52 : decode cX19_resolve_ 52 = .ok (.bastore, 1) := by decide +kernel
theorem dX19_resolve__53 : decode cX19_resolve_ 53 = .ok (.aload_n 1, 1) := by decide +kernel
theorem dX19_resolve__54 : decode cX19_resolve_ 54 = .ok (.getfield 213, 3) := by decide +kernel
theorem dX19_resolve__57 : decode cX19_resolve_ 57 = .ok (.iload_n 2, 1) := by decide +kernel
theorem dX19_resolve__58 : decode cX19_resolve_ 58 = .ok (.aload_n 0, 1) := by decide +kernel
theorem dX19_resolve__59 : decode cX19_resolve_ 59 = .ok (.getfield 284, 3) := by decide +kernel
theorem dX19_resolve__62 : decode cX19_resolve_ 62 = .ok (.iload_n 3, 1) := by decide +kernel
theorem dX19_resolve__63 : decode cX19_resolve_ 63 = .ok (.baload, 1) := by decide +kernel
theorem dX19_resolve__64 : decode cX19_resolve_ 64 = .ok (.ifCond .eq 12, 3) := by decide +kernel
theorem dX19_resolve__76 : decode cX19_resolve_ 76 = .ok (.iload_n 3, 1) := by decide +kernel
theorem dX19_resolve__77 : decode cX19_resolve_ 77 = .ok (.iastore, 1) := by decide +kernel
theorem dX19_resolve__78 : decode cX19_resolve_ 78 = .ok (.iinc 2 1, 3) := by decide +kernel
theorem dX19_resolve__81 : decode cX19_resolve_ 81 = .ok (.goto (-79), 3) := by decide +kernel
theorem dX19_resolve__67 : decode cX19_resolve_ 67 = .ok (.aload_n 0, 1) := by decide +kernel
theorem dX19_resolve__68 : decode cX19_resolve_ 68 = .ok (.getfield 287, 3) := by decide +kernel
theorem dX19_resolve__71 : decode cX19_resolve_ 71 = .ok (.iload_n 3, 1) := by decide +kernel
theorem dX19_resolve__72 : decode cX19_resolve_ 72 = .ok (.iaload, 1) := by decide +kernel
theorem dX19_resolve__73 : decode cX19_resolve_ 73 = .ok (.goto 4, 3) := by decide +kernel
theorem dX19_resolve__47 : decode cX19_resolve_ 47 = .ok (.iconst 1, 1) := by decide +kernel
theorem dX19_resolve__48 : decode cX19_resolve_ 48 = .ok (.goto 4, 3) := by decide +kernel
theorem dX19_resolve__19 : decode cX19_resolve_ 19 = .ok (.goto 59, 3) := by decide +kernel
def o_P19_resolvePhi : List Cond := [.fieldLink RX19 81 "SsaForgeModel$Phi" "n" "I", .fieldLink RX19 253 "SsaForgeModel$Phi" "regs" "[Z", .fieldLink RX19 213 "SsaForgeModel$Phi" "operands" "[I", .methodLink RX19 293 yX19_last, .instanceMethod yX19_last, .selects RX19 yX19_last yX19_last, .initialized RX19, .fieldLink RX19 284 "SsaForgeModel" "replaced" "[Z", .fieldLink RX19 287 "SsaForgeModel" "by" "[I"]
def v_P19_resolvePhi : List Cond := .code yX19_resolve_ cX19_resolve_ 4 none :: (o_P19_resolvePhi ++ (wsX150 ++ (v_X19_lastL ++ (wsX190 ++ []))))
theorem mow_P19_resolvePhi : ∀ w ∈ o_P19_resolvePhi, w ∈ v_P19_resolvePhi := fun _ h => List.mem_cons_of_mem _ (List.mem_append_left _ h)
theorem mem_P19_resolvePhi_0 : ∀ w ∈ wsX150, w ∈ v_P19_resolvePhi := fun _ h => List.mem_cons_of_mem _ (List.mem_append_right _ (List.mem_append_left _ h))
theorem mem_P19_resolvePhi_1 : ∀ w ∈ v_X19_lastL, w ∈ v_P19_resolvePhi := fun _ h => List.mem_cons_of_mem _ (List.mem_append_right _ (List.mem_append_right _ (List.mem_append_left _ h)))
theorem mem_P19_resolvePhi_2 : ∀ w ∈ wsX190, w ∈ v_P19_resolvePhi := fun _ h => List.mem_cons_of_mem _ (List.mem_append_right _ (List.mem_append_right _ (List.mem_append_right _ (List.mem_append_left _ h))))
set_option maxRecDepth 20000 in
theorem gw_P19_resolvePhi : v_P19_resolvePhi.all goodWord = true := by decide +kernel
set_option maxRecDepth 20000 in
theorem g_P19_resolvePhi_X19_lastL : GoodIn v_P19_resolvePhi (wsV RX19 293 RX19 yX19_last v_X19_lastL) := goodIn_app (goodIn_sub (fun w h => mow_P19_resolvePhi w (by revert w h; decide +kernel)) (by decide +kernel)) (goodIn_sub mem_P19_resolvePhi_1 gw_X19_lastL)
set_option maxHeartbeats 4000000 in
set_option maxRecDepth 100000 in
theorem c_P19_resolvePhi (l : Launch) (dC : Nat → ClassId) (dI : Nat → Nat → Nat) (h0 : Nat) (v19_0 : Value) (v19_1 : Value) (v19_2 : Value) (v19_3 : Value) (v19_4 : Value) (v19_5 : Value) (v19_6 : Value) (v19_7 : Value) (v19_8 : Value) (v19_9 : Value) (v19_10 : Value) (v19_11 : Value) (q_1912 : Nat) (cA_1912 : ClassId) (a19_replaced : Int → Int) (q_1913 : Nat) (cA_1913 : ClassId) (a19_byReg : Int → Int) (q_1914 : Nat) (cA_1914 : ClassId) (a19_by : Int → Int) (v19_15 : Value) (v19_16 : Value) (v19_17 : Value) (v19_18 : Value) (v19_19 : Value) (v19_20 : Value) (v19_21 : Value) (v19_22 : Value) (v19_23 : Value) (v19_24 : Value) (v19_25 : Value) (v19_26 : Value) (v19_27 : Value) (v19_28 : Value) (v19_29 : Value) (v19_30 : Value) (v19_31 : Value) (v19_32 : Value) (v19_33 : Value) (v19_34 : Value) (v19_35 : Value) (v19_36 : Value) (v19_37 : Value) (v19_38 : Value) (v19_39 : Value) (v19_40 : Value) (cO : ClassId) (cI : ClassId) (cZ : ClassId) (L : List Nat) (P : PO) (xp : Nat) (hR_a19_replaced : ∀ j : Int, 0 ≤ a19_replaced j ∧ a19_replaced j ≤ 1) (hR_a19_byReg : ∀ j : Int, 0 ≤ a19_byReg j ∧ a19_byReg j ≤ 1) (hR_a19_by : ∀ j : Int, -2147483648 ≤ a19_by j ∧ a19_by j ≤ 2147483647) (hX_p : PIK L P cI cZ xp) (hX_R : RPL a19_replaced a19_byReg a19_by) (sz : Nat) : Met l yX19_resolve_ v_P19_resolvePhi ({ frames := 1, cells := 0, slots := 0, locals := 23 }) (va_Pc [.ref h0, .ref xp] (fun U => U.heap.size = sz ∧ va_P (dC, dI) vwQ ([(h0, .inr (16, [v19_0, v19_1, v19_2, v19_3, v19_4, v19_5, v19_6, v19_7, v19_8, v19_9, v19_10, v19_11, .ref q_1912, .ref q_1913, .ref q_1914, v19_15, v19_16, v19_17, v19_18, v19_19, v19_20, v19_21, v19_22, v19_23, v19_24, v19_25, v19_26, v19_27, v19_28, v19_29, v19_30, v19_31, v19_32, v19_33, v19_34, v19_35, v19_36, v19_37, v19_38, v19_39, v19_40])), (q_1912, .inl (cA_1912, 1002, .inl (fun j : Nat => zI (a19_replaced (j : Int))))), (q_1913, .inl (cA_1913, 1002, .inl (fun j : Nat => zI (a19_byReg (j : Int))))), (q_1914, .inl (cA_1914, 1002, .inl (fun j : Nat => zI (a19_by (j : Int)))))] ++ va_pl L (pE P)) U.heap ∧ va_K (dC, dI) vwQ [(cA_1912, .boolean), (cA_1913, .boolean), (cA_1914, .int), (cO, .object "java/lang/Object"), (cI, .int), (cZ, .boolean)] U ∧ va_D (fun _ => True) ([(h0, .inr (16, [v19_0, v19_1, v19_2, v19_3, v19_4, v19_5, v19_6, v19_7, v19_8, v19_9, v19_10, v19_11, .ref q_1912, .ref q_1913, .ref q_1914, v19_15, v19_16, v19_17, v19_18, v19_19, v19_20, v19_21, v19_22, v19_23, v19_24, v19_25, v19_26, v19_27, v19_28, v19_29, v19_30, v19_31, v19_32, v19_33, v19_34, v19_35, v19_36, v19_37, v19_38, v19_39, v19_40])), (q_1912, .inl (cA_1912, 1002, .inl (fun j : Nat => zI (a19_replaced (j : Int))))), (q_1913, .inl (cA_1913, 1002, .inl (fun j : Nat => zI (a19_byReg (j : Int))))), (q_1914, .inl (cA_1914, 1002, .inl (fun j : Nat => zI (a19_by (j : Int)))))] ++ va_pl L (pE P)))) (va_Qv (fun _ : Unit => True) (fun (_ : Unit) (t : State) => ∃ (Pn_9 : PO), ((PH1 xp P Pn_9 ∧ PIK L Pn_9 cI cZ xp ∧ Pn_9.pn xp = P.pn xp ∧ Pn_9.pt xp = P.pt xp ∧ Pn_9.pg xp = P.pg xp ∧ PRQ xp P Pn_9)) ∧ va_P (dC, dI) vwQ ([(h0, .inr (16, [v19_0, v19_1, v19_2, v19_3, v19_4, v19_5, v19_6, v19_7, v19_8, v19_9, v19_10, v19_11, .ref q_1912, .ref q_1913, .ref q_1914, v19_15, v19_16, v19_17, v19_18, v19_19, v19_20, v19_21, v19_22, v19_23, v19_24, v19_25, v19_26, v19_27, v19_28, v19_29, v19_30, v19_31, v19_32, v19_33, v19_34, v19_35, v19_36, v19_37, v19_38, v19_39, v19_40])), (q_1912, .inl (cA_1912, 1002, .inl (fun j : Nat => zI (a19_replaced (j : Int))))), (q_1913, .inl (cA_1913, 1002, .inl (fun j : Nat => zI (a19_byReg (j : Int))))), (q_1914, .inl (cA_1914, 1002, .inl (fun j : Nat => zI (a19_by (j : Int)))))] ++ va_pl L (pE Pn_9)) t.heap ∧ va_K (dC, dI) vwQ [(cA_1912, .boolean), (cA_1913, .boolean), (cA_1914, .int), (cO, .object "java/lang/Object"), (cI, .int), (cZ, .boolean)] t ∧ va_D (va_A ([(h0, .inr (16, [v19_0, v19_1, v19_2, v19_3, v19_4, v19_5, v19_6, v19_7, v19_8, v19_9, v19_10, v19_11, .ref q_1912, .ref q_1913, .ref q_1914, v19_15, v19_16, v19_17, v19_18, v19_19, v19_20, v19_21, v19_22, v19_23, v19_24, v19_25, v19_26, v19_27, v19_28, v19_29, v19_30, v19_31, v19_32, v19_33, v19_34, v19_35, v19_36, v19_37, v19_38, v19_39, v19_40])), (q_1912, .inl (cA_1912, 1002, .inl (fun j : Nat => zI (a19_replaced (j : Int))))), (q_1913, .inl (cA_1913, 1002, .inl (fun j : Nat => zI (a19_byReg (j : Int))))), (q_1914, .inl (cA_1914, 1002, .inl (fun j : Nat => zI (a19_by (j : Int)))))] ++ va_pl L (pE P)) sz) ([(h0, .inr (16, [v19_0, v19_1, v19_2, v19_3, v19_4, v19_5, v19_6, v19_7, v19_8, v19_9, v19_10, v19_11, .ref q_1912, .ref q_1913, .ref q_1914, v19_15, v19_16, v19_17, v19_18, v19_19, v19_20, v19_21, v19_22, v19_23, v19_24, v19_25, v19_26, v19_27, v19_28, v19_29, v19_30, v19_31, v19_32, v19_33, v19_34, v19_35, v19_36, v19_37, v19_38, v19_39, v19_40])), (q_1912, .inl (cA_1912, 1002, .inl (fun j : Nat => zI (a19_replaced (j : Int))))), (q_1913, .inl (cA_1913, 1002, .inl (fun j : Nat => zI (a19_byReg (j : Int))))), (q_1914, .inl (cA_1914, 1002, .inl (fun j : Nat => zI (a19_by (j : Int)))))] ++ va_pl L (pE Pn_9))) (va_A ([(h0, .inr (16, [v19_0, v19_1, v19_2, v19_3, v19_4, v19_5, v19_6, v19_7, v19_8, v19_9, v19_10, v19_11, .ref q_1912, .ref q_1913, .ref q_1914, v19_15, v19_16, v19_17, v19_18, v19_19, v19_20, v19_21, v19_22, v19_23, v19_24, v19_25, v19_26, v19_27, v19_28, v19_29, v19_30, v19_31, v19_32, v19_33, v19_34, v19_35, v19_36, v19_37, v19_38, v19_39, v19_40])), (q_1912, .inl (cA_1912, 1002, .inl (fun j : Nat => zI (a19_replaced (j : Int))))), (q_1913, .inl (cA_1913, 1002, .inl (fun j : Nat => zI (a19_byReg (j : Int))))), (q_1914, .inl (cA_1914, 1002, .inl (fun j : Nat => zI (a19_by (j : Int)))))] ++ va_pl L (pE P)) sz)) 0 0 (va_A ([(h0, .inr (16, [v19_0, v19_1, v19_2, v19_3, v19_4, v19_5, v19_6, v19_7, v19_8, v19_9, v19_10, v19_11, .ref q_1912, .ref q_1913, .ref q_1914, v19_15, v19_16, v19_17, v19_18, v19_19, v19_20, v19_21, v19_22, v19_23, v19_24, v19_25, v19_26, v19_27, v19_28, v19_29, v19_30, v19_31, v19_32, v19_33, v19_34, v19_35, v19_36, v19_37, v19_38, v19_39, v19_40])), (q_1912, .inl (cA_1912, 1002, .inl (fun j : Nat => zI (a19_replaced (j : Int))))), (q_1913, .inl (cA_1913, 1002, .inl (fun j : Nat => zI (a19_byReg (j : Int))))), (q_1914, .inl (cA_1914, 1002, .inl (fun j : Nat => zI (a19_by (j : Int)))))] ++ va_pl L (pE P)) sz) := by
  refine Met.ofW (cc := cX19_resolve_) (maxL := 4) (ret := none) (by decide) rfl ?_
  intro p e s m args below meth c s₁ B hml hv
  obtain ⟨rfl, hsz, hP, hK, hD0⟩ := hv
  have hx := B.exec
  have hb := B.bytes
  have hr := B.returns
  have hts := atoms_spec (ws := v_P19_resolvePhi) B.pre
  have hown : s.vm.findClass RX19 = some m.cls := findClass_of_methodNamed B.named
  have hlocks := B.notSynchronized
  have ow : ∀ {k : Nat} {w : Cond}, o_P19_resolvePhi[k]? = some w → w.before ([.ref h0, .ref xp] : List Value).toArray s = true := fun h => hts _ (mow_P19_resolvePhi _ (List.mem_of_getElem? h))
  subst hsz
  have hD := hD0.self (sz := s.heap.size)
  generalize hAe : va_A ([(h0, .inr (16, [v19_0, v19_1, v19_2, v19_3, v19_4, v19_5, v19_6, v19_7, v19_8, v19_9, v19_10, v19_11, .ref q_1912, .ref q_1913, .ref q_1914, v19_15, v19_16, v19_17, v19_18, v19_19, v19_20, v19_21, v19_22, v19_23, v19_24, v19_25, v19_26, v19_27, v19_28, v19_29, v19_30, v19_31, v19_32, v19_33, v19_34, v19_35, v19_36, v19_37, v19_38, v19_39, v19_40])), (q_1912, .inl (cA_1912, 1002, .inl (fun j : Nat => zI (a19_replaced (j : Int))))), (q_1913, .inl (cA_1913, 1002, .inl (fun j : Nat => zI (a19_byReg (j : Int))))), (q_1914, .inl (cA_1914, 1002, .inl (fun j : Nat => zI (a19_by (j : Int)))))] ++ va_pl L (pE P)) s.heap.size = A at hD ⊢
  have hA : ∀ q : Nat, s.heap.size ≤ q → A q := fun q h => by rw [← hAe]; exact Or.inr h
  have hS : va_S A s.heap s.heap [] := va_S.rf
  have hP : va_P (dC, dI) vwQ ([(h0, .inr (16, [v19_0, v19_1, v19_2, v19_3, v19_4, v19_5, v19_6, v19_7, v19_8, v19_9, v19_10, v19_11, .ref q_1912, .ref q_1913, .ref q_1914, v19_15, v19_16, v19_17, v19_18, v19_19, v19_20, v19_21, v19_22, v19_23, v19_24, v19_25, v19_26, v19_27, v19_28, v19_29, v19_30, v19_31, v19_32, v19_33, v19_34, v19_35, v19_36, v19_37, v19_38, v19_39, v19_40])), (q_1912, .inl (cA_1912, 1002, .inl (fun j : Nat => zI (a19_replaced (j : Int))))), (q_1913, .inl (cA_1913, 1002, .inl (fun j : Nat => zI (a19_byReg (j : Int))))), (q_1914, .inl (cA_1914, 1002, .inl (fun j : Nat => zI (a19_by (j : Int)))))] ++ va_pl L (pE P)) s.heap := hP
  have hl := lv_entry ([.ref h0, .ref xp]) (n := 4) (Nat.le_of_ble_eq_true rfl)
  rw [lg_entry_eq]
  generalize (lg_sl ([.ref h0, .ref xp]) ++ List.replicate (4 - (lg_sl ([.ref h0, .ref xp])).length) Slot.unset).toArray = ls at hl ⊢
  have hl : lv_has ls 4 [(0, .ref h0), (1, .ref xp)] := hl
  obtain ⟨H, hH⟩ : ∃ H, H = s.heap := ⟨_, rfl⟩
  rw [← hH] at hP
  have hS : va_S A s.heap H [] := by rw [hH]; exact hS
  rw [← hH]
  refine zW_cap (fun Q hQ => ?_)
  obtain ⟨qp, eqp⟩ : ∃ q9 : Nat, P.pp xp = q9 := ⟨_, rfl⟩
  have hoqp : qp ∈ L ∧ P.kd qp = 40 ∧ P.ac qp = cI ∧ P.ow qp = xp := (by rw [← eqp]; exact hX_p.2.1)
  have hnqp : P.an qp = P.an (P.pp xp) := (by rw [eqp])
  obtain ⟨qu, equ⟩ : ∃ q9 : Nat, P.pu xp = q9 := ⟨_, rfl⟩
  have hoqu : qu ∈ L ∧ P.kd qu = 41 ∧ P.ac qu = cI ∧ P.ow qu = xp := (by rw [← equ]; exact hX_p.2.2.1)
  have hnqu : P.an qu = P.an (P.pu xp) := (by rw [equ])
  obtain ⟨qz, eqz⟩ : ∃ q9 : Nat, P.pr xp = q9 := ⟨_, rfl⟩
  have hoqz : qz ∈ L ∧ P.kd qz = 42 ∧ P.ac qz = cZ ∧ P.ow qz = xp := (by rw [← eqz]; exact hX_p.2.2.2.1)
  have hnqz : P.an qz = P.an (P.pr xp) := (by rw [eqz])
  have hpn := hX_p.2.2.2.2.1
  have hpt := hX_p.2.2.2.2.2.1
  have hpa : ∀ i : Int, 0 ≤ i → i < P.pn xp → EF (P.ia qp i) (P.ia qu i) (P.ia qz i) := (fun i a b => by have q9 := hX_p.ef a b; unfold PEF at q9; rw [eqp, equ, eqz] at q9; exact q9)
  refine lv_iconst (v := 0) hx hb dX19_resolve__0 (by decide) ?_
  refine lv_istore_n (lv' := [(2, .int 0), (0, .ref h0), (1, .ref xp)]) hx hb dX19_resolve__1 rfl hl (by decide) rfl (fun ls hl => ?_)
  have key2 : ∀ n2 : Nat, ∀ (d2_2 : Int) (P2 : PO) (ls : Array Slot) (H : Heap) (locs : List Loc), (0 ≤ d2_2 ∧ d2_2 ≤ P.pn xp) → (PH1 xp P P2) → (P2.pn xp = P.pn xp ∧ P2.pt xp = P.pt xp ∧ P2.pg xp = P.pg xp) → (∀ i : Int, 0 ≤ i → i < P.pn xp → EF (P2.ia qp i) (P2.ia qu i) (P2.ia qz i)) → (PQ9 (P.ia qp) (P2.ia qp) (P.pn xp)) → ((P.pn xp - d2_2 : Int).toNat) < n2 → lv_has ls 4 [(0, .ref h0), (1, .ref xp), (2, .int (zI (d2_2)))] → va_P (dC, dI) vwQ ([(h0, .inr (16, [v19_0, v19_1, v19_2, v19_3, v19_4, v19_5, v19_6, v19_7, v19_8, v19_9, v19_10, v19_11, .ref q_1912, .ref q_1913, .ref q_1914, v19_15, v19_16, v19_17, v19_18, v19_19, v19_20, v19_21, v19_22, v19_23, v19_24, v19_25, v19_26, v19_27, v19_28, v19_29, v19_30, v19_31, v19_32, v19_33, v19_34, v19_35, v19_36, v19_37, v19_38, v19_39, v19_40])), (q_1912, .inl (cA_1912, 1002, .inl (fun j : Nat => zI (a19_replaced (j : Int))))), (q_1913, .inl (cA_1913, 1002, .inl (fun j : Nat => zI (a19_byReg (j : Int))))), (q_1914, .inl (cA_1914, 1002, .inl (fun j : Nat => zI (a19_by (j : Int)))))] ++ va_pl L (pE P2)) H → va_D A ([(h0, .inr (16, [v19_0, v19_1, v19_2, v19_3, v19_4, v19_5, v19_6, v19_7, v19_8, v19_9, v19_10, v19_11, .ref q_1912, .ref q_1913, .ref q_1914, v19_15, v19_16, v19_17, v19_18, v19_19, v19_20, v19_21, v19_22, v19_23, v19_24, v19_25, v19_26, v19_27, v19_28, v19_29, v19_30, v19_31, v19_32, v19_33, v19_34, v19_35, v19_36, v19_37, v19_38, v19_39, v19_40])), (q_1912, .inl (cA_1912, 1002, .inl (fun j : Nat => zI (a19_replaced (j : Int))))), (q_1913, .inl (cA_1913, 1002, .inl (fun j : Nat => zI (a19_byReg (j : Int))))), (q_1914, .inl (cA_1914, 1002, .inl (fun j : Nat => zI (a19_by (j : Int)))))] ++ va_pl L (pE P2)) → va_S A s.heap H locs → W p l e (headSpec v_P19_resolvePhi ({ frames := 1, cells := 0, slots := 0, locals := 23 })).room s m ([.ref h0, .ref xp] : List Value).toArray below meth c H locs 0 0 Q (F0 m 2 ls []) := by
    intro n2
    induction n2 with
    | zero => intro d2_2 P2 ls H locs jd2_2 wP2 jn2 jef2 jq2 hm2; exact absurd hm2 (by omega)
    | succ n2 ih2 =>
      intro d2_2 P2 ls H locs jd2_2 wP2 jn2 jef2 jq2 hm2 hl hP hD hS
      have hy_2001 : P2.kd xp = 15 := (congrFun (congrFun wP2.1.1 0) xp).trans hX_p.1.2
      have hy_2002 : P2.kd qp = 40 := (congrFun (congrFun wP2.1.1 0) qp).trans hoqp.2.1
      have hy_2003 : P2.kd qu = 41 := (congrFun (congrFun wP2.1.1 0) qu).trans hoqu.2.1
      have hy_2004 : P2.kd qz = 42 := (congrFun (congrFun wP2.1.1 0) qz).trans hoqz.2.1
      have hc_2005 : P2.ac qp = cI := (congrFun wP2.1.2.2 qp).trans hoqp.2.2.1
      have : P2.an qp = P.an qp := congrFun (congrFun wP2.1.1 1) qp
      have hc_2006 : P2.ac qu = cI := (congrFun wP2.1.2.2 qu).trans hoqu.2.2.1
      have : P2.an qu = P.an qu := congrFun (congrFun wP2.1.1 1) qu
      have hc_2007 : P2.ac qz = cZ := (congrFun wP2.1.2.2 qz).trans hoqz.2.2.1
      have : P2.an qz = P.an qz := congrFun (congrFun wP2.1.1 1) qz
      have ha_2008 : P2.pp xp = qp := (congrFun (congrFun wP2.1.1 1) xp).trans eqp
      have ha_2009 : P2.pu xp = qu := (congrFun (congrFun wP2.1.1 2) xp).trans equ
      have ha_2010 : P2.pr xp = qz := (congrFun (congrFun wP2.1.1 3) xp).trans eqz
      have ho_2011 : P2.ow qp = xp := (congrFun (congrFun wP2.1.1 9) qp).trans hoqp.2.2.2
      have ho_2012 : P2.ow qu = xp := (congrFun (congrFun wP2.1.1 9) qu).trans hoqu.2.2.2
      have ho_2013 : P2.ow qz = xp := (congrFun (congrFun wP2.1.1 9) qz).trans hoqz.2.2.2
      have hj9 := wP2
      refine lv_iload_n hx hb dX19_resolve__2 rfl (lv_at hl 2 rfl) ?_
      refine lv_aload_n hx hb dX19_resolve__3 rfl (lv_at hl 1 rfl) ?_
      obtain ⟨kp_2014, hkp_2014⟩ := va_pl_get (X := [(h0, .inr (16, [v19_0, v19_1, v19_2, v19_3, v19_4, v19_5, v19_6, v19_7, v19_8, v19_9, v19_10, v19_11, .ref q_1912, .ref q_1913, .ref q_1914, v19_15, v19_16, v19_17, v19_18, v19_19, v19_20, v19_21, v19_22, v19_23, v19_24, v19_25, v19_26, v19_27, v19_28, v19_29, v19_30, v19_31, v19_32, v19_33, v19_34, v19_35, v19_36, v19_37, v19_38, v19_39, v19_40])), (q_1912, .inl (cA_1912, 1002, .inl (fun j : Nat => zI (a19_replaced (j : Int))))), (q_1913, .inl (cA_1913, 1002, .inl (fun j : Nat => zI (a19_byReg (j : Int))))), (q_1914, .inl (cA_1914, 1002, .inl (fun j : Nat => zI (a19_by (j : Int)))))]) (f := pE P2) hX_p.1.1
      rw [pE_phi hy_2001] at hkp_2014
      refine va_get (D := (dC, dI)) (ci := 20) (v := .int (zI (P2.pn xp))) (C := RX15) (T := TX15) (N := 6) hx hb hts mem_P19_resolvePhi_0 hown hK hP kp_2014 hkp_2014 rfl 1 (by decide) (ow (k := 0) rfl) (fun _ h9 => h9) rfl dX19_resolve__4 ?_
      refine lv_icmp_ge (tgt := 84) hx hb dX19_resolve__7 (by decide) (fun b7 => ?_) (fun b7 => ?_)
      · have yb7 : (P2.pn xp : Int) ≤ (d2_2 : Int) := (zI_le (a := P2.pn xp) (b := d2_2) (by omega) (by omega) (by omega) (by omega)).mp b7
        subst hQ
        refine W.widen (k := 0) (n := 0) (Nat.le_of_ble_eq_true rfl) (Nat.le_of_ble_eq_true rfl) ?_
        exact W.vret hx hb hr (fun t ht hW => ⟨⟨(), rfl, trivial, P2, ⟨wP2, hX_p.of wP2 (by omega) (by omega) (by omega) (fun i a b => by unfold PEF; rw [ha_2008, ha_2009, ha_2010]; exact jef2 i a (by omega)), by omega, by omega, by omega, (fun n h i a b => by rw [ha_2008]; exact jq2 n (fun i a b => by have q9 := h i a b; rw [eqp] at q9; exact q9) i a (by omega))⟩, by rw [ht]; exact hP, va_K.moved hW.alike hK, hD⟩, hS.F ht⟩) hS.2.2 dX19_resolve__84
      · have yb7 : ¬ (P2.pn xp : Int) ≤ (d2_2 : Int) := fun q => b7 ((zI_le (a := P2.pn xp) (b := d2_2) (by omega) (by omega) (by omega) (by omega)).mpr q)
        refine lv_aload_n hx hb dX19_resolve__10 rfl (lv_at hl 1 rfl) ?_
        obtain ⟨kp_2015, hkp_2015⟩ := va_pl_get (X := [(h0, .inr (16, [v19_0, v19_1, v19_2, v19_3, v19_4, v19_5, v19_6, v19_7, v19_8, v19_9, v19_10, v19_11, .ref q_1912, .ref q_1913, .ref q_1914, v19_15, v19_16, v19_17, v19_18, v19_19, v19_20, v19_21, v19_22, v19_23, v19_24, v19_25, v19_26, v19_27, v19_28, v19_29, v19_30, v19_31, v19_32, v19_33, v19_34, v19_35, v19_36, v19_37, v19_38, v19_39, v19_40])), (q_1912, .inl (cA_1912, 1002, .inl (fun j : Nat => zI (a19_replaced (j : Int))))), (q_1913, .inl (cA_1913, 1002, .inl (fun j : Nat => zI (a19_byReg (j : Int))))), (q_1914, .inl (cA_1914, 1002, .inl (fun j : Nat => zI (a19_by (j : Int)))))]) (f := pE P2) hX_p.1.1
        rw [pE_phi hy_2001] at hkp_2015
        refine va_get (D := (dC, dI)) (ci := 20) (v := .ref (P2.pr xp)) (C := RX15) (T := TX15) (N := 6) hx hb hts mem_P19_resolvePhi_0 hown hK hP kp_2015 hkp_2015 rfl 4 (by decide) (ow (k := 1) rfl) (fun _ h9 => h9) rfl dX19_resolve__11 ?_
        obtain ⟨pr_2016, epr_2016⟩ : ∃ q9 : Nat, q9 = P2.pr xp := ⟨_, rfl⟩
        rw [← epr_2016]
        obtain rfl : qz = pr_2016 := (by rw [epr_2016]; exact ha_2010.symm)
        refine lv_iload_n hx hb dX19_resolve__14 rfl (lv_at hl 2 rfl) ?_
        obtain ⟨kp_2017, hkp_2017⟩ := va_pl_get (X := [(h0, .inr (16, [v19_0, v19_1, v19_2, v19_3, v19_4, v19_5, v19_6, v19_7, v19_8, v19_9, v19_10, v19_11, .ref q_1912, .ref q_1913, .ref q_1914, v19_15, v19_16, v19_17, v19_18, v19_19, v19_20, v19_21, v19_22, v19_23, v19_24, v19_25, v19_26, v19_27, v19_28, v19_29, v19_30, v19_31, v19_32, v19_33, v19_34, v19_35, v19_36, v19_37, v19_38, v19_39, v19_40])), (q_1912, .inl (cA_1912, 1002, .inl (fun j : Nat => zI (a19_replaced (j : Int))))), (q_1913, .inl (cA_1913, 1002, .inl (fun j : Nat => zI (a19_byReg (j : Int))))), (q_1914, .inl (cA_1914, 1002, .inl (fun j : Nat => zI (a19_by (j : Int)))))]) (f := pE P2) hoqz.1
        rw [pE_n42 hy_2004, hc_2007] at hkp_2017
        refine va_zald hx hb hK hP kp_2017 5 hkp_2017 rfl (zI_in (a := d2_2) (n := P2.an qz) (by omega) (by omega) (by omega)) dX19_resolve__15 ?_
        refine lv_topi (fun z ez => ?_)
        obtain rfl : z = zI (P2.ia qz (d2_2)) := ez.trans (zI_ld (P2.ia qz) (by omega) (by omega))
        have : 0 ≤ P2.ia qz (d2_2) ∧ P2.ia qz (d2_2) ≤ 1 := (by exact (jef2 (d2_2) (by omega) (by omega)).2.2.1)
        refine lv_if_ne (tgt := 22) hx hb dX19_resolve__16 (by decide) (fun b16 => ?_) (fun b16 => ?_)
        · have yb16 : ¬ (P2.ia qz (d2_2) : Int) = (0 : Int) := fun q => b16 ((zI_eq (a := P2.ia qz (d2_2)) (b := 0) (by omega) (by omega) (by omega) (by omega)).mpr q)
          refine lv_aload_n hx hb dX19_resolve__22 rfl (lv_at hl 0 rfl) ?_
          refine lv_aload_n hx hb dX19_resolve__23 rfl (lv_at hl 1 rfl) ?_
          obtain ⟨kp_2018, hkp_2018⟩ := va_pl_get (X := [(h0, .inr (16, [v19_0, v19_1, v19_2, v19_3, v19_4, v19_5, v19_6, v19_7, v19_8, v19_9, v19_10, v19_11, .ref q_1912, .ref q_1913, .ref q_1914, v19_15, v19_16, v19_17, v19_18, v19_19, v19_20, v19_21, v19_22, v19_23, v19_24, v19_25, v19_26, v19_27, v19_28, v19_29, v19_30, v19_31, v19_32, v19_33, v19_34, v19_35, v19_36, v19_37, v19_38, v19_39, v19_40])), (q_1912, .inl (cA_1912, 1002, .inl (fun j : Nat => zI (a19_replaced (j : Int))))), (q_1913, .inl (cA_1913, 1002, .inl (fun j : Nat => zI (a19_byReg (j : Int))))), (q_1914, .inl (cA_1914, 1002, .inl (fun j : Nat => zI (a19_by (j : Int)))))]) (f := pE P2) hX_p.1.1
          rw [pE_phi hy_2001] at hkp_2018
          refine va_get (D := (dC, dI)) (ci := 20) (v := .ref (P2.pu xp)) (C := RX15) (T := TX15) (N := 6) hx hb hts mem_P19_resolvePhi_0 hown hK hP kp_2018 hkp_2018 rfl 3 (by decide) (ow (k := 2) rfl) (fun _ h9 => h9) rfl dX19_resolve__24 ?_
          obtain ⟨pr_2019, epr_2019⟩ : ∃ q9 : Nat, q9 = P2.pu xp := ⟨_, rfl⟩
          rw [← epr_2019]
          obtain rfl : qu = pr_2019 := (by rw [epr_2019]; exact ha_2009.symm)
          refine lv_iload_n hx hb dX19_resolve__27 rfl (lv_at hl 2 rfl) ?_
          obtain ⟨kp_2020, hkp_2020⟩ := va_pl_get (X := [(h0, .inr (16, [v19_0, v19_1, v19_2, v19_3, v19_4, v19_5, v19_6, v19_7, v19_8, v19_9, v19_10, v19_11, .ref q_1912, .ref q_1913, .ref q_1914, v19_15, v19_16, v19_17, v19_18, v19_19, v19_20, v19_21, v19_22, v19_23, v19_24, v19_25, v19_26, v19_27, v19_28, v19_29, v19_30, v19_31, v19_32, v19_33, v19_34, v19_35, v19_36, v19_37, v19_38, v19_39, v19_40])), (q_1912, .inl (cA_1912, 1002, .inl (fun j : Nat => zI (a19_replaced (j : Int))))), (q_1913, .inl (cA_1913, 1002, .inl (fun j : Nat => zI (a19_byReg (j : Int))))), (q_1914, .inl (cA_1914, 1002, .inl (fun j : Nat => zI (a19_by (j : Int)))))]) (f := pE P2) hoqu.1
          rw [pE_n41 hy_2003, hc_2006] at hkp_2020
          refine va_iald hx hb hK hP kp_2020 4 hkp_2020 rfl (zI_in (a := d2_2) (n := P2.an qu) (by omega) (by omega) (by omega)) dX19_resolve__28 ?_
          refine lv_topi (fun z ez => ?_)
          obtain rfl : z = zI (P2.ia qu (d2_2)) := ez.trans (zI_ld (P2.ia qu) (by omega) (by omega))
          have : -2147483648 ≤ P2.ia qu (d2_2) ∧ P2.ia qu (d2_2) ≤ 2147483647 := (by exact (jef2 (d2_2) (by omega) (by omega)).2.1)
          have hef9 := (jef2 (d2_2) (by omega) (by omega)).2.2.2
          have hPc := hP.sub (ws' := [(h0, .inr (16, [v19_0, v19_1, v19_2, v19_3, v19_4, v19_5, v19_6, v19_7, v19_8, v19_9, v19_10, v19_11, .ref q_1912, .ref q_1913, .ref q_1914, v19_15, v19_16, v19_17, v19_18, v19_19, v19_20, v19_21, v19_22, v19_23, v19_24, v19_25, v19_26, v19_27, v19_28, v19_29, v19_30, v19_31, v19_32, v19_33, v19_34, v19_35, v19_36, v19_37, v19_38, v19_39, v19_40])), (q_1912, .inl (cA_1912, 1002, .inl (fun j : Nat => zI (a19_replaced (j : Int))))), (q_1913, .inl (cA_1913, 1002, .inl (fun j : Nat => zI (a19_byReg (j : Int))))), (q_1914, .inl (cA_1914, 1002, .inl (fun j : Nat => zI (a19_by (j : Int)))))]) [0, 1, 2, 3] rfl
          have hDc := hD.sub (ws' := [(h0, .inr (16, [v19_0, v19_1, v19_2, v19_3, v19_4, v19_5, v19_6, v19_7, v19_8, v19_9, v19_10, v19_11, .ref q_1912, .ref q_1913, .ref q_1914, v19_15, v19_16, v19_17, v19_18, v19_19, v19_20, v19_21, v19_22, v19_23, v19_24, v19_25, v19_26, v19_27, v19_28, v19_29, v19_30, v19_31, v19_32, v19_33, v19_34, v19_35, v19_36, v19_37, v19_38, v19_39, v19_40])), (q_1912, .inl (cA_1912, 1002, .inl (fun j : Nat => zI (a19_replaced (j : Int))))), (q_1913, .inl (cA_1913, 1002, .inl (fun j : Nat => zI (a19_byReg (j : Int))))), (q_1914, .inl (cA_1914, 1002, .inl (fun j : Nat => zI (a19_by (j : Int)))))]) [0, 1, 2, 3] (by decide) rfl
          have hKc := hK.sub (tys' := [(cA_1912, .boolean), (cA_1913, .boolean), (cA_1914, .int)]) [0, 1, 2] rfl
          have hFc := va_free (wc := [(h0, .inr (16, [v19_0, v19_1, v19_2, v19_3, v19_4, v19_5, v19_6, v19_7, v19_8, v19_9, v19_10, v19_11, .ref q_1912, .ref q_1913, .ref q_1914, v19_15, v19_16, v19_17, v19_18, v19_19, v19_20, v19_21, v19_22, v19_23, v19_24, v19_25, v19_26, v19_27, v19_28, v19_29, v19_30, v19_31, v19_32, v19_33, v19_34, v19_35, v19_36, v19_37, v19_38, v19_39, v19_40])), (q_1912, .inl (cA_1912, 1002, .inl (fun j : Nat => zI (a19_replaced (j : Int))))), (q_1913, .inl (cA_1913, 1002, .inl (fun j : Nat => zI (a19_byReg (j : Int))))), (q_1914, .inl (cA_1914, 1002, .inl (fun j : Nat => zI (a19_by (j : Int)))))]) hD hS hA [0, 1, 2, 3] rfl
          refine va_calli (va_runV (As := [.int (zI (P2.ia qu (d2_2)))]) (rest := []) ⟨hx, hb, hml, hown, hts⟩ (c_X19_lastL l dC dI h0 v19_0 v19_1 v19_2 v19_3 v19_4 v19_5 v19_6 v19_7 v19_8 v19_9 v19_10 v19_11 q_1912 cA_1912 a19_replaced q_1913 cA_1913 a19_byReg q_1914 cA_1914 a19_by v19_15 v19_16 v19_17 v19_18 v19_19 v19_20 v19_21 v19_22 v19_23 v19_24 v19_25 v19_26 v19_27 v19_28 v19_29 v19_30 v19_31 v19_32 v19_33 v19_34 v19_35 v19_36 v19_37 v19_38 v19_39 v19_40 (P2.ia qu (d2_2)) hR_a19_replaced hR_a19_byReg hR_a19_by (by omega) hX_R H.size) (cwV 1 hts g_P19_resolvePhi_X19_lastL rfl rfl rfl (by decide +kernel) ⟨(Nat.le_of_ble_eq_true rfl), (Nat.le_of_ble_eq_true rfl)⟩) ⟨fun a U g mk q => by obtain ⟨q0, q1, qP, qK, qD⟩ := q; exact ⟨q0, q1, qP, va_K.moved (u := U) (U := U.calling g mk a) (Vm.Alike.refl U.vm) qK, qD⟩, va_recv hKc hPc (ci := 16) (q0 := 0) rfl rfl, fun U hU hW => ⟨rfl, by rw [hU], by rw [hU]; exact hPc, va_K.moved hW.alike hKc, hDc.weaken (fun _ _ _ _ => trivial)⟩⟩ rfl rfl hl.1 rfl (lv_room (Nat.le_of_ble_eq_true rfl)) dX19_resolve__29 ⟨(Nat.le_of_ble_eq_true rfl), (Nat.le_of_ble_eq_true rfl)⟩) hS (fun q _ h => hFc q h) hFc (fun r_2021 u t H1 locs ht hvm hw hB hz1 hk1 hS => ?_)
          obtain ⟨hP1, hK1, hD1⟩ := hB
          rw [ht] at hP1
          have hK1 := va_K.moved hvm.symm hK1
          obtain ⟨hP, hD⟩ := va_joinQ (X := [(h0, .inr (16, [v19_0, v19_1, v19_2, v19_3, v19_4, v19_5, v19_6, v19_7, v19_8, v19_9, v19_10, v19_11, .ref q_1912, .ref q_1913, .ref q_1914, v19_15, v19_16, v19_17, v19_18, v19_19, v19_20, v19_21, v19_22, v19_23, v19_24, v19_25, v19_26, v19_27, v19_28, v19_29, v19_30, v19_31, v19_32, v19_33, v19_34, v19_35, v19_36, v19_37, v19_38, v19_39, v19_40])), (q_1912, .inl (cA_1912, 1002, .inl (fun j : Nat => zI (a19_replaced (j : Int))))), (q_1913, .inl (cA_1913, 1002, .inl (fun j : Nat => zI (a19_byReg (j : Int))))), (q_1914, .inl (cA_1914, 1002, .inl (fun j : Nat => zI (a19_by (j : Int)))))]) (cx := [(h0, .inr (16, [v19_0, v19_1, v19_2, v19_3, v19_4, v19_5, v19_6, v19_7, v19_8, v19_9, v19_10, v19_11, .ref q_1912, .ref q_1913, .ref q_1914, v19_15, v19_16, v19_17, v19_18, v19_19, v19_20, v19_21, v19_22, v19_23, v19_24, v19_25, v19_26, v19_27, v19_28, v19_29, v19_30, v19_31, v19_32, v19_33, v19_34, v19_35, v19_36, v19_37, v19_38, v19_39, v19_40])), (q_1912, .inl (cA_1912, 1002, .inl (fun j : Nat => zI (a19_replaced (j : Int))))), (q_1913, .inl (cA_1913, 1002, .inl (fun j : Nat => zI (a19_byReg (j : Int))))), (q_1914, .inl (cA_1914, 1002, .inl (fun j : Nat => zI (a19_by (j : Int)))))]) (wr := []) (w1 := [(h0, .inr (16, [v19_0, v19_1, v19_2, v19_3, v19_4, v19_5, v19_6, v19_7, v19_8, v19_9, v19_10, v19_11, .ref q_1912, .ref q_1913, .ref q_1914, v19_15, v19_16, v19_17, v19_18, v19_19, v19_20, v19_21, v19_22, v19_23, v19_24, v19_25, v19_26, v19_27, v19_28, v19_29, v19_30, v19_31, v19_32, v19_33, v19_34, v19_35, v19_36, v19_37, v19_38, v19_39, v19_40])), (q_1912, .inl (cA_1912, 1002, .inl (fun j : Nat => zI (a19_replaced (j : Int))))), (q_1913, .inl (cA_1913, 1002, .inl (fun j : Nat => zI (a19_byReg (j : Int))))), (q_1914, .inl (cA_1914, 1002, .inl (fun j : Nat => zI (a19_by (j : Int)))))]) (pl := va_pl L (pE P2)) hP hD [0, 1, 2, 3] [] rfl rfl (by decide) (by decide) hk1 hFc hP1 hD1
          have hK := (hK.sub (tys' := [(cO, .object "java/lang/Object"), (cI, .int), (cZ, .boolean)]) [3, 4, 5] rfl).app hK1
          generalize H1 = H at hP hS ⊢
          have hP : va_P (dC, dI) vwQ ([(h0, .inr (16, [v19_0, v19_1, v19_2, v19_3, v19_4, v19_5, v19_6, v19_7, v19_8, v19_9, v19_10, v19_11, .ref q_1912, .ref q_1913, .ref q_1914, v19_15, v19_16, v19_17, v19_18, v19_19, v19_20, v19_21, v19_22, v19_23, v19_24, v19_25, v19_26, v19_27, v19_28, v19_29, v19_30, v19_31, v19_32, v19_33, v19_34, v19_35, v19_36, v19_37, v19_38, v19_39, v19_40])), (q_1912, .inl (cA_1912, 1002, .inl (fun j : Nat => zI (a19_replaced (j : Int))))), (q_1913, .inl (cA_1913, 1002, .inl (fun j : Nat => zI (a19_byReg (j : Int))))), (q_1914, .inl (cA_1914, 1002, .inl (fun j : Nat => zI (a19_by (j : Int)))))] ++ va_pl L (pE P2)) H := hP
          have hD : va_D A ([(h0, .inr (16, [v19_0, v19_1, v19_2, v19_3, v19_4, v19_5, v19_6, v19_7, v19_8, v19_9, v19_10, v19_11, .ref q_1912, .ref q_1913, .ref q_1914, v19_15, v19_16, v19_17, v19_18, v19_19, v19_20, v19_21, v19_22, v19_23, v19_24, v19_25, v19_26, v19_27, v19_28, v19_29, v19_30, v19_31, v19_32, v19_33, v19_34, v19_35, v19_36, v19_37, v19_38, v19_39, v19_40])), (q_1912, .inl (cA_1912, 1002, .inl (fun j : Nat => zI (a19_replaced (j : Int))))), (q_1913, .inl (cA_1913, 1002, .inl (fun j : Nat => zI (a19_byReg (j : Int))))), (q_1914, .inl (cA_1914, 1002, .inl (fun j : Nat => zI (a19_by (j : Int)))))] ++ va_pl L (pE P2)) := hD
          have hK : va_K (dC, dI) vwQ [(cO, .object "java/lang/Object"), (cI, .int), (cZ, .boolean), (cA_1912, .boolean), (cA_1913, .boolean), (cA_1914, .int)] s := hK
          refine W.widen (k := 0) (n := 0) (Nat.le_of_ble_eq_true rfl) (Nat.le_of_ble_eq_true rfl) ?_
          have hw_2022 := hw
          obtain ⟨z_2023, rfl, hzz_2023⟩ := hw_2022
          refine lv_istore_n (lv' := [(3, .int (zI (z_2023))), (0, .ref h0), (1, .ref xp), (2, .int (zI (d2_2)))]) hx hb dX19_resolve__32 rfl hl (by decide) rfl (fun ls hl => ?_)
          refine lv_aload_n hx hb dX19_resolve__33 rfl (lv_at hl 2 rfl) ?_
          obtain ⟨kp_2024, hkp_2024⟩ := va_pl_get (X := [(h0, .inr (16, [v19_0, v19_1, v19_2, v19_3, v19_4, v19_5, v19_6, v19_7, v19_8, v19_9, v19_10, v19_11, .ref q_1912, .ref q_1913, .ref q_1914, v19_15, v19_16, v19_17, v19_18, v19_19, v19_20, v19_21, v19_22, v19_23, v19_24, v19_25, v19_26, v19_27, v19_28, v19_29, v19_30, v19_31, v19_32, v19_33, v19_34, v19_35, v19_36, v19_37, v19_38, v19_39, v19_40])), (q_1912, .inl (cA_1912, 1002, .inl (fun j : Nat => zI (a19_replaced (j : Int))))), (q_1913, .inl (cA_1913, 1002, .inl (fun j : Nat => zI (a19_byReg (j : Int))))), (q_1914, .inl (cA_1914, 1002, .inl (fun j : Nat => zI (a19_by (j : Int)))))]) (f := pE P2) hX_p.1.1
          rw [pE_phi hy_2001] at hkp_2024
          refine va_get (D := (dC, dI)) (ci := 20) (v := .ref (P2.pr xp)) (C := RX15) (T := TX15) (N := 6) hx hb hts mem_P19_resolvePhi_0 hown hK hP kp_2024 hkp_2024 rfl 4 (by decide) (ow (k := 1) rfl) (fun _ h9 => h9) rfl dX19_resolve__34 ?_
          obtain ⟨pr_2025, epr_2025⟩ : ∃ q9 : Nat, q9 = P2.pr xp := ⟨_, rfl⟩
          rw [← epr_2025]
          obtain rfl : qz = pr_2025 := (by rw [epr_2025]; exact ha_2010.symm)
          refine lv_iload_n hx hb dX19_resolve__37 rfl (lv_at hl 3 rfl) ?_
          refine lv_aload_n hx hb dX19_resolve__38 rfl (lv_at hl 1 rfl) ?_
          refine va_get (D := (dC, dI)) (ci := 16) (v := .ref q_1912) (C := RX19) (T := TX19) (N := 41) hx hb hts mem_P19_resolvePhi_2 hown hK hP 0 rfl rfl 12 (by decide) (ow (k := 7) rfl) (fun _ h9 => h9) rfl dX19_resolve__39 ?_
          refine lv_iload_n hx hb dX19_resolve__42 rfl (lv_at hl 0 rfl) ?_
          refine va_zald hx hb hK hP 1 3 rfl rfl (zI_in (a := z_2023) (n := 1002) (by omega) (by omega) (by decide)) dX19_resolve__43 ?_
          refine lv_topi (fun z ez => ?_)
          obtain rfl : z = zI (a19_replaced (z_2023)) := ez.trans (zI_ld (a19_replaced) (by omega) (by omega))
          have k1 := hR_a19_replaced (z_2023)
          refine lv_if_ne (tgt := 51) hx hb dX19_resolve__44 (by decide) (fun b44 => ?_) (fun b44 => ?_)
          · have yb44 : ¬ (a19_replaced (z_2023) : Int) = (0 : Int) := fun q => b44 ((zI_eq (a := a19_replaced (z_2023)) (b := 0) (by omega) (by omega) (by omega) (by omega)).mpr q)
            refine lv_iconst (v := 0) hx hb dX19_resolve__51 (by decide) ?_
            refine lv_topi (fun z ez => ?_)
            obtain rfl : z = zI (0) := ez
            obtain ⟨kp_2026, gkp_2026⟩ := va_pl_get (X := [(h0, .inr (16, [v19_0, v19_1, v19_2, v19_3, v19_4, v19_5, v19_6, v19_7, v19_8, v19_9, v19_10, v19_11, .ref q_1912, .ref q_1913, .ref q_1914, v19_15, v19_16, v19_17, v19_18, v19_19, v19_20, v19_21, v19_22, v19_23, v19_24, v19_25, v19_26, v19_27, v19_28, v19_29, v19_30, v19_31, v19_32, v19_33, v19_34, v19_35, v19_36, v19_37, v19_38, v19_39, v19_40])), (q_1912, .inl (cA_1912, 1002, .inl (fun j : Nat => zI (a19_replaced (j : Int))))), (q_1913, .inl (cA_1913, 1002, .inl (fun j : Nat => zI (a19_byReg (j : Int))))), (q_1914, .inl (cA_1914, 1002, .inl (fun j : Nat => zI (a19_by (j : Int)))))]) (f := pE P2) hoqz.1
            have hkp_2026 := gkp_2026
            rw [pE_n42 hy_2004, hc_2007] at hkp_2026
            have hD0 := hD
            refine va_zast (i := zI (d2_2)) hx hb hK hP hD hS kp_2026 2 hkp_2026 rfl (zI_in (a := d2_2) (n := P2.an qz) (by omega) (by omega) (by omega)) dX19_resolve__52 (fun H locs hP hD hS => ?_)
            rw [show vp_nar .boolean (zI (0)) = zI (0) from zI_nar (a := 0) (by omega) (by omega)] at hP hD
            obtain ⟨Pw_2027, ePw_2027⟩ : ∃ q9 : PO, q9 = P2.ri9 qz (zup (P2.ia qz) (d2_2) (0)) := ⟨_, rfl⟩
            have eQ : upd (fun j : Nat => zI (P2.ia qz (j : Int))) (zI (d2_2)).toNatClampNeg (zI (0)) = (fun j : Nat => zI ((zup (P2.ia qz) (d2_2) (0)) (j : Int))) := zI_st (P2.ia qz) (e := d2_2) (v := 0) (by omega) (by omega)
            have eU : (([(h0, .inr (16, [v19_0, v19_1, v19_2, v19_3, v19_4, v19_5, v19_6, v19_7, v19_8, v19_9, v19_10, v19_11, .ref q_1912, .ref q_1913, .ref q_1914, v19_15, v19_16, v19_17, v19_18, v19_19, v19_20, v19_21, v19_22, v19_23, v19_24, v19_25, v19_26, v19_27, v19_28, v19_29, v19_30, v19_31, v19_32, v19_33, v19_34, v19_35, v19_36, v19_37, v19_38, v19_39, v19_40])), (q_1912, .inl (cA_1912, 1002, .inl (fun j : Nat => zI (a19_replaced (j : Int))))), (q_1913, .inl (cA_1913, 1002, .inl (fun j : Nat => zI (a19_byReg (j : Int))))), (q_1914, .inl (cA_1914, 1002, .inl (fun j : Nat => zI (a19_by (j : Int)))))] : va_W) ++ va_pl L (pE P2)).set kp_2026 (qz, (.inl (cZ, P2.an qz, .inl (upd (fun j : Nat => zI (P2.ia qz (j : Int))) (zI (d2_2)).toNatClampNeg (zI (0)))) : va_E)) = ([(h0, .inr (16, [v19_0, v19_1, v19_2, v19_3, v19_4, v19_5, v19_6, v19_7, v19_8, v19_9, v19_10, v19_11, .ref q_1912, .ref q_1913, .ref q_1914, v19_15, v19_16, v19_17, v19_18, v19_19, v19_20, v19_21, v19_22, v19_23, v19_24, v19_25, v19_26, v19_27, v19_28, v19_29, v19_30, v19_31, v19_32, v19_33, v19_34, v19_35, v19_36, v19_37, v19_38, v19_39, v19_40])), (q_1912, .inl (cA_1912, 1002, .inl (fun j : Nat => zI (a19_replaced (j : Int))))), (q_1913, .inl (cA_1913, 1002, .inl (fun j : Nat => zI (a19_byReg (j : Int))))), (q_1914, .inl (cA_1914, 1002, .inl (fun j : Nat => zI (a19_by (j : Int)))))] : va_W) ++ va_pl L (pE Pw_2027) := (by rw [eQ, va_pl_set hD0 hoqz.1 gkp_2026, ePw_2027]; exact congrArg (fun f9 => ([(h0, .inr (16, [v19_0, v19_1, v19_2, v19_3, v19_4, v19_5, v19_6, v19_7, v19_8, v19_9, v19_10, v19_11, .ref q_1912, .ref q_1913, .ref q_1914, v19_15, v19_16, v19_17, v19_18, v19_19, v19_20, v19_21, v19_22, v19_23, v19_24, v19_25, v19_26, v19_27, v19_28, v19_29, v19_30, v19_31, v19_32, v19_33, v19_34, v19_35, v19_36, v19_37, v19_38, v19_39, v19_40])), (q_1912, .inl (cA_1912, 1002, .inl (fun j : Nat => zI (a19_replaced (j : Int))))), (q_1913, .inl (cA_1913, 1002, .inl (fun j : Nat => zI (a19_byReg (j : Int))))), (q_1914, .inl (cA_1914, 1002, .inl (fun j : Nat => zI (a19_by (j : Int)))))] : va_W) ++ va_pl L f9) (by have h9 := putnum (P := P2) (x := qz) (a := zup (P2.ia qz) (d2_2) (0)) (by omega); rw [hc_2007] at h9; exact h9))
            have hP : va_P (dC, dI) vwQ ([(h0, .inr (16, [v19_0, v19_1, v19_2, v19_3, v19_4, v19_5, v19_6, v19_7, v19_8, v19_9, v19_10, v19_11, .ref q_1912, .ref q_1913, .ref q_1914, v19_15, v19_16, v19_17, v19_18, v19_19, v19_20, v19_21, v19_22, v19_23, v19_24, v19_25, v19_26, v19_27, v19_28, v19_29, v19_30, v19_31, v19_32, v19_33, v19_34, v19_35, v19_36, v19_37, v19_38, v19_39, v19_40])), (q_1912, .inl (cA_1912, 1002, .inl (fun j : Nat => zI (a19_replaced (j : Int))))), (q_1913, .inl (cA_1913, 1002, .inl (fun j : Nat => zI (a19_byReg (j : Int))))), (q_1914, .inl (cA_1914, 1002, .inl (fun j : Nat => zI (a19_by (j : Int)))))] ++ va_pl L (pE Pw_2027)) H := (by rw [← eU]; exact hP)
            have hD : va_D A ([(h0, .inr (16, [v19_0, v19_1, v19_2, v19_3, v19_4, v19_5, v19_6, v19_7, v19_8, v19_9, v19_10, v19_11, .ref q_1912, .ref q_1913, .ref q_1914, v19_15, v19_16, v19_17, v19_18, v19_19, v19_20, v19_21, v19_22, v19_23, v19_24, v19_25, v19_26, v19_27, v19_28, v19_29, v19_30, v19_31, v19_32, v19_33, v19_34, v19_35, v19_36, v19_37, v19_38, v19_39, v19_40])), (q_1912, .inl (cA_1912, 1002, .inl (fun j : Nat => zI (a19_replaced (j : Int))))), (q_1913, .inl (cA_1913, 1002, .inl (fun j : Nat => zI (a19_byReg (j : Int))))), (q_1914, .inl (cA_1914, 1002, .inl (fun j : Nat => zI (a19_by (j : Int)))))] ++ va_pl L (pE Pw_2027)) := (by rw [← eU]; exact hD)
            clear eU eQ hD0 gkp_2026 hkp_2026
            have wPw_2027 : PH1 xp P2 Pw_2027 := (by rw [ePw_2027]; exact PH1.num ho_2013)
            have hi_2028 : Pw_2027.ia qp = P2.ia qp := (by rw [ePw_2027]; exact ri9_of _ _ (kd_ne hy_2002 hy_2004 (by decide)))
            have hi_2029 : Pw_2027.ia qu = P2.ia qu := (by rw [ePw_2027]; exact ri9_of _ _ (kd_ne hy_2003 hy_2004 (by decide)))
            have hi_2030 : Pw_2027.ia qz = zup (P2.ia qz) (d2_2) (0) := (by rw [ePw_2027]; exact ri9_at _ _ _)
            have hy_2031 : Pw_2027.kd xp = 15 := (by rw [ePw_2027]; exact hy_2001)
            have : Pw_2027.pt xp = P2.pt xp := (by rw [ePw_2027]; rfl)
            have : Pw_2027.pn xp = P2.pn xp := (by rw [ePw_2027]; rfl)
            have : Pw_2027.pg xp = P2.pg xp := (by rw [ePw_2027]; rfl)
            have hy_2032 : Pw_2027.kd qp = 40 := (by rw [ePw_2027]; exact hy_2002)
            have hy_2033 : Pw_2027.kd qu = 41 := (by rw [ePw_2027]; exact hy_2003)
            have hy_2034 : Pw_2027.kd qz = 42 := (by rw [ePw_2027]; exact hy_2004)
            have hc_2035 : Pw_2027.ac qp = cI := (by rw [ePw_2027]; exact hc_2005)
            have : Pw_2027.an qp = P2.an qp := (by rw [ePw_2027]; rfl)
            have hc_2036 : Pw_2027.ac qu = cI := (by rw [ePw_2027]; exact hc_2006)
            have : Pw_2027.an qu = P2.an qu := (by rw [ePw_2027]; rfl)
            have hc_2037 : Pw_2027.ac qz = cZ := (by rw [ePw_2027]; exact hc_2007)
            have : Pw_2027.an qz = P2.an qz := (by rw [ePw_2027]; rfl)
            have ha_2038 : Pw_2027.pp xp = qp := (by rw [ePw_2027]; exact ha_2008)
            have ha_2039 : Pw_2027.pu xp = qu := (by rw [ePw_2027]; exact ha_2009)
            have ha_2040 : Pw_2027.pr xp = qz := (by rw [ePw_2027]; exact ha_2010)
            have ho_2041 : Pw_2027.ow qp = xp := (by rw [ePw_2027]; exact ho_2011)
            have ho_2042 : Pw_2027.ow qu = xp := (by rw [ePw_2027]; exact ho_2012)
            have ho_2043 : Pw_2027.ow qz = xp := (by rw [ePw_2027]; exact ho_2013)
            refine lv_aload_n hx hb dX19_resolve__53 rfl (lv_at hl 2 rfl) ?_
            obtain ⟨kp_2044, hkp_2044⟩ := va_pl_get (X := [(h0, .inr (16, [v19_0, v19_1, v19_2, v19_3, v19_4, v19_5, v19_6, v19_7, v19_8, v19_9, v19_10, v19_11, .ref q_1912, .ref q_1913, .ref q_1914, v19_15, v19_16, v19_17, v19_18, v19_19, v19_20, v19_21, v19_22, v19_23, v19_24, v19_25, v19_26, v19_27, v19_28, v19_29, v19_30, v19_31, v19_32, v19_33, v19_34, v19_35, v19_36, v19_37, v19_38, v19_39, v19_40])), (q_1912, .inl (cA_1912, 1002, .inl (fun j : Nat => zI (a19_replaced (j : Int))))), (q_1913, .inl (cA_1913, 1002, .inl (fun j : Nat => zI (a19_byReg (j : Int))))), (q_1914, .inl (cA_1914, 1002, .inl (fun j : Nat => zI (a19_by (j : Int)))))]) (f := pE Pw_2027) hX_p.1.1
            rw [pE_phi hy_2031] at hkp_2044
            refine va_get (D := (dC, dI)) (ci := 20) (v := .ref (Pw_2027.pu xp)) (C := RX15) (T := TX15) (N := 6) hx hb hts mem_P19_resolvePhi_0 hown hK hP kp_2044 hkp_2044 rfl 3 (by decide) (ow (k := 2) rfl) (fun _ h9 => h9) rfl dX19_resolve__54 ?_
            obtain ⟨pr_2045, epr_2045⟩ : ∃ q9 : Nat, q9 = Pw_2027.pu xp := ⟨_, rfl⟩
            rw [← epr_2045]
            obtain rfl : qu = pr_2045 := (by rw [epr_2045]; exact ha_2039.symm)
            refine lv_iload_n hx hb dX19_resolve__57 rfl (lv_at hl 3 rfl) ?_
            refine lv_aload_n hx hb dX19_resolve__58 rfl (lv_at hl 1 rfl) ?_
            refine va_get (D := (dC, dI)) (ci := 16) (v := .ref q_1912) (C := RX19) (T := TX19) (N := 41) hx hb hts mem_P19_resolvePhi_2 hown hK hP 0 rfl rfl 12 (by decide) (ow (k := 7) rfl) (fun _ h9 => h9) rfl dX19_resolve__59 ?_
            refine lv_iload_n hx hb dX19_resolve__62 rfl (lv_at hl 0 rfl) ?_
            refine va_zald hx hb hK hP 1 3 rfl rfl (zI_in (a := z_2023) (n := 1002) (by omega) (by omega) (by decide)) dX19_resolve__63 ?_
            refine lv_topi (fun z ez => ?_)
            obtain rfl : z = zI (a19_replaced (z_2023)) := ez.trans (zI_ld (a19_replaced) (by omega) (by omega))
            have k2 := hR_a19_replaced (z_2023)
            refine lv_if_eq (tgt := 76) hx hb dX19_resolve__64 (by decide) (fun b64 => ?_) (fun b64 => ?_)
            · have yb64 : (a19_replaced (z_2023) : Int) = (0 : Int) := (zI_eq (a := a19_replaced (z_2023)) (b := 0) (by omega) (by omega) (by omega) (by omega)).mp b64
              refine lv_iload_n hx hb dX19_resolve__76 rfl (lv_at hl 0 rfl) ?_
              obtain ⟨kp_2046, gkp_2046⟩ := va_pl_get (X := [(h0, .inr (16, [v19_0, v19_1, v19_2, v19_3, v19_4, v19_5, v19_6, v19_7, v19_8, v19_9, v19_10, v19_11, .ref q_1912, .ref q_1913, .ref q_1914, v19_15, v19_16, v19_17, v19_18, v19_19, v19_20, v19_21, v19_22, v19_23, v19_24, v19_25, v19_26, v19_27, v19_28, v19_29, v19_30, v19_31, v19_32, v19_33, v19_34, v19_35, v19_36, v19_37, v19_38, v19_39, v19_40])), (q_1912, .inl (cA_1912, 1002, .inl (fun j : Nat => zI (a19_replaced (j : Int))))), (q_1913, .inl (cA_1913, 1002, .inl (fun j : Nat => zI (a19_byReg (j : Int))))), (q_1914, .inl (cA_1914, 1002, .inl (fun j : Nat => zI (a19_by (j : Int)))))]) (f := pE Pw_2027) hoqu.1
              have hkp_2046 := gkp_2046
              rw [pE_n41 hy_2033, hc_2036] at hkp_2046
              have hD0 := hD
              refine va_iast (i := zI (d2_2)) hx hb hK hP hD hS kp_2046 1 hkp_2046 rfl (zI_in (a := d2_2) (n := Pw_2027.an qu) (by omega) (by omega) (by omega)) dX19_resolve__77 (fun H locs hP hD hS => ?_)
              obtain ⟨Pw_2047, ePw_2047⟩ : ∃ q9 : PO, q9 = Pw_2027.ri9 qu (zup (Pw_2027.ia qu) (d2_2) (z_2023)) := ⟨_, rfl⟩
              have eQ : upd (fun j : Nat => zI (Pw_2027.ia qu (j : Int))) (zI (d2_2)).toNatClampNeg (zI (z_2023)) = (fun j : Nat => zI ((zup (Pw_2027.ia qu) (d2_2) (z_2023)) (j : Int))) := zI_st (Pw_2027.ia qu) (e := d2_2) (v := z_2023) (by omega) (by omega)
              have eU : (([(h0, .inr (16, [v19_0, v19_1, v19_2, v19_3, v19_4, v19_5, v19_6, v19_7, v19_8, v19_9, v19_10, v19_11, .ref q_1912, .ref q_1913, .ref q_1914, v19_15, v19_16, v19_17, v19_18, v19_19, v19_20, v19_21, v19_22, v19_23, v19_24, v19_25, v19_26, v19_27, v19_28, v19_29, v19_30, v19_31, v19_32, v19_33, v19_34, v19_35, v19_36, v19_37, v19_38, v19_39, v19_40])), (q_1912, .inl (cA_1912, 1002, .inl (fun j : Nat => zI (a19_replaced (j : Int))))), (q_1913, .inl (cA_1913, 1002, .inl (fun j : Nat => zI (a19_byReg (j : Int))))), (q_1914, .inl (cA_1914, 1002, .inl (fun j : Nat => zI (a19_by (j : Int)))))] : va_W) ++ va_pl L (pE Pw_2027)).set kp_2046 (qu, (.inl (cI, Pw_2027.an qu, .inl (upd (fun j : Nat => zI (Pw_2027.ia qu (j : Int))) (zI (d2_2)).toNatClampNeg (zI (z_2023)))) : va_E)) = ([(h0, .inr (16, [v19_0, v19_1, v19_2, v19_3, v19_4, v19_5, v19_6, v19_7, v19_8, v19_9, v19_10, v19_11, .ref q_1912, .ref q_1913, .ref q_1914, v19_15, v19_16, v19_17, v19_18, v19_19, v19_20, v19_21, v19_22, v19_23, v19_24, v19_25, v19_26, v19_27, v19_28, v19_29, v19_30, v19_31, v19_32, v19_33, v19_34, v19_35, v19_36, v19_37, v19_38, v19_39, v19_40])), (q_1912, .inl (cA_1912, 1002, .inl (fun j : Nat => zI (a19_replaced (j : Int))))), (q_1913, .inl (cA_1913, 1002, .inl (fun j : Nat => zI (a19_byReg (j : Int))))), (q_1914, .inl (cA_1914, 1002, .inl (fun j : Nat => zI (a19_by (j : Int)))))] : va_W) ++ va_pl L (pE Pw_2047) := (by rw [eQ, va_pl_set hD0 hoqu.1 gkp_2046, ePw_2047]; exact congrArg (fun f9 => ([(h0, .inr (16, [v19_0, v19_1, v19_2, v19_3, v19_4, v19_5, v19_6, v19_7, v19_8, v19_9, v19_10, v19_11, .ref q_1912, .ref q_1913, .ref q_1914, v19_15, v19_16, v19_17, v19_18, v19_19, v19_20, v19_21, v19_22, v19_23, v19_24, v19_25, v19_26, v19_27, v19_28, v19_29, v19_30, v19_31, v19_32, v19_33, v19_34, v19_35, v19_36, v19_37, v19_38, v19_39, v19_40])), (q_1912, .inl (cA_1912, 1002, .inl (fun j : Nat => zI (a19_replaced (j : Int))))), (q_1913, .inl (cA_1913, 1002, .inl (fun j : Nat => zI (a19_byReg (j : Int))))), (q_1914, .inl (cA_1914, 1002, .inl (fun j : Nat => zI (a19_by (j : Int)))))] : va_W) ++ va_pl L f9) (by have h9 := putnum (P := Pw_2027) (x := qu) (a := zup (Pw_2027.ia qu) (d2_2) (z_2023)) (by omega); rw [hc_2036] at h9; exact h9))
              have hP : va_P (dC, dI) vwQ ([(h0, .inr (16, [v19_0, v19_1, v19_2, v19_3, v19_4, v19_5, v19_6, v19_7, v19_8, v19_9, v19_10, v19_11, .ref q_1912, .ref q_1913, .ref q_1914, v19_15, v19_16, v19_17, v19_18, v19_19, v19_20, v19_21, v19_22, v19_23, v19_24, v19_25, v19_26, v19_27, v19_28, v19_29, v19_30, v19_31, v19_32, v19_33, v19_34, v19_35, v19_36, v19_37, v19_38, v19_39, v19_40])), (q_1912, .inl (cA_1912, 1002, .inl (fun j : Nat => zI (a19_replaced (j : Int))))), (q_1913, .inl (cA_1913, 1002, .inl (fun j : Nat => zI (a19_byReg (j : Int))))), (q_1914, .inl (cA_1914, 1002, .inl (fun j : Nat => zI (a19_by (j : Int)))))] ++ va_pl L (pE Pw_2047)) H := (by rw [← eU]; exact hP)
              have hD : va_D A ([(h0, .inr (16, [v19_0, v19_1, v19_2, v19_3, v19_4, v19_5, v19_6, v19_7, v19_8, v19_9, v19_10, v19_11, .ref q_1912, .ref q_1913, .ref q_1914, v19_15, v19_16, v19_17, v19_18, v19_19, v19_20, v19_21, v19_22, v19_23, v19_24, v19_25, v19_26, v19_27, v19_28, v19_29, v19_30, v19_31, v19_32, v19_33, v19_34, v19_35, v19_36, v19_37, v19_38, v19_39, v19_40])), (q_1912, .inl (cA_1912, 1002, .inl (fun j : Nat => zI (a19_replaced (j : Int))))), (q_1913, .inl (cA_1913, 1002, .inl (fun j : Nat => zI (a19_byReg (j : Int))))), (q_1914, .inl (cA_1914, 1002, .inl (fun j : Nat => zI (a19_by (j : Int)))))] ++ va_pl L (pE Pw_2047)) := (by rw [← eU]; exact hD)
              clear eU eQ hD0 gkp_2046 hkp_2046
              have wPw_2047 : PH1 xp Pw_2027 Pw_2047 := (by rw [ePw_2047]; exact PH1.num ho_2042)
              have hi_2048 : Pw_2047.ia qp = Pw_2027.ia qp := (by rw [ePw_2047]; exact ri9_of _ _ (kd_ne hy_2032 hy_2033 (by decide)))
              have hi_2049 : Pw_2047.ia qu = zup (Pw_2027.ia qu) (d2_2) (z_2023) := (by rw [ePw_2047]; exact ri9_at _ _ _)
              have hi_2050 : Pw_2047.ia qz = Pw_2027.ia qz := (by rw [ePw_2047]; exact ri9_of _ _ (kd_ne hy_2034 hy_2033 (by decide)))
              have hy_2051 : Pw_2047.kd xp = 15 := (by rw [ePw_2047]; exact hy_2031)
              have : Pw_2047.pt xp = Pw_2027.pt xp := (by rw [ePw_2047]; rfl)
              have : Pw_2047.pn xp = Pw_2027.pn xp := (by rw [ePw_2047]; rfl)
              have : Pw_2047.pg xp = Pw_2027.pg xp := (by rw [ePw_2047]; rfl)
              have hy_2052 : Pw_2047.kd qp = 40 := (by rw [ePw_2047]; exact hy_2032)
              have hy_2053 : Pw_2047.kd qu = 41 := (by rw [ePw_2047]; exact hy_2033)
              have hy_2054 : Pw_2047.kd qz = 42 := (by rw [ePw_2047]; exact hy_2034)
              have hc_2055 : Pw_2047.ac qp = cI := (by rw [ePw_2047]; exact hc_2035)
              have : Pw_2047.an qp = Pw_2027.an qp := (by rw [ePw_2047]; rfl)
              have hc_2056 : Pw_2047.ac qu = cI := (by rw [ePw_2047]; exact hc_2036)
              have : Pw_2047.an qu = Pw_2027.an qu := (by rw [ePw_2047]; rfl)
              have hc_2057 : Pw_2047.ac qz = cZ := (by rw [ePw_2047]; exact hc_2037)
              have : Pw_2047.an qz = Pw_2027.an qz := (by rw [ePw_2047]; rfl)
              have ha_2058 : Pw_2047.pp xp = qp := (by rw [ePw_2047]; exact ha_2038)
              have ha_2059 : Pw_2047.pu xp = qu := (by rw [ePw_2047]; exact ha_2039)
              have ha_2060 : Pw_2047.pr xp = qz := (by rw [ePw_2047]; exact ha_2040)
              have ho_2061 : Pw_2047.ow qp = xp := (by rw [ePw_2047]; exact ho_2041)
              have ho_2062 : Pw_2047.ow qu = xp := (by rw [ePw_2047]; exact ho_2042)
              have ho_2063 : Pw_2047.ow qz = xp := (by rw [ePw_2047]; exact ho_2043)
              refine lv_iinc (v := zI (d2_2 + 1)) (lv' := [(2, .int (zI (d2_2 + 1))), (3, .int (zI (z_2023))), (0, .ref h0), (1, .ref xp)]) hx hb dX19_resolve__78 hl (k := 3) rfl (zI_add (d2_2) (1)) (by decide) rfl (fun ls hl => ?_)
              refine lv_goto (tgt := 2) hx hb dX19_resolve__81 (by decide) ?_
              exact ih2 (d2_2 + 1) Pw_2047 ls H _ (by omega) (wP2.trans (wPw_2027.trans (wPw_2047))) (by omega) (fun i a b => by rw [hi_2048, hi_2028, hi_2049, hi_2029, hi_2050, hi_2030]; exact EF.two (j := d2_2) (by have q9 := jef2 (d2_2) (by omega) (by omega); unfold EF at q9 ⊢; omega) (fun _ => jef2 i a b)) (by rw [hi_2048, hi_2028]; exact jq2) (by omega) (lv_sub hl [2, 3, 0] rfl) hP hD hS
            · have yb64 : ¬ (a19_replaced (z_2023) : Int) = (0 : Int) := fun q => b64 ((zI_eq (a := a19_replaced (z_2023)) (b := 0) (by omega) (by omega) (by omega) (by omega)).mpr q)
              refine lv_aload_n hx hb dX19_resolve__67 rfl (lv_at hl 1 rfl) ?_
              refine va_get (D := (dC, dI)) (ci := 16) (v := .ref q_1914) (C := RX19) (T := TX19) (N := 41) hx hb hts mem_P19_resolvePhi_2 hown hK hP 0 rfl rfl 14 (by decide) (ow (k := 8) rfl) (fun _ h9 => h9) rfl dX19_resolve__68 ?_
              refine lv_iload_n hx hb dX19_resolve__71 rfl (lv_at hl 0 rfl) ?_
              refine va_iald hx hb hK hP 3 5 rfl rfl (zI_in (a := z_2023) (n := 1002) (by omega) (by omega) (by decide)) dX19_resolve__72 ?_
              refine lv_topi (fun z ez => ?_)
              obtain rfl : z = zI (a19_by (z_2023)) := ez.trans (zI_ld (a19_by) (by omega) (by omega))
              have k3 := hR_a19_by (z_2023)
              refine lv_goto (tgt := 77) hx hb dX19_resolve__73 (by decide) ?_
              obtain ⟨kp_2064, gkp_2064⟩ := va_pl_get (X := [(h0, .inr (16, [v19_0, v19_1, v19_2, v19_3, v19_4, v19_5, v19_6, v19_7, v19_8, v19_9, v19_10, v19_11, .ref q_1912, .ref q_1913, .ref q_1914, v19_15, v19_16, v19_17, v19_18, v19_19, v19_20, v19_21, v19_22, v19_23, v19_24, v19_25, v19_26, v19_27, v19_28, v19_29, v19_30, v19_31, v19_32, v19_33, v19_34, v19_35, v19_36, v19_37, v19_38, v19_39, v19_40])), (q_1912, .inl (cA_1912, 1002, .inl (fun j : Nat => zI (a19_replaced (j : Int))))), (q_1913, .inl (cA_1913, 1002, .inl (fun j : Nat => zI (a19_byReg (j : Int))))), (q_1914, .inl (cA_1914, 1002, .inl (fun j : Nat => zI (a19_by (j : Int)))))]) (f := pE Pw_2027) hoqu.1
              have hkp_2064 := gkp_2064
              rw [pE_n41 hy_2033, hc_2036] at hkp_2064
              have hD0 := hD
              refine va_iast (i := zI (d2_2)) hx hb hK hP hD hS kp_2064 1 hkp_2064 rfl (zI_in (a := d2_2) (n := Pw_2027.an qu) (by omega) (by omega) (by omega)) dX19_resolve__77 (fun H locs hP hD hS => ?_)
              obtain ⟨Pw_2065, ePw_2065⟩ : ∃ q9 : PO, q9 = Pw_2027.ri9 qu (zup (Pw_2027.ia qu) (d2_2) (a19_by (z_2023))) := ⟨_, rfl⟩
              have eQ : upd (fun j : Nat => zI (Pw_2027.ia qu (j : Int))) (zI (d2_2)).toNatClampNeg (zI (a19_by (z_2023))) = (fun j : Nat => zI ((zup (Pw_2027.ia qu) (d2_2) (a19_by (z_2023))) (j : Int))) := zI_st (Pw_2027.ia qu) (e := d2_2) (v := a19_by (z_2023)) (by omega) (by omega)
              have eU : (([(h0, .inr (16, [v19_0, v19_1, v19_2, v19_3, v19_4, v19_5, v19_6, v19_7, v19_8, v19_9, v19_10, v19_11, .ref q_1912, .ref q_1913, .ref q_1914, v19_15, v19_16, v19_17, v19_18, v19_19, v19_20, v19_21, v19_22, v19_23, v19_24, v19_25, v19_26, v19_27, v19_28, v19_29, v19_30, v19_31, v19_32, v19_33, v19_34, v19_35, v19_36, v19_37, v19_38, v19_39, v19_40])), (q_1912, .inl (cA_1912, 1002, .inl (fun j : Nat => zI (a19_replaced (j : Int))))), (q_1913, .inl (cA_1913, 1002, .inl (fun j : Nat => zI (a19_byReg (j : Int))))), (q_1914, .inl (cA_1914, 1002, .inl (fun j : Nat => zI (a19_by (j : Int)))))] : va_W) ++ va_pl L (pE Pw_2027)).set kp_2064 (qu, (.inl (cI, Pw_2027.an qu, .inl (upd (fun j : Nat => zI (Pw_2027.ia qu (j : Int))) (zI (d2_2)).toNatClampNeg (zI (a19_by (z_2023))))) : va_E)) = ([(h0, .inr (16, [v19_0, v19_1, v19_2, v19_3, v19_4, v19_5, v19_6, v19_7, v19_8, v19_9, v19_10, v19_11, .ref q_1912, .ref q_1913, .ref q_1914, v19_15, v19_16, v19_17, v19_18, v19_19, v19_20, v19_21, v19_22, v19_23, v19_24, v19_25, v19_26, v19_27, v19_28, v19_29, v19_30, v19_31, v19_32, v19_33, v19_34, v19_35, v19_36, v19_37, v19_38, v19_39, v19_40])), (q_1912, .inl (cA_1912, 1002, .inl (fun j : Nat => zI (a19_replaced (j : Int))))), (q_1913, .inl (cA_1913, 1002, .inl (fun j : Nat => zI (a19_byReg (j : Int))))), (q_1914, .inl (cA_1914, 1002, .inl (fun j : Nat => zI (a19_by (j : Int)))))] : va_W) ++ va_pl L (pE Pw_2065) := (by rw [eQ, va_pl_set hD0 hoqu.1 gkp_2064, ePw_2065]; exact congrArg (fun f9 => ([(h0, .inr (16, [v19_0, v19_1, v19_2, v19_3, v19_4, v19_5, v19_6, v19_7, v19_8, v19_9, v19_10, v19_11, .ref q_1912, .ref q_1913, .ref q_1914, v19_15, v19_16, v19_17, v19_18, v19_19, v19_20, v19_21, v19_22, v19_23, v19_24, v19_25, v19_26, v19_27, v19_28, v19_29, v19_30, v19_31, v19_32, v19_33, v19_34, v19_35, v19_36, v19_37, v19_38, v19_39, v19_40])), (q_1912, .inl (cA_1912, 1002, .inl (fun j : Nat => zI (a19_replaced (j : Int))))), (q_1913, .inl (cA_1913, 1002, .inl (fun j : Nat => zI (a19_byReg (j : Int))))), (q_1914, .inl (cA_1914, 1002, .inl (fun j : Nat => zI (a19_by (j : Int)))))] : va_W) ++ va_pl L f9) (by have h9 := putnum (P := Pw_2027) (x := qu) (a := zup (Pw_2027.ia qu) (d2_2) (a19_by (z_2023))) (by omega); rw [hc_2036] at h9; exact h9))
              have hP : va_P (dC, dI) vwQ ([(h0, .inr (16, [v19_0, v19_1, v19_2, v19_3, v19_4, v19_5, v19_6, v19_7, v19_8, v19_9, v19_10, v19_11, .ref q_1912, .ref q_1913, .ref q_1914, v19_15, v19_16, v19_17, v19_18, v19_19, v19_20, v19_21, v19_22, v19_23, v19_24, v19_25, v19_26, v19_27, v19_28, v19_29, v19_30, v19_31, v19_32, v19_33, v19_34, v19_35, v19_36, v19_37, v19_38, v19_39, v19_40])), (q_1912, .inl (cA_1912, 1002, .inl (fun j : Nat => zI (a19_replaced (j : Int))))), (q_1913, .inl (cA_1913, 1002, .inl (fun j : Nat => zI (a19_byReg (j : Int))))), (q_1914, .inl (cA_1914, 1002, .inl (fun j : Nat => zI (a19_by (j : Int)))))] ++ va_pl L (pE Pw_2065)) H := (by rw [← eU]; exact hP)
              have hD : va_D A ([(h0, .inr (16, [v19_0, v19_1, v19_2, v19_3, v19_4, v19_5, v19_6, v19_7, v19_8, v19_9, v19_10, v19_11, .ref q_1912, .ref q_1913, .ref q_1914, v19_15, v19_16, v19_17, v19_18, v19_19, v19_20, v19_21, v19_22, v19_23, v19_24, v19_25, v19_26, v19_27, v19_28, v19_29, v19_30, v19_31, v19_32, v19_33, v19_34, v19_35, v19_36, v19_37, v19_38, v19_39, v19_40])), (q_1912, .inl (cA_1912, 1002, .inl (fun j : Nat => zI (a19_replaced (j : Int))))), (q_1913, .inl (cA_1913, 1002, .inl (fun j : Nat => zI (a19_byReg (j : Int))))), (q_1914, .inl (cA_1914, 1002, .inl (fun j : Nat => zI (a19_by (j : Int)))))] ++ va_pl L (pE Pw_2065)) := (by rw [← eU]; exact hD)
              clear eU eQ hD0 gkp_2064 hkp_2064
              have wPw_2065 : PH1 xp Pw_2027 Pw_2065 := (by rw [ePw_2065]; exact PH1.num ho_2042)
              have hi_2066 : Pw_2065.ia qp = Pw_2027.ia qp := (by rw [ePw_2065]; exact ri9_of _ _ (kd_ne hy_2032 hy_2033 (by decide)))
              have hi_2067 : Pw_2065.ia qu = zup (Pw_2027.ia qu) (d2_2) (a19_by (z_2023)) := (by rw [ePw_2065]; exact ri9_at _ _ _)
              have hi_2068 : Pw_2065.ia qz = Pw_2027.ia qz := (by rw [ePw_2065]; exact ri9_of _ _ (kd_ne hy_2034 hy_2033 (by decide)))
              have hy_2069 : Pw_2065.kd xp = 15 := (by rw [ePw_2065]; exact hy_2031)
              have : Pw_2065.pt xp = Pw_2027.pt xp := (by rw [ePw_2065]; rfl)
              have : Pw_2065.pn xp = Pw_2027.pn xp := (by rw [ePw_2065]; rfl)
              have : Pw_2065.pg xp = Pw_2027.pg xp := (by rw [ePw_2065]; rfl)
              have hy_2070 : Pw_2065.kd qp = 40 := (by rw [ePw_2065]; exact hy_2032)
              have hy_2071 : Pw_2065.kd qu = 41 := (by rw [ePw_2065]; exact hy_2033)
              have hy_2072 : Pw_2065.kd qz = 42 := (by rw [ePw_2065]; exact hy_2034)
              have hc_2073 : Pw_2065.ac qp = cI := (by rw [ePw_2065]; exact hc_2035)
              have : Pw_2065.an qp = Pw_2027.an qp := (by rw [ePw_2065]; rfl)
              have hc_2074 : Pw_2065.ac qu = cI := (by rw [ePw_2065]; exact hc_2036)
              have : Pw_2065.an qu = Pw_2027.an qu := (by rw [ePw_2065]; rfl)
              have hc_2075 : Pw_2065.ac qz = cZ := (by rw [ePw_2065]; exact hc_2037)
              have : Pw_2065.an qz = Pw_2027.an qz := (by rw [ePw_2065]; rfl)
              have ha_2076 : Pw_2065.pp xp = qp := (by rw [ePw_2065]; exact ha_2038)
              have ha_2077 : Pw_2065.pu xp = qu := (by rw [ePw_2065]; exact ha_2039)
              have ha_2078 : Pw_2065.pr xp = qz := (by rw [ePw_2065]; exact ha_2040)
              have ho_2079 : Pw_2065.ow qp = xp := (by rw [ePw_2065]; exact ho_2041)
              have ho_2080 : Pw_2065.ow qu = xp := (by rw [ePw_2065]; exact ho_2042)
              have ho_2081 : Pw_2065.ow qz = xp := (by rw [ePw_2065]; exact ho_2043)
              refine lv_iinc (v := zI (d2_2 + 1)) (lv' := [(2, .int (zI (d2_2 + 1))), (3, .int (zI (z_2023))), (0, .ref h0), (1, .ref xp)]) hx hb dX19_resolve__78 hl (k := 3) rfl (zI_add (d2_2) (1)) (by decide) rfl (fun ls hl => ?_)
              refine lv_goto (tgt := 2) hx hb dX19_resolve__81 (by decide) ?_
              exact ih2 (d2_2 + 1) Pw_2065 ls H _ (by omega) (wP2.trans (wPw_2027.trans (wPw_2065))) (by omega) (fun i a b => by rw [hi_2066, hi_2028, hi_2067, hi_2029, hi_2068, hi_2030]; exact EF.two (j := d2_2) (by have q9 := jef2 (d2_2) (by omega) (by omega); unfold EF at q9 ⊢; omega) (fun _ => jef2 i a b)) (by rw [hi_2066, hi_2028]; exact jq2) (by omega) (lv_sub hl [2, 3, 0] rfl) hP hD hS
          · have yb44 : (a19_replaced (z_2023) : Int) = (0 : Int) := (zI_eq (a := a19_replaced (z_2023)) (b := 0) (by omega) (by omega) (by omega) (by omega)).mp b44
            refine lv_iconst (v := 1) hx hb dX19_resolve__47 (by decide) ?_
            refine lv_goto (tgt := 52) hx hb dX19_resolve__48 (by decide) ?_
            refine lv_topi (fun z ez => ?_)
            obtain rfl : z = zI (1) := ez
            obtain ⟨kp_2082, gkp_2082⟩ := va_pl_get (X := [(h0, .inr (16, [v19_0, v19_1, v19_2, v19_3, v19_4, v19_5, v19_6, v19_7, v19_8, v19_9, v19_10, v19_11, .ref q_1912, .ref q_1913, .ref q_1914, v19_15, v19_16, v19_17, v19_18, v19_19, v19_20, v19_21, v19_22, v19_23, v19_24, v19_25, v19_26, v19_27, v19_28, v19_29, v19_30, v19_31, v19_32, v19_33, v19_34, v19_35, v19_36, v19_37, v19_38, v19_39, v19_40])), (q_1912, .inl (cA_1912, 1002, .inl (fun j : Nat => zI (a19_replaced (j : Int))))), (q_1913, .inl (cA_1913, 1002, .inl (fun j : Nat => zI (a19_byReg (j : Int))))), (q_1914, .inl (cA_1914, 1002, .inl (fun j : Nat => zI (a19_by (j : Int)))))]) (f := pE P2) hoqz.1
            have hkp_2082 := gkp_2082
            rw [pE_n42 hy_2004, hc_2007] at hkp_2082
            have hD0 := hD
            refine va_zast (i := zI (d2_2)) hx hb hK hP hD hS kp_2082 2 hkp_2082 rfl (zI_in (a := d2_2) (n := P2.an qz) (by omega) (by omega) (by omega)) dX19_resolve__52 (fun H locs hP hD hS => ?_)
            rw [show vp_nar .boolean (zI (1)) = zI (1) from zI_nar (a := 1) (by omega) (by omega)] at hP hD
            obtain ⟨Pw_2083, ePw_2083⟩ : ∃ q9 : PO, q9 = P2.ri9 qz (zup (P2.ia qz) (d2_2) (1)) := ⟨_, rfl⟩
            have eQ : upd (fun j : Nat => zI (P2.ia qz (j : Int))) (zI (d2_2)).toNatClampNeg (zI (1)) = (fun j : Nat => zI ((zup (P2.ia qz) (d2_2) (1)) (j : Int))) := zI_st (P2.ia qz) (e := d2_2) (v := 1) (by omega) (by omega)
            have eU : (([(h0, .inr (16, [v19_0, v19_1, v19_2, v19_3, v19_4, v19_5, v19_6, v19_7, v19_8, v19_9, v19_10, v19_11, .ref q_1912, .ref q_1913, .ref q_1914, v19_15, v19_16, v19_17, v19_18, v19_19, v19_20, v19_21, v19_22, v19_23, v19_24, v19_25, v19_26, v19_27, v19_28, v19_29, v19_30, v19_31, v19_32, v19_33, v19_34, v19_35, v19_36, v19_37, v19_38, v19_39, v19_40])), (q_1912, .inl (cA_1912, 1002, .inl (fun j : Nat => zI (a19_replaced (j : Int))))), (q_1913, .inl (cA_1913, 1002, .inl (fun j : Nat => zI (a19_byReg (j : Int))))), (q_1914, .inl (cA_1914, 1002, .inl (fun j : Nat => zI (a19_by (j : Int)))))] : va_W) ++ va_pl L (pE P2)).set kp_2082 (qz, (.inl (cZ, P2.an qz, .inl (upd (fun j : Nat => zI (P2.ia qz (j : Int))) (zI (d2_2)).toNatClampNeg (zI (1)))) : va_E)) = ([(h0, .inr (16, [v19_0, v19_1, v19_2, v19_3, v19_4, v19_5, v19_6, v19_7, v19_8, v19_9, v19_10, v19_11, .ref q_1912, .ref q_1913, .ref q_1914, v19_15, v19_16, v19_17, v19_18, v19_19, v19_20, v19_21, v19_22, v19_23, v19_24, v19_25, v19_26, v19_27, v19_28, v19_29, v19_30, v19_31, v19_32, v19_33, v19_34, v19_35, v19_36, v19_37, v19_38, v19_39, v19_40])), (q_1912, .inl (cA_1912, 1002, .inl (fun j : Nat => zI (a19_replaced (j : Int))))), (q_1913, .inl (cA_1913, 1002, .inl (fun j : Nat => zI (a19_byReg (j : Int))))), (q_1914, .inl (cA_1914, 1002, .inl (fun j : Nat => zI (a19_by (j : Int)))))] : va_W) ++ va_pl L (pE Pw_2083) := (by rw [eQ, va_pl_set hD0 hoqz.1 gkp_2082, ePw_2083]; exact congrArg (fun f9 => ([(h0, .inr (16, [v19_0, v19_1, v19_2, v19_3, v19_4, v19_5, v19_6, v19_7, v19_8, v19_9, v19_10, v19_11, .ref q_1912, .ref q_1913, .ref q_1914, v19_15, v19_16, v19_17, v19_18, v19_19, v19_20, v19_21, v19_22, v19_23, v19_24, v19_25, v19_26, v19_27, v19_28, v19_29, v19_30, v19_31, v19_32, v19_33, v19_34, v19_35, v19_36, v19_37, v19_38, v19_39, v19_40])), (q_1912, .inl (cA_1912, 1002, .inl (fun j : Nat => zI (a19_replaced (j : Int))))), (q_1913, .inl (cA_1913, 1002, .inl (fun j : Nat => zI (a19_byReg (j : Int))))), (q_1914, .inl (cA_1914, 1002, .inl (fun j : Nat => zI (a19_by (j : Int)))))] : va_W) ++ va_pl L f9) (by have h9 := putnum (P := P2) (x := qz) (a := zup (P2.ia qz) (d2_2) (1)) (by omega); rw [hc_2007] at h9; exact h9))
            have hP : va_P (dC, dI) vwQ ([(h0, .inr (16, [v19_0, v19_1, v19_2, v19_3, v19_4, v19_5, v19_6, v19_7, v19_8, v19_9, v19_10, v19_11, .ref q_1912, .ref q_1913, .ref q_1914, v19_15, v19_16, v19_17, v19_18, v19_19, v19_20, v19_21, v19_22, v19_23, v19_24, v19_25, v19_26, v19_27, v19_28, v19_29, v19_30, v19_31, v19_32, v19_33, v19_34, v19_35, v19_36, v19_37, v19_38, v19_39, v19_40])), (q_1912, .inl (cA_1912, 1002, .inl (fun j : Nat => zI (a19_replaced (j : Int))))), (q_1913, .inl (cA_1913, 1002, .inl (fun j : Nat => zI (a19_byReg (j : Int))))), (q_1914, .inl (cA_1914, 1002, .inl (fun j : Nat => zI (a19_by (j : Int)))))] ++ va_pl L (pE Pw_2083)) H := (by rw [← eU]; exact hP)
            have hD : va_D A ([(h0, .inr (16, [v19_0, v19_1, v19_2, v19_3, v19_4, v19_5, v19_6, v19_7, v19_8, v19_9, v19_10, v19_11, .ref q_1912, .ref q_1913, .ref q_1914, v19_15, v19_16, v19_17, v19_18, v19_19, v19_20, v19_21, v19_22, v19_23, v19_24, v19_25, v19_26, v19_27, v19_28, v19_29, v19_30, v19_31, v19_32, v19_33, v19_34, v19_35, v19_36, v19_37, v19_38, v19_39, v19_40])), (q_1912, .inl (cA_1912, 1002, .inl (fun j : Nat => zI (a19_replaced (j : Int))))), (q_1913, .inl (cA_1913, 1002, .inl (fun j : Nat => zI (a19_byReg (j : Int))))), (q_1914, .inl (cA_1914, 1002, .inl (fun j : Nat => zI (a19_by (j : Int)))))] ++ va_pl L (pE Pw_2083)) := (by rw [← eU]; exact hD)
            clear eU eQ hD0 gkp_2082 hkp_2082
            have wPw_2083 : PH1 xp P2 Pw_2083 := (by rw [ePw_2083]; exact PH1.num ho_2013)
            have hi_2084 : Pw_2083.ia qp = P2.ia qp := (by rw [ePw_2083]; exact ri9_of _ _ (kd_ne hy_2002 hy_2004 (by decide)))
            have hi_2085 : Pw_2083.ia qu = P2.ia qu := (by rw [ePw_2083]; exact ri9_of _ _ (kd_ne hy_2003 hy_2004 (by decide)))
            have hi_2086 : Pw_2083.ia qz = zup (P2.ia qz) (d2_2) (1) := (by rw [ePw_2083]; exact ri9_at _ _ _)
            have hy_2087 : Pw_2083.kd xp = 15 := (by rw [ePw_2083]; exact hy_2001)
            have : Pw_2083.pt xp = P2.pt xp := (by rw [ePw_2083]; rfl)
            have : Pw_2083.pn xp = P2.pn xp := (by rw [ePw_2083]; rfl)
            have : Pw_2083.pg xp = P2.pg xp := (by rw [ePw_2083]; rfl)
            have hy_2088 : Pw_2083.kd qp = 40 := (by rw [ePw_2083]; exact hy_2002)
            have hy_2089 : Pw_2083.kd qu = 41 := (by rw [ePw_2083]; exact hy_2003)
            have hy_2090 : Pw_2083.kd qz = 42 := (by rw [ePw_2083]; exact hy_2004)
            have hc_2091 : Pw_2083.ac qp = cI := (by rw [ePw_2083]; exact hc_2005)
            have : Pw_2083.an qp = P2.an qp := (by rw [ePw_2083]; rfl)
            have hc_2092 : Pw_2083.ac qu = cI := (by rw [ePw_2083]; exact hc_2006)
            have : Pw_2083.an qu = P2.an qu := (by rw [ePw_2083]; rfl)
            have hc_2093 : Pw_2083.ac qz = cZ := (by rw [ePw_2083]; exact hc_2007)
            have : Pw_2083.an qz = P2.an qz := (by rw [ePw_2083]; rfl)
            have ha_2094 : Pw_2083.pp xp = qp := (by rw [ePw_2083]; exact ha_2008)
            have ha_2095 : Pw_2083.pu xp = qu := (by rw [ePw_2083]; exact ha_2009)
            have ha_2096 : Pw_2083.pr xp = qz := (by rw [ePw_2083]; exact ha_2010)
            have ho_2097 : Pw_2083.ow qp = xp := (by rw [ePw_2083]; exact ho_2011)
            have ho_2098 : Pw_2083.ow qu = xp := (by rw [ePw_2083]; exact ho_2012)
            have ho_2099 : Pw_2083.ow qz = xp := (by rw [ePw_2083]; exact ho_2013)
            refine lv_aload_n hx hb dX19_resolve__53 rfl (lv_at hl 2 rfl) ?_
            obtain ⟨kp_2100, hkp_2100⟩ := va_pl_get (X := [(h0, .inr (16, [v19_0, v19_1, v19_2, v19_3, v19_4, v19_5, v19_6, v19_7, v19_8, v19_9, v19_10, v19_11, .ref q_1912, .ref q_1913, .ref q_1914, v19_15, v19_16, v19_17, v19_18, v19_19, v19_20, v19_21, v19_22, v19_23, v19_24, v19_25, v19_26, v19_27, v19_28, v19_29, v19_30, v19_31, v19_32, v19_33, v19_34, v19_35, v19_36, v19_37, v19_38, v19_39, v19_40])), (q_1912, .inl (cA_1912, 1002, .inl (fun j : Nat => zI (a19_replaced (j : Int))))), (q_1913, .inl (cA_1913, 1002, .inl (fun j : Nat => zI (a19_byReg (j : Int))))), (q_1914, .inl (cA_1914, 1002, .inl (fun j : Nat => zI (a19_by (j : Int)))))]) (f := pE Pw_2083) hX_p.1.1
            rw [pE_phi hy_2087] at hkp_2100
            refine va_get (D := (dC, dI)) (ci := 20) (v := .ref (Pw_2083.pu xp)) (C := RX15) (T := TX15) (N := 6) hx hb hts mem_P19_resolvePhi_0 hown hK hP kp_2100 hkp_2100 rfl 3 (by decide) (ow (k := 2) rfl) (fun _ h9 => h9) rfl dX19_resolve__54 ?_
            obtain ⟨pr_2101, epr_2101⟩ : ∃ q9 : Nat, q9 = Pw_2083.pu xp := ⟨_, rfl⟩
            rw [← epr_2101]
            obtain rfl : qu = pr_2101 := (by rw [epr_2101]; exact ha_2095.symm)
            refine lv_iload_n hx hb dX19_resolve__57 rfl (lv_at hl 3 rfl) ?_
            refine lv_aload_n hx hb dX19_resolve__58 rfl (lv_at hl 1 rfl) ?_
            refine va_get (D := (dC, dI)) (ci := 16) (v := .ref q_1912) (C := RX19) (T := TX19) (N := 41) hx hb hts mem_P19_resolvePhi_2 hown hK hP 0 rfl rfl 12 (by decide) (ow (k := 7) rfl) (fun _ h9 => h9) rfl dX19_resolve__59 ?_
            refine lv_iload_n hx hb dX19_resolve__62 rfl (lv_at hl 0 rfl) ?_
            refine va_zald hx hb hK hP 1 3 rfl rfl (zI_in (a := z_2023) (n := 1002) (by omega) (by omega) (by decide)) dX19_resolve__63 ?_
            refine lv_topi (fun z ez => ?_)
            obtain rfl : z = zI (a19_replaced (z_2023)) := ez.trans (zI_ld (a19_replaced) (by omega) (by omega))
            have k4 := hR_a19_replaced (z_2023)
            refine lv_if_eq (tgt := 76) hx hb dX19_resolve__64 (by decide) (fun b64 => ?_) (fun b64 => ?_)
            · have yb64 : (a19_replaced (z_2023) : Int) = (0 : Int) := (zI_eq (a := a19_replaced (z_2023)) (b := 0) (by omega) (by omega) (by omega) (by omega)).mp b64
              refine lv_iload_n hx hb dX19_resolve__76 rfl (lv_at hl 0 rfl) ?_
              obtain ⟨kp_2102, gkp_2102⟩ := va_pl_get (X := [(h0, .inr (16, [v19_0, v19_1, v19_2, v19_3, v19_4, v19_5, v19_6, v19_7, v19_8, v19_9, v19_10, v19_11, .ref q_1912, .ref q_1913, .ref q_1914, v19_15, v19_16, v19_17, v19_18, v19_19, v19_20, v19_21, v19_22, v19_23, v19_24, v19_25, v19_26, v19_27, v19_28, v19_29, v19_30, v19_31, v19_32, v19_33, v19_34, v19_35, v19_36, v19_37, v19_38, v19_39, v19_40])), (q_1912, .inl (cA_1912, 1002, .inl (fun j : Nat => zI (a19_replaced (j : Int))))), (q_1913, .inl (cA_1913, 1002, .inl (fun j : Nat => zI (a19_byReg (j : Int))))), (q_1914, .inl (cA_1914, 1002, .inl (fun j : Nat => zI (a19_by (j : Int)))))]) (f := pE Pw_2083) hoqu.1
              have hkp_2102 := gkp_2102
              rw [pE_n41 hy_2089, hc_2092] at hkp_2102
              have hD0 := hD
              refine va_iast (i := zI (d2_2)) hx hb hK hP hD hS kp_2102 1 hkp_2102 rfl (zI_in (a := d2_2) (n := Pw_2083.an qu) (by omega) (by omega) (by omega)) dX19_resolve__77 (fun H locs hP hD hS => ?_)
              obtain ⟨Pw_2103, ePw_2103⟩ : ∃ q9 : PO, q9 = Pw_2083.ri9 qu (zup (Pw_2083.ia qu) (d2_2) (z_2023)) := ⟨_, rfl⟩
              have eQ : upd (fun j : Nat => zI (Pw_2083.ia qu (j : Int))) (zI (d2_2)).toNatClampNeg (zI (z_2023)) = (fun j : Nat => zI ((zup (Pw_2083.ia qu) (d2_2) (z_2023)) (j : Int))) := zI_st (Pw_2083.ia qu) (e := d2_2) (v := z_2023) (by omega) (by omega)
              have eU : (([(h0, .inr (16, [v19_0, v19_1, v19_2, v19_3, v19_4, v19_5, v19_6, v19_7, v19_8, v19_9, v19_10, v19_11, .ref q_1912, .ref q_1913, .ref q_1914, v19_15, v19_16, v19_17, v19_18, v19_19, v19_20, v19_21, v19_22, v19_23, v19_24, v19_25, v19_26, v19_27, v19_28, v19_29, v19_30, v19_31, v19_32, v19_33, v19_34, v19_35, v19_36, v19_37, v19_38, v19_39, v19_40])), (q_1912, .inl (cA_1912, 1002, .inl (fun j : Nat => zI (a19_replaced (j : Int))))), (q_1913, .inl (cA_1913, 1002, .inl (fun j : Nat => zI (a19_byReg (j : Int))))), (q_1914, .inl (cA_1914, 1002, .inl (fun j : Nat => zI (a19_by (j : Int)))))] : va_W) ++ va_pl L (pE Pw_2083)).set kp_2102 (qu, (.inl (cI, Pw_2083.an qu, .inl (upd (fun j : Nat => zI (Pw_2083.ia qu (j : Int))) (zI (d2_2)).toNatClampNeg (zI (z_2023)))) : va_E)) = ([(h0, .inr (16, [v19_0, v19_1, v19_2, v19_3, v19_4, v19_5, v19_6, v19_7, v19_8, v19_9, v19_10, v19_11, .ref q_1912, .ref q_1913, .ref q_1914, v19_15, v19_16, v19_17, v19_18, v19_19, v19_20, v19_21, v19_22, v19_23, v19_24, v19_25, v19_26, v19_27, v19_28, v19_29, v19_30, v19_31, v19_32, v19_33, v19_34, v19_35, v19_36, v19_37, v19_38, v19_39, v19_40])), (q_1912, .inl (cA_1912, 1002, .inl (fun j : Nat => zI (a19_replaced (j : Int))))), (q_1913, .inl (cA_1913, 1002, .inl (fun j : Nat => zI (a19_byReg (j : Int))))), (q_1914, .inl (cA_1914, 1002, .inl (fun j : Nat => zI (a19_by (j : Int)))))] : va_W) ++ va_pl L (pE Pw_2103) := (by rw [eQ, va_pl_set hD0 hoqu.1 gkp_2102, ePw_2103]; exact congrArg (fun f9 => ([(h0, .inr (16, [v19_0, v19_1, v19_2, v19_3, v19_4, v19_5, v19_6, v19_7, v19_8, v19_9, v19_10, v19_11, .ref q_1912, .ref q_1913, .ref q_1914, v19_15, v19_16, v19_17, v19_18, v19_19, v19_20, v19_21, v19_22, v19_23, v19_24, v19_25, v19_26, v19_27, v19_28, v19_29, v19_30, v19_31, v19_32, v19_33, v19_34, v19_35, v19_36, v19_37, v19_38, v19_39, v19_40])), (q_1912, .inl (cA_1912, 1002, .inl (fun j : Nat => zI (a19_replaced (j : Int))))), (q_1913, .inl (cA_1913, 1002, .inl (fun j : Nat => zI (a19_byReg (j : Int))))), (q_1914, .inl (cA_1914, 1002, .inl (fun j : Nat => zI (a19_by (j : Int)))))] : va_W) ++ va_pl L f9) (by have h9 := putnum (P := Pw_2083) (x := qu) (a := zup (Pw_2083.ia qu) (d2_2) (z_2023)) (by omega); rw [hc_2092] at h9; exact h9))
              have hP : va_P (dC, dI) vwQ ([(h0, .inr (16, [v19_0, v19_1, v19_2, v19_3, v19_4, v19_5, v19_6, v19_7, v19_8, v19_9, v19_10, v19_11, .ref q_1912, .ref q_1913, .ref q_1914, v19_15, v19_16, v19_17, v19_18, v19_19, v19_20, v19_21, v19_22, v19_23, v19_24, v19_25, v19_26, v19_27, v19_28, v19_29, v19_30, v19_31, v19_32, v19_33, v19_34, v19_35, v19_36, v19_37, v19_38, v19_39, v19_40])), (q_1912, .inl (cA_1912, 1002, .inl (fun j : Nat => zI (a19_replaced (j : Int))))), (q_1913, .inl (cA_1913, 1002, .inl (fun j : Nat => zI (a19_byReg (j : Int))))), (q_1914, .inl (cA_1914, 1002, .inl (fun j : Nat => zI (a19_by (j : Int)))))] ++ va_pl L (pE Pw_2103)) H := (by rw [← eU]; exact hP)
              have hD : va_D A ([(h0, .inr (16, [v19_0, v19_1, v19_2, v19_3, v19_4, v19_5, v19_6, v19_7, v19_8, v19_9, v19_10, v19_11, .ref q_1912, .ref q_1913, .ref q_1914, v19_15, v19_16, v19_17, v19_18, v19_19, v19_20, v19_21, v19_22, v19_23, v19_24, v19_25, v19_26, v19_27, v19_28, v19_29, v19_30, v19_31, v19_32, v19_33, v19_34, v19_35, v19_36, v19_37, v19_38, v19_39, v19_40])), (q_1912, .inl (cA_1912, 1002, .inl (fun j : Nat => zI (a19_replaced (j : Int))))), (q_1913, .inl (cA_1913, 1002, .inl (fun j : Nat => zI (a19_byReg (j : Int))))), (q_1914, .inl (cA_1914, 1002, .inl (fun j : Nat => zI (a19_by (j : Int)))))] ++ va_pl L (pE Pw_2103)) := (by rw [← eU]; exact hD)
              clear eU eQ hD0 gkp_2102 hkp_2102
              have wPw_2103 : PH1 xp Pw_2083 Pw_2103 := (by rw [ePw_2103]; exact PH1.num ho_2098)
              have hi_2104 : Pw_2103.ia qp = Pw_2083.ia qp := (by rw [ePw_2103]; exact ri9_of _ _ (kd_ne hy_2088 hy_2089 (by decide)))
              have hi_2105 : Pw_2103.ia qu = zup (Pw_2083.ia qu) (d2_2) (z_2023) := (by rw [ePw_2103]; exact ri9_at _ _ _)
              have hi_2106 : Pw_2103.ia qz = Pw_2083.ia qz := (by rw [ePw_2103]; exact ri9_of _ _ (kd_ne hy_2090 hy_2089 (by decide)))
              have hy_2107 : Pw_2103.kd xp = 15 := (by rw [ePw_2103]; exact hy_2087)
              have : Pw_2103.pt xp = Pw_2083.pt xp := (by rw [ePw_2103]; rfl)
              have : Pw_2103.pn xp = Pw_2083.pn xp := (by rw [ePw_2103]; rfl)
              have : Pw_2103.pg xp = Pw_2083.pg xp := (by rw [ePw_2103]; rfl)
              have hy_2108 : Pw_2103.kd qp = 40 := (by rw [ePw_2103]; exact hy_2088)
              have hy_2109 : Pw_2103.kd qu = 41 := (by rw [ePw_2103]; exact hy_2089)
              have hy_2110 : Pw_2103.kd qz = 42 := (by rw [ePw_2103]; exact hy_2090)
              have hc_2111 : Pw_2103.ac qp = cI := (by rw [ePw_2103]; exact hc_2091)
              have : Pw_2103.an qp = Pw_2083.an qp := (by rw [ePw_2103]; rfl)
              have hc_2112 : Pw_2103.ac qu = cI := (by rw [ePw_2103]; exact hc_2092)
              have : Pw_2103.an qu = Pw_2083.an qu := (by rw [ePw_2103]; rfl)
              have hc_2113 : Pw_2103.ac qz = cZ := (by rw [ePw_2103]; exact hc_2093)
              have : Pw_2103.an qz = Pw_2083.an qz := (by rw [ePw_2103]; rfl)
              have ha_2114 : Pw_2103.pp xp = qp := (by rw [ePw_2103]; exact ha_2094)
              have ha_2115 : Pw_2103.pu xp = qu := (by rw [ePw_2103]; exact ha_2095)
              have ha_2116 : Pw_2103.pr xp = qz := (by rw [ePw_2103]; exact ha_2096)
              have ho_2117 : Pw_2103.ow qp = xp := (by rw [ePw_2103]; exact ho_2097)
              have ho_2118 : Pw_2103.ow qu = xp := (by rw [ePw_2103]; exact ho_2098)
              have ho_2119 : Pw_2103.ow qz = xp := (by rw [ePw_2103]; exact ho_2099)
              refine lv_iinc (v := zI (d2_2 + 1)) (lv' := [(2, .int (zI (d2_2 + 1))), (3, .int (zI (z_2023))), (0, .ref h0), (1, .ref xp)]) hx hb dX19_resolve__78 hl (k := 3) rfl (zI_add (d2_2) (1)) (by decide) rfl (fun ls hl => ?_)
              refine lv_goto (tgt := 2) hx hb dX19_resolve__81 (by decide) ?_
              exact ih2 (d2_2 + 1) Pw_2103 ls H _ (by omega) (wP2.trans (wPw_2083.trans (wPw_2103))) (by omega) (fun i a b => by rw [hi_2104, hi_2084, hi_2105, hi_2085, hi_2106, hi_2086]; exact EF.two (j := d2_2) (by have q9 := jef2 (d2_2) (by omega) (by omega); unfold EF at q9 ⊢; omega) (fun _ => jef2 i a b)) (by rw [hi_2104, hi_2084]; exact jq2) (by omega) (lv_sub hl [2, 3, 0] rfl) hP hD hS
            · have yb64 : ¬ (a19_replaced (z_2023) : Int) = (0 : Int) := fun q => b64 ((zI_eq (a := a19_replaced (z_2023)) (b := 0) (by omega) (by omega) (by omega) (by omega)).mpr q)
              refine lv_aload_n hx hb dX19_resolve__67 rfl (lv_at hl 1 rfl) ?_
              refine va_get (D := (dC, dI)) (ci := 16) (v := .ref q_1914) (C := RX19) (T := TX19) (N := 41) hx hb hts mem_P19_resolvePhi_2 hown hK hP 0 rfl rfl 14 (by decide) (ow (k := 8) rfl) (fun _ h9 => h9) rfl dX19_resolve__68 ?_
              refine lv_iload_n hx hb dX19_resolve__71 rfl (lv_at hl 0 rfl) ?_
              refine va_iald hx hb hK hP 3 5 rfl rfl (zI_in (a := z_2023) (n := 1002) (by omega) (by omega) (by decide)) dX19_resolve__72 ?_
              refine lv_topi (fun z ez => ?_)
              obtain rfl : z = zI (a19_by (z_2023)) := ez.trans (zI_ld (a19_by) (by omega) (by omega))
              have k5 := hR_a19_by (z_2023)
              refine lv_goto (tgt := 77) hx hb dX19_resolve__73 (by decide) ?_
              obtain ⟨kp_2120, gkp_2120⟩ := va_pl_get (X := [(h0, .inr (16, [v19_0, v19_1, v19_2, v19_3, v19_4, v19_5, v19_6, v19_7, v19_8, v19_9, v19_10, v19_11, .ref q_1912, .ref q_1913, .ref q_1914, v19_15, v19_16, v19_17, v19_18, v19_19, v19_20, v19_21, v19_22, v19_23, v19_24, v19_25, v19_26, v19_27, v19_28, v19_29, v19_30, v19_31, v19_32, v19_33, v19_34, v19_35, v19_36, v19_37, v19_38, v19_39, v19_40])), (q_1912, .inl (cA_1912, 1002, .inl (fun j : Nat => zI (a19_replaced (j : Int))))), (q_1913, .inl (cA_1913, 1002, .inl (fun j : Nat => zI (a19_byReg (j : Int))))), (q_1914, .inl (cA_1914, 1002, .inl (fun j : Nat => zI (a19_by (j : Int)))))]) (f := pE Pw_2083) hoqu.1
              have hkp_2120 := gkp_2120
              rw [pE_n41 hy_2089, hc_2092] at hkp_2120
              have hD0 := hD
              refine va_iast (i := zI (d2_2)) hx hb hK hP hD hS kp_2120 1 hkp_2120 rfl (zI_in (a := d2_2) (n := Pw_2083.an qu) (by omega) (by omega) (by omega)) dX19_resolve__77 (fun H locs hP hD hS => ?_)
              obtain ⟨Pw_2121, ePw_2121⟩ : ∃ q9 : PO, q9 = Pw_2083.ri9 qu (zup (Pw_2083.ia qu) (d2_2) (a19_by (z_2023))) := ⟨_, rfl⟩
              have eQ : upd (fun j : Nat => zI (Pw_2083.ia qu (j : Int))) (zI (d2_2)).toNatClampNeg (zI (a19_by (z_2023))) = (fun j : Nat => zI ((zup (Pw_2083.ia qu) (d2_2) (a19_by (z_2023))) (j : Int))) := zI_st (Pw_2083.ia qu) (e := d2_2) (v := a19_by (z_2023)) (by omega) (by omega)
              have eU : (([(h0, .inr (16, [v19_0, v19_1, v19_2, v19_3, v19_4, v19_5, v19_6, v19_7, v19_8, v19_9, v19_10, v19_11, .ref q_1912, .ref q_1913, .ref q_1914, v19_15, v19_16, v19_17, v19_18, v19_19, v19_20, v19_21, v19_22, v19_23, v19_24, v19_25, v19_26, v19_27, v19_28, v19_29, v19_30, v19_31, v19_32, v19_33, v19_34, v19_35, v19_36, v19_37, v19_38, v19_39, v19_40])), (q_1912, .inl (cA_1912, 1002, .inl (fun j : Nat => zI (a19_replaced (j : Int))))), (q_1913, .inl (cA_1913, 1002, .inl (fun j : Nat => zI (a19_byReg (j : Int))))), (q_1914, .inl (cA_1914, 1002, .inl (fun j : Nat => zI (a19_by (j : Int)))))] : va_W) ++ va_pl L (pE Pw_2083)).set kp_2120 (qu, (.inl (cI, Pw_2083.an qu, .inl (upd (fun j : Nat => zI (Pw_2083.ia qu (j : Int))) (zI (d2_2)).toNatClampNeg (zI (a19_by (z_2023))))) : va_E)) = ([(h0, .inr (16, [v19_0, v19_1, v19_2, v19_3, v19_4, v19_5, v19_6, v19_7, v19_8, v19_9, v19_10, v19_11, .ref q_1912, .ref q_1913, .ref q_1914, v19_15, v19_16, v19_17, v19_18, v19_19, v19_20, v19_21, v19_22, v19_23, v19_24, v19_25, v19_26, v19_27, v19_28, v19_29, v19_30, v19_31, v19_32, v19_33, v19_34, v19_35, v19_36, v19_37, v19_38, v19_39, v19_40])), (q_1912, .inl (cA_1912, 1002, .inl (fun j : Nat => zI (a19_replaced (j : Int))))), (q_1913, .inl (cA_1913, 1002, .inl (fun j : Nat => zI (a19_byReg (j : Int))))), (q_1914, .inl (cA_1914, 1002, .inl (fun j : Nat => zI (a19_by (j : Int)))))] : va_W) ++ va_pl L (pE Pw_2121) := (by rw [eQ, va_pl_set hD0 hoqu.1 gkp_2120, ePw_2121]; exact congrArg (fun f9 => ([(h0, .inr (16, [v19_0, v19_1, v19_2, v19_3, v19_4, v19_5, v19_6, v19_7, v19_8, v19_9, v19_10, v19_11, .ref q_1912, .ref q_1913, .ref q_1914, v19_15, v19_16, v19_17, v19_18, v19_19, v19_20, v19_21, v19_22, v19_23, v19_24, v19_25, v19_26, v19_27, v19_28, v19_29, v19_30, v19_31, v19_32, v19_33, v19_34, v19_35, v19_36, v19_37, v19_38, v19_39, v19_40])), (q_1912, .inl (cA_1912, 1002, .inl (fun j : Nat => zI (a19_replaced (j : Int))))), (q_1913, .inl (cA_1913, 1002, .inl (fun j : Nat => zI (a19_byReg (j : Int))))), (q_1914, .inl (cA_1914, 1002, .inl (fun j : Nat => zI (a19_by (j : Int)))))] : va_W) ++ va_pl L f9) (by have h9 := putnum (P := Pw_2083) (x := qu) (a := zup (Pw_2083.ia qu) (d2_2) (a19_by (z_2023))) (by omega); rw [hc_2092] at h9; exact h9))
              have hP : va_P (dC, dI) vwQ ([(h0, .inr (16, [v19_0, v19_1, v19_2, v19_3, v19_4, v19_5, v19_6, v19_7, v19_8, v19_9, v19_10, v19_11, .ref q_1912, .ref q_1913, .ref q_1914, v19_15, v19_16, v19_17, v19_18, v19_19, v19_20, v19_21, v19_22, v19_23, v19_24, v19_25, v19_26, v19_27, v19_28, v19_29, v19_30, v19_31, v19_32, v19_33, v19_34, v19_35, v19_36, v19_37, v19_38, v19_39, v19_40])), (q_1912, .inl (cA_1912, 1002, .inl (fun j : Nat => zI (a19_replaced (j : Int))))), (q_1913, .inl (cA_1913, 1002, .inl (fun j : Nat => zI (a19_byReg (j : Int))))), (q_1914, .inl (cA_1914, 1002, .inl (fun j : Nat => zI (a19_by (j : Int)))))] ++ va_pl L (pE Pw_2121)) H := (by rw [← eU]; exact hP)
              have hD : va_D A ([(h0, .inr (16, [v19_0, v19_1, v19_2, v19_3, v19_4, v19_5, v19_6, v19_7, v19_8, v19_9, v19_10, v19_11, .ref q_1912, .ref q_1913, .ref q_1914, v19_15, v19_16, v19_17, v19_18, v19_19, v19_20, v19_21, v19_22, v19_23, v19_24, v19_25, v19_26, v19_27, v19_28, v19_29, v19_30, v19_31, v19_32, v19_33, v19_34, v19_35, v19_36, v19_37, v19_38, v19_39, v19_40])), (q_1912, .inl (cA_1912, 1002, .inl (fun j : Nat => zI (a19_replaced (j : Int))))), (q_1913, .inl (cA_1913, 1002, .inl (fun j : Nat => zI (a19_byReg (j : Int))))), (q_1914, .inl (cA_1914, 1002, .inl (fun j : Nat => zI (a19_by (j : Int)))))] ++ va_pl L (pE Pw_2121)) := (by rw [← eU]; exact hD)
              clear eU eQ hD0 gkp_2120 hkp_2120
              have wPw_2121 : PH1 xp Pw_2083 Pw_2121 := (by rw [ePw_2121]; exact PH1.num ho_2098)
              have hi_2122 : Pw_2121.ia qp = Pw_2083.ia qp := (by rw [ePw_2121]; exact ri9_of _ _ (kd_ne hy_2088 hy_2089 (by decide)))
              have hi_2123 : Pw_2121.ia qu = zup (Pw_2083.ia qu) (d2_2) (a19_by (z_2023)) := (by rw [ePw_2121]; exact ri9_at _ _ _)
              have hi_2124 : Pw_2121.ia qz = Pw_2083.ia qz := (by rw [ePw_2121]; exact ri9_of _ _ (kd_ne hy_2090 hy_2089 (by decide)))
              have hy_2125 : Pw_2121.kd xp = 15 := (by rw [ePw_2121]; exact hy_2087)
              have : Pw_2121.pt xp = Pw_2083.pt xp := (by rw [ePw_2121]; rfl)
              have : Pw_2121.pn xp = Pw_2083.pn xp := (by rw [ePw_2121]; rfl)
              have : Pw_2121.pg xp = Pw_2083.pg xp := (by rw [ePw_2121]; rfl)
              have hy_2126 : Pw_2121.kd qp = 40 := (by rw [ePw_2121]; exact hy_2088)
              have hy_2127 : Pw_2121.kd qu = 41 := (by rw [ePw_2121]; exact hy_2089)
              have hy_2128 : Pw_2121.kd qz = 42 := (by rw [ePw_2121]; exact hy_2090)
              have hc_2129 : Pw_2121.ac qp = cI := (by rw [ePw_2121]; exact hc_2091)
              have : Pw_2121.an qp = Pw_2083.an qp := (by rw [ePw_2121]; rfl)
              have hc_2130 : Pw_2121.ac qu = cI := (by rw [ePw_2121]; exact hc_2092)
              have : Pw_2121.an qu = Pw_2083.an qu := (by rw [ePw_2121]; rfl)
              have hc_2131 : Pw_2121.ac qz = cZ := (by rw [ePw_2121]; exact hc_2093)
              have : Pw_2121.an qz = Pw_2083.an qz := (by rw [ePw_2121]; rfl)
              have ha_2132 : Pw_2121.pp xp = qp := (by rw [ePw_2121]; exact ha_2094)
              have ha_2133 : Pw_2121.pu xp = qu := (by rw [ePw_2121]; exact ha_2095)
              have ha_2134 : Pw_2121.pr xp = qz := (by rw [ePw_2121]; exact ha_2096)
              have ho_2135 : Pw_2121.ow qp = xp := (by rw [ePw_2121]; exact ho_2097)
              have ho_2136 : Pw_2121.ow qu = xp := (by rw [ePw_2121]; exact ho_2098)
              have ho_2137 : Pw_2121.ow qz = xp := (by rw [ePw_2121]; exact ho_2099)
              refine lv_iinc (v := zI (d2_2 + 1)) (lv' := [(2, .int (zI (d2_2 + 1))), (3, .int (zI (z_2023))), (0, .ref h0), (1, .ref xp)]) hx hb dX19_resolve__78 hl (k := 3) rfl (zI_add (d2_2) (1)) (by decide) rfl (fun ls hl => ?_)
              refine lv_goto (tgt := 2) hx hb dX19_resolve__81 (by decide) ?_
              exact ih2 (d2_2 + 1) Pw_2121 ls H _ (by omega) (wP2.trans (wPw_2083.trans (wPw_2121))) (by omega) (fun i a b => by rw [hi_2122, hi_2084, hi_2123, hi_2085, hi_2124, hi_2086]; exact EF.two (j := d2_2) (by have q9 := jef2 (d2_2) (by omega) (by omega); unfold EF at q9 ⊢; omega) (fun _ => jef2 i a b)) (by rw [hi_2122, hi_2084]; exact jq2) (by omega) (lv_sub hl [2, 3, 0] rfl) hP hD hS
        · have yb16 : (P2.ia qz (d2_2) : Int) = (0 : Int) := (zI_eq (a := P2.ia qz (d2_2)) (b := 0) (by omega) (by omega) (by omega) (by omega)).mp b16
          refine lv_goto (tgt := 78) hx hb dX19_resolve__19 (by decide) ?_
          refine lv_iinc (v := zI (d2_2 + 1)) (lv' := [(2, .int (zI (d2_2 + 1))), (0, .ref h0), (1, .ref xp)]) hx hb dX19_resolve__78 hl (k := 2) rfl (zI_add (d2_2) (1)) (by decide) rfl (fun ls hl => ?_)
          refine lv_goto (tgt := 2) hx hb dX19_resolve__81 (by decide) ?_
          exact ih2 (d2_2 + 1) P2 ls H _ (by omega) (wP2) (by omega) jef2 jq2 (by omega) (lv_sub hl [1, 2, 0] rfl) hP hD hS
  exact key2 ((P.pn xp - 0 : Int).toNat + 1) 0 P ls H _ (by omega) (PH1.refl _ _) (by omega) hpa (PQ9.refl _ _) (by omega) (lv_sub hl [1, 2, 0] rfl) hP hD hS
