def o_PP_dropE : List Cond := [.fieldLink RX15 24 "SsaForgeModel$Phi" "n" "I", .fieldLink RX15 7 "SsaForgeModel$Phi" "preds" "[I", .fieldLink RX15 13 "SsaForgeModel$Phi" "operands" "[I", .fieldLink RX15 16 "SsaForgeModel$Phi" "regs" "[Z"]
def v_PP_dropE : List Cond := .code yX15_drop cX15_drop 3 none :: (o_PP_dropE ++ (wsX150 ++ []))
theorem mow_PP_dropE : ∀ w ∈ o_PP_dropE, w ∈ v_PP_dropE := fun _ h => List.mem_cons_of_mem _ (List.mem_append_left _ h)
theorem mem_PP_dropE_0 : ∀ w ∈ wsX150, w ∈ v_PP_dropE := fun _ h => List.mem_cons_of_mem _ (List.mem_append_right _ (List.mem_append_left _ h))
set_option maxRecDepth 20000 in
theorem gw_PP_dropE : v_PP_dropE.all goodWord = true := by decide +kernel
set_option maxHeartbeats 4000000 in
set_option maxRecDepth 100000 in
theorem c_PP_dropE (l : Launch) (dC : Nat → ClassId) (dI : Nat → Nat → Nat) (cO : ClassId) (cI : ClassId) (cZ : ClassId) (L : List Nat) (P : PO) (xp : Nat) (k0 : Int) (hX_p : PIK L P cI cZ xp) (hNk : 0 ≤ k0 ∧ k0 < P.pn xp) (sz : Nat) : Met l yX15_drop v_PP_dropE ({ frames := 0, cells := 0, slots := 0, locals := 0 }) (va_Pc [.ref xp, .int (zI (k0))] (fun U => U.heap.size = sz ∧ va_P (dC, dI) vwQ ([] ++ va_pl L (pE P)) U.heap ∧ va_K (dC, dI) vwQ [(cO, .object "java/lang/Object"), (cI, .int), (cZ, .boolean)] U ∧ va_D (fun _ => True) ([] ++ va_pl L (pE P)))) (va_Qv (fun _ : Unit => True) (fun (_ : Unit) (t : State) => ∃ (Pn_9 : PO), ((PH1 xp P Pn_9 ∧ PIK L Pn_9 cI cZ xp ∧ Pn_9.pn xp = P.pn xp - 1 ∧ (Pn_9.pt xp = P.pt xp ∧ Pn_9.pg xp = P.pg xp ∧ PDX P Pn_9 xp k0) ∧ PRQ xp P Pn_9)) ∧ va_P (dC, dI) vwQ ([] ++ va_pl L (pE Pn_9)) t.heap ∧ va_K (dC, dI) vwQ [(cO, .object "java/lang/Object"), (cI, .int), (cZ, .boolean)] t ∧ va_D (va_A ([] ++ va_pl L (pE P)) sz) ([] ++ va_pl L (pE Pn_9))) (va_A ([] ++ va_pl L (pE P)) sz)) 0 0 (va_A ([] ++ va_pl L (pE P)) sz) := by
  refine Met.ofW (cc := cX15_drop) (maxL := 3) (ret := none) (by decide) rfl ?_
  intro p e s m args below meth c s₁ B hml hv
  obtain ⟨rfl, hsz, hP, hK, hD0⟩ := hv
  have hx := B.exec
  have hb := B.bytes
  have hr := B.returns
  have hts := atoms_spec (ws := v_PP_dropE) B.pre
  have hown : s.vm.findClass RX15 = some m.cls := findClass_of_methodNamed B.named
  have hlocks := B.notSynchronized
  have ow : ∀ {k : Nat} {w : Cond}, o_PP_dropE[k]? = some w → w.before ([.ref xp, .int (zI (k0))] : List Value).toArray s = true := fun h => hts _ (mow_PP_dropE _ (List.mem_of_getElem? h))
  subst hsz
  have hD := hD0.self (sz := s.heap.size)
  generalize hAe : va_A ([] ++ va_pl L (pE P)) s.heap.size = A at hD ⊢
  have hA : ∀ q : Nat, s.heap.size ≤ q → A q := fun q h => by rw [← hAe]; exact Or.inr h
  have hS : va_S A s.heap s.heap [] := va_S.rf
  have hP : va_P (dC, dI) vwQ ([] ++ va_pl L (pE P)) s.heap := hP
  have hl := lv_entry ([.ref xp, .int (zI (k0))]) (n := 3) (Nat.le_of_ble_eq_true rfl)
  rw [lg_entry_eq]
  generalize (lg_sl ([.ref xp, .int (zI (k0))]) ++ List.replicate (3 - (lg_sl ([.ref xp, .int (zI (k0))])).length) Slot.unset).toArray = ls at hl ⊢
  have hl : lv_has ls 3 [(0, .ref xp), (1, .int (zI (k0)))] := hl
  obtain ⟨H, hH⟩ : ∃ H, H = s.heap := ⟨_, rfl⟩
  rw [← hH] at hP
  have hS : va_S A s.heap H [] := by rw [hH]; exact hS
  rw [← hH]
  refine zW_cap (fun Q hQ => ?_)
  obtain ⟨qp, eqp⟩ : ∃ q9 : Nat, P.pp xp = q9 := ⟨_, rfl⟩
  have hoqp : qp ∈ L ∧ P.kd qp = 40 ∧ P.ac qp = cI ∧ P.ow qp = xp := (by rw [← eqp]; exact hX_p.2.1)
  have hnqp : P.an qp = P.an (P.pp xp) := (by rw [eqp])
  obtain ⟨qu, equ⟩ : ∃ q9 : Nat, P.pu xp = q9 := ⟨_, rfl⟩
  have hoqu : qu ∈ L ∧ P.kd qu = 41 ∧ P.ac qu = cI ∧ P.ow qu = xp := (by rw [← equ]; exact hX_p.2.2.1)
  have hnqu : P.an qu = P.an (P.pu xp) := (by rw [equ])
  obtain ⟨qz, eqz⟩ : ∃ q9 : Nat, P.pr xp = q9 := ⟨_, rfl⟩
  have hoqz : qz ∈ L ∧ P.kd qz = 42 ∧ P.ac qz = cZ ∧ P.ow qz = xp := (by rw [← eqz]; exact hX_p.2.2.2.1)
  have hnqz : P.an qz = P.an (P.pr xp) := (by rw [eqz])
  have hpn := hX_p.2.2.2.2.1
  have hpt := hX_p.2.2.2.2.2.1
  have hpa : ∀ i : Int, 0 ≤ i → i < P.pn xp → EF (P.ia qp i) (P.ia qu i) (P.ia qz i) := (fun i a b => by have q9 := hX_p.ef a b; unfold PEF at q9; rw [eqp, equ, eqz] at q9; exact q9)
  refine lv_aload_n hx hb dX15_drop_0 rfl (lv_at hl 0 rfl) ?_
  refine lv_dup hx hb dX15_drop_1 rfl ?_
  obtain ⟨kp_1, hkp_1⟩ := va_pl_get (X := []) (f := pE P) hX_p.1.1
  rw [pE_phi hX_p.1.2] at hkp_1
  refine va_get (D := (dC, dI)) (ci := 20) (v := .int (zI (P.pn xp))) (C := RX15) (T := TX15) (N := 6) hx hb hts mem_PP_dropE_0 hown hK hP kp_1 hkp_1 rfl 1 (by decide) (ow (k := 0) rfl) (fun _ h9 => h9) rfl dX15_drop_2 ?_
  refine lv_iconst (v := 1) hx hb dX15_drop_5 (by decide) ?_
  refine lv_isub hx hb dX15_drop_6 ?_
  refine lv_topi (fun z ez => ?_)
  obtain rfl : z = zI ((P.pn xp) - 1) := ez.trans (zI_sub (P.pn xp) (1))
  obtain ⟨kp_2, gkp_2⟩ := va_pl_get (X := []) (f := pE P) hX_p.1.1
  have hkp_2 := gkp_2
  rw [pE_phi hX_p.1.2] at hkp_2
  have hD0 := hD
  refine va_put (D := (dC, dI)) (ci := 20) (v := .int (zI ((P.pn xp) - 1))) (ty := .int) (C := RX15) (T := TX15) (N := 6) hx hb hts mem_PP_dropE_0 tyX15 tyX15_ok nmX15 hown hK hP hD hS kp_2 hkp_2 rfl 1 (by decide) (ow (k := 0) rfl) (fun _ h9 => h9) rfl (by decide +kernel) rfl rfl (Nat.le_of_ble_eq_true rfl) dX15_drop_7 (fun H locs hP hD hS => ?_)
  obtain ⟨Pw_3, ePw_3⟩ : ∃ q9 : PO, q9 = P.rw9 1 xp ((P.pn xp) - 1) := ⟨_, rfl⟩
  have eU : (([] : va_W) ++ va_pl L (pE P)).set kp_2 (xp, phiE (P.pt xp) ((P.pn xp) - 1) (P.pp xp) (P.pu xp) (P.pr xp) (P.pg xp)) = ([] : va_W) ++ va_pl L (pE Pw_3) := (by rw [va_pl_set hD0 hX_p.1.1 gkp_2, ePw_3]; exact congrArg (fun f9 => ([] : va_W) ++ va_pl L f9) (put15_1 hX_p.1.2))
  have hP : va_P (dC, dI) vwQ ([] ++ va_pl L (pE Pw_3)) H := (by rw [← eU]; exact hP)
  have hD : va_D A ([] ++ va_pl L (pE Pw_3)) := (by rw [← eU]; exact hD)
  clear eU hD0 gkp_2 hkp_2
  have wPw_3 : PH1 xp P Pw_3 := (by rw [ePw_3]; exact PH1.put _ _ _ _)
  have hy_4 : Pw_3.kd xp = 15 := (by rw [ePw_3]; exact hX_p.1.2)
  have : Pw_3.pt xp = P.pt xp := (by rw [ePw_3]; exact rw9_of _ (by decide))
  have : Pw_3.pn xp = (P.pn xp) - 1 := (by rw [ePw_3]; exact rw9_at _ _ _ _)
  have : Pw_3.pg xp = P.pg xp := (by rw [ePw_3]; exact rw9_of _ (by decide))
  have hy_5 : Pw_3.kd qp = 40 := (by rw [ePw_3]; exact hoqp.2.1)
  have hy_6 : Pw_3.kd qu = 41 := (by rw [ePw_3]; exact hoqu.2.1)
  have hy_7 : Pw_3.kd qz = 42 := (by rw [ePw_3]; exact hoqz.2.1)
  have hc_8 : Pw_3.ac qp = cI := (by rw [ePw_3]; exact hoqp.2.2.1)
  have : Pw_3.an qp = P.an qp := (by rw [ePw_3]; rfl)
  have hc_9 : Pw_3.ac qu = cI := (by rw [ePw_3]; exact hoqu.2.2.1)
  have : Pw_3.an qu = P.an qu := (by rw [ePw_3]; rfl)
  have hc_10 : Pw_3.ac qz = cZ := (by rw [ePw_3]; exact hoqz.2.2.1)
  have : Pw_3.an qz = P.an qz := (by rw [ePw_3]; rfl)
  have ha_11 : Pw_3.pp xp = qp := (by rw [ePw_3]; exact eqp)
  have ha_12 : Pw_3.pu xp = qu := (by rw [ePw_3]; exact equ)
  have ha_13 : Pw_3.pr xp = qz := (by rw [ePw_3]; exact eqz)
  have ho_14 : Pw_3.ow qp = xp := (by rw [ePw_3]; exact hoqp.2.2.2)
  have ho_15 : Pw_3.ow qu = xp := (by rw [ePw_3]; exact hoqu.2.2.2)
  have ho_16 : Pw_3.ow qz = xp := (by rw [ePw_3]; exact hoqz.2.2.2)
  refine lv_iload_n hx hb dX15_drop_10 rfl (lv_at hl 1 rfl) ?_
  refine lv_istore_n (lv' := [(2, .int (zI (k0))), (0, .ref xp), (1, .int (zI (k0)))]) hx hb dX15_drop_11 rfl hl (by decide) rfl (fun ls hl => ?_)
  have key12 : ∀ n12 : Nat, ∀ (d12_2 : Int) (P12 : PO) (ls : Array Slot) (H : Heap) (locs : List Loc), (k0 ≤ d12_2 ∧ 0 ≤ d12_2 ∧ d12_2 ≤ P.pn xp - 1) → (PH1 xp P P12) → (P12.pn xp = P.pn xp - 1 ∧ P12.pt xp = P.pt xp ∧ P12.pg xp = P.pg xp) → (∀ i : Int, 0 ≤ i → i < P.pn xp → EF (P12.ia qp i) (P12.ia qu i) (P12.ia qz i)) → (PQ9 (P.ia qp) (P12.ia qp) (P.pn xp)) → (SHF (P.ia qp) (P12.ia qp) k0 (d12_2)) → (SHF (P.ia qu) (P12.ia qu) k0 (d12_2)) → (SHF (P.ia qz) (P12.ia qz) k0 (d12_2)) → ((P.pn xp - d12_2 : Int).toNat) < n12 → lv_has ls 3 [(0, .ref xp), (1, .int (zI (k0))), (2, .int (zI (d12_2)))] → va_P (dC, dI) vwQ ([] ++ va_pl L (pE P12)) H → va_D A ([] ++ va_pl L (pE P12)) → va_S A s.heap H locs → W p l e (headSpec v_PP_dropE ({ frames := 0, cells := 0, slots := 0, locals := 0 })).room s m ([.ref xp, .int (zI (k0))] : List Value).toArray below meth c H locs 0 0 Q (F0 m 12 ls []) := by
    intro n12
    induction n12 with
    | zero => intro d12_2 P12 ls H locs jd12_2 wP12 jn jef jq jsqp jsqu jsqz hm12; exact absurd hm12 (by omega)
    | succ n12 ih12 =>
      intro d12_2 P12 ls H locs jd12_2 wP12 jn jef jq jsqp jsqu jsqz hm12 hl hP hD hS
      have hy_17 : P12.kd xp = 15 := (congrFun (congrFun wP12.1.1 0) xp).trans hX_p.1.2
      have hy_18 : P12.kd qp = 40 := (congrFun (congrFun wP12.1.1 0) qp).trans hoqp.2.1
      have hy_19 : P12.kd qu = 41 := (congrFun (congrFun wP12.1.1 0) qu).trans hoqu.2.1
      have hy_20 : P12.kd qz = 42 := (congrFun (congrFun wP12.1.1 0) qz).trans hoqz.2.1
      have hc_21 : P12.ac qp = cI := (congrFun wP12.1.2.2 qp).trans hoqp.2.2.1
      have : P12.an qp = P.an qp := congrFun (congrFun wP12.1.1 1) qp
      have hc_22 : P12.ac qu = cI := (congrFun wP12.1.2.2 qu).trans hoqu.2.2.1
      have : P12.an qu = P.an qu := congrFun (congrFun wP12.1.1 1) qu
      have hc_23 : P12.ac qz = cZ := (congrFun wP12.1.2.2 qz).trans hoqz.2.2.1
      have : P12.an qz = P.an qz := congrFun (congrFun wP12.1.1 1) qz
      have ha_24 : P12.pp xp = qp := (congrFun (congrFun wP12.1.1 1) xp).trans eqp
      have ha_25 : P12.pu xp = qu := (congrFun (congrFun wP12.1.1 2) xp).trans equ
      have ha_26 : P12.pr xp = qz := (congrFun (congrFun wP12.1.1 3) xp).trans eqz
      have ho_27 : P12.ow qp = xp := (congrFun (congrFun wP12.1.1 9) qp).trans hoqp.2.2.2
      have ho_28 : P12.ow qu = xp := (congrFun (congrFun wP12.1.1 9) qu).trans hoqu.2.2.2
      have ho_29 : P12.ow qz = xp := (congrFun (congrFun wP12.1.1 9) qz).trans hoqz.2.2.2
      have hj9 := wP12
      refine lv_iload_n hx hb dX15_drop_12 rfl (lv_at hl 2 rfl) ?_
      refine lv_aload_n hx hb dX15_drop_13 rfl (lv_at hl 0 rfl) ?_
      obtain ⟨kp_30, hkp_30⟩ := va_pl_get (X := []) (f := pE P12) hX_p.1.1
      rw [pE_phi hy_17] at hkp_30
      refine va_get (D := (dC, dI)) (ci := 20) (v := .int (zI (P12.pn xp))) (C := RX15) (T := TX15) (N := 6) hx hb hts mem_PP_dropE_0 hown hK hP kp_30 hkp_30 rfl 1 (by decide) (ow (k := 0) rfl) (fun _ h9 => h9) rfl dX15_drop_14 ?_
      refine lv_icmp_ge (tgt := 68) hx hb dX15_drop_17 (by decide) (fun b17 => ?_) (fun b17 => ?_)
      · have yb17 : (P12.pn xp : Int) ≤ (d12_2 : Int) := (zI_le (a := P12.pn xp) (b := d12_2) (by omega) (by omega) (by omega) (by omega)).mp b17
        subst hQ
        refine W.widen (k := 0) (n := 0) (Nat.le_of_ble_eq_true rfl) (Nat.le_of_ble_eq_true rfl) ?_
        exact W.vret hx hb hr (fun t ht hW => ⟨⟨(), rfl, trivial, P12, ⟨wP12, hX_p.of wP12 (by omega) (by omega) (by omega) (fun i a b => by unfold PEF; rw [ha_24, ha_25, ha_26]; exact jef i a (by omega)), by omega, ⟨by omega, by omega, by omega, (by rw [eqp, show P.pn xp - 1 = d12_2 from (by omega)]; exact jsqp), (by rw [equ, show P.pn xp - 1 = d12_2 from (by omega)]; exact jsqu), (by rw [eqz, show P.pn xp - 1 = d12_2 from (by omega)]; exact jsqz)⟩, (fun n h i a b => by rw [ha_24]; exact jq n (fun i a b => by have q9 := h i a b; rw [eqp] at q9; exact q9) i a (by omega))⟩, by rw [ht]; exact hP, va_K.moved hW.alike hK, hD⟩, hS.F ht⟩) hS.2.2 dX15_drop_68
      · have yb17 : ¬ (P12.pn xp : Int) ≤ (d12_2 : Int) := fun q => b17 ((zI_le (a := P12.pn xp) (b := d12_2) (by omega) (by omega) (by omega) (by omega)).mpr q)
        refine lv_aload_n hx hb dX15_drop_20 rfl (lv_at hl 0 rfl) ?_
        obtain ⟨kp_31, hkp_31⟩ := va_pl_get (X := []) (f := pE P12) hX_p.1.1
        rw [pE_phi hy_17] at hkp_31
        refine va_get (D := (dC, dI)) (ci := 20) (v := .ref (P12.pp xp)) (C := RX15) (T := TX15) (N := 6) hx hb hts mem_PP_dropE_0 hown hK hP kp_31 hkp_31 rfl 2 (by decide) (ow (k := 1) rfl) (fun _ h9 => h9) rfl dX15_drop_21 ?_
        obtain ⟨pr_32, epr_32⟩ : ∃ q9 : Nat, q9 = P12.pp xp := ⟨_, rfl⟩
        rw [← epr_32]
        obtain rfl : qp = pr_32 := (by rw [epr_32]; exact ha_24.symm)
        refine lv_iload_n hx hb dX15_drop_24 rfl (lv_at hl 2 rfl) ?_
        refine lv_aload_n hx hb dX15_drop_25 rfl (lv_at hl 0 rfl) ?_
        obtain ⟨kp_33, hkp_33⟩ := va_pl_get (X := []) (f := pE P12) hX_p.1.1
        rw [pE_phi hy_17] at hkp_33
        refine va_get (D := (dC, dI)) (ci := 20) (v := .ref (P12.pp xp)) (C := RX15) (T := TX15) (N := 6) hx hb hts mem_PP_dropE_0 hown hK hP kp_33 hkp_33 rfl 2 (by decide) (ow (k := 1) rfl) (fun _ h9 => h9) rfl dX15_drop_26 ?_
        obtain ⟨pr_34, epr_34⟩ : ∃ q9 : Nat, q9 = P12.pp xp := ⟨_, rfl⟩
        rw [← epr_34]
        obtain rfl : qp = pr_34 := (by rw [epr_34]; exact ha_24.symm)
        refine lv_iload_n hx hb dX15_drop_29 rfl (lv_at hl 2 rfl) ?_
        refine lv_iconst (v := 1) hx hb dX15_drop_30 (by decide) ?_
        refine lv_iadd hx hb dX15_drop_31 ?_
        refine lv_topi (fun z ez => ?_)
        obtain rfl : z = zI (d12_2 + 1) := ez.trans (zI_add (d12_2) (1))
        obtain ⟨kp_35, hkp_35⟩ := va_pl_get (X := []) (f := pE P12) hoqp.1
        rw [pE_n40 hy_18, hc_21] at hkp_35
        refine va_iald hx hb hK hP kp_35 1 hkp_35 rfl (zI_in (a := d12_2 + 1) (n := P12.an qp) (by omega) (by omega) (by omega)) dX15_drop_32 ?_
        refine lv_topi (fun z ez => ?_)
        obtain rfl : z = zI (P12.ia qp (d12_2 + 1)) := ez.trans (zI_ld (P12.ia qp) (by omega) (by omega))
        obtain ⟨kp_36, gkp_36⟩ := va_pl_get (X := []) (f := pE P12) hoqp.1
        have hkp_36 := gkp_36
        rw [pE_n40 hy_18, hc_21] at hkp_36
        have hD0 := hD
        refine va_iast (i := zI (d12_2)) hx hb hK hP hD hS kp_36 1 hkp_36 rfl (zI_in (a := d12_2) (n := P12.an qp) (by omega) (by omega) (by omega)) dX15_drop_33 (fun H locs hP hD hS => ?_)
        obtain ⟨Pw_37, ePw_37⟩ : ∃ q9 : PO, q9 = P12.ri9 qp (zup (P12.ia qp) (d12_2) (P12.ia qp (d12_2 + 1))) := ⟨_, rfl⟩
        have eQ : upd (fun j : Nat => zI (P12.ia qp (j : Int))) (zI (d12_2)).toNatClampNeg (zI (P12.ia qp (d12_2 + 1))) = (fun j : Nat => zI ((zup (P12.ia qp) (d12_2) (P12.ia qp (d12_2 + 1))) (j : Int))) := zI_st (P12.ia qp) (e := d12_2) (v := P12.ia qp (d12_2 + 1)) (by omega) (by omega)
        have eU : (([] : va_W) ++ va_pl L (pE P12)).set kp_36 (qp, (.inl (cI, P12.an qp, .inl (upd (fun j : Nat => zI (P12.ia qp (j : Int))) (zI (d12_2)).toNatClampNeg (zI (P12.ia qp (d12_2 + 1))))) : va_E)) = ([] : va_W) ++ va_pl L (pE Pw_37) := (by rw [eQ, va_pl_set hD0 hoqp.1 gkp_36, ePw_37]; exact congrArg (fun f9 => ([] : va_W) ++ va_pl L f9) (by have h9 := putnum (P := P12) (x := qp) (a := zup (P12.ia qp) (d12_2) (P12.ia qp (d12_2 + 1))) (by omega); rw [hc_21] at h9; exact h9))
        have hP : va_P (dC, dI) vwQ ([] ++ va_pl L (pE Pw_37)) H := (by rw [← eU]; exact hP)
        have hD : va_D A ([] ++ va_pl L (pE Pw_37)) := (by rw [← eU]; exact hD)
        clear eU eQ hD0 gkp_36 hkp_36
        have wPw_37 : PH1 xp P12 Pw_37 := (by rw [ePw_37]; exact PH1.num ho_27)
        have hi_38 : Pw_37.ia qp = zup (P12.ia qp) (d12_2) (P12.ia qp (d12_2 + 1)) := (by rw [ePw_37]; exact ri9_at _ _ _)
        have hi_39 : Pw_37.ia qu = P12.ia qu := (by rw [ePw_37]; exact ri9_of _ _ (kd_ne hy_19 hy_18 (by decide)))
        have hi_40 : Pw_37.ia qz = P12.ia qz := (by rw [ePw_37]; exact ri9_of _ _ (kd_ne hy_20 hy_18 (by decide)))
        have hy_41 : Pw_37.kd xp = 15 := (by rw [ePw_37]; exact hy_17)
        have : Pw_37.pt xp = P12.pt xp := (by rw [ePw_37]; rfl)
        have : Pw_37.pn xp = P12.pn xp := (by rw [ePw_37]; rfl)
        have : Pw_37.pg xp = P12.pg xp := (by rw [ePw_37]; rfl)
        have hy_42 : Pw_37.kd qp = 40 := (by rw [ePw_37]; exact hy_18)
        have hy_43 : Pw_37.kd qu = 41 := (by rw [ePw_37]; exact hy_19)
        have hy_44 : Pw_37.kd qz = 42 := (by rw [ePw_37]; exact hy_20)
        have hc_45 : Pw_37.ac qp = cI := (by rw [ePw_37]; exact hc_21)
        have : Pw_37.an qp = P12.an qp := (by rw [ePw_37]; rfl)
        have hc_46 : Pw_37.ac qu = cI := (by rw [ePw_37]; exact hc_22)
        have : Pw_37.an qu = P12.an qu := (by rw [ePw_37]; rfl)
        have hc_47 : Pw_37.ac qz = cZ := (by rw [ePw_37]; exact hc_23)
        have : Pw_37.an qz = P12.an qz := (by rw [ePw_37]; rfl)
        have ha_48 : Pw_37.pp xp = qp := (by rw [ePw_37]; exact ha_24)
        have ha_49 : Pw_37.pu xp = qu := (by rw [ePw_37]; exact ha_25)
        have ha_50 : Pw_37.pr xp = qz := (by rw [ePw_37]; exact ha_26)
        have ho_51 : Pw_37.ow qp = xp := (by rw [ePw_37]; exact ho_27)
        have ho_52 : Pw_37.ow qu = xp := (by rw [ePw_37]; exact ho_28)
        have ho_53 : Pw_37.ow qz = xp := (by rw [ePw_37]; exact ho_29)
        refine lv_aload_n hx hb dX15_drop_34 rfl (lv_at hl 0 rfl) ?_
        obtain ⟨kp_54, hkp_54⟩ := va_pl_get (X := []) (f := pE Pw_37) hX_p.1.1
        rw [pE_phi hy_41] at hkp_54
        refine va_get (D := (dC, dI)) (ci := 20) (v := .ref (Pw_37.pu xp)) (C := RX15) (T := TX15) (N := 6) hx hb hts mem_PP_dropE_0 hown hK hP kp_54 hkp_54 rfl 3 (by decide) (ow (k := 2) rfl) (fun _ h9 => h9) rfl dX15_drop_35 ?_
        obtain ⟨pr_55, epr_55⟩ : ∃ q9 : Nat, q9 = Pw_37.pu xp := ⟨_, rfl⟩
        rw [← epr_55]
        obtain rfl : qu = pr_55 := (by rw [epr_55]; exact ha_49.symm)
        refine lv_iload_n hx hb dX15_drop_38 rfl (lv_at hl 2 rfl) ?_
        refine lv_aload_n hx hb dX15_drop_39 rfl (lv_at hl 0 rfl) ?_
        obtain ⟨kp_56, hkp_56⟩ := va_pl_get (X := []) (f := pE Pw_37) hX_p.1.1
        rw [pE_phi hy_41] at hkp_56
        refine va_get (D := (dC, dI)) (ci := 20) (v := .ref (Pw_37.pu xp)) (C := RX15) (T := TX15) (N := 6) hx hb hts mem_PP_dropE_0 hown hK hP kp_56 hkp_56 rfl 3 (by decide) (ow (k := 2) rfl) (fun _ h9 => h9) rfl dX15_drop_40 ?_
        obtain ⟨pr_57, epr_57⟩ : ∃ q9 : Nat, q9 = Pw_37.pu xp := ⟨_, rfl⟩
        rw [← epr_57]
        obtain rfl : qu = pr_57 := (by rw [epr_57]; exact ha_49.symm)
        refine lv_iload_n hx hb dX15_drop_43 rfl (lv_at hl 2 rfl) ?_
        refine lv_iconst (v := 1) hx hb dX15_drop_44 (by decide) ?_
        refine lv_iadd hx hb dX15_drop_45 ?_
        refine lv_topi (fun z ez => ?_)
        obtain rfl : z = zI (d12_2 + 1) := ez.trans (zI_add (d12_2) (1))
        obtain ⟨kp_58, hkp_58⟩ := va_pl_get (X := []) (f := pE Pw_37) hoqu.1
        rw [pE_n41 hy_43, hc_46] at hkp_58
        refine va_iald hx hb hK hP kp_58 1 hkp_58 rfl (zI_in (a := d12_2 + 1) (n := Pw_37.an qu) (by omega) (by omega) (by omega)) dX15_drop_46 ?_
        refine lv_topi (fun z ez => ?_)
        obtain rfl : z = zI (Pw_37.ia qu (d12_2 + 1)) := ez.trans (zI_ld (Pw_37.ia qu) (by omega) (by omega))
        obtain ⟨kp_59, gkp_59⟩ := va_pl_get (X := []) (f := pE Pw_37) hoqu.1
        have hkp_59 := gkp_59
        rw [pE_n41 hy_43, hc_46] at hkp_59
        have hD0 := hD
        refine va_iast (i := zI (d12_2)) hx hb hK hP hD hS kp_59 1 hkp_59 rfl (zI_in (a := d12_2) (n := Pw_37.an qu) (by omega) (by omega) (by omega)) dX15_drop_47 (fun H locs hP hD hS => ?_)
        obtain ⟨Pw_60, ePw_60⟩ : ∃ q9 : PO, q9 = Pw_37.ri9 qu (zup (Pw_37.ia qu) (d12_2) (Pw_37.ia qu (d12_2 + 1))) := ⟨_, rfl⟩
        have eQ : upd (fun j : Nat => zI (Pw_37.ia qu (j : Int))) (zI (d12_2)).toNatClampNeg (zI (Pw_37.ia qu (d12_2 + 1))) = (fun j : Nat => zI ((zup (Pw_37.ia qu) (d12_2) (Pw_37.ia qu (d12_2 + 1))) (j : Int))) := zI_st (Pw_37.ia qu) (e := d12_2) (v := Pw_37.ia qu (d12_2 + 1)) (by omega) (by omega)
        have eU : (([] : va_W) ++ va_pl L (pE Pw_37)).set kp_59 (qu, (.inl (cI, Pw_37.an qu, .inl (upd (fun j : Nat => zI (Pw_37.ia qu (j : Int))) (zI (d12_2)).toNatClampNeg (zI (Pw_37.ia qu (d12_2 + 1))))) : va_E)) = ([] : va_W) ++ va_pl L (pE Pw_60) := (by rw [eQ, va_pl_set hD0 hoqu.1 gkp_59, ePw_60]; exact congrArg (fun f9 => ([] : va_W) ++ va_pl L f9) (by have h9 := putnum (P := Pw_37) (x := qu) (a := zup (Pw_37.ia qu) (d12_2) (Pw_37.ia qu (d12_2 + 1))) (by omega); rw [hc_46] at h9; exact h9))
        have hP : va_P (dC, dI) vwQ ([] ++ va_pl L (pE Pw_60)) H := (by rw [← eU]; exact hP)
        have hD : va_D A ([] ++ va_pl L (pE Pw_60)) := (by rw [← eU]; exact hD)
        clear eU eQ hD0 gkp_59 hkp_59
        have wPw_60 : PH1 xp Pw_37 Pw_60 := (by rw [ePw_60]; exact PH1.num ho_52)
        have hi_61 : Pw_60.ia qp = Pw_37.ia qp := (by rw [ePw_60]; exact ri9_of _ _ (kd_ne hy_42 hy_43 (by decide)))
        have hi_62 : Pw_60.ia qu = zup (Pw_37.ia qu) (d12_2) (Pw_37.ia qu (d12_2 + 1)) := (by rw [ePw_60]; exact ri9_at _ _ _)
        have hi_63 : Pw_60.ia qz = Pw_37.ia qz := (by rw [ePw_60]; exact ri9_of _ _ (kd_ne hy_44 hy_43 (by decide)))
        have hy_64 : Pw_60.kd xp = 15 := (by rw [ePw_60]; exact hy_41)
        have : Pw_60.pt xp = Pw_37.pt xp := (by rw [ePw_60]; rfl)
        have : Pw_60.pn xp = Pw_37.pn xp := (by rw [ePw_60]; rfl)
        have : Pw_60.pg xp = Pw_37.pg xp := (by rw [ePw_60]; rfl)
        have hy_65 : Pw_60.kd qp = 40 := (by rw [ePw_60]; exact hy_42)
        have hy_66 : Pw_60.kd qu = 41 := (by rw [ePw_60]; exact hy_43)
        have hy_67 : Pw_60.kd qz = 42 := (by rw [ePw_60]; exact hy_44)
        have hc_68 : Pw_60.ac qp = cI := (by rw [ePw_60]; exact hc_45)
        have : Pw_60.an qp = Pw_37.an qp := (by rw [ePw_60]; rfl)
        have hc_69 : Pw_60.ac qu = cI := (by rw [ePw_60]; exact hc_46)
        have : Pw_60.an qu = Pw_37.an qu := (by rw [ePw_60]; rfl)
        have hc_70 : Pw_60.ac qz = cZ := (by rw [ePw_60]; exact hc_47)
        have : Pw_60.an qz = Pw_37.an qz := (by rw [ePw_60]; rfl)
        have ha_71 : Pw_60.pp xp = qp := (by rw [ePw_60]; exact ha_48)
        have ha_72 : Pw_60.pu xp = qu := (by rw [ePw_60]; exact ha_49)
        have ha_73 : Pw_60.pr xp = qz := (by rw [ePw_60]; exact ha_50)
        have ho_74 : Pw_60.ow qp = xp := (by rw [ePw_60]; exact ho_51)
        have ho_75 : Pw_60.ow qu = xp := (by rw [ePw_60]; exact ho_52)
        have ho_76 : Pw_60.ow qz = xp := (by rw [ePw_60]; exact ho_53)
        refine lv_aload_n hx hb dX15_drop_48 rfl (lv_at hl 0 rfl) ?_
        obtain ⟨kp_77, hkp_77⟩ := va_pl_get (X := []) (f := pE Pw_60) hX_p.1.1
        rw [pE_phi hy_64] at hkp_77
        refine va_get (D := (dC, dI)) (ci := 20) (v := .ref (Pw_60.pr xp)) (C := RX15) (T := TX15) (N := 6) hx hb hts mem_PP_dropE_0 hown hK hP kp_77 hkp_77 rfl 4 (by decide) (ow (k := 3) rfl) (fun _ h9 => h9) rfl dX15_drop_49 ?_
        obtain ⟨pr_78, epr_78⟩ : ∃ q9 : Nat, q9 = Pw_60.pr xp := ⟨_, rfl⟩
        rw [← epr_78]
        obtain rfl : qz = pr_78 := (by rw [epr_78]; exact ha_73.symm)
        refine lv_iload_n hx hb dX15_drop_52 rfl (lv_at hl 2 rfl) ?_
        refine lv_aload_n hx hb dX15_drop_53 rfl (lv_at hl 0 rfl) ?_
        obtain ⟨kp_79, hkp_79⟩ := va_pl_get (X := []) (f := pE Pw_60) hX_p.1.1
        rw [pE_phi hy_64] at hkp_79
        refine va_get (D := (dC, dI)) (ci := 20) (v := .ref (Pw_60.pr xp)) (C := RX15) (T := TX15) (N := 6) hx hb hts mem_PP_dropE_0 hown hK hP kp_79 hkp_79 rfl 4 (by decide) (ow (k := 3) rfl) (fun _ h9 => h9) rfl dX15_drop_54 ?_
        obtain ⟨pr_80, epr_80⟩ : ∃ q9 : Nat, q9 = Pw_60.pr xp := ⟨_, rfl⟩
        rw [← epr_80]
        obtain rfl : qz = pr_80 := (by rw [epr_80]; exact ha_73.symm)
        refine lv_iload_n hx hb dX15_drop_57 rfl (lv_at hl 2 rfl) ?_
        refine lv_iconst (v := 1) hx hb dX15_drop_58 (by decide) ?_
        refine lv_iadd hx hb dX15_drop_59 ?_
        refine lv_topi (fun z ez => ?_)
        obtain rfl : z = zI (d12_2 + 1) := ez.trans (zI_add (d12_2) (1))
        obtain ⟨kp_81, hkp_81⟩ := va_pl_get (X := []) (f := pE Pw_60) hoqz.1
        rw [pE_n42 hy_67, hc_70] at hkp_81
        refine va_zald hx hb hK hP kp_81 2 hkp_81 rfl (zI_in (a := d12_2 + 1) (n := Pw_60.an qz) (by omega) (by omega) (by omega)) dX15_drop_60 ?_
        refine lv_topi (fun z ez => ?_)
        obtain rfl : z = zI (Pw_60.ia qz (d12_2 + 1)) := ez.trans (zI_ld (Pw_60.ia qz) (by omega) (by omega))
        have hv : 0 ≤ Pw_60.ia qz (d12_2 + 1) ∧ Pw_60.ia qz (d12_2 + 1) ≤ 1 := (by rw [hi_63, hi_40]; exact (jef (d12_2 + 1) (by omega) (by omega)).2.2.1)
        obtain ⟨kp_82, gkp_82⟩ := va_pl_get (X := []) (f := pE Pw_60) hoqz.1
        have hkp_82 := gkp_82
        rw [pE_n42 hy_67, hc_70] at hkp_82
        have hD0 := hD
        refine va_zast (i := zI (d12_2)) hx hb hK hP hD hS kp_82 2 hkp_82 rfl (zI_in (a := d12_2) (n := Pw_60.an qz) (by omega) (by omega) (by omega)) dX15_drop_61 (fun H locs hP hD hS => ?_)
        rw [show vp_nar .boolean (zI (Pw_60.ia qz (d12_2 + 1))) = zI (Pw_60.ia qz (d12_2 + 1)) from zI_nar (a := Pw_60.ia qz (d12_2 + 1)) (by omega) (by omega)] at hP hD
        obtain ⟨Pw_83, ePw_83⟩ : ∃ q9 : PO, q9 = Pw_60.ri9 qz (zup (Pw_60.ia qz) (d12_2) (Pw_60.ia qz (d12_2 + 1))) := ⟨_, rfl⟩
        have eQ : upd (fun j : Nat => zI (Pw_60.ia qz (j : Int))) (zI (d12_2)).toNatClampNeg (zI (Pw_60.ia qz (d12_2 + 1))) = (fun j : Nat => zI ((zup (Pw_60.ia qz) (d12_2) (Pw_60.ia qz (d12_2 + 1))) (j : Int))) := zI_st (Pw_60.ia qz) (e := d12_2) (v := Pw_60.ia qz (d12_2 + 1)) (by omega) (by omega)
        have eU : (([] : va_W) ++ va_pl L (pE Pw_60)).set kp_82 (qz, (.inl (cZ, Pw_60.an qz, .inl (upd (fun j : Nat => zI (Pw_60.ia qz (j : Int))) (zI (d12_2)).toNatClampNeg (zI (Pw_60.ia qz (d12_2 + 1))))) : va_E)) = ([] : va_W) ++ va_pl L (pE Pw_83) := (by rw [eQ, va_pl_set hD0 hoqz.1 gkp_82, ePw_83]; exact congrArg (fun f9 => ([] : va_W) ++ va_pl L f9) (by have h9 := putnum (P := Pw_60) (x := qz) (a := zup (Pw_60.ia qz) (d12_2) (Pw_60.ia qz (d12_2 + 1))) (by omega); rw [hc_70] at h9; exact h9))
        have hP : va_P (dC, dI) vwQ ([] ++ va_pl L (pE Pw_83)) H := (by rw [← eU]; exact hP)
        have hD : va_D A ([] ++ va_pl L (pE Pw_83)) := (by rw [← eU]; exact hD)
        clear eU eQ hD0 gkp_82 hkp_82
        have wPw_83 : PH1 xp Pw_60 Pw_83 := (by rw [ePw_83]; exact PH1.num ho_76)
        have hi_84 : Pw_83.ia qp = Pw_60.ia qp := (by rw [ePw_83]; exact ri9_of _ _ (kd_ne hy_65 hy_67 (by decide)))
        have hi_85 : Pw_83.ia qu = Pw_60.ia qu := (by rw [ePw_83]; exact ri9_of _ _ (kd_ne hy_66 hy_67 (by decide)))
        have hi_86 : Pw_83.ia qz = zup (Pw_60.ia qz) (d12_2) (Pw_60.ia qz (d12_2 + 1)) := (by rw [ePw_83]; exact ri9_at _ _ _)
        have hy_87 : Pw_83.kd xp = 15 := (by rw [ePw_83]; exact hy_64)
        have : Pw_83.pt xp = Pw_60.pt xp := (by rw [ePw_83]; rfl)
        have : Pw_83.pn xp = Pw_60.pn xp := (by rw [ePw_83]; rfl)
        have : Pw_83.pg xp = Pw_60.pg xp := (by rw [ePw_83]; rfl)
        have hy_88 : Pw_83.kd qp = 40 := (by rw [ePw_83]; exact hy_65)
        have hy_89 : Pw_83.kd qu = 41 := (by rw [ePw_83]; exact hy_66)
        have hy_90 : Pw_83.kd qz = 42 := (by rw [ePw_83]; exact hy_67)
        have hc_91 : Pw_83.ac qp = cI := (by rw [ePw_83]; exact hc_68)
        have : Pw_83.an qp = Pw_60.an qp := (by rw [ePw_83]; rfl)
        have hc_92 : Pw_83.ac qu = cI := (by rw [ePw_83]; exact hc_69)
        have : Pw_83.an qu = Pw_60.an qu := (by rw [ePw_83]; rfl)
        have hc_93 : Pw_83.ac qz = cZ := (by rw [ePw_83]; exact hc_70)
        have : Pw_83.an qz = Pw_60.an qz := (by rw [ePw_83]; rfl)
        have ha_94 : Pw_83.pp xp = qp := (by rw [ePw_83]; exact ha_71)
        have ha_95 : Pw_83.pu xp = qu := (by rw [ePw_83]; exact ha_72)
        have ha_96 : Pw_83.pr xp = qz := (by rw [ePw_83]; exact ha_73)
        have ho_97 : Pw_83.ow qp = xp := (by rw [ePw_83]; exact ho_74)
        have ho_98 : Pw_83.ow qu = xp := (by rw [ePw_83]; exact ho_75)
        have ho_99 : Pw_83.ow qz = xp := (by rw [ePw_83]; exact ho_76)
        refine lv_iinc (v := zI (d12_2 + 1)) (lv' := [(2, .int (zI (d12_2 + 1))), (0, .ref xp), (1, .int (zI (k0)))]) hx hb dX15_drop_62 hl (k := 2) rfl (zI_add (d12_2) (1)) (by decide) rfl (fun ls hl => ?_)
        refine lv_goto (tgt := 12) hx hb dX15_drop_65 (by decide) ?_
        exact ih12 (d12_2 + 1) Pw_83 ls H _ (by omega) (wP12.trans (wPw_37.trans (wPw_60.trans (wPw_83)))) (by omega) (fun i a b => by rw [hi_84, hi_61, hi_38, hi_85, hi_62, hi_39, hi_86, hi_63, hi_40]; exact EF.upd (by omega) (jef _ (by omega) (by omega)) (fun _ => jef i a b)) (by rw [hi_84, hi_61, hi_38]; exact jq.upd (by omega) (by omega)) (by rw [hi_84, hi_61, hi_38]; exact jsqp.step (by omega) (by first | rfl | (rw [hi_61, hi_38]; rfl) | simp only [hi_84, hi_61, hi_38])) (by rw [hi_85, hi_62, hi_39]; exact jsqu.step (by omega) (by first | rfl | (rw [hi_62, hi_39]; rfl) | simp only [hi_85, hi_62, hi_39])) (by rw [hi_86, hi_63, hi_40]; exact jsqz.step (by omega) (by first | rfl | (rw [hi_63, hi_40]; rfl) | simp only [hi_86, hi_63, hi_40])) (by omega) (lv_sub hl [1, 2, 0] rfl) hP hD hS
  exact key12 ((P.pn xp - k0 : Int).toNat + 1) k0 Pw_3 ls H _ (by omega) (wPw_3) (by omega) (fun i a b => by have q9 := hpa i a b; rw [ePw_3]; exact q9) (by rw [ePw_3]; exact PQ9.refl _ _) (by rw [ePw_3]; exact SHF.first _ _) (by rw [ePw_3]; exact SHF.first _ _) (by rw [ePw_3]; exact SHF.first _ _) (by omega) (lv_sub hl [1, 2, 0] rfl) hP hD hS
