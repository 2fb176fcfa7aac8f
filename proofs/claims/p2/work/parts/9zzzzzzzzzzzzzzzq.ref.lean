def o_PP_sortX : List Cond := [.fieldLink RX15 24 "SsaForgeModel$Phi" "n" "I", .fieldLink RX15 7 "SsaForgeModel$Phi" "preds" "[I", .fieldLink RX15 13 "SsaForgeModel$Phi" "operands" "[I", .fieldLink RX15 16 "SsaForgeModel$Phi" "regs" "[Z"]
def v_PP_sortX : List Cond := .code yX15_sort cX15_sort 6 none :: (o_PP_sortX ++ (wsX150 ++ []))
theorem mow_PP_sortX : ∀ w ∈ o_PP_sortX, w ∈ v_PP_sortX := fun _ h => List.mem_cons_of_mem _ (List.mem_append_left _ h)
theorem mem_PP_sortX_0 : ∀ w ∈ wsX150, w ∈ v_PP_sortX := fun _ h => List.mem_cons_of_mem _ (List.mem_append_right _ (List.mem_append_left _ h))
set_option maxRecDepth 20000 in
theorem gw_PP_sortX : v_PP_sortX.all goodWord = true := by decide +kernel
set_option maxHeartbeats 4000000 in
set_option maxRecDepth 100000 in
theorem c_PP_sortX (l : Launch) (dC : Nat → ClassId) (dI : Nat → Nat → Nat) (cO : ClassId) (cI : ClassId) (cZ : ClassId) (L : List Nat) (P : PO) (xp : Nat) (hX_p : PIK L P cI cZ xp) (sz : Nat) : Met l yX15_sort v_PP_sortX ({ frames := 0, cells := 0, slots := 0, locals := 0 }) (va_Pc [.ref xp] (fun U => U.heap.size = sz ∧ va_P (dC, dI) vwQ ([] ++ va_pl L (pE P)) U.heap ∧ va_K (dC, dI) vwQ [(cO, .object "java/lang/Object"), (cI, .int), (cZ, .boolean)] U ∧ va_D (fun _ => True) ([] ++ va_pl L (pE P)))) (va_Qv (fun _ : Unit => True) (fun (_ : Unit) (t : State) => ∃ (Pn_9 : PO), ((PH1 xp P Pn_9 ∧ PIK L Pn_9 cI cZ xp ∧ Pn_9.pn xp = P.pn xp ∧ Pn_9.pt xp = P.pt xp ∧ Pn_9.pg xp = P.pg xp ∧ PRQ xp P Pn_9 ∧ HPK P Pn_9 xp ∧ PRM P Pn_9 xp ∧ Pn_9.1 = P.1)) ∧ va_P (dC, dI) vwQ ([] ++ va_pl L (pE Pn_9)) t.heap ∧ va_K (dC, dI) vwQ [(cO, .object "java/lang/Object"), (cI, .int), (cZ, .boolean)] t ∧ va_D (va_A ([] ++ va_pl L (pE P)) sz) ([] ++ va_pl L (pE Pn_9))) (va_A ([] ++ va_pl L (pE P)) sz)) 0 0 (va_A ([] ++ va_pl L (pE P)) sz) := by
  refine Met.ofW (cc := cX15_sort) (maxL := 6) (ret := none) (by decide) rfl ?_
  intro p e s m args below meth c s₁ B hml hv
  obtain ⟨rfl, hsz, hP, hK, hD0⟩ := hv
  have hx := B.exec
  have hb := B.bytes
  have hr := B.returns
  have hts := atoms_spec (ws := v_PP_sortX) B.pre
  have hown : s.vm.findClass RX15 = some m.cls := findClass_of_methodNamed B.named
  have hlocks := B.notSynchronized
  have ow : ∀ {k : Nat} {w : Cond}, o_PP_sortX[k]? = some w → w.before ([.ref xp] : List Value).toArray s = true := fun h => hts _ (mow_PP_sortX _ (List.mem_of_getElem? h))
  subst hsz
  have hD := hD0.self (sz := s.heap.size)
  generalize hAe : va_A ([] ++ va_pl L (pE P)) s.heap.size = A at hD ⊢
  have hA : ∀ q : Nat, s.heap.size ≤ q → A q := fun q h => by rw [← hAe]; exact Or.inr h
  have hS : va_S A s.heap s.heap [] := va_S.rf
  have hP : va_P (dC, dI) vwQ ([] ++ va_pl L (pE P)) s.heap := hP
  have hl := lv_entry ([.ref xp]) (n := 6) (Nat.le_of_ble_eq_true rfl)
  rw [lg_entry_eq]
  generalize (lg_sl ([.ref xp]) ++ List.replicate (6 - (lg_sl ([.ref xp])).length) Slot.unset).toArray = ls at hl ⊢
  have hl : lv_has ls 6 [(0, .ref xp)] := hl
  obtain ⟨H, hH⟩ : ∃ H, H = s.heap := ⟨_, rfl⟩
  rw [← hH] at hP
  have hS : va_S A s.heap H [] := by rw [hH]; exact hS
  rw [← hH]
  refine zW_cap (fun Q hQ => ?_)
  obtain ⟨qp, eqp⟩ : ∃ q9 : Nat, P.pp xp = q9 := ⟨_, rfl⟩
  have hoqp : qp ∈ L ∧ P.kd qp = 40 ∧ P.ac qp = cI ∧ P.ow qp = xp := (by rw [← eqp]; exact hX_p.2.1)
  have hnqp : P.an qp = P.an (P.pp xp) := (by rw [eqp])
  obtain ⟨qu, equ⟩ : ∃ q9 : Nat, P.pu xp = q9 := ⟨_, rfl⟩
  have hoqu : qu ∈ L ∧ P.kd qu = 41 ∧ P.ac qu = cI ∧ P.ow qu = xp := (by rw [← equ]; exact hX_p.2.2.1)
  have hnqu : P.an qu = P.an (P.pu xp) := (by rw [equ])
  obtain ⟨qz, eqz⟩ : ∃ q9 : Nat, P.pr xp = q9 := ⟨_, rfl⟩
  have hoqz : qz ∈ L ∧ P.kd qz = 42 ∧ P.ac qz = cZ ∧ P.ow qz = xp := (by rw [← eqz]; exact hX_p.2.2.2.1)
  have hnqz : P.an qz = P.an (P.pr xp) := (by rw [eqz])
  have hpn := hX_p.2.2.2.2.1
  have hpt := hX_p.2.2.2.2.2.1
  have hpa : ∀ i : Int, 0 ≤ i → i < P.pn xp → EF (P.ia qp i) (P.ia qu i) (P.ia qz i) := (fun i a b => by have q9 := hX_p.ef a b; unfold PEF at q9; rw [eqp, equ, eqz] at q9; exact q9)
  refine lv_iconst (v := 1) hx hb dX15_sort_0 (by decide) ?_
  refine lv_istore_n (lv' := [(1, .int 1), (0, .ref xp)]) hx hb dX15_sort_1 rfl hl (by decide) rfl (fun ls hl => ?_)
  have key2 : ∀ n2 : Nat, ∀ (d2_1 : Int) (P2 : PO) (ls : Array Slot) (H : Heap) (locs : List Loc), (1 ≤ d2_1 ∧ d2_1 ≤ 301) → (PH1 xp P P2) → (P2.pn xp = P.pn xp ∧ P2.pt xp = P.pt xp ∧ P2.pg xp = P.pg xp) → (∀ i : Int, 0 ≤ i → i < P.pn xp → EF (P2.ia qp i) (P2.ia qu i) (P2.ia qz i)) → (PQ9 (P.ia qp) (P2.ia qp) (P.pn xp)) → (HSB (P.ia qp) (P2.ia qp) (P.pn xp)) → (PMX (P.ia qp) (P.ia qu) (P.ia qz) (P2.ia qp) (P2.ia qu) (P2.ia qz) (P.pn xp)) → (P2.1 = P.1) → ((P.pn xp - d2_1 + 1 : Int).toNat) < n2 → lv_has ls 6 [(0, .ref xp), (1, .int (zI (d2_1)))] → va_P (dC, dI) vwQ ([] ++ va_pl L (pE P2)) H → va_D A ([] ++ va_pl L (pE P2)) → va_S A s.heap H locs → W p l e (headSpec v_PP_sortX ({ frames := 0, cells := 0, slots := 0, locals := 0 })).room s m ([.ref xp] : List Value).toArray below meth c H locs 0 0 Q (F0 m 2 ls []) := by
    intro n2
    induction n2 with
    | zero => intro d2_1 P2 ls H locs jd2_1 wP2 jn2 jef2 jq2 js2 jx2 jr2 hm2; exact absurd hm2 (by omega)
    | succ n2 ih2 =>
      intro d2_1 P2 ls H locs jd2_1 wP2 jn2 jef2 jq2 js2 jx2 jr2 hm2 hl hP hD hS
      have hy_1 : P2.kd xp = 15 := (congrFun (congrFun wP2.1.1 0) xp).trans hX_p.1.2
      have hy_2 : P2.kd qp = 40 := (congrFun (congrFun wP2.1.1 0) qp).trans hoqp.2.1
      have hy_3 : P2.kd qu = 41 := (congrFun (congrFun wP2.1.1 0) qu).trans hoqu.2.1
      have hy_4 : P2.kd qz = 42 := (congrFun (congrFun wP2.1.1 0) qz).trans hoqz.2.1
      have hc_5 : P2.ac qp = cI := (congrFun wP2.1.2.2 qp).trans hoqp.2.2.1
      have : P2.an qp = P.an qp := congrFun (congrFun wP2.1.1 1) qp
      have hc_6 : P2.ac qu = cI := (congrFun wP2.1.2.2 qu).trans hoqu.2.2.1
      have : P2.an qu = P.an qu := congrFun (congrFun wP2.1.1 1) qu
      have hc_7 : P2.ac qz = cZ := (congrFun wP2.1.2.2 qz).trans hoqz.2.2.1
      have : P2.an qz = P.an qz := congrFun (congrFun wP2.1.1 1) qz
      have ha_8 : P2.pp xp = qp := (congrFun (congrFun wP2.1.1 1) xp).trans eqp
      have ha_9 : P2.pu xp = qu := (congrFun (congrFun wP2.1.1 2) xp).trans equ
      have ha_10 : P2.pr xp = qz := (congrFun (congrFun wP2.1.1 3) xp).trans eqz
      have ho_11 : P2.ow qp = xp := (congrFun (congrFun wP2.1.1 9) qp).trans hoqp.2.2.2
      have ho_12 : P2.ow qu = xp := (congrFun (congrFun wP2.1.1 9) qu).trans hoqu.2.2.2
      have ho_13 : P2.ow qz = xp := (congrFun (congrFun wP2.1.1 9) qz).trans hoqz.2.2.2
      have hj9 := wP2
      refine lv_iload_n hx hb dX15_sort_2 rfl (lv_at hl 1 rfl) ?_
      refine lv_aload_n hx hb dX15_sort_3 rfl (lv_at hl 0 rfl) ?_
      obtain ⟨kp_14, hkp_14⟩ := va_pl_get (X := []) (f := pE P2) hX_p.1.1
      rw [pE_phi hy_1] at hkp_14
      refine va_get (D := (dC, dI)) (ci := 20) (v := .int (zI (P2.pn xp))) (C := RX15) (T := TX15) (N := 6) hx hb hts mem_PP_sortX_0 hown hK hP kp_14 hkp_14 rfl 1 (by decide) (ow (k := 0) rfl) (fun _ h9 => h9) rfl dX15_sort_4 ?_
      refine lv_icmp_ge (tgt := 138) hx hb dX15_sort_7 (by decide) (fun b7 => ?_) (fun b7 => ?_)
      · have yb7 : (P2.pn xp : Int) ≤ (d2_1 : Int) := (zI_le (a := P2.pn xp) (b := d2_1) (by omega) (by omega) (by omega) (by omega)).mp b7
        subst hQ
        refine W.widen (k := 0) (n := 0) (Nat.le_of_ble_eq_true rfl) (Nat.le_of_ble_eq_true rfl) ?_
        exact W.vret hx hb hr (fun t ht hW => ⟨⟨(), rfl, trivial, P2, ⟨wP2, hX_p.of wP2 (by omega) (by omega) (by omega) (fun i a b => by unfold PEF; rw [ha_8, ha_9, ha_10]; exact jef2 i a (by omega)), by omega, by omega, by omega, (fun n h i a b => by rw [ha_8]; exact jq2 n (fun i a b => by have q9 := h i a b; rw [eqp] at q9; exact q9) i a (by omega)), (fun p h9 => by obtain ⟨k, k0, k1, e9⟩ := h9; rw [eqp] at e9; obtain ⟨m, m0, m1, m2⟩ := js2 k k0 k1; exact ⟨m, m0, by omega, by rw [ha_8, m2]; exact e9⟩), (by unfold PRM; rw [eqp, equ, eqz]; exact jx2), jr2⟩, by rw [ht]; exact hP, va_K.moved hW.alike hK, hD⟩, hS.F ht⟩) hS.2.2 dX15_sort_138
      · have yb7 : ¬ (P2.pn xp : Int) ≤ (d2_1 : Int) := fun q => b7 ((zI_le (a := P2.pn xp) (b := d2_1) (by omega) (by omega) (by omega) (by omega)).mpr q)
        refine lv_aload_n hx hb dX15_sort_10 rfl (lv_at hl 0 rfl) ?_
        obtain ⟨kp_15, hkp_15⟩ := va_pl_get (X := []) (f := pE P2) hX_p.1.1
        rw [pE_phi hy_1] at hkp_15
        refine va_get (D := (dC, dI)) (ci := 20) (v := .ref (P2.pp xp)) (C := RX15) (T := TX15) (N := 6) hx hb hts mem_PP_sortX_0 hown hK hP kp_15 hkp_15 rfl 2 (by decide) (ow (k := 1) rfl) (fun _ h9 => h9) rfl dX15_sort_11 ?_
        obtain ⟨pr_16, epr_16⟩ : ∃ q9 : Nat, q9 = P2.pp xp := ⟨_, rfl⟩
        rw [← epr_16]
        obtain rfl : qp = pr_16 := (by rw [epr_16]; exact ha_8.symm)
        refine lv_iload_n hx hb dX15_sort_14 rfl (lv_at hl 1 rfl) ?_
        obtain ⟨kp_17, hkp_17⟩ := va_pl_get (X := []) (f := pE P2) hoqp.1
        rw [pE_n40 hy_2, hc_5] at hkp_17
        refine va_iald hx hb hK hP kp_17 1 hkp_17 rfl (zI_in (a := d2_1) (n := P2.an qp) (by omega) (by omega) (by omega)) dX15_sort_15 ?_
        refine lv_topi (fun z ez => ?_)
        obtain rfl : z = zI (P2.ia qp (d2_1)) := ez.trans (zI_ld (P2.ia qp) (by omega) (by omega))
        have : 0 ≤ P2.ia qp (d2_1) ∧ P2.ia qp (d2_1) ≤ 299 := (by exact (jef2 (d2_1) (by omega) (by omega)).1)
        refine lv_istore_n (lv' := [(2, .int (zI (P2.ia qp (d2_1)))), (0, .ref xp), (1, .int (zI (d2_1)))]) hx hb dX15_sort_16 rfl hl (by decide) rfl (fun ls hl => ?_)
        refine lv_aload_n hx hb dX15_sort_17 rfl (lv_at hl 1 rfl) ?_
        obtain ⟨kp_18, hkp_18⟩ := va_pl_get (X := []) (f := pE P2) hX_p.1.1
        rw [pE_phi hy_1] at hkp_18
        refine va_get (D := (dC, dI)) (ci := 20) (v := .ref (P2.pu xp)) (C := RX15) (T := TX15) (N := 6) hx hb hts mem_PP_sortX_0 hown hK hP kp_18 hkp_18 rfl 3 (by decide) (ow (k := 2) rfl) (fun _ h9 => h9) rfl dX15_sort_18 ?_
        obtain ⟨pr_19, epr_19⟩ : ∃ q9 : Nat, q9 = P2.pu xp := ⟨_, rfl⟩
        rw [← epr_19]
        obtain rfl : qu = pr_19 := (by rw [epr_19]; exact ha_9.symm)
        refine lv_iload_n hx hb dX15_sort_21 rfl (lv_at hl 2 rfl) ?_
        obtain ⟨kp_20, hkp_20⟩ := va_pl_get (X := []) (f := pE P2) hoqu.1
        rw [pE_n41 hy_3, hc_6] at hkp_20
        refine va_iald hx hb hK hP kp_20 1 hkp_20 rfl (zI_in (a := d2_1) (n := P2.an qu) (by omega) (by omega) (by omega)) dX15_sort_22 ?_
        refine lv_topi (fun z ez => ?_)
        obtain rfl : z = zI (P2.ia qu (d2_1)) := ez.trans (zI_ld (P2.ia qu) (by omega) (by omega))
        have : -2147483648 ≤ P2.ia qu (d2_1) ∧ P2.ia qu (d2_1) ≤ 2147483647 := (by exact (jef2 (d2_1) (by omega) (by omega)).2.1)
        refine lv_istore_n (lv' := [(3, .int (zI (P2.ia qu (d2_1)))), (2, .int (zI (P2.ia qp (d2_1)))), (0, .ref xp), (1, .int (zI (d2_1)))]) hx hb dX15_sort_23 rfl hl (by decide) rfl (fun ls hl => ?_)
        refine lv_iload_n hx hb dX15_sort_24 rfl (lv_at hl 3 rfl) ?_
        refine lv_istore (lv' := [(4, .int (zI (d2_1))), (3, .int (zI (P2.ia qu (d2_1)))), (2, .int (zI (P2.ia qp (d2_1)))), (0, .ref xp), (1, .int (zI (d2_1)))]) hx hb dX15_sort_25 hl (by decide) rfl (fun ls hl => ?_)
        refine lv_aload_n hx hb dX15_sort_27 rfl (lv_at hl 3 rfl) ?_
        obtain ⟨kp_21, hkp_21⟩ := va_pl_get (X := []) (f := pE P2) hX_p.1.1
        rw [pE_phi hy_1] at hkp_21
        refine va_get (D := (dC, dI)) (ci := 20) (v := .ref (P2.pr xp)) (C := RX15) (T := TX15) (N := 6) hx hb hts mem_PP_sortX_0 hown hK hP kp_21 hkp_21 rfl 4 (by decide) (ow (k := 3) rfl) (fun _ h9 => h9) rfl dX15_sort_28 ?_
        obtain ⟨pr_22, epr_22⟩ : ∃ q9 : Nat, q9 = P2.pr xp := ⟨_, rfl⟩
        rw [← epr_22]
        obtain rfl : qz = pr_22 := (by rw [epr_22]; exact ha_10.symm)
        refine lv_iload_n hx hb dX15_sort_31 rfl (lv_at hl 4 rfl) ?_
        obtain ⟨kp_23, hkp_23⟩ := va_pl_get (X := []) (f := pE P2) hoqz.1
        rw [pE_n42 hy_4, hc_7] at hkp_23
        refine va_zald hx hb hK hP kp_23 2 hkp_23 rfl (zI_in (a := d2_1) (n := P2.an qz) (by omega) (by omega) (by omega)) dX15_sort_32 ?_
        refine lv_topi (fun z ez => ?_)
        obtain rfl : z = zI (P2.ia qz (d2_1)) := ez.trans (zI_ld (P2.ia qz) (by omega) (by omega))
        have : 0 ≤ P2.ia qz (d2_1) ∧ P2.ia qz (d2_1) ≤ 1 := (by exact (jef2 (d2_1) (by omega) (by omega)).2.2.1)
        refine lv_istore (lv' := [(5, .int (zI (P2.ia qz (d2_1)))), (4, .int (zI (d2_1))), (3, .int (zI (P2.ia qu (d2_1)))), (2, .int (zI (P2.ia qp (d2_1)))), (0, .ref xp), (1, .int (zI (d2_1)))]) hx hb dX15_sort_33 hl (by decide) rfl (fun ls hl => ?_)
        have key35 : ∀ n35 : Nat, ∀ (d35_4 : Int) (P35 : PO) (ls : Array Slot) (H : Heap) (locs : List Loc), (0 ≤ d35_4 ∧ d35_4 ≤ d2_1) → (PH1 xp P P35) → (P35.pn xp = P.pn xp ∧ P35.pt xp = P.pt xp ∧ P35.pg xp = P.pg xp) → (∀ i : Int, 0 ≤ i → i < P.pn xp → EF (P35.ia qp i) (P35.ia qu i) (P35.ia qz i)) → (PQ9 (P.ia qp) (P35.ia qp) (P.pn xp)) → (HSH (P.ia qp) (P35.ia qp) (P.pn xp) (d35_4) (P2.ia qp (d2_1))) → (PMH (P.ia qp) (P.ia qu) (P.ia qz) (P35.ia qp) (P35.ia qu) (P35.ia qz) (P.pn xp) (d35_4) (P2.ia qp (d2_1)) (P2.ia qu (d2_1)) (P2.ia qz (d2_1))) → (P35.1 = P.1) → ((d35_4 + 1 : Int).toNat) < n35 → lv_has ls 6 [(0, .ref xp), (1, .int (zI (d2_1))), (2, .int (zI (P2.ia qp (d2_1)))), (3, .int (zI (P2.ia qu (d2_1)))), (4, .int (zI (d35_4))), (5, .int (zI (P2.ia qz (d2_1))))] → va_P (dC, dI) vwQ ([] ++ va_pl L (pE P35)) H → va_D A ([] ++ va_pl L (pE P35)) → va_S A s.heap H locs → W p l e (headSpec v_PP_sortX ({ frames := 0, cells := 0, slots := 0, locals := 0 })).room s m ([.ref xp] : List Value).toArray below meth c H locs 0 0 Q (F0 m 35 ls []) := by
          intro n35
          induction n35 with
          | zero => intro d35_4 P35 ls H locs jd35_4 wP35 jn35 jef35 jq35 js35 jx35 jr35 hm35; exact absurd hm35 (by omega)
          | succ n35 ih35 =>
            intro d35_4 P35 ls H locs jd35_4 wP35 jn35 jef35 jq35 js35 jx35 jr35 hm35 hl hP hD hS
            have hy_24 : P35.kd xp = 15 := (congrFun (congrFun wP35.1.1 0) xp).trans hX_p.1.2
            have hy_25 : P35.kd qp = 40 := (congrFun (congrFun wP35.1.1 0) qp).trans hoqp.2.1
            have hy_26 : P35.kd qu = 41 := (congrFun (congrFun wP35.1.1 0) qu).trans hoqu.2.1
            have hy_27 : P35.kd qz = 42 := (congrFun (congrFun wP35.1.1 0) qz).trans hoqz.2.1
            have hc_28 : P35.ac qp = cI := (congrFun wP35.1.2.2 qp).trans hoqp.2.2.1
            have : P35.an qp = P.an qp := congrFun (congrFun wP35.1.1 1) qp
            have hc_29 : P35.ac qu = cI := (congrFun wP35.1.2.2 qu).trans hoqu.2.2.1
            have : P35.an qu = P.an qu := congrFun (congrFun wP35.1.1 1) qu
            have hc_30 : P35.ac qz = cZ := (congrFun wP35.1.2.2 qz).trans hoqz.2.2.1
            have : P35.an qz = P.an qz := congrFun (congrFun wP35.1.1 1) qz
            have ha_31 : P35.pp xp = qp := (congrFun (congrFun wP35.1.1 1) xp).trans eqp
            have ha_32 : P35.pu xp = qu := (congrFun (congrFun wP35.1.1 2) xp).trans equ
            have ha_33 : P35.pr xp = qz := (congrFun (congrFun wP35.1.1 3) xp).trans eqz
            have ho_34 : P35.ow qp = xp := (congrFun (congrFun wP35.1.1 9) qp).trans hoqp.2.2.2
            have ho_35 : P35.ow qu = xp := (congrFun (congrFun wP35.1.1 9) qu).trans hoqu.2.2.2
            have ho_36 : P35.ow qz = xp := (congrFun (congrFun wP35.1.1 9) qz).trans hoqz.2.2.2
            have hj9 := wP35
            refine lv_iload hx hb dX15_sort_35 (lv_at hl 4 rfl) ?_
            refine lv_if_le (tgt := 107) hx hb dX15_sort_37 (by decide) (fun b37 => ?_) (fun b37 => ?_)
            · have yb37 : (d35_4 : Int) ≤ (0 : Int) := (zI_le (a := d35_4) (b := 0) (by omega) (by omega) (by omega) (by omega)).mp b37
              refine lv_aload_n hx hb dX15_sort_107 rfl (lv_at hl 0 rfl) ?_
              obtain ⟨kp_37, hkp_37⟩ := va_pl_get (X := []) (f := pE P35) hX_p.1.1
              rw [pE_phi hy_24] at hkp_37
              refine va_get (D := (dC, dI)) (ci := 20) (v := .ref (P35.pp xp)) (C := RX15) (T := TX15) (N := 6) hx hb hts mem_PP_sortX_0 hown hK hP kp_37 hkp_37 rfl 2 (by decide) (ow (k := 1) rfl) (fun _ h9 => h9) rfl dX15_sort_108 ?_
              obtain ⟨pr_38, epr_38⟩ : ∃ q9 : Nat, q9 = P35.pp xp := ⟨_, rfl⟩
              rw [← epr_38]
              obtain rfl : qp = pr_38 := (by rw [epr_38]; exact ha_31.symm)
              refine lv_iload hx hb dX15_sort_111 (lv_at hl 4 rfl) ?_
              refine lv_iload_n hx hb dX15_sort_113 rfl (lv_at hl 2 rfl) ?_
              obtain ⟨kp_39, gkp_39⟩ := va_pl_get (X := []) (f := pE P35) hoqp.1
              have hkp_39 := gkp_39
              rw [pE_n40 hy_25, hc_28] at hkp_39
              have hD0 := hD
              refine va_iast (i := zI (d35_4)) hx hb hK hP hD hS kp_39 1 hkp_39 rfl (zI_in (a := d35_4) (n := P35.an qp) (by omega) (by omega) (by omega)) dX15_sort_114 (fun H locs hP hD hS => ?_)
              obtain ⟨Pw_40, ePw_40⟩ : ∃ q9 : PO, q9 = P35.ri9 qp (zup (P35.ia qp) (d35_4) (P2.ia qp (d2_1))) := ⟨_, rfl⟩
              have eQ : upd (fun j : Nat => zI (P35.ia qp (j : Int))) (zI (d35_4)).toNatClampNeg (zI (P2.ia qp (d2_1))) = (fun j : Nat => zI ((zup (P35.ia qp) (d35_4) (P2.ia qp (d2_1))) (j : Int))) := zI_st (P35.ia qp) (e := d35_4) (v := P2.ia qp (d2_1)) (by omega) (by omega)
              have eU : (([] : va_W) ++ va_pl L (pE P35)).set kp_39 (qp, (.inl (cI, P35.an qp, .inl (upd (fun j : Nat => zI (P35.ia qp (j : Int))) (zI (d35_4)).toNatClampNeg (zI (P2.ia qp (d2_1))))) : va_E)) = ([] : va_W) ++ va_pl L (pE Pw_40) := (by rw [eQ, va_pl_set hD0 hoqp.1 gkp_39, ePw_40]; exact congrArg (fun f9 => ([] : va_W) ++ va_pl L f9) (by have h9 := putnum (P := P35) (x := qp) (a := zup (P35.ia qp) (d35_4) (P2.ia qp (d2_1))) (by omega); rw [hc_28] at h9; exact h9))
              have hP : va_P (dC, dI) vwQ ([] ++ va_pl L (pE Pw_40)) H := (by rw [← eU]; exact hP)
              have hD : va_D A ([] ++ va_pl L (pE Pw_40)) := (by rw [← eU]; exact hD)
              clear eU eQ hD0 gkp_39 hkp_39
              have wPw_40 : PH1 xp P35 Pw_40 := (by rw [ePw_40]; exact PH1.num ho_34)
              have hi_41 : Pw_40.ia qp = zup (P35.ia qp) (d35_4) (P2.ia qp (d2_1)) := (by rw [ePw_40]; exact ri9_at _ _ _)
              have hi_42 : Pw_40.ia qu = P35.ia qu := (by rw [ePw_40]; exact ri9_of _ _ (kd_ne hy_26 hy_25 (by decide)))
              have hi_43 : Pw_40.ia qz = P35.ia qz := (by rw [ePw_40]; exact ri9_of _ _ (kd_ne hy_27 hy_25 (by decide)))
              have hy_44 : Pw_40.kd xp = 15 := (by rw [ePw_40]; exact hy_24)
              have : Pw_40.pt xp = P35.pt xp := (by rw [ePw_40]; rfl)
              have : Pw_40.pn xp = P35.pn xp := (by rw [ePw_40]; rfl)
              have : Pw_40.pg xp = P35.pg xp := (by rw [ePw_40]; rfl)
              have hy_45 : Pw_40.kd qp = 40 := (by rw [ePw_40]; exact hy_25)
              have hy_46 : Pw_40.kd qu = 41 := (by rw [ePw_40]; exact hy_26)
              have hy_47 : Pw_40.kd qz = 42 := (by rw [ePw_40]; exact hy_27)
              have hc_48 : Pw_40.ac qp = cI := (by rw [ePw_40]; exact hc_28)
              have : Pw_40.an qp = P35.an qp := (by rw [ePw_40]; rfl)
              have hc_49 : Pw_40.ac qu = cI := (by rw [ePw_40]; exact hc_29)
              have : Pw_40.an qu = P35.an qu := (by rw [ePw_40]; rfl)
              have hc_50 : Pw_40.ac qz = cZ := (by rw [ePw_40]; exact hc_30)
              have : Pw_40.an qz = P35.an qz := (by rw [ePw_40]; rfl)
              have ha_51 : Pw_40.pp xp = qp := (by rw [ePw_40]; exact ha_31)
              have ha_52 : Pw_40.pu xp = qu := (by rw [ePw_40]; exact ha_32)
              have ha_53 : Pw_40.pr xp = qz := (by rw [ePw_40]; exact ha_33)
              have ho_54 : Pw_40.ow qp = xp := (by rw [ePw_40]; exact ho_34)
              have ho_55 : Pw_40.ow qu = xp := (by rw [ePw_40]; exact ho_35)
              have ho_56 : Pw_40.ow qz = xp := (by rw [ePw_40]; exact ho_36)
              refine lv_aload_n hx hb dX15_sort_115 rfl (lv_at hl 0 rfl) ?_
              obtain ⟨kp_57, hkp_57⟩ := va_pl_get (X := []) (f := pE Pw_40) hX_p.1.1
              rw [pE_phi hy_44] at hkp_57
              refine va_get (D := (dC, dI)) (ci := 20) (v := .ref (Pw_40.pu xp)) (C := RX15) (T := TX15) (N := 6) hx hb hts mem_PP_sortX_0 hown hK hP kp_57 hkp_57 rfl 3 (by decide) (ow (k := 2) rfl) (fun _ h9 => h9) rfl dX15_sort_116 ?_
              obtain ⟨pr_58, epr_58⟩ : ∃ q9 : Nat, q9 = Pw_40.pu xp := ⟨_, rfl⟩
              rw [← epr_58]
              obtain rfl : qu = pr_58 := (by rw [epr_58]; exact ha_52.symm)
              refine lv_iload hx hb dX15_sort_119 (lv_at hl 4 rfl) ?_
              refine lv_iload_n hx hb dX15_sort_121 rfl (lv_at hl 3 rfl) ?_
              obtain ⟨kp_59, gkp_59⟩ := va_pl_get (X := []) (f := pE Pw_40) hoqu.1
              have hkp_59 := gkp_59
              rw [pE_n41 hy_46, hc_49] at hkp_59
              have hD0 := hD
              refine va_iast (i := zI (d35_4)) hx hb hK hP hD hS kp_59 1 hkp_59 rfl (zI_in (a := d35_4) (n := Pw_40.an qu) (by omega) (by omega) (by omega)) dX15_sort_122 (fun H locs hP hD hS => ?_)
              obtain ⟨Pw_60, ePw_60⟩ : ∃ q9 : PO, q9 = Pw_40.ri9 qu (zup (Pw_40.ia qu) (d35_4) (P2.ia qu (d2_1))) := ⟨_, rfl⟩
              have eQ : upd (fun j : Nat => zI (Pw_40.ia qu (j : Int))) (zI (d35_4)).toNatClampNeg (zI (P2.ia qu (d2_1))) = (fun j : Nat => zI ((zup (Pw_40.ia qu) (d35_4) (P2.ia qu (d2_1))) (j : Int))) := zI_st (Pw_40.ia qu) (e := d35_4) (v := P2.ia qu (d2_1)) (by omega) (by omega)
              have eU : (([] : va_W) ++ va_pl L (pE Pw_40)).set kp_59 (qu, (.inl (cI, Pw_40.an qu, .inl (upd (fun j : Nat => zI (Pw_40.ia qu (j : Int))) (zI (d35_4)).toNatClampNeg (zI (P2.ia qu (d2_1))))) : va_E)) = ([] : va_W) ++ va_pl L (pE Pw_60) := (by rw [eQ, va_pl_set hD0 hoqu.1 gkp_59, ePw_60]; exact congrArg (fun f9 => ([] : va_W) ++ va_pl L f9) (by have h9 := putnum (P := Pw_40) (x := qu) (a := zup (Pw_40.ia qu) (d35_4) (P2.ia qu (d2_1))) (by omega); rw [hc_49] at h9; exact h9))
              have hP : va_P (dC, dI) vwQ ([] ++ va_pl L (pE Pw_60)) H := (by rw [← eU]; exact hP)
              have hD : va_D A ([] ++ va_pl L (pE Pw_60)) := (by rw [← eU]; exact hD)
              clear eU eQ hD0 gkp_59 hkp_59
              have wPw_60 : PH1 xp Pw_40 Pw_60 := (by rw [ePw_60]; exact PH1.num ho_55)
              have hi_61 : Pw_60.ia qp = Pw_40.ia qp := (by rw [ePw_60]; exact ri9_of _ _ (kd_ne hy_45 hy_46 (by decide)))
              have hi_62 : Pw_60.ia qu = zup (Pw_40.ia qu) (d35_4) (P2.ia qu (d2_1)) := (by rw [ePw_60]; exact ri9_at _ _ _)
              have hi_63 : Pw_60.ia qz = Pw_40.ia qz := (by rw [ePw_60]; exact ri9_of _ _ (kd_ne hy_47 hy_46 (by decide)))
              have hy_64 : Pw_60.kd xp = 15 := (by rw [ePw_60]; exact hy_44)
              have : Pw_60.pt xp = Pw_40.pt xp := (by rw [ePw_60]; rfl)
              have : Pw_60.pn xp = Pw_40.pn xp := (by rw [ePw_60]; rfl)
              have : Pw_60.pg xp = Pw_40.pg xp := (by rw [ePw_60]; rfl)
              have hy_65 : Pw_60.kd qp = 40 := (by rw [ePw_60]; exact hy_45)
              have hy_66 : Pw_60.kd qu = 41 := (by rw [ePw_60]; exact hy_46)
              have hy_67 : Pw_60.kd qz = 42 := (by rw [ePw_60]; exact hy_47)
              have hc_68 : Pw_60.ac qp = cI := (by rw [ePw_60]; exact hc_48)
              have : Pw_60.an qp = Pw_40.an qp := (by rw [ePw_60]; rfl)
              have hc_69 : Pw_60.ac qu = cI := (by rw [ePw_60]; exact hc_49)
              have : Pw_60.an qu = Pw_40.an qu := (by rw [ePw_60]; rfl)
              have hc_70 : Pw_60.ac qz = cZ := (by rw [ePw_60]; exact hc_50)
              have : Pw_60.an qz = Pw_40.an qz := (by rw [ePw_60]; rfl)
              have ha_71 : Pw_60.pp xp = qp := (by rw [ePw_60]; exact ha_51)
              have ha_72 : Pw_60.pu xp = qu := (by rw [ePw_60]; exact ha_52)
              have ha_73 : Pw_60.pr xp = qz := (by rw [ePw_60]; exact ha_53)
              have ho_74 : Pw_60.ow qp = xp := (by rw [ePw_60]; exact ho_54)
              have ho_75 : Pw_60.ow qu = xp := (by rw [ePw_60]; exact ho_55)
              have ho_76 : Pw_60.ow qz = xp := (by rw [ePw_60]; exact ho_56)
              refine lv_aload_n hx hb dX15_sort_123 rfl (lv_at hl 0 rfl) ?_
              obtain ⟨kp_77, hkp_77⟩ := va_pl_get (X := []) (f := pE Pw_60) hX_p.1.1
              rw [pE_phi hy_64] at hkp_77
              refine va_get (D := (dC, dI)) (ci := 20) (v := .ref (Pw_60.pr xp)) (C := RX15) (T := TX15) (N := 6) hx hb hts mem_PP_sortX_0 hown hK hP kp_77 hkp_77 rfl 4 (by decide) (ow (k := 3) rfl) (fun _ h9 => h9) rfl dX15_sort_124 ?_
              obtain ⟨pr_78, epr_78⟩ : ∃ q9 : Nat, q9 = Pw_60.pr xp := ⟨_, rfl⟩
              rw [← epr_78]
              obtain rfl : qz = pr_78 := (by rw [epr_78]; exact ha_73.symm)
              refine lv_iload hx hb dX15_sort_127 (lv_at hl 4 rfl) ?_
              refine lv_iload hx hb dX15_sort_129 (lv_at hl 5 rfl) ?_
              obtain ⟨kp_79, gkp_79⟩ := va_pl_get (X := []) (f := pE Pw_60) hoqz.1
              have hkp_79 := gkp_79
              rw [pE_n42 hy_67, hc_70] at hkp_79
              have hD0 := hD
              refine va_zast (i := zI (d35_4)) hx hb hK hP hD hS kp_79 2 hkp_79 rfl (zI_in (a := d35_4) (n := Pw_60.an qz) (by omega) (by omega) (by omega)) dX15_sort_131 (fun H locs hP hD hS => ?_)
              rw [show vp_nar .boolean (zI (P2.ia qz (d2_1))) = zI (P2.ia qz (d2_1)) from zI_nar (a := P2.ia qz (d2_1)) (by omega) (by omega)] at hP hD
              obtain ⟨Pw_80, ePw_80⟩ : ∃ q9 : PO, q9 = Pw_60.ri9 qz (zup (Pw_60.ia qz) (d35_4) (P2.ia qz (d2_1))) := ⟨_, rfl⟩
              have eQ : upd (fun j : Nat => zI (Pw_60.ia qz (j : Int))) (zI (d35_4)).toNatClampNeg (zI (P2.ia qz (d2_1))) = (fun j : Nat => zI ((zup (Pw_60.ia qz) (d35_4) (P2.ia qz (d2_1))) (j : Int))) := zI_st (Pw_60.ia qz) (e := d35_4) (v := P2.ia qz (d2_1)) (by omega) (by omega)
              have eU : (([] : va_W) ++ va_pl L (pE Pw_60)).set kp_79 (qz, (.inl (cZ, Pw_60.an qz, .inl (upd (fun j : Nat => zI (Pw_60.ia qz (j : Int))) (zI (d35_4)).toNatClampNeg (zI (P2.ia qz (d2_1))))) : va_E)) = ([] : va_W) ++ va_pl L (pE Pw_80) := (by rw [eQ, va_pl_set hD0 hoqz.1 gkp_79, ePw_80]; exact congrArg (fun f9 => ([] : va_W) ++ va_pl L f9) (by have h9 := putnum (P := Pw_60) (x := qz) (a := zup (Pw_60.ia qz) (d35_4) (P2.ia qz (d2_1))) (by omega); rw [hc_70] at h9; exact h9))
              have hP : va_P (dC, dI) vwQ ([] ++ va_pl L (pE Pw_80)) H := (by rw [← eU]; exact hP)
              have hD : va_D A ([] ++ va_pl L (pE Pw_80)) := (by rw [← eU]; exact hD)
              clear eU eQ hD0 gkp_79 hkp_79
              have wPw_80 : PH1 xp Pw_60 Pw_80 := (by rw [ePw_80]; exact PH1.num ho_76)
              have hi_81 : Pw_80.ia qp = Pw_60.ia qp := (by rw [ePw_80]; exact ri9_of _ _ (kd_ne hy_65 hy_67 (by decide)))
              have hi_82 : Pw_80.ia qu = Pw_60.ia qu := (by rw [ePw_80]; exact ri9_of _ _ (kd_ne hy_66 hy_67 (by decide)))
              have hi_83 : Pw_80.ia qz = zup (Pw_60.ia qz) (d35_4) (P2.ia qz (d2_1)) := (by rw [ePw_80]; exact ri9_at _ _ _)
              have hy_84 : Pw_80.kd xp = 15 := (by rw [ePw_80]; exact hy_64)
              have : Pw_80.pt xp = Pw_60.pt xp := (by rw [ePw_80]; rfl)
              have : Pw_80.pn xp = Pw_60.pn xp := (by rw [ePw_80]; rfl)
              have : Pw_80.pg xp = Pw_60.pg xp := (by rw [ePw_80]; rfl)
              have hy_85 : Pw_80.kd qp = 40 := (by rw [ePw_80]; exact hy_65)
              have hy_86 : Pw_80.kd qu = 41 := (by rw [ePw_80]; exact hy_66)
              have hy_87 : Pw_80.kd qz = 42 := (by rw [ePw_80]; exact hy_67)
              have hc_88 : Pw_80.ac qp = cI := (by rw [ePw_80]; exact hc_68)
              have : Pw_80.an qp = Pw_60.an qp := (by rw [ePw_80]; rfl)
              have hc_89 : Pw_80.ac qu = cI := (by rw [ePw_80]; exact hc_69)
              have : Pw_80.an qu = Pw_60.an qu := (by rw [ePw_80]; rfl)
              have hc_90 : Pw_80.ac qz = cZ := (by rw [ePw_80]; exact hc_70)
              have : Pw_80.an qz = Pw_60.an qz := (by rw [ePw_80]; rfl)
              have ha_91 : Pw_80.pp xp = qp := (by rw [ePw_80]; exact ha_71)
              have ha_92 : Pw_80.pu xp = qu := (by rw [ePw_80]; exact ha_72)
              have ha_93 : Pw_80.pr xp = qz := (by rw [ePw_80]; exact ha_73)
              have ho_94 : Pw_80.ow qp = xp := (by rw [ePw_80]; exact ho_74)
              have ho_95 : Pw_80.ow qu = xp := (by rw [ePw_80]; exact ho_75)
              have ho_96 : Pw_80.ow qz = xp := (by rw [ePw_80]; exact ho_76)
              refine lv_iinc (v := zI (d2_1 + 1)) (lv' := [(1, .int (zI (d2_1 + 1))), (0, .ref xp), (2, .int (zI (P2.ia qp (d2_1)))), (3, .int (zI (P2.ia qu (d2_1)))), (4, .int (zI (d35_4))), (5, .int (zI (P2.ia qz (d2_1))))]) hx hb dX15_sort_132 hl (k := 1) rfl (zI_add (d2_1) (1)) (by decide) rfl (fun ls hl => ?_)
              refine lv_goto (tgt := 2) hx hb dX15_sort_135 (by decide) ?_
              exact ih2 (d2_1 + 1) Pw_80 ls H _ (by omega) (wP35.trans (wPw_40.trans (wPw_60.trans (wPw_80)))) (by omega) (fun i a b => by rw [hi_81, hi_61, hi_41, hi_82, hi_62, hi_42, hi_83, hi_63, hi_43]; exact EF.put (jef2 _ (by omega) (by omega)) (fun _ => jef35 i a b)) (by rw [hi_81, hi_61, hi_41]; exact jq35.put jq2 (by omega) (by omega)) (by rw [hi_81, hi_61, hi_41]; exact js35.fill (by omega) (by omega)) (by rw [hi_81, hi_61, hi_41, hi_82, hi_62, hi_42, hi_83, hi_63, hi_43]; exact jx35.fill (by omega) (by omega)) (by rw [ePw_80, ePw_60, ePw_40]; exact jr35) (by omega) (lv_sub hl [1, 0] rfl) hP hD hS
            · have yb37 : ¬ (d35_4 : Int) ≤ (0 : Int) := fun q => b37 ((zI_le (a := d35_4) (b := 0) (by omega) (by omega) (by omega) (by omega)).mpr q)
              refine lv_aload_n hx hb dX15_sort_40 rfl (lv_at hl 0 rfl) ?_
              obtain ⟨kp_97, hkp_97⟩ := va_pl_get (X := []) (f := pE P35) hX_p.1.1
              rw [pE_phi hy_24] at hkp_97
              refine va_get (D := (dC, dI)) (ci := 20) (v := .ref (P35.pp xp)) (C := RX15) (T := TX15) (N := 6) hx hb hts mem_PP_sortX_0 hown hK hP kp_97 hkp_97 rfl 2 (by decide) (ow (k := 1) rfl) (fun _ h9 => h9) rfl dX15_sort_41 ?_
              obtain ⟨pr_98, epr_98⟩ : ∃ q9 : Nat, q9 = P35.pp xp := ⟨_, rfl⟩
              rw [← epr_98]
              obtain rfl : qp = pr_98 := (by rw [epr_98]; exact ha_31.symm)
              refine lv_iload hx hb dX15_sort_44 (lv_at hl 4 rfl) ?_
              refine lv_iconst (v := 1) hx hb dX15_sort_46 (by decide) ?_
              refine lv_isub hx hb dX15_sort_47 ?_
              refine lv_topi (fun z ez => ?_)
              obtain rfl : z = zI (d35_4 - 1) := ez.trans (zI_sub (d35_4) (1))
              obtain ⟨kp_99, hkp_99⟩ := va_pl_get (X := []) (f := pE P35) hoqp.1
              rw [pE_n40 hy_25, hc_28] at hkp_99
              refine va_iald hx hb hK hP kp_99 1 hkp_99 rfl (zI_in (a := d35_4 - 1) (n := P35.an qp) (by omega) (by omega) (by omega)) dX15_sort_48 ?_
              refine lv_topi (fun z ez => ?_)
              obtain rfl : z = zI (P35.ia qp (d35_4 - 1)) := ez.trans (zI_ld (P35.ia qp) (by omega) (by omega))
              have : 0 ≤ P35.ia qp (d35_4 - 1) ∧ P35.ia qp (d35_4 - 1) ≤ 299 := (by exact (jef35 (d35_4 - 1) (by omega) (by omega)).1)
              refine lv_iload_n hx hb dX15_sort_49 rfl (lv_at hl 2 rfl) ?_
              refine lv_icmp_le (tgt := 107) hx hb dX15_sort_50 (by decide) (fun b50 => ?_) (fun b50 => ?_)
              · have yb50 : (P35.ia qp (d35_4 - 1) : Int) ≤ (P2.ia qp (d2_1) : Int) := (zI_le (a := P35.ia qp (d35_4 - 1)) (b := P2.ia qp (d2_1)) (by omega) (by omega) (by omega) (by omega)).mp b50
                refine lv_aload_n hx hb dX15_sort_107 rfl (lv_at hl 0 rfl) ?_
                obtain ⟨kp_100, hkp_100⟩ := va_pl_get (X := []) (f := pE P35) hX_p.1.1
                rw [pE_phi hy_24] at hkp_100
                refine va_get (D := (dC, dI)) (ci := 20) (v := .ref (P35.pp xp)) (C := RX15) (T := TX15) (N := 6) hx hb hts mem_PP_sortX_0 hown hK hP kp_100 hkp_100 rfl 2 (by decide) (ow (k := 1) rfl) (fun _ h9 => h9) rfl dX15_sort_108 ?_
                obtain ⟨pr_101, epr_101⟩ : ∃ q9 : Nat, q9 = P35.pp xp := ⟨_, rfl⟩
                rw [← epr_101]
                obtain rfl : qp = pr_101 := (by rw [epr_101]; exact ha_31.symm)
                refine lv_iload hx hb dX15_sort_111 (lv_at hl 4 rfl) ?_
                refine lv_iload_n hx hb dX15_sort_113 rfl (lv_at hl 2 rfl) ?_
                obtain ⟨kp_102, gkp_102⟩ := va_pl_get (X := []) (f := pE P35) hoqp.1
                have hkp_102 := gkp_102
                rw [pE_n40 hy_25, hc_28] at hkp_102
                have hD0 := hD
                refine va_iast (i := zI (d35_4)) hx hb hK hP hD hS kp_102 1 hkp_102 rfl (zI_in (a := d35_4) (n := P35.an qp) (by omega) (by omega) (by omega)) dX15_sort_114 (fun H locs hP hD hS => ?_)
                obtain ⟨Pw_103, ePw_103⟩ : ∃ q9 : PO, q9 = P35.ri9 qp (zup (P35.ia qp) (d35_4) (P2.ia qp (d2_1))) := ⟨_, rfl⟩
                have eQ : upd (fun j : Nat => zI (P35.ia qp (j : Int))) (zI (d35_4)).toNatClampNeg (zI (P2.ia qp (d2_1))) = (fun j : Nat => zI ((zup (P35.ia qp) (d35_4) (P2.ia qp (d2_1))) (j : Int))) := zI_st (P35.ia qp) (e := d35_4) (v := P2.ia qp (d2_1)) (by omega) (by omega)
                have eU : (([] : va_W) ++ va_pl L (pE P35)).set kp_102 (qp, (.inl (cI, P35.an qp, .inl (upd (fun j : Nat => zI (P35.ia qp (j : Int))) (zI (d35_4)).toNatClampNeg (zI (P2.ia qp (d2_1))))) : va_E)) = ([] : va_W) ++ va_pl L (pE Pw_103) := (by rw [eQ, va_pl_set hD0 hoqp.1 gkp_102, ePw_103]; exact congrArg (fun f9 => ([] : va_W) ++ va_pl L f9) (by have h9 := putnum (P := P35) (x := qp) (a := zup (P35.ia qp) (d35_4) (P2.ia qp (d2_1))) (by omega); rw [hc_28] at h9; exact h9))
                have hP : va_P (dC, dI) vwQ ([] ++ va_pl L (pE Pw_103)) H := (by rw [← eU]; exact hP)
                have hD : va_D A ([] ++ va_pl L (pE Pw_103)) := (by rw [← eU]; exact hD)
                clear eU eQ hD0 gkp_102 hkp_102
                have wPw_103 : PH1 xp P35 Pw_103 := (by rw [ePw_103]; exact PH1.num ho_34)
                have hi_104 : Pw_103.ia qp = zup (P35.ia qp) (d35_4) (P2.ia qp (d2_1)) := (by rw [ePw_103]; exact ri9_at _ _ _)
                have hi_105 : Pw_103.ia qu = P35.ia qu := (by rw [ePw_103]; exact ri9_of _ _ (kd_ne hy_26 hy_25 (by decide)))
                have hi_106 : Pw_103.ia qz = P35.ia qz := (by rw [ePw_103]; exact ri9_of _ _ (kd_ne hy_27 hy_25 (by decide)))
                have hy_107 : Pw_103.kd xp = 15 := (by rw [ePw_103]; exact hy_24)
                have : Pw_103.pt xp = P35.pt xp := (by rw [ePw_103]; rfl)
                have : Pw_103.pn xp = P35.pn xp := (by rw [ePw_103]; rfl)
                have : Pw_103.pg xp = P35.pg xp := (by rw [ePw_103]; rfl)
                have hy_108 : Pw_103.kd qp = 40 := (by rw [ePw_103]; exact hy_25)
                have hy_109 : Pw_103.kd qu = 41 := (by rw [ePw_103]; exact hy_26)
                have hy_110 : Pw_103.kd qz = 42 := (by rw [ePw_103]; exact hy_27)
                have hc_111 : Pw_103.ac qp = cI := (by rw [ePw_103]; exact hc_28)
                have : Pw_103.an qp = P35.an qp := (by rw [ePw_103]; rfl)
                have hc_112 : Pw_103.ac qu = cI := (by rw [ePw_103]; exact hc_29)
                have : Pw_103.an qu = P35.an qu := (by rw [ePw_103]; rfl)
                have hc_113 : Pw_103.ac qz = cZ := (by rw [ePw_103]; exact hc_30)
                have : Pw_103.an qz = P35.an qz := (by rw [ePw_103]; rfl)
                have ha_114 : Pw_103.pp xp = qp := (by rw [ePw_103]; exact ha_31)
                have ha_115 : Pw_103.pu xp = qu := (by rw [ePw_103]; exact ha_32)
                have ha_116 : Pw_103.pr xp = qz := (by rw [ePw_103]; exact ha_33)
                have ho_117 : Pw_103.ow qp = xp := (by rw [ePw_103]; exact ho_34)
                have ho_118 : Pw_103.ow qu = xp := (by rw [ePw_103]; exact ho_35)
                have ho_119 : Pw_103.ow qz = xp := (by rw [ePw_103]; exact ho_36)
                refine lv_aload_n hx hb dX15_sort_115 rfl (lv_at hl 0 rfl) ?_
                obtain ⟨kp_120, hkp_120⟩ := va_pl_get (X := []) (f := pE Pw_103) hX_p.1.1
                rw [pE_phi hy_107] at hkp_120
                refine va_get (D := (dC, dI)) (ci := 20) (v := .ref (Pw_103.pu xp)) (C := RX15) (T := TX15) (N := 6) hx hb hts mem_PP_sortX_0 hown hK hP kp_120 hkp_120 rfl 3 (by decide) (ow (k := 2) rfl) (fun _ h9 => h9) rfl dX15_sort_116 ?_
                obtain ⟨pr_121, epr_121⟩ : ∃ q9 : Nat, q9 = Pw_103.pu xp := ⟨_, rfl⟩
                rw [← epr_121]
                obtain rfl : qu = pr_121 := (by rw [epr_121]; exact ha_115.symm)
                refine lv_iload hx hb dX15_sort_119 (lv_at hl 4 rfl) ?_
                refine lv_iload_n hx hb dX15_sort_121 rfl (lv_at hl 3 rfl) ?_
                obtain ⟨kp_122, gkp_122⟩ := va_pl_get (X := []) (f := pE Pw_103) hoqu.1
                have hkp_122 := gkp_122
                rw [pE_n41 hy_109, hc_112] at hkp_122
                have hD0 := hD
                refine va_iast (i := zI (d35_4)) hx hb hK hP hD hS kp_122 1 hkp_122 rfl (zI_in (a := d35_4) (n := Pw_103.an qu) (by omega) (by omega) (by omega)) dX15_sort_122 (fun H locs hP hD hS => ?_)
                obtain ⟨Pw_123, ePw_123⟩ : ∃ q9 : PO, q9 = Pw_103.ri9 qu (zup (Pw_103.ia qu) (d35_4) (P2.ia qu (d2_1))) := ⟨_, rfl⟩
                have eQ : upd (fun j : Nat => zI (Pw_103.ia qu (j : Int))) (zI (d35_4)).toNatClampNeg (zI (P2.ia qu (d2_1))) = (fun j : Nat => zI ((zup (Pw_103.ia qu) (d35_4) (P2.ia qu (d2_1))) (j : Int))) := zI_st (Pw_103.ia qu) (e := d35_4) (v := P2.ia qu (d2_1)) (by omega) (by omega)
                have eU : (([] : va_W) ++ va_pl L (pE Pw_103)).set kp_122 (qu, (.inl (cI, Pw_103.an qu, .inl (upd (fun j : Nat => zI (Pw_103.ia qu (j : Int))) (zI (d35_4)).toNatClampNeg (zI (P2.ia qu (d2_1))))) : va_E)) = ([] : va_W) ++ va_pl L (pE Pw_123) := (by rw [eQ, va_pl_set hD0 hoqu.1 gkp_122, ePw_123]; exact congrArg (fun f9 => ([] : va_W) ++ va_pl L f9) (by have h9 := putnum (P := Pw_103) (x := qu) (a := zup (Pw_103.ia qu) (d35_4) (P2.ia qu (d2_1))) (by omega); rw [hc_112] at h9; exact h9))
                have hP : va_P (dC, dI) vwQ ([] ++ va_pl L (pE Pw_123)) H := (by rw [← eU]; exact hP)
                have hD : va_D A ([] ++ va_pl L (pE Pw_123)) := (by rw [← eU]; exact hD)
                clear eU eQ hD0 gkp_122 hkp_122
                have wPw_123 : PH1 xp Pw_103 Pw_123 := (by rw [ePw_123]; exact PH1.num ho_118)
                have hi_124 : Pw_123.ia qp = Pw_103.ia qp := (by rw [ePw_123]; exact ri9_of _ _ (kd_ne hy_108 hy_109 (by decide)))
                have hi_125 : Pw_123.ia qu = zup (Pw_103.ia qu) (d35_4) (P2.ia qu (d2_1)) := (by rw [ePw_123]; exact ri9_at _ _ _)
                have hi_126 : Pw_123.ia qz = Pw_103.ia qz := (by rw [ePw_123]; exact ri9_of _ _ (kd_ne hy_110 hy_109 (by decide)))
                have hy_127 : Pw_123.kd xp = 15 := (by rw [ePw_123]; exact hy_107)
                have : Pw_123.pt xp = Pw_103.pt xp := (by rw [ePw_123]; rfl)
                have : Pw_123.pn xp = Pw_103.pn xp := (by rw [ePw_123]; rfl)
                have : Pw_123.pg xp = Pw_103.pg xp := (by rw [ePw_123]; rfl)
                have hy_128 : Pw_123.kd qp = 40 := (by rw [ePw_123]; exact hy_108)
                have hy_129 : Pw_123.kd qu = 41 := (by rw [ePw_123]; exact hy_109)
                have hy_130 : Pw_123.kd qz = 42 := (by rw [ePw_123]; exact hy_110)
                have hc_131 : Pw_123.ac qp = cI := (by rw [ePw_123]; exact hc_111)
                have : Pw_123.an qp = Pw_103.an qp := (by rw [ePw_123]; rfl)
                have hc_132 : Pw_123.ac qu = cI := (by rw [ePw_123]; exact hc_112)
                have : Pw_123.an qu = Pw_103.an qu := (by rw [ePw_123]; rfl)
                have hc_133 : Pw_123.ac qz = cZ := (by rw [ePw_123]; exact hc_113)
                have : Pw_123.an qz = Pw_103.an qz := (by rw [ePw_123]; rfl)
                have ha_134 : Pw_123.pp xp = qp := (by rw [ePw_123]; exact ha_114)
                have ha_135 : Pw_123.pu xp = qu := (by rw [ePw_123]; exact ha_115)
                have ha_136 : Pw_123.pr xp = qz := (by rw [ePw_123]; exact ha_116)
                have ho_137 : Pw_123.ow qp = xp := (by rw [ePw_123]; exact ho_117)
                have ho_138 : Pw_123.ow qu = xp := (by rw [ePw_123]; exact ho_118)
                have ho_139 : Pw_123.ow qz = xp := (by rw [ePw_123]; exact ho_119)
                refine lv_aload_n hx hb dX15_sort_123 rfl (lv_at hl 0 rfl) ?_
                obtain ⟨kp_140, hkp_140⟩ := va_pl_get (X := []) (f := pE Pw_123) hX_p.1.1
                rw [pE_phi hy_127] at hkp_140
                refine va_get (D := (dC, dI)) (ci := 20) (v := .ref (Pw_123.pr xp)) (C := RX15) (T := TX15) (N := 6) hx hb hts mem_PP_sortX_0 hown hK hP kp_140 hkp_140 rfl 4 (by decide) (ow (k := 3) rfl) (fun _ h9 => h9) rfl dX15_sort_124 ?_
                obtain ⟨pr_141, epr_141⟩ : ∃ q9 : Nat, q9 = Pw_123.pr xp := ⟨_, rfl⟩
                rw [← epr_141]
                obtain rfl : qz = pr_141 := (by rw [epr_141]; exact ha_136.symm)
                refine lv_iload hx hb dX15_sort_127 (lv_at hl 4 rfl) ?_
                refine lv_iload hx hb dX15_sort_129 (lv_at hl 5 rfl) ?_
                obtain ⟨kp_142, gkp_142⟩ := va_pl_get (X := []) (f := pE Pw_123) hoqz.1
                have hkp_142 := gkp_142
                rw [pE_n42 hy_130, hc_133] at hkp_142
                have hD0 := hD
                refine va_zast (i := zI (d35_4)) hx hb hK hP hD hS kp_142 2 hkp_142 rfl (zI_in (a := d35_4) (n := Pw_123.an qz) (by omega) (by omega) (by omega)) dX15_sort_131 (fun H locs hP hD hS => ?_)
                rw [show vp_nar .boolean (zI (P2.ia qz (d2_1))) = zI (P2.ia qz (d2_1)) from zI_nar (a := P2.ia qz (d2_1)) (by omega) (by omega)] at hP hD
                obtain ⟨Pw_143, ePw_143⟩ : ∃ q9 : PO, q9 = Pw_123.ri9 qz (zup (Pw_123.ia qz) (d35_4) (P2.ia qz (d2_1))) := ⟨_, rfl⟩
                have eQ : upd (fun j : Nat => zI (Pw_123.ia qz (j : Int))) (zI (d35_4)).toNatClampNeg (zI (P2.ia qz (d2_1))) = (fun j : Nat => zI ((zup (Pw_123.ia qz) (d35_4) (P2.ia qz (d2_1))) (j : Int))) := zI_st (Pw_123.ia qz) (e := d35_4) (v := P2.ia qz (d2_1)) (by omega) (by omega)
                have eU : (([] : va_W) ++ va_pl L (pE Pw_123)).set kp_142 (qz, (.inl (cZ, Pw_123.an qz, .inl (upd (fun j : Nat => zI (Pw_123.ia qz (j : Int))) (zI (d35_4)).toNatClampNeg (zI (P2.ia qz (d2_1))))) : va_E)) = ([] : va_W) ++ va_pl L (pE Pw_143) := (by rw [eQ, va_pl_set hD0 hoqz.1 gkp_142, ePw_143]; exact congrArg (fun f9 => ([] : va_W) ++ va_pl L f9) (by have h9 := putnum (P := Pw_123) (x := qz) (a := zup (Pw_123.ia qz) (d35_4) (P2.ia qz (d2_1))) (by omega); rw [hc_133] at h9; exact h9))
                have hP : va_P (dC, dI) vwQ ([] ++ va_pl L (pE Pw_143)) H := (by rw [← eU]; exact hP)
                have hD : va_D A ([] ++ va_pl L (pE Pw_143)) := (by rw [← eU]; exact hD)
                clear eU eQ hD0 gkp_142 hkp_142
                have wPw_143 : PH1 xp Pw_123 Pw_143 := (by rw [ePw_143]; exact PH1.num ho_139)
                have hi_144 : Pw_143.ia qp = Pw_123.ia qp := (by rw [ePw_143]; exact ri9_of _ _ (kd_ne hy_128 hy_130 (by decide)))
                have hi_145 : Pw_143.ia qu = Pw_123.ia qu := (by rw [ePw_143]; exact ri9_of _ _ (kd_ne hy_129 hy_130 (by decide)))
                have hi_146 : Pw_143.ia qz = zup (Pw_123.ia qz) (d35_4) (P2.ia qz (d2_1)) := (by rw [ePw_143]; exact ri9_at _ _ _)
                have hy_147 : Pw_143.kd xp = 15 := (by rw [ePw_143]; exact hy_127)
                have : Pw_143.pt xp = Pw_123.pt xp := (by rw [ePw_143]; rfl)
                have : Pw_143.pn xp = Pw_123.pn xp := (by rw [ePw_143]; rfl)
                have : Pw_143.pg xp = Pw_123.pg xp := (by rw [ePw_143]; rfl)
                have hy_148 : Pw_143.kd qp = 40 := (by rw [ePw_143]; exact hy_128)
                have hy_149 : Pw_143.kd qu = 41 := (by rw [ePw_143]; exact hy_129)
                have hy_150 : Pw_143.kd qz = 42 := (by rw [ePw_143]; exact hy_130)
                have hc_151 : Pw_143.ac qp = cI := (by rw [ePw_143]; exact hc_131)
                have : Pw_143.an qp = Pw_123.an qp := (by rw [ePw_143]; rfl)
                have hc_152 : Pw_143.ac qu = cI := (by rw [ePw_143]; exact hc_132)
                have : Pw_143.an qu = Pw_123.an qu := (by rw [ePw_143]; rfl)
                have hc_153 : Pw_143.ac qz = cZ := (by rw [ePw_143]; exact hc_133)
                have : Pw_143.an qz = Pw_123.an qz := (by rw [ePw_143]; rfl)
                have ha_154 : Pw_143.pp xp = qp := (by rw [ePw_143]; exact ha_134)
                have ha_155 : Pw_143.pu xp = qu := (by rw [ePw_143]; exact ha_135)
                have ha_156 : Pw_143.pr xp = qz := (by rw [ePw_143]; exact ha_136)
                have ho_157 : Pw_143.ow qp = xp := (by rw [ePw_143]; exact ho_137)
                have ho_158 : Pw_143.ow qu = xp := (by rw [ePw_143]; exact ho_138)
                have ho_159 : Pw_143.ow qz = xp := (by rw [ePw_143]; exact ho_139)
                refine lv_iinc (v := zI (d2_1 + 1)) (lv' := [(1, .int (zI (d2_1 + 1))), (0, .ref xp), (2, .int (zI (P2.ia qp (d2_1)))), (3, .int (zI (P2.ia qu (d2_1)))), (4, .int (zI (d35_4))), (5, .int (zI (P2.ia qz (d2_1))))]) hx hb dX15_sort_132 hl (k := 1) rfl (zI_add (d2_1) (1)) (by decide) rfl (fun ls hl => ?_)
                refine lv_goto (tgt := 2) hx hb dX15_sort_135 (by decide) ?_
                exact ih2 (d2_1 + 1) Pw_143 ls H _ (by omega) (wP35.trans (wPw_103.trans (wPw_123.trans (wPw_143)))) (by omega) (fun i a b => by rw [hi_144, hi_124, hi_104, hi_145, hi_125, hi_105, hi_146, hi_126, hi_106]; exact EF.put (jef2 _ (by omega) (by omega)) (fun _ => jef35 i a b)) (by rw [hi_144, hi_124, hi_104]; exact jq35.put jq2 (by omega) (by omega)) (by rw [hi_144, hi_124, hi_104]; exact js35.fill (by omega) (by omega)) (by rw [hi_144, hi_124, hi_104, hi_145, hi_125, hi_105, hi_146, hi_126, hi_106]; exact jx35.fill (by omega) (by omega)) (by rw [ePw_143, ePw_123, ePw_103]; exact jr35) (by omega) (lv_sub hl [1, 0] rfl) hP hD hS
              · have yb50 : ¬ (P35.ia qp (d35_4 - 1) : Int) ≤ (P2.ia qp (d2_1) : Int) := fun q => b50 ((zI_le (a := P35.ia qp (d35_4 - 1)) (b := P2.ia qp (d2_1)) (by omega) (by omega) (by omega) (by omega)).mpr q)
                refine lv_aload_n hx hb dX15_sort_53 rfl (lv_at hl 0 rfl) ?_
                obtain ⟨kp_160, hkp_160⟩ := va_pl_get (X := []) (f := pE P35) hX_p.1.1
                rw [pE_phi hy_24] at hkp_160
                refine va_get (D := (dC, dI)) (ci := 20) (v := .ref (P35.pp xp)) (C := RX15) (T := TX15) (N := 6) hx hb hts mem_PP_sortX_0 hown hK hP kp_160 hkp_160 rfl 2 (by decide) (ow (k := 1) rfl) (fun _ h9 => h9) rfl dX15_sort_54 ?_
                obtain ⟨pr_161, epr_161⟩ : ∃ q9 : Nat, q9 = P35.pp xp := ⟨_, rfl⟩
                rw [← epr_161]
                obtain rfl : qp = pr_161 := (by rw [epr_161]; exact ha_31.symm)
                refine lv_iload hx hb dX15_sort_57 (lv_at hl 4 rfl) ?_
                refine lv_aload_n hx hb dX15_sort_59 rfl (lv_at hl 0 rfl) ?_
                obtain ⟨kp_162, hkp_162⟩ := va_pl_get (X := []) (f := pE P35) hX_p.1.1
                rw [pE_phi hy_24] at hkp_162
                refine va_get (D := (dC, dI)) (ci := 20) (v := .ref (P35.pp xp)) (C := RX15) (T := TX15) (N := 6) hx hb hts mem_PP_sortX_0 hown hK hP kp_162 hkp_162 rfl 2 (by decide) (ow (k := 1) rfl) (fun _ h9 => h9) rfl dX15_sort_60 ?_
                obtain ⟨pr_163, epr_163⟩ : ∃ q9 : Nat, q9 = P35.pp xp := ⟨_, rfl⟩
                rw [← epr_163]
                obtain rfl : qp = pr_163 := (by rw [epr_163]; exact ha_31.symm)
                refine lv_iload hx hb dX15_sort_63 (lv_at hl 4 rfl) ?_
                refine lv_iconst (v := 1) hx hb dX15_sort_65 (by decide) ?_
                refine lv_isub hx hb dX15_sort_66 ?_
                refine lv_topi (fun z ez => ?_)
                obtain rfl : z = zI (d35_4 - 1) := ez.trans (zI_sub (d35_4) (1))
                obtain ⟨kp_164, hkp_164⟩ := va_pl_get (X := []) (f := pE P35) hoqp.1
                rw [pE_n40 hy_25, hc_28] at hkp_164
                refine va_iald hx hb hK hP kp_164 1 hkp_164 rfl (zI_in (a := d35_4 - 1) (n := P35.an qp) (by omega) (by omega) (by omega)) dX15_sort_67 ?_
                refine lv_topi (fun z ez => ?_)
                obtain rfl : z = zI (P35.ia qp (d35_4 - 1)) := ez.trans (zI_ld (P35.ia qp) (by omega) (by omega))
                have : 0 ≤ P35.ia qp (d35_4 - 1) ∧ P35.ia qp (d35_4 - 1) ≤ 299 := (by exact (jef35 (d35_4 - 1) (by omega) (by omega)).1)
                obtain ⟨kp_165, gkp_165⟩ := va_pl_get (X := []) (f := pE P35) hoqp.1
                have hkp_165 := gkp_165
                rw [pE_n40 hy_25, hc_28] at hkp_165
                have hD0 := hD
                refine va_iast (i := zI (d35_4)) hx hb hK hP hD hS kp_165 1 hkp_165 rfl (zI_in (a := d35_4) (n := P35.an qp) (by omega) (by omega) (by omega)) dX15_sort_68 (fun H locs hP hD hS => ?_)
                obtain ⟨Pw_166, ePw_166⟩ : ∃ q9 : PO, q9 = P35.ri9 qp (zup (P35.ia qp) (d35_4) (P35.ia qp (d35_4 - 1))) := ⟨_, rfl⟩
                have eQ : upd (fun j : Nat => zI (P35.ia qp (j : Int))) (zI (d35_4)).toNatClampNeg (zI (P35.ia qp (d35_4 - 1))) = (fun j : Nat => zI ((zup (P35.ia qp) (d35_4) (P35.ia qp (d35_4 - 1))) (j : Int))) := zI_st (P35.ia qp) (e := d35_4) (v := P35.ia qp (d35_4 - 1)) (by omega) (by omega)
                have eU : (([] : va_W) ++ va_pl L (pE P35)).set kp_165 (qp, (.inl (cI, P35.an qp, .inl (upd (fun j : Nat => zI (P35.ia qp (j : Int))) (zI (d35_4)).toNatClampNeg (zI (P35.ia qp (d35_4 - 1))))) : va_E)) = ([] : va_W) ++ va_pl L (pE Pw_166) := (by rw [eQ, va_pl_set hD0 hoqp.1 gkp_165, ePw_166]; exact congrArg (fun f9 => ([] : va_W) ++ va_pl L f9) (by have h9 := putnum (P := P35) (x := qp) (a := zup (P35.ia qp) (d35_4) (P35.ia qp (d35_4 - 1))) (by omega); rw [hc_28] at h9; exact h9))
                have hP : va_P (dC, dI) vwQ ([] ++ va_pl L (pE Pw_166)) H := (by rw [← eU]; exact hP)
                have hD : va_D A ([] ++ va_pl L (pE Pw_166)) := (by rw [← eU]; exact hD)
                clear eU eQ hD0 gkp_165 hkp_165
                have wPw_166 : PH1 xp P35 Pw_166 := (by rw [ePw_166]; exact PH1.num ho_34)
                have hi_167 : Pw_166.ia qp = zup (P35.ia qp) (d35_4) (P35.ia qp (d35_4 - 1)) := (by rw [ePw_166]; exact ri9_at _ _ _)
                have hi_168 : Pw_166.ia qu = P35.ia qu := (by rw [ePw_166]; exact ri9_of _ _ (kd_ne hy_26 hy_25 (by decide)))
                have hi_169 : Pw_166.ia qz = P35.ia qz := (by rw [ePw_166]; exact ri9_of _ _ (kd_ne hy_27 hy_25 (by decide)))
                have hy_170 : Pw_166.kd xp = 15 := (by rw [ePw_166]; exact hy_24)
                have : Pw_166.pt xp = P35.pt xp := (by rw [ePw_166]; rfl)
                have : Pw_166.pn xp = P35.pn xp := (by rw [ePw_166]; rfl)
                have : Pw_166.pg xp = P35.pg xp := (by rw [ePw_166]; rfl)
                have hy_171 : Pw_166.kd qp = 40 := (by rw [ePw_166]; exact hy_25)
                have hy_172 : Pw_166.kd qu = 41 := (by rw [ePw_166]; exact hy_26)
                have hy_173 : Pw_166.kd qz = 42 := (by rw [ePw_166]; exact hy_27)
                have hc_174 : Pw_166.ac qp = cI := (by rw [ePw_166]; exact hc_28)
                have : Pw_166.an qp = P35.an qp := (by rw [ePw_166]; rfl)
                have hc_175 : Pw_166.ac qu = cI := (by rw [ePw_166]; exact hc_29)
                have : Pw_166.an qu = P35.an qu := (by rw [ePw_166]; rfl)
                have hc_176 : Pw_166.ac qz = cZ := (by rw [ePw_166]; exact hc_30)
                have : Pw_166.an qz = P35.an qz := (by rw [ePw_166]; rfl)
                have ha_177 : Pw_166.pp xp = qp := (by rw [ePw_166]; exact ha_31)
                have ha_178 : Pw_166.pu xp = qu := (by rw [ePw_166]; exact ha_32)
                have ha_179 : Pw_166.pr xp = qz := (by rw [ePw_166]; exact ha_33)
                have ho_180 : Pw_166.ow qp = xp := (by rw [ePw_166]; exact ho_34)
                have ho_181 : Pw_166.ow qu = xp := (by rw [ePw_166]; exact ho_35)
                have ho_182 : Pw_166.ow qz = xp := (by rw [ePw_166]; exact ho_36)
                refine lv_aload_n hx hb dX15_sort_69 rfl (lv_at hl 0 rfl) ?_
                obtain ⟨kp_183, hkp_183⟩ := va_pl_get (X := []) (f := pE Pw_166) hX_p.1.1
                rw [pE_phi hy_170] at hkp_183
                refine va_get (D := (dC, dI)) (ci := 20) (v := .ref (Pw_166.pu xp)) (C := RX15) (T := TX15) (N := 6) hx hb hts mem_PP_sortX_0 hown hK hP kp_183 hkp_183 rfl 3 (by decide) (ow (k := 2) rfl) (fun _ h9 => h9) rfl dX15_sort_70 ?_
                obtain ⟨pr_184, epr_184⟩ : ∃ q9 : Nat, q9 = Pw_166.pu xp := ⟨_, rfl⟩
                rw [← epr_184]
                obtain rfl : qu = pr_184 := (by rw [epr_184]; exact ha_178.symm)
                refine lv_iload hx hb dX15_sort_73 (lv_at hl 4 rfl) ?_
                refine lv_aload_n hx hb dX15_sort_75 rfl (lv_at hl 0 rfl) ?_
                obtain ⟨kp_185, hkp_185⟩ := va_pl_get (X := []) (f := pE Pw_166) hX_p.1.1
                rw [pE_phi hy_170] at hkp_185
                refine va_get (D := (dC, dI)) (ci := 20) (v := .ref (Pw_166.pu xp)) (C := RX15) (T := TX15) (N := 6) hx hb hts mem_PP_sortX_0 hown hK hP kp_185 hkp_185 rfl 3 (by decide) (ow (k := 2) rfl) (fun _ h9 => h9) rfl dX15_sort_76 ?_
                obtain ⟨pr_186, epr_186⟩ : ∃ q9 : Nat, q9 = Pw_166.pu xp := ⟨_, rfl⟩
                rw [← epr_186]
                obtain rfl : qu = pr_186 := (by rw [epr_186]; exact ha_178.symm)
                refine lv_iload hx hb dX15_sort_79 (lv_at hl 4 rfl) ?_
                refine lv_iconst (v := 1) hx hb dX15_sort_81 (by decide) ?_
                refine lv_isub hx hb dX15_sort_82 ?_
                refine lv_topi (fun z ez => ?_)
                obtain rfl : z = zI (d35_4 - 1) := ez.trans (zI_sub (d35_4) (1))
                obtain ⟨kp_187, hkp_187⟩ := va_pl_get (X := []) (f := pE Pw_166) hoqu.1
                rw [pE_n41 hy_172, hc_175] at hkp_187
                refine va_iald hx hb hK hP kp_187 1 hkp_187 rfl (zI_in (a := d35_4 - 1) (n := Pw_166.an qu) (by omega) (by omega) (by omega)) dX15_sort_83 ?_
                refine lv_topi (fun z ez => ?_)
                obtain rfl : z = zI (Pw_166.ia qu (d35_4 - 1)) := ez.trans (zI_ld (Pw_166.ia qu) (by omega) (by omega))
                have : -2147483648 ≤ Pw_166.ia qu (d35_4 - 1) ∧ Pw_166.ia qu (d35_4 - 1) ≤ 2147483647 := (by rw [hi_168]; exact (jef35 (d35_4 - 1) (by omega) (by omega)).2.1)
                obtain ⟨kp_188, gkp_188⟩ := va_pl_get (X := []) (f := pE Pw_166) hoqu.1
                have hkp_188 := gkp_188
                rw [pE_n41 hy_172, hc_175] at hkp_188
                have hD0 := hD
                refine va_iast (i := zI (d35_4)) hx hb hK hP hD hS kp_188 1 hkp_188 rfl (zI_in (a := d35_4) (n := Pw_166.an qu) (by omega) (by omega) (by omega)) dX15_sort_84 (fun H locs hP hD hS => ?_)
                obtain ⟨Pw_189, ePw_189⟩ : ∃ q9 : PO, q9 = Pw_166.ri9 qu (zup (Pw_166.ia qu) (d35_4) (Pw_166.ia qu (d35_4 - 1))) := ⟨_, rfl⟩
                have eQ : upd (fun j : Nat => zI (Pw_166.ia qu (j : Int))) (zI (d35_4)).toNatClampNeg (zI (Pw_166.ia qu (d35_4 - 1))) = (fun j : Nat => zI ((zup (Pw_166.ia qu) (d35_4) (Pw_166.ia qu (d35_4 - 1))) (j : Int))) := zI_st (Pw_166.ia qu) (e := d35_4) (v := Pw_166.ia qu (d35_4 - 1)) (by omega) (by omega)
                have eU : (([] : va_W) ++ va_pl L (pE Pw_166)).set kp_188 (qu, (.inl (cI, Pw_166.an qu, .inl (upd (fun j : Nat => zI (Pw_166.ia qu (j : Int))) (zI (d35_4)).toNatClampNeg (zI (Pw_166.ia qu (d35_4 - 1))))) : va_E)) = ([] : va_W) ++ va_pl L (pE Pw_189) := (by rw [eQ, va_pl_set hD0 hoqu.1 gkp_188, ePw_189]; exact congrArg (fun f9 => ([] : va_W) ++ va_pl L f9) (by have h9 := putnum (P := Pw_166) (x := qu) (a := zup (Pw_166.ia qu) (d35_4) (Pw_166.ia qu (d35_4 - 1))) (by omega); rw [hc_175] at h9; exact h9))
                have hP : va_P (dC, dI) vwQ ([] ++ va_pl L (pE Pw_189)) H := (by rw [← eU]; exact hP)
                have hD : va_D A ([] ++ va_pl L (pE Pw_189)) := (by rw [← eU]; exact hD)
                clear eU eQ hD0 gkp_188 hkp_188
                have wPw_189 : PH1 xp Pw_166 Pw_189 := (by rw [ePw_189]; exact PH1.num ho_181)
                have hi_190 : Pw_189.ia qp = Pw_166.ia qp := (by rw [ePw_189]; exact ri9_of _ _ (kd_ne hy_171 hy_172 (by decide)))
                have hi_191 : Pw_189.ia qu = zup (Pw_166.ia qu) (d35_4) (Pw_166.ia qu (d35_4 - 1)) := (by rw [ePw_189]; exact ri9_at _ _ _)
                have hi_192 : Pw_189.ia qz = Pw_166.ia qz := (by rw [ePw_189]; exact ri9_of _ _ (kd_ne hy_173 hy_172 (by decide)))
                have hy_193 : Pw_189.kd xp = 15 := (by rw [ePw_189]; exact hy_170)
                have : Pw_189.pt xp = Pw_166.pt xp := (by rw [ePw_189]; rfl)
                have : Pw_189.pn xp = Pw_166.pn xp := (by rw [ePw_189]; rfl)
                have : Pw_189.pg xp = Pw_166.pg xp := (by rw [ePw_189]; rfl)
                have hy_194 : Pw_189.kd qp = 40 := (by rw [ePw_189]; exact hy_171)
                have hy_195 : Pw_189.kd qu = 41 := (by rw [ePw_189]; exact hy_172)
                have hy_196 : Pw_189.kd qz = 42 := (by rw [ePw_189]; exact hy_173)
                have hc_197 : Pw_189.ac qp = cI := (by rw [ePw_189]; exact hc_174)
                have : Pw_189.an qp = Pw_166.an qp := (by rw [ePw_189]; rfl)
                have hc_198 : Pw_189.ac qu = cI := (by rw [ePw_189]; exact hc_175)
                have : Pw_189.an qu = Pw_166.an qu := (by rw [ePw_189]; rfl)
                have hc_199 : Pw_189.ac qz = cZ := (by rw [ePw_189]; exact hc_176)
                have : Pw_189.an qz = Pw_166.an qz := (by rw [ePw_189]; rfl)
                have ha_200 : Pw_189.pp xp = qp := (by rw [ePw_189]; exact ha_177)
                have ha_201 : Pw_189.pu xp = qu := (by rw [ePw_189]; exact ha_178)
                have ha_202 : Pw_189.pr xp = qz := (by rw [ePw_189]; exact ha_179)
                have ho_203 : Pw_189.ow qp = xp := (by rw [ePw_189]; exact ho_180)
                have ho_204 : Pw_189.ow qu = xp := (by rw [ePw_189]; exact ho_181)
                have ho_205 : Pw_189.ow qz = xp := (by rw [ePw_189]; exact ho_182)
                refine lv_aload_n hx hb dX15_sort_85 rfl (lv_at hl 0 rfl) ?_
                obtain ⟨kp_206, hkp_206⟩ := va_pl_get (X := []) (f := pE Pw_189) hX_p.1.1
                rw [pE_phi hy_193] at hkp_206
                refine va_get (D := (dC, dI)) (ci := 20) (v := .ref (Pw_189.pr xp)) (C := RX15) (T := TX15) (N := 6) hx hb hts mem_PP_sortX_0 hown hK hP kp_206 hkp_206 rfl 4 (by decide) (ow (k := 3) rfl) (fun _ h9 => h9) rfl dX15_sort_86 ?_
                obtain ⟨pr_207, epr_207⟩ : ∃ q9 : Nat, q9 = Pw_189.pr xp := ⟨_, rfl⟩
                rw [← epr_207]
                obtain rfl : qz = pr_207 := (by rw [epr_207]; exact ha_202.symm)
                refine lv_iload hx hb dX15_sort_89 (lv_at hl 4 rfl) ?_
                refine lv_aload_n hx hb dX15_sort_91 rfl (lv_at hl 0 rfl) ?_
                obtain ⟨kp_208, hkp_208⟩ := va_pl_get (X := []) (f := pE Pw_189) hX_p.1.1
                rw [pE_phi hy_193] at hkp_208
                refine va_get (D := (dC, dI)) (ci := 20) (v := .ref (Pw_189.pr xp)) (C := RX15) (T := TX15) (N := 6) hx hb hts mem_PP_sortX_0 hown hK hP kp_208 hkp_208 rfl 4 (by decide) (ow (k := 3) rfl) (fun _ h9 => h9) rfl dX15_sort_92 ?_
                obtain ⟨pr_209, epr_209⟩ : ∃ q9 : Nat, q9 = Pw_189.pr xp := ⟨_, rfl⟩
                rw [← epr_209]
                obtain rfl : qz = pr_209 := (by rw [epr_209]; exact ha_202.symm)
                refine lv_iload hx hb dX15_sort_95 (lv_at hl 4 rfl) ?_
                refine lv_iconst (v := 1) hx hb dX15_sort_97 (by decide) ?_
                refine lv_isub hx hb dX15_sort_98 ?_
                refine lv_topi (fun z ez => ?_)
                obtain rfl : z = zI (d35_4 - 1) := ez.trans (zI_sub (d35_4) (1))
                obtain ⟨kp_210, hkp_210⟩ := va_pl_get (X := []) (f := pE Pw_189) hoqz.1
                rw [pE_n42 hy_196, hc_199] at hkp_210
                refine va_zald hx hb hK hP kp_210 2 hkp_210 rfl (zI_in (a := d35_4 - 1) (n := Pw_189.an qz) (by omega) (by omega) (by omega)) dX15_sort_99 ?_
                refine lv_topi (fun z ez => ?_)
                obtain rfl : z = zI (Pw_189.ia qz (d35_4 - 1)) := ez.trans (zI_ld (Pw_189.ia qz) (by omega) (by omega))
                have : 0 ≤ Pw_189.ia qz (d35_4 - 1) ∧ Pw_189.ia qz (d35_4 - 1) ≤ 1 := (by rw [hi_192, hi_169]; exact (jef35 (d35_4 - 1) (by omega) (by omega)).2.2.1)
                obtain ⟨kp_211, gkp_211⟩ := va_pl_get (X := []) (f := pE Pw_189) hoqz.1
                have hkp_211 := gkp_211
                rw [pE_n42 hy_196, hc_199] at hkp_211
                have hD0 := hD
                refine va_zast (i := zI (d35_4)) hx hb hK hP hD hS kp_211 2 hkp_211 rfl (zI_in (a := d35_4) (n := Pw_189.an qz) (by omega) (by omega) (by omega)) dX15_sort_100 (fun H locs hP hD hS => ?_)
                rw [show vp_nar .boolean (zI (Pw_189.ia qz (d35_4 - 1))) = zI (Pw_189.ia qz (d35_4 - 1)) from zI_nar (a := Pw_189.ia qz (d35_4 - 1)) (by omega) (by omega)] at hP hD
                obtain ⟨Pw_212, ePw_212⟩ : ∃ q9 : PO, q9 = Pw_189.ri9 qz (zup (Pw_189.ia qz) (d35_4) (Pw_189.ia qz (d35_4 - 1))) := ⟨_, rfl⟩
                have eQ : upd (fun j : Nat => zI (Pw_189.ia qz (j : Int))) (zI (d35_4)).toNatClampNeg (zI (Pw_189.ia qz (d35_4 - 1))) = (fun j : Nat => zI ((zup (Pw_189.ia qz) (d35_4) (Pw_189.ia qz (d35_4 - 1))) (j : Int))) := zI_st (Pw_189.ia qz) (e := d35_4) (v := Pw_189.ia qz (d35_4 - 1)) (by omega) (by omega)
                have eU : (([] : va_W) ++ va_pl L (pE Pw_189)).set kp_211 (qz, (.inl (cZ, Pw_189.an qz, .inl (upd (fun j : Nat => zI (Pw_189.ia qz (j : Int))) (zI (d35_4)).toNatClampNeg (zI (Pw_189.ia qz (d35_4 - 1))))) : va_E)) = ([] : va_W) ++ va_pl L (pE Pw_212) := (by rw [eQ, va_pl_set hD0 hoqz.1 gkp_211, ePw_212]; exact congrArg (fun f9 => ([] : va_W) ++ va_pl L f9) (by have h9 := putnum (P := Pw_189) (x := qz) (a := zup (Pw_189.ia qz) (d35_4) (Pw_189.ia qz (d35_4 - 1))) (by omega); rw [hc_199] at h9; exact h9))
                have hP : va_P (dC, dI) vwQ ([] ++ va_pl L (pE Pw_212)) H := (by rw [← eU]; exact hP)
                have hD : va_D A ([] ++ va_pl L (pE Pw_212)) := (by rw [← eU]; exact hD)
                clear eU eQ hD0 gkp_211 hkp_211
                have wPw_212 : PH1 xp Pw_189 Pw_212 := (by rw [ePw_212]; exact PH1.num ho_205)
                have hi_213 : Pw_212.ia qp = Pw_189.ia qp := (by rw [ePw_212]; exact ri9_of _ _ (kd_ne hy_194 hy_196 (by decide)))
                have hi_214 : Pw_212.ia qu = Pw_189.ia qu := (by rw [ePw_212]; exact ri9_of _ _ (kd_ne hy_195 hy_196 (by decide)))
                have hi_215 : Pw_212.ia qz = zup (Pw_189.ia qz) (d35_4) (Pw_189.ia qz (d35_4 - 1)) := (by rw [ePw_212]; exact ri9_at _ _ _)
                have hy_216 : Pw_212.kd xp = 15 := (by rw [ePw_212]; exact hy_193)
                have : Pw_212.pt xp = Pw_189.pt xp := (by rw [ePw_212]; rfl)
                have : Pw_212.pn xp = Pw_189.pn xp := (by rw [ePw_212]; rfl)
                have : Pw_212.pg xp = Pw_189.pg xp := (by rw [ePw_212]; rfl)
                have hy_217 : Pw_212.kd qp = 40 := (by rw [ePw_212]; exact hy_194)
                have hy_218 : Pw_212.kd qu = 41 := (by rw [ePw_212]; exact hy_195)
                have hy_219 : Pw_212.kd qz = 42 := (by rw [ePw_212]; exact hy_196)
                have hc_220 : Pw_212.ac qp = cI := (by rw [ePw_212]; exact hc_197)
                have : Pw_212.an qp = Pw_189.an qp := (by rw [ePw_212]; rfl)
                have hc_221 : Pw_212.ac qu = cI := (by rw [ePw_212]; exact hc_198)
                have : Pw_212.an qu = Pw_189.an qu := (by rw [ePw_212]; rfl)
                have hc_222 : Pw_212.ac qz = cZ := (by rw [ePw_212]; exact hc_199)
                have : Pw_212.an qz = Pw_189.an qz := (by rw [ePw_212]; rfl)
                have ha_223 : Pw_212.pp xp = qp := (by rw [ePw_212]; exact ha_200)
                have ha_224 : Pw_212.pu xp = qu := (by rw [ePw_212]; exact ha_201)
                have ha_225 : Pw_212.pr xp = qz := (by rw [ePw_212]; exact ha_202)
                have ho_226 : Pw_212.ow qp = xp := (by rw [ePw_212]; exact ho_203)
                have ho_227 : Pw_212.ow qu = xp := (by rw [ePw_212]; exact ho_204)
                have ho_228 : Pw_212.ow qz = xp := (by rw [ePw_212]; exact ho_205)
                refine lv_iinc (v := zI (d35_4 - 1)) (lv' := [(4, .int (zI (d35_4 - 1))), (0, .ref xp), (1, .int (zI (d2_1))), (2, .int (zI (P2.ia qp (d2_1)))), (3, .int (zI (P2.ia qu (d2_1)))), (5, .int (zI (P2.ia qz (d2_1))))]) hx hb dX15_sort_101 hl (k := 4) rfl (zI_dec (d35_4) (1)) (by decide) rfl (fun ls hl => ?_)
                refine lv_goto (tgt := 35) hx hb dX15_sort_104 (by decide) ?_
                exact ih35 (d35_4 - 1) Pw_212 ls H _ (by omega) (wP35.trans (wPw_166.trans (wPw_189.trans (wPw_212)))) (by omega) (fun i a b => by rw [hi_213, hi_190, hi_167, hi_214, hi_191, hi_168, hi_215, hi_192, hi_169]; exact EF.upd (by omega) (jef35 _ (by omega) (by omega)) (fun _ => jef35 i a b)) (by rw [hi_213, hi_190, hi_167]; exact jq35.upd (by omega) (by omega)) (by rw [hi_213, hi_190, hi_167]; exact js35.shift (by omega) (by omega)) (by rw [hi_213, hi_190, hi_167, hi_214, hi_191, hi_168, hi_215, hi_192, hi_169]; exact jx35.shift (by omega) (by omega)) (by rw [ePw_212, ePw_189, ePw_166]; exact jr35) (by omega) (lv_sub hl [1, 2, 3, 4, 0, 5] rfl) hP hD hS
        exact key35 ((d2_1 + 1 : Int).toNat + 1) d2_1 P2 ls H _ (by omega) (wP2) (by omega) jef2 jq2 (js2.hole _) (jx2.hole (by omega) (by omega)) jr2 (by omega) (lv_sub hl [4, 5, 3, 2, 1, 0] rfl) hP hD hS
  exact key2 ((P.pn xp - 1 + 1 : Int).toNat + 1) 1 P ls H _ (by omega) (PH1.refl _ _) (by omega) hpa (PQ9.refl _ _) (HSB.refl _ _) (PMX.refl _ _ _ _) rfl (by omega) (lv_sub hl [1, 0] rfl) hP hD hS
