def o_PR_usesAW : List Cond := [.fieldLink RX17 9 "SsaForgeModel$Row" "op" "I", .fieldLink RX17 15 "SsaForgeModel$Row" "regA" "Z"]
def v_PR_usesAW : List Cond := .code yX17_usesA cX17_usesA 1 (some .boolean) :: (o_PR_usesAW ++ (wsX170 ++ []))
theorem mow_PR_usesAW : ∀ w ∈ o_PR_usesAW, w ∈ v_PR_usesAW := fun _ h => List.mem_cons_of_mem _ (List.mem_append_left _ h)
theorem mem_PR_usesAW_0 : ∀ w ∈ wsX170, w ∈ v_PR_usesAW := fun _ h => List.mem_cons_of_mem _ (List.mem_append_right _ (List.mem_append_left _ h))
set_option maxRecDepth 20000 in
theorem gw_PR_usesAW : v_PR_usesAW.all goodWord = true := by decide +kernel
set_option maxHeartbeats 4000000 in
set_option maxRecDepth 100000 in
theorem c_PR_usesAW (l : Launch) (dC : Nat → ClassId) (dI : Nat → Nat → Nat) (cO : ClassId) (L : List Nat) (P : PO) (xr : Nat) (hX_x : xr ∈ L) (hX_k : P.kd xr = 17) (hX_r : ROKR P xr) (sz : Nat) : Met l yX17_usesA v_PR_usesAW ({ frames := 0, cells := 0, slots := 0, locals := 0 }) (va_Pc [.ref xr] (fun U => U.heap.size = sz ∧ va_P (dC, dI) vwQ ([] ++ va_pl L (pE P)) U.heap ∧ va_K (dC, dI) vwQ [(cO, .object "java/lang/Object")] U ∧ va_D (fun _ => True) ([] ++ va_pl L (pE P)))) (va_Qi (fun (r : Int32) (_ : Unit) => r = zI (rUsA (P.ro xr) (P.rA xr))) (fun (_ : Unit) (t : State) => va_P (dC, dI) vwQ ([] ++ va_pl L (pE P)) t.heap ∧ va_K (dC, dI) vwQ [(cO, .object "java/lang/Object")] t ∧ va_D (va_A ([] ++ va_pl L (pE P)) sz) ([] ++ va_pl L (pE P))) (va_A ([] ++ va_pl L (pE P)) sz)) 0 0 (va_A ([] ++ va_pl L (pE P)) sz) := by
  refine Met.ofW (cc := cX17_usesA) (maxL := 1) (ret := (some .boolean)) (by decide) rfl ?_
  intro p e s m args below meth c s₁ B hml hv
  obtain ⟨rfl, hsz, hP, hK, hD0⟩ := hv
  have hx := B.exec
  have hb := B.bytes
  have hr := B.returns
  have hts := atoms_spec (ws := v_PR_usesAW) B.pre
  have hown : s.vm.findClass RX17 = some m.cls := findClass_of_methodNamed B.named
  have hlocks := B.notSynchronized
  have ow : ∀ {k : Nat} {w : Cond}, o_PR_usesAW[k]? = some w → w.before ([.ref xr] : List Value).toArray s = true := fun h => hts _ (mow_PR_usesAW _ (List.mem_of_getElem? h))
  subst hsz
  have hD := hD0.self (sz := s.heap.size)
  generalize hAe : va_A ([] ++ va_pl L (pE P)) s.heap.size = A at hD ⊢
  have hA : ∀ q : Nat, s.heap.size ≤ q → A q := fun q h => by rw [← hAe]; exact Or.inr h
  have hS : va_S A s.heap s.heap [] := va_S.rf
  have hP : va_P (dC, dI) vwQ ([] ++ va_pl L (pE P)) s.heap := hP
  have hl := lv_entry ([.ref xr]) (n := 1) (Nat.le_of_ble_eq_true rfl)
  rw [lg_entry_eq]
  generalize (lg_sl ([.ref xr]) ++ List.replicate (1 - (lg_sl ([.ref xr])).length) Slot.unset).toArray = ls at hl ⊢
  have hl : lv_has ls 1 [(0, .ref xr)] := hl
  obtain ⟨H, hH⟩ : ∃ H, H = s.heap := ⟨_, rfl⟩
  rw [← hH] at hP
  have hS : va_S A s.heap H [] := by rw [hH]; exact hS
  rw [← hH]
  refine zW_cap (fun Q hQ => ?_)
  have ⟨hr1, hr2, hr3, hr4, hr5, hr6, hr7, hr8, hr9⟩ := hX_r
  have hr9 := hX_r
  refine lv_aload_n hx hb dX17_usesA_0 rfl (lv_at hl 0 rfl) ?_
  obtain ⟨kp_1, hkp_1⟩ := va_pl_get (X := []) (f := pE P) hX_x
  rw [pE_row hX_k] at hkp_1
  refine va_get (D := (dC, dI)) (ci := 21) (v := .int (zI (P.ro xr))) (C := RX17) (T := TX17) (N := 7) hx hb hts mem_PR_usesAW_0 hown hK hP kp_1 hkp_1 rfl 0 (by decide) (ow (k := 0) rfl) (fun _ h9 => h9) rfl dX17_usesA_1 ?_
  refine lv_bipush (v := 20) hx hb dX17_usesA_4 (by decide) ?_
  refine lv_icmp_eq (tgt := 29) hx hb dX17_usesA_6 (by decide) (fun b6 => ?_) (fun b6 => ?_)
  · have yb6 : (P.ro xr : Int) = (20 : Int) := (zI_eq (a := P.ro xr) (b := 20) (by omega) (by omega) (by omega) (by omega)).mp b6
    refine lv_iconst (v := 0) hx hb dX17_usesA_29 (by decide) ?_
    subst hQ
    refine W.widen (k := 0) (n := 0) (Nat.le_of_ble_eq_true rfl) (Nat.le_of_ble_eq_true rfl) ?_
    exact W.zret (v := 0) hx hb hr (by decide) (fun t ht hW => ⟨⟨0, (), rfl, (congrArg zI (show (0 : Int) = rUsA (P.ro xr) (P.rA xr) by unfold rUsA; (repeat' split) <;> omega)), by rw [ht]; exact hP, va_K.moved hW.alike hK, hD⟩, hS.F ht⟩) hS.2.2 dX17_usesA_30
  · have yb6 : ¬ (P.ro xr : Int) = (20 : Int) := fun q => b6 ((zI_eq (a := P.ro xr) (b := 20) (by omega) (by omega) (by omega) (by omega)).mpr q)
    refine lv_aload_n hx hb dX17_usesA_9 rfl (lv_at hl 0 rfl) ?_
    obtain ⟨kp_2, hkp_2⟩ := va_pl_get (X := []) (f := pE P) hX_x
    rw [pE_row hX_k] at hkp_2
    refine va_get (D := (dC, dI)) (ci := 21) (v := .int (zI (P.ro xr))) (C := RX17) (T := TX17) (N := 7) hx hb hts mem_PR_usesAW_0 hown hK hP kp_2 hkp_2 rfl 0 (by decide) (ow (k := 0) rfl) (fun _ h9 => h9) rfl dX17_usesA_10 ?_
    refine lv_bipush (v := 30) hx hb dX17_usesA_13 (by decide) ?_
    refine lv_icmp_eq (tgt := 29) hx hb dX17_usesA_15 (by decide) (fun b15 => ?_) (fun b15 => ?_)
    · have yb15 : (P.ro xr : Int) = (30 : Int) := (zI_eq (a := P.ro xr) (b := 30) (by omega) (by omega) (by omega) (by omega)).mp b15
      refine lv_iconst (v := 0) hx hb dX17_usesA_29 (by decide) ?_
      subst hQ
      refine W.widen (k := 0) (n := 0) (Nat.le_of_ble_eq_true rfl) (Nat.le_of_ble_eq_true rfl) ?_
      exact W.zret (v := 0) hx hb hr (by decide) (fun t ht hW => ⟨⟨0, (), rfl, (congrArg zI (show (0 : Int) = rUsA (P.ro xr) (P.rA xr) by unfold rUsA; (repeat' split) <;> omega)), by rw [ht]; exact hP, va_K.moved hW.alike hK, hD⟩, hS.F ht⟩) hS.2.2 dX17_usesA_30
    · have yb15 : ¬ (P.ro xr : Int) = (30 : Int) := fun q => b15 ((zI_eq (a := P.ro xr) (b := 30) (by omega) (by omega) (by omega) (by omega)).mpr q)
      refine lv_aload_n hx hb dX17_usesA_18 rfl (lv_at hl 0 rfl) ?_
      obtain ⟨kp_3, hkp_3⟩ := va_pl_get (X := []) (f := pE P) hX_x
      rw [pE_row hX_k] at hkp_3
      refine va_get (D := (dC, dI)) (ci := 21) (v := .int (zI (P.rA xr))) (C := RX17) (T := TX17) (N := 7) hx hb hts mem_PR_usesAW_0 hown hK hP kp_3 hkp_3 rfl 4 (by decide) (ow (k := 1) rfl) (fun _ h9 => h9) rfl dX17_usesA_19 ?_
      refine lv_if_eq (tgt := 29) hx hb dX17_usesA_22 (by decide) (fun b22 => ?_) (fun b22 => ?_)
      · have yb22 : (P.rA xr : Int) = (0 : Int) := (zI_eq (a := P.rA xr) (b := 0) (by omega) (by omega) (by omega) (by omega)).mp b22
        refine lv_iconst (v := 0) hx hb dX17_usesA_29 (by decide) ?_
        subst hQ
        refine W.widen (k := 0) (n := 0) (Nat.le_of_ble_eq_true rfl) (Nat.le_of_ble_eq_true rfl) ?_
        exact W.zret (v := 0) hx hb hr (by decide) (fun t ht hW => ⟨⟨0, (), rfl, (congrArg zI (show (0 : Int) = rUsA (P.ro xr) (P.rA xr) by unfold rUsA; (repeat' split) <;> omega)), by rw [ht]; exact hP, va_K.moved hW.alike hK, hD⟩, hS.F ht⟩) hS.2.2 dX17_usesA_30
      · have yb22 : ¬ (P.rA xr : Int) = (0 : Int) := fun q => b22 ((zI_eq (a := P.rA xr) (b := 0) (by omega) (by omega) (by omega) (by omega)).mpr q)
        refine lv_iconst (v := 1) hx hb dX17_usesA_25 (by decide) ?_
        refine lv_goto (tgt := 30) hx hb dX17_usesA_26 (by decide) ?_
        subst hQ
        refine W.widen (k := 0) (n := 0) (Nat.le_of_ble_eq_true rfl) (Nat.le_of_ble_eq_true rfl) ?_
        exact W.zret (v := 1) hx hb hr (by decide) (fun t ht hW => ⟨⟨1, (), rfl, (congrArg zI (show (1 : Int) = rUsA (P.ro xr) (P.rA xr) by unfold rUsA; (repeat' split) <;> omega)), by rw [ht]; exact hP, va_K.moved hW.alike hK, hD⟩, hS.F ht⟩) hS.2.2 dX17_usesA_30
def o_PR_usesBW : List Cond := [.fieldLink RX17 9 "SsaForgeModel$Row" "op" "I", .fieldLink RX17 19 "SsaForgeModel$Row" "regB" "Z"]
def v_PR_usesBW : List Cond := .code yX17_usesB cX17_usesB 1 (some .boolean) :: (o_PR_usesBW ++ (wsX170 ++ []))
theorem mow_PR_usesBW : ∀ w ∈ o_PR_usesBW, w ∈ v_PR_usesBW := fun _ h => List.mem_cons_of_mem _ (List.mem_append_left _ h)
theorem mem_PR_usesBW_0 : ∀ w ∈ wsX170, w ∈ v_PR_usesBW := fun _ h => List.mem_cons_of_mem _ (List.mem_append_right _ (List.mem_append_left _ h))
set_option maxRecDepth 20000 in
theorem gw_PR_usesBW : v_PR_usesBW.all goodWord = true := by decide +kernel
set_option maxHeartbeats 4000000 in
set_option maxRecDepth 100000 in
theorem c_PR_usesBW (l : Launch) (dC : Nat → ClassId) (dI : Nat → Nat → Nat) (cO : ClassId) (L : List Nat) (P : PO) (xr : Nat) (hX_x : xr ∈ L) (hX_k : P.kd xr = 17) (hX_r : ROKR P xr) (sz : Nat) : Met l yX17_usesB v_PR_usesBW ({ frames := 0, cells := 0, slots := 0, locals := 0 }) (va_Pc [.ref xr] (fun U => U.heap.size = sz ∧ va_P (dC, dI) vwQ ([] ++ va_pl L (pE P)) U.heap ∧ va_K (dC, dI) vwQ [(cO, .object "java/lang/Object")] U ∧ va_D (fun _ => True) ([] ++ va_pl L (pE P)))) (va_Qi (fun (r : Int32) (_ : Unit) => r = zI (rUsB (P.ro xr) (P.rB xr))) (fun (_ : Unit) (t : State) => va_P (dC, dI) vwQ ([] ++ va_pl L (pE P)) t.heap ∧ va_K (dC, dI) vwQ [(cO, .object "java/lang/Object")] t ∧ va_D (va_A ([] ++ va_pl L (pE P)) sz) ([] ++ va_pl L (pE P))) (va_A ([] ++ va_pl L (pE P)) sz)) 0 0 (va_A ([] ++ va_pl L (pE P)) sz) := by
  refine Met.ofW (cc := cX17_usesB) (maxL := 1) (ret := (some .boolean)) (by decide) rfl ?_
  intro p e s m args below meth c s₁ B hml hv
  obtain ⟨rfl, hsz, hP, hK, hD0⟩ := hv
  have hx := B.exec
  have hb := B.bytes
  have hr := B.returns
  have hts := atoms_spec (ws := v_PR_usesBW) B.pre
  have hown : s.vm.findClass RX17 = some m.cls := findClass_of_methodNamed B.named
  have hlocks := B.notSynchronized
  have ow : ∀ {k : Nat} {w : Cond}, o_PR_usesBW[k]? = some w → w.before ([.ref xr] : List Value).toArray s = true := fun h => hts _ (mow_PR_usesBW _ (List.mem_of_getElem? h))
  subst hsz
  have hD := hD0.self (sz := s.heap.size)
  generalize hAe : va_A ([] ++ va_pl L (pE P)) s.heap.size = A at hD ⊢
  have hA : ∀ q : Nat, s.heap.size ≤ q → A q := fun q h => by rw [← hAe]; exact Or.inr h
  have hS : va_S A s.heap s.heap [] := va_S.rf
  have hP : va_P (dC, dI) vwQ ([] ++ va_pl L (pE P)) s.heap := hP
  have hl := lv_entry ([.ref xr]) (n := 1) (Nat.le_of_ble_eq_true rfl)
  rw [lg_entry_eq]
  generalize (lg_sl ([.ref xr]) ++ List.replicate (1 - (lg_sl ([.ref xr])).length) Slot.unset).toArray = ls at hl ⊢
  have hl : lv_has ls 1 [(0, .ref xr)] := hl
  obtain ⟨H, hH⟩ : ∃ H, H = s.heap := ⟨_, rfl⟩
  rw [← hH] at hP
  have hS : va_S A s.heap H [] := by rw [hH]; exact hS
  rw [← hH]
  refine zW_cap (fun Q hQ => ?_)
  have ⟨hr1, hr2, hr3, hr4, hr5, hr6, hr7, hr8, hr9⟩ := hX_r
  have hr9 := hX_r
  refine lv_aload_n hx hb dX17_usesB_0 rfl (lv_at hl 0 rfl) ?_
  obtain ⟨kp_1, hkp_1⟩ := va_pl_get (X := []) (f := pE P) hX_x
  rw [pE_row hX_k] at hkp_1
  refine va_get (D := (dC, dI)) (ci := 21) (v := .int (zI (P.ro xr))) (C := RX17) (T := TX17) (N := 7) hx hb hts mem_PR_usesBW_0 hown hK hP kp_1 hkp_1 rfl 0 (by decide) (ow (k := 0) rfl) (fun _ h9 => h9) rfl dX17_usesB_1 ?_
  refine lv_if_le (tgt := 27) hx hb dX17_usesB_4 (by decide) (fun b4 => ?_) (fun b4 => ?_)
  · have yb4 : (P.ro xr : Int) ≤ (0 : Int) := (zI_le (a := P.ro xr) (b := 0) (by omega) (by omega) (by omega) (by omega)).mp b4
    refine lv_iconst (v := 0) hx hb dX17_usesB_27 (by decide) ?_
    subst hQ
    refine W.widen (k := 0) (n := 0) (Nat.le_of_ble_eq_true rfl) (Nat.le_of_ble_eq_true rfl) ?_
    exact W.zret (v := 0) hx hb hr (by decide) (fun t ht hW => ⟨⟨0, (), rfl, (congrArg zI (show (0 : Int) = rUsB (P.ro xr) (P.rB xr) by unfold rUsB; (repeat' split) <;> omega)), by rw [ht]; exact hP, va_K.moved hW.alike hK, hD⟩, hS.F ht⟩) hS.2.2 dX17_usesB_28
  · have yb4 : ¬ (P.ro xr : Int) ≤ (0 : Int) := fun q => b4 ((zI_le (a := P.ro xr) (b := 0) (by omega) (by omega) (by omega) (by omega)).mpr q)
    refine lv_aload_n hx hb dX17_usesB_7 rfl (lv_at hl 0 rfl) ?_
    obtain ⟨kp_2, hkp_2⟩ := va_pl_get (X := []) (f := pE P) hX_x
    rw [pE_row hX_k] at hkp_2
    refine va_get (D := (dC, dI)) (ci := 21) (v := .int (zI (P.ro xr))) (C := RX17) (T := TX17) (N := 7) hx hb hts mem_PR_usesBW_0 hown hK hP kp_2 hkp_2 rfl 0 (by decide) (ow (k := 0) rfl) (fun _ h9 => h9) rfl dX17_usesB_8 ?_
    refine lv_bipush (v := 20) hx hb dX17_usesB_11 (by decide) ?_
    refine lv_icmp_ge (tgt := 27) hx hb dX17_usesB_13 (by decide) (fun b13 => ?_) (fun b13 => ?_)
    · have yb13 : (20 : Int) ≤ (P.ro xr : Int) := (zI_le (a := 20) (b := P.ro xr) (by omega) (by omega) (by omega) (by omega)).mp b13
      refine lv_iconst (v := 0) hx hb dX17_usesB_27 (by decide) ?_
      subst hQ
      refine W.widen (k := 0) (n := 0) (Nat.le_of_ble_eq_true rfl) (Nat.le_of_ble_eq_true rfl) ?_
      exact W.zret (v := 0) hx hb hr (by decide) (fun t ht hW => ⟨⟨0, (), rfl, (congrArg zI (show (0 : Int) = rUsB (P.ro xr) (P.rB xr) by unfold rUsB; (repeat' split) <;> omega)), by rw [ht]; exact hP, va_K.moved hW.alike hK, hD⟩, hS.F ht⟩) hS.2.2 dX17_usesB_28
    · have yb13 : ¬ (20 : Int) ≤ (P.ro xr : Int) := fun q => b13 ((zI_le (a := 20) (b := P.ro xr) (by omega) (by omega) (by omega) (by omega)).mpr q)
      refine lv_aload_n hx hb dX17_usesB_16 rfl (lv_at hl 0 rfl) ?_
      obtain ⟨kp_3, hkp_3⟩ := va_pl_get (X := []) (f := pE P) hX_x
      rw [pE_row hX_k] at hkp_3
      refine va_get (D := (dC, dI)) (ci := 21) (v := .int (zI (P.rB xr))) (C := RX17) (T := TX17) (N := 7) hx hb hts mem_PR_usesBW_0 hown hK hP kp_3 hkp_3 rfl 5 (by decide) (ow (k := 1) rfl) (fun _ h9 => h9) rfl dX17_usesB_17 ?_
      refine lv_if_eq (tgt := 27) hx hb dX17_usesB_20 (by decide) (fun b20 => ?_) (fun b20 => ?_)
      · have yb20 : (P.rB xr : Int) = (0 : Int) := (zI_eq (a := P.rB xr) (b := 0) (by omega) (by omega) (by omega) (by omega)).mp b20
        refine lv_iconst (v := 0) hx hb dX17_usesB_27 (by decide) ?_
        subst hQ
        refine W.widen (k := 0) (n := 0) (Nat.le_of_ble_eq_true rfl) (Nat.le_of_ble_eq_true rfl) ?_
        exact W.zret (v := 0) hx hb hr (by decide) (fun t ht hW => ⟨⟨0, (), rfl, (congrArg zI (show (0 : Int) = rUsB (P.ro xr) (P.rB xr) by unfold rUsB; (repeat' split) <;> omega)), by rw [ht]; exact hP, va_K.moved hW.alike hK, hD⟩, hS.F ht⟩) hS.2.2 dX17_usesB_28
      · have yb20 : ¬ (P.rB xr : Int) = (0 : Int) := fun q => b20 ((zI_eq (a := P.rB xr) (b := 0) (by omega) (by omega) (by omega) (by omega)).mpr q)
        refine lv_iconst (v := 1) hx hb dX17_usesB_23 (by decide) ?_
        refine lv_goto (tgt := 28) hx hb dX17_usesB_24 (by decide) ?_
        subst hQ
        refine W.widen (k := 0) (n := 0) (Nat.le_of_ble_eq_true rfl) (Nat.le_of_ble_eq_true rfl) ?_
        exact W.zret (v := 1) hx hb hr (by decide) (fun t ht hW => ⟨⟨1, (), rfl, (congrArg zI (show (1 : Int) = rUsB (P.ro xr) (P.rB xr) by unfold rUsB; (repeat' split) <;> omega)), by rw [ht]; exact hP, va_K.moved hW.alike hK, hD⟩, hS.F ht⟩) hS.2.2 dX17_usesB_28
