theorem dX17_sets_0 : decode cX17_sets 0 = .ok (.aload_n 0, 1) := by decide +kernel
theorem dX17_sets_1 : decode cX17_sets 1 = .ok (.getfield 9, 3) := by decide +kernel
theorem dX17_sets_4 : decode cX17_sets 4 = .ok (.bipush 20, 2) := by decide +kernel
theorem dX17_sets_6 : decode cX17_sets 6 = .ok (.if_icmp .gt 7, 3) := by decide +kernel
theorem dX17_sets_13 : decode cX17_sets 13 = .ok (.iconst 0, 1) := by decide +kernel
theorem dX17_sets_14 : decode cX17_sets 14 = .ok (.ireturn, 1) := by decide +kernel
theorem dX17_sets_9 : decode cX17_sets 9 = .ok (.iconst 1, 1) := by decide +kernel
theorem dX17_sets_10 : decode cX17_sets 10 = .ok (.goto 4, 3) := by decide +kernel
def o_X17_sets : List Cond := [.fieldLink RX17 9 "SsaForgeModel$Row" "op" "I"]
def v_X17_sets : List Cond := .code yX17_sets cX17_sets 1 (some .boolean) :: (o_X17_sets ++ (wsX170 ++ []))
theorem mow_X17_sets : ∀ w ∈ o_X17_sets, w ∈ v_X17_sets := fun _ h => List.mem_cons_of_mem _ (List.mem_append_left _ h)
theorem mem_X17_sets_0 : ∀ w ∈ wsX170, w ∈ v_X17_sets := fun _ h => List.mem_cons_of_mem _ (List.mem_append_right _ (List.mem_append_left _ h))
set_option maxRecDepth 20000 in
theorem gw_X17_sets : v_X17_sets.all goodWord = true := by decide +kernel
set_option maxHeartbeats 4000000 in
set_option maxRecDepth 100000 in
theorem c_X17_sets (l : Launch) (dC : Nat → ClassId) (dI : Nat → Nat → Nat) (h0 : Nat) (z17_op : Int) (v17_1 : Value) (v17_2 : Value) (v17_3 : Value) (v17_4 : Value) (v17_5 : Value) (v17_6 : Value) (hNz17_op : 0 ≤ z17_op ∧ z17_op ≤ 40) (sz : Nat) : Met l yX17_sets v_X17_sets ({ frames := 0, cells := 0, slots := 0, locals := 0 }) (va_Pc [.ref h0] (fun U => U.heap.size = sz ∧ va_P (dC, dI) vwQ [(h0, .inr (21, [.int (zI (z17_op)), v17_1, v17_2, v17_3, v17_4, v17_5, v17_6]))] U.heap ∧ va_K (dC, dI) vwQ [] U ∧ va_D (fun _ => True) [(h0, .inr (21, [.int (zI (z17_op)), v17_1, v17_2, v17_3, v17_4, v17_5, v17_6]))])) (va_Qi (fun (r : Int32) (_ : Unit) => r = zI (rSets (z17_op))) (fun (_ : Unit) (t : State) => va_P (dC, dI) vwQ [(h0, .inr (21, [.int (zI (z17_op)), v17_1, v17_2, v17_3, v17_4, v17_5, v17_6]))] t.heap ∧ va_K (dC, dI) vwQ [] t ∧ va_D (va_A [(h0, .inr (21, [.int (zI (z17_op)), v17_1, v17_2, v17_3, v17_4, v17_5, v17_6]))] sz) [(h0, .inr (21, [.int (zI (z17_op)), v17_1, v17_2, v17_3, v17_4, v17_5, v17_6]))]) (va_A [(h0, .inr (21, [.int (zI (z17_op)), v17_1, v17_2, v17_3, v17_4, v17_5, v17_6]))] sz)) 0 0 (va_A [(h0, .inr (21, [.int (zI (z17_op)), v17_1, v17_2, v17_3, v17_4, v17_5, v17_6]))] sz) := by
  refine Met.ofW (cc := cX17_sets) (maxL := 1) (ret := (some .boolean)) (by decide) rfl ?_
  intro p e s m args below meth c s₁ B hml hv
  obtain ⟨rfl, hsz, hP, hK, hD0⟩ := hv
  have hx := B.exec
  have hb := B.bytes
  have hr := B.returns
  have hts := atoms_spec (ws := v_X17_sets) B.pre
  have hown : s.vm.findClass RX17 = some m.cls := findClass_of_methodNamed B.named
  have hlocks := B.notSynchronized
  have ow : ∀ {k : Nat} {w : Cond}, o_X17_sets[k]? = some w → w.before ([.ref h0] : List Value).toArray s = true := fun h => hts _ (mow_X17_sets _ (List.mem_of_getElem? h))
  subst hsz
  have hD := hD0.self (sz := s.heap.size)
  generalize hAe : va_A [(h0, .inr (21, [.int (zI (z17_op)), v17_1, v17_2, v17_3, v17_4, v17_5, v17_6]))] s.heap.size = A at hD ⊢
  have hA : ∀ q : Nat, s.heap.size ≤ q → A q := fun q h => by rw [← hAe]; exact Or.inr h
  have hS : va_S A s.heap s.heap [] := va_S.rf
  have hP : va_P (dC, dI) vwQ [(h0, .inr (21, [.int (zI (z17_op)), v17_1, v17_2, v17_3, v17_4, v17_5, v17_6]))] s.heap := hP
  have hl := lv_entry ([.ref h0]) (n := 1) (Nat.le_of_ble_eq_true rfl)
  rw [lg_entry_eq]
  generalize (lg_sl ([.ref h0]) ++ List.replicate (1 - (lg_sl ([.ref h0])).length) Slot.unset).toArray = ls at hl ⊢
  have hl : lv_has ls 1 [(0, .ref h0)] := hl
  obtain ⟨H, hH⟩ : ∃ H, H = s.heap := ⟨_, rfl⟩
  rw [← hH] at hP
  have hS : va_S A s.heap H [] := by rw [hH]; exact hS
  rw [← hH]
  refine zW_cap (fun Q hQ => ?_)
  refine lv_aload_n hx hb dX17_sets_0 rfl (lv_at hl 0 rfl) ?_
  refine va_get (D := (dC, dI)) (ci := 21) (v := .int (zI (z17_op))) (C := RX17) (T := TX17) (N := 7) hx hb hts mem_X17_sets_0 hown hK hP 0 rfl rfl 0 (by decide) (ow (k := 0) rfl) (fun _ h9 => h9) rfl dX17_sets_1 ?_
  refine lv_bipush (v := 20) hx hb dX17_sets_4 (by decide) ?_
  refine lv_icmp_gt (tgt := 13) hx hb dX17_sets_6 (by decide) (fun b6 => ?_) (fun b6 => ?_)
  · have yb6 : (20 : Int) < (z17_op : Int) := (zI_lt (a := 20) (b := z17_op) (by omega) (by omega) (by omega) (by omega)).mp b6
    refine lv_iconst (v := 0) hx hb dX17_sets_13 (by decide) ?_
    subst hQ
    refine W.widen (k := 0) (n := 0) (Nat.le_of_ble_eq_true rfl) (Nat.le_of_ble_eq_true rfl) ?_
    exact W.zret (v := 0) hx hb hr (by decide) (fun t ht hW => ⟨⟨0, (), rfl, (congrArg zI (show (0 : Int) = rSets (z17_op) by unfold rSets; (repeat' split) <;> omega)), by rw [ht]; exact hP, va_K.moved hW.alike hK, hD⟩, hS.F ht⟩) hS.2.2 dX17_sets_14
  · have yb6 : ¬ (20 : Int) < (z17_op : Int) := fun q => b6 ((zI_lt (a := 20) (b := z17_op) (by omega) (by omega) (by omega) (by omega)).mpr q)
    refine lv_iconst (v := 1) hx hb dX17_sets_9 (by decide) ?_
    refine lv_goto (tgt := 14) hx hb dX17_sets_10 (by decide) ?_
    subst hQ
    refine W.widen (k := 0) (n := 0) (Nat.le_of_ble_eq_true rfl) (Nat.le_of_ble_eq_true rfl) ?_
    exact W.zret (v := 1) hx hb hr (by decide) (fun t ht hW => ⟨⟨1, (), rfl, (congrArg zI (show (1 : Int) = rSets (z17_op) by unfold rSets; (repeat' split) <;> omega)), by rw [ht]; exact hP, va_K.moved hW.alike hK, hD⟩, hS.F ht⟩) hS.2.2 dX17_sets_14
theorem dX17_usesA_0 : decode cX17_usesA 0 = .ok (.aload_n 0, 1) := by decide +kernel
theorem dX17_usesA_1 : decode cX17_usesA 1 = .ok (.getfield 9, 3) := by decide +kernel
theorem dX17_usesA_4 : decode cX17_usesA 4 = .ok (.bipush 20, 2) := by decide +kernel
theorem dX17_usesA_6 : decode cX17_usesA 6 = .ok (.if_icmp .eq 23, 3) := by decide +kernel
theorem dX17_usesA_29 : decode cX17_usesA 29 = .ok (.iconst 0, 1) := by decide +kernel
theorem dX17_usesA_30 : decode cX17_usesA 30 = .ok (.ireturn, 1) := by decide +kernel
theorem dX17_usesA_9 : decode cX17_usesA 9 = .ok (.aload_n 0, 1) := by decide +kernel
theorem dX17_usesA_10 : decode cX17_usesA 10 = .ok (.getfield 9, 3) := by decide +kernel
theorem dX17_usesA_13 : decode cX17_usesA 13 = .ok (.bipush 30, 2) := by decide +kernel
theorem dX17_usesA_15 : decode cX17_usesA 15 = .ok (.if_icmp .eq 14, 3) := by decide +kernel
theorem dX17_usesA_18 : decode cX17_usesA 18 = .ok (.aload_n 0, 1) := by decide +kernel
theorem dX17_usesA_19 : decode cX17_usesA 19 = .ok (.getfield 15, 3) := by decide +kernel
theorem dX17_usesA_22 : decode cX17_usesA 22 = .ok (.ifCond .eq 7, 3) := by decide +kernel
theorem dX17_usesA_25 : decode cX17_usesA 25 = .ok (.iconst 1, 1) := by decide +kernel
theorem dX17_usesA_26 : decode cX17_usesA 26 = .ok (.goto 4, 3) := by decide +kernel
def o_X17_usesA : List Cond := [.fieldLink RX17 9 "SsaForgeModel$Row" "op" "I", .fieldLink RX17 15 "SsaForgeModel$Row" "regA" "Z"]
def v_X17_usesA : List Cond := .code yX17_usesA cX17_usesA 1 (some .boolean) :: (o_X17_usesA ++ (wsX170 ++ []))
theorem mow_X17_usesA : ∀ w ∈ o_X17_usesA, w ∈ v_X17_usesA := fun _ h => List.mem_cons_of_mem _ (List.mem_append_left _ h)
theorem mem_X17_usesA_0 : ∀ w ∈ wsX170, w ∈ v_X17_usesA := fun _ h => List.mem_cons_of_mem _ (List.mem_append_right _ (List.mem_append_left _ h))
set_option maxRecDepth 20000 in
theorem gw_X17_usesA : v_X17_usesA.all goodWord = true := by decide +kernel
set_option maxHeartbeats 4000000 in
set_option maxRecDepth 100000 in
theorem c_X17_usesA (l : Launch) (dC : Nat → ClassId) (dI : Nat → Nat → Nat) (h0 : Nat) (z17_op : Int) (v17_1 : Value) (v17_2 : Value) (v17_3 : Value) (z17_regA : Int) (v17_5 : Value) (v17_6 : Value) (hNz17_op : 0 ≤ z17_op ∧ z17_op ≤ 40) (hNz17_regA : 0 ≤ z17_regA ∧ z17_regA ≤ 1) (sz : Nat) : Met l yX17_usesA v_X17_usesA ({ frames := 0, cells := 0, slots := 0, locals := 0 }) (va_Pc [.ref h0] (fun U => U.heap.size = sz ∧ va_P (dC, dI) vwQ [(h0, .inr (21, [.int (zI (z17_op)), v17_1, v17_2, v17_3, .int (zI (z17_regA)), v17_5, v17_6]))] U.heap ∧ va_K (dC, dI) vwQ [] U ∧ va_D (fun _ => True) [(h0, .inr (21, [.int (zI (z17_op)), v17_1, v17_2, v17_3, .int (zI (z17_regA)), v17_5, v17_6]))])) (va_Qi (fun (r : Int32) (_ : Unit) => r = zI (rUsA (z17_op) (z17_regA))) (fun (_ : Unit) (t : State) => va_P (dC, dI) vwQ [(h0, .inr (21, [.int (zI (z17_op)), v17_1, v17_2, v17_3, .int (zI (z17_regA)), v17_5, v17_6]))] t.heap ∧ va_K (dC, dI) vwQ [] t ∧ va_D (va_A [(h0, .inr (21, [.int (zI (z17_op)), v17_1, v17_2, v17_3, .int (zI (z17_regA)), v17_5, v17_6]))] sz) [(h0, .inr (21, [.int (zI (z17_op)), v17_1, v17_2, v17_3, .int (zI (z17_regA)), v17_5, v17_6]))]) (va_A [(h0, .inr (21, [.int (zI (z17_op)), v17_1, v17_2, v17_3, .int (zI (z17_regA)), v17_5, v17_6]))] sz)) 0 0 (va_A [(h0, .inr (21, [.int (zI (z17_op)), v17_1, v17_2, v17_3, .int (zI (z17_regA)), v17_5, v17_6]))] sz) := by
  refine Met.ofW (cc := cX17_usesA) (maxL := 1) (ret := (some .boolean)) (by decide) rfl ?_
  intro p e s m args below meth c s₁ B hml hv
  obtain ⟨rfl, hsz, hP, hK, hD0⟩ := hv
  have hx := B.exec
  have hb := B.bytes
  have hr := B.returns
  have hts := atoms_spec (ws := v_X17_usesA) B.pre
  have hown : s.vm.findClass RX17 = some m.cls := findClass_of_methodNamed B.named
  have hlocks := B.notSynchronized
  have ow : ∀ {k : Nat} {w : Cond}, o_X17_usesA[k]? = some w → w.before ([.ref h0] : List Value).toArray s = true := fun h => hts _ (mow_X17_usesA _ (List.mem_of_getElem? h))
  subst hsz
  have hD := hD0.self (sz := s.heap.size)
  generalize hAe : va_A [(h0, .inr (21, [.int (zI (z17_op)), v17_1, v17_2, v17_3, .int (zI (z17_regA)), v17_5, v17_6]))] s.heap.size = A at hD ⊢
  have hA : ∀ q : Nat, s.heap.size ≤ q → A q := fun q h => by rw [← hAe]; exact Or.inr h
  have hS : va_S A s.heap s.heap [] := va_S.rf
  have hP : va_P (dC, dI) vwQ [(h0, .inr (21, [.int (zI (z17_op)), v17_1, v17_2, v17_3, .int (zI (z17_regA)), v17_5, v17_6]))] s.heap := hP
  have hl := lv_entry ([.ref h0]) (n := 1) (Nat.le_of_ble_eq_true rfl)
  rw [lg_entry_eq]
  generalize (lg_sl ([.ref h0]) ++ List.replicate (1 - (lg_sl ([.ref h0])).length) Slot.unset).toArray = ls at hl ⊢
  have hl : lv_has ls 1 [(0, .ref h0)] := hl
  obtain ⟨H, hH⟩ : ∃ H, H = s.heap := ⟨_, rfl⟩
  rw [← hH] at hP
  have hS : va_S A s.heap H [] := by rw [hH]; exact hS
  rw [← hH]
  refine zW_cap (fun Q hQ => ?_)
  refine lv_aload_n hx hb dX17_usesA_0 rfl (lv_at hl 0 rfl) ?_
  refine va_get (D := (dC, dI)) (ci := 21) (v := .int (zI (z17_op))) (C := RX17) (T := TX17) (N := 7) hx hb hts mem_X17_usesA_0 hown hK hP 0 rfl rfl 0 (by decide) (ow (k := 0) rfl) (fun _ h9 => h9) rfl dX17_usesA_1 ?_
  refine lv_bipush (v := 20) hx hb dX17_usesA_4 (by decide) ?_
  refine lv_icmp_eq (tgt := 29) hx hb dX17_usesA_6 (by decide) (fun b6 => ?_) (fun b6 => ?_)
  · have yb6 : (z17_op : Int) = (20 : Int) := (zI_eq (a := z17_op) (b := 20) (by omega) (by omega) (by omega) (by omega)).mp b6
    refine lv_iconst (v := 0) hx hb dX17_usesA_29 (by decide) ?_
    subst hQ
    refine W.widen (k := 0) (n := 0) (Nat.le_of_ble_eq_true rfl) (Nat.le_of_ble_eq_true rfl) ?_
    exact W.zret (v := 0) hx hb hr (by decide) (fun t ht hW => ⟨⟨0, (), rfl, (congrArg zI (show (0 : Int) = rUsA (z17_op) (z17_regA) by unfold rUsA; (repeat' split) <;> omega)), by rw [ht]; exact hP, va_K.moved hW.alike hK, hD⟩, hS.F ht⟩) hS.2.2 dX17_usesA_30
  · have yb6 : ¬ (z17_op : Int) = (20 : Int) := fun q => b6 ((zI_eq (a := z17_op) (b := 20) (by omega) (by omega) (by omega) (by omega)).mpr q)
    refine lv_aload_n hx hb dX17_usesA_9 rfl (lv_at hl 0 rfl) ?_
    refine va_get (D := (dC, dI)) (ci := 21) (v := .int (zI (z17_op))) (C := RX17) (T := TX17) (N := 7) hx hb hts mem_X17_usesA_0 hown hK hP 0 rfl rfl 0 (by decide) (ow (k := 0) rfl) (fun _ h9 => h9) rfl dX17_usesA_10 ?_
    refine lv_bipush (v := 30) hx hb dX17_usesA_13 (by decide) ?_
    refine lv_icmp_eq (tgt := 29) hx hb dX17_usesA_15 (by decide) (fun b15 => ?_) (fun b15 => ?_)
    · have yb15 : (z17_op : Int) = (30 : Int) := (zI_eq (a := z17_op) (b := 30) (by omega) (by omega) (by omega) (by omega)).mp b15
      refine lv_iconst (v := 0) hx hb dX17_usesA_29 (by decide) ?_
      subst hQ
      refine W.widen (k := 0) (n := 0) (Nat.le_of_ble_eq_true rfl) (Nat.le_of_ble_eq_true rfl) ?_
      exact W.zret (v := 0) hx hb hr (by decide) (fun t ht hW => ⟨⟨0, (), rfl, (congrArg zI (show (0 : Int) = rUsA (z17_op) (z17_regA) by unfold rUsA; (repeat' split) <;> omega)), by rw [ht]; exact hP, va_K.moved hW.alike hK, hD⟩, hS.F ht⟩) hS.2.2 dX17_usesA_30
    · have yb15 : ¬ (z17_op : Int) = (30 : Int) := fun q => b15 ((zI_eq (a := z17_op) (b := 30) (by omega) (by omega) (by omega) (by omega)).mpr q)
      refine lv_aload_n hx hb dX17_usesA_18 rfl (lv_at hl 0 rfl) ?_
      refine va_get (D := (dC, dI)) (ci := 21) (v := .int (zI (z17_regA))) (C := RX17) (T := TX17) (N := 7) hx hb hts mem_X17_usesA_0 hown hK hP 0 rfl rfl 4 (by decide) (ow (k := 1) rfl) (fun _ h9 => h9) rfl dX17_usesA_19 ?_
      refine lv_if_eq (tgt := 29) hx hb dX17_usesA_22 (by decide) (fun b22 => ?_) (fun b22 => ?_)
      · have yb22 : (z17_regA : Int) = (0 : Int) := (zI_eq (a := z17_regA) (b := 0) (by omega) (by omega) (by omega) (by omega)).mp b22
        refine lv_iconst (v := 0) hx hb dX17_usesA_29 (by decide) ?_
        subst hQ
        refine W.widen (k := 0) (n := 0) (Nat.le_of_ble_eq_true rfl) (Nat.le_of_ble_eq_true rfl) ?_
        exact W.zret (v := 0) hx hb hr (by decide) (fun t ht hW => ⟨⟨0, (), rfl, (congrArg zI (show (0 : Int) = rUsA (z17_op) (z17_regA) by unfold rUsA; (repeat' split) <;> omega)), by rw [ht]; exact hP, va_K.moved hW.alike hK, hD⟩, hS.F ht⟩) hS.2.2 dX17_usesA_30
      · have yb22 : ¬ (z17_regA : Int) = (0 : Int) := fun q => b22 ((zI_eq (a := z17_regA) (b := 0) (by omega) (by omega) (by omega) (by omega)).mpr q)
        refine lv_iconst (v := 1) hx hb dX17_usesA_25 (by decide) ?_
        refine lv_goto (tgt := 30) hx hb dX17_usesA_26 (by decide) ?_
        subst hQ
        refine W.widen (k := 0) (n := 0) (Nat.le_of_ble_eq_true rfl) (Nat.le_of_ble_eq_true rfl) ?_
        exact W.zret (v := 1) hx hb hr (by decide) (fun t ht hW => ⟨⟨1, (), rfl, (congrArg zI (show (1 : Int) = rUsA (z17_op) (z17_regA) by unfold rUsA; (repeat' split) <;> omega)), by rw [ht]; exact hP, va_K.moved hW.alike hK, hD⟩, hS.F ht⟩) hS.2.2 dX17_usesA_30
theorem dX17_usesB_0 : decode cX17_usesB 0 = .ok (.aload_n 0, 1) := by decide +kernel
theorem dX17_usesB_1 : decode cX17_usesB 1 = .ok (.getfield 9, 3) := by decide +kernel
theorem dX17_usesB_4 : decode cX17_usesB 4 = .ok (.ifCond .le 23, 3) := by decide +kernel
theorem dX17_usesB_27 : decode cX17_usesB 27 = .ok (.iconst 0, 1) := by decide +kernel
theorem dX17_usesB_28 : decode cX17_usesB 28 = .ok (.ireturn, 1) := by decide +kernel
theorem dX17_usesB_7 : decode cX17_usesB 7 = .ok (.aload_n 0, 1) := by decide +kernel
theorem dX17_usesB_8 : decode cX17_usesB 8 = .ok (.getfield 9, 3) := by decide +kernel
theorem dX17_usesB_11 : decode cX17_usesB 11 = .ok (.bipush 20, 2) := by decide +kernel
theorem dX17_usesB_13 : decode cX17_usesB 13 = .ok (.if_icmp .ge 14, 3) := by decide +kernel
theorem dX17_usesB_16 : decode cX17_usesB 16 = .ok (.aload_n 0, 1) := by decide +kernel
theorem dX17_usesB_17 : decode cX17_usesB 17 = .ok (.getfield 19, 3) := by decide +kernel
theorem dX17_usesB_20 : decode cX17_usesB 20 = .ok (.ifCond .eq 7, 3) := by decide +kernel
theorem dX17_usesB_23 : decode cX17_usesB 23 = .ok (.iconst 1, 1) := by decide +kernel
theorem dX17_usesB_24 : decode cX17_usesB 24 = .ok (.goto 4, 3) := by decide +kernel
def o_X17_usesB : List Cond := [.fieldLink RX17 9 "SsaForgeModel$Row" "op" "I", .fieldLink RX17 19 "SsaForgeModel$Row" "regB" "Z"]
def v_X17_usesB : List Cond := .code yX17_usesB cX17_usesB 1 (some .boolean) :: (o_X17_usesB ++ (wsX170 ++ []))
theorem mow_X17_usesB : ∀ w ∈ o_X17_usesB, w ∈ v_X17_usesB := fun _ h => List.mem_cons_of_mem _ (List.mem_append_left _ h)
theorem mem_X17_usesB_0 : ∀ w ∈ wsX170, w ∈ v_X17_usesB := fun _ h => List.mem_cons_of_mem _ (List.mem_append_right _ (List.mem_append_left _ h))
set_option maxRecDepth 20000 in
theorem gw_X17_usesB : v_X17_usesB.all goodWord = true := by decide +kernel
set_option maxHeartbeats 4000000 in
set_option maxRecDepth 100000 in
theorem c_X17_usesB (l : Launch) (dC : Nat → ClassId) (dI : Nat → Nat → Nat) (h0 : Nat) (z17_op : Int) (v17_1 : Value) (v17_2 : Value) (v17_3 : Value) (v17_4 : Value) (z17_regB : Int) (v17_6 : Value) (hNz17_op : 0 ≤ z17_op ∧ z17_op ≤ 40) (hNz17_regB : 0 ≤ z17_regB ∧ z17_regB ≤ 1) (sz : Nat) : Met l yX17_usesB v_X17_usesB ({ frames := 0, cells := 0, slots := 0, locals := 0 }) (va_Pc [.ref h0] (fun U => U.heap.size = sz ∧ va_P (dC, dI) vwQ [(h0, .inr (21, [.int (zI (z17_op)), v17_1, v17_2, v17_3, v17_4, .int (zI (z17_regB)), v17_6]))] U.heap ∧ va_K (dC, dI) vwQ [] U ∧ va_D (fun _ => True) [(h0, .inr (21, [.int (zI (z17_op)), v17_1, v17_2, v17_3, v17_4, .int (zI (z17_regB)), v17_6]))])) (va_Qi (fun (r : Int32) (_ : Unit) => r = zI (rUsB (z17_op) (z17_regB))) (fun (_ : Unit) (t : State) => va_P (dC, dI) vwQ [(h0, .inr (21, [.int (zI (z17_op)), v17_1, v17_2, v17_3, v17_4, .int (zI (z17_regB)), v17_6]))] t.heap ∧ va_K (dC, dI) vwQ [] t ∧ va_D (va_A [(h0, .inr (21, [.int (zI (z17_op)), v17_1, v17_2, v17_3, v17_4, .int (zI (z17_regB)), v17_6]))] sz) [(h0, .inr (21, [.int (zI (z17_op)), v17_1, v17_2, v17_3, v17_4, .int (zI (z17_regB)), v17_6]))]) (va_A [(h0, .inr (21, [.int (zI (z17_op)), v17_1, v17_2, v17_3, v17_4, .int (zI (z17_regB)), v17_6]))] sz)) 0 0 (va_A [(h0, .inr (21, [.int (zI (z17_op)), v17_1, v17_2, v17_3, v17_4, .int (zI (z17_regB)), v17_6]))] sz) := by
  refine Met.ofW (cc := cX17_usesB) (maxL := 1) (ret := (some .boolean)) (by decide) rfl ?_
  intro p e s m args below meth c s₁ B hml hv
  obtain ⟨rfl, hsz, hP, hK, hD0⟩ := hv
  have hx := B.exec
  have hb := B.bytes
  have hr := B.returns
  have hts := atoms_spec (ws := v_X17_usesB) B.pre
  have hown : s.vm.findClass RX17 = some m.cls := findClass_of_methodNamed B.named
  have hlocks := B.notSynchronized
  have ow : ∀ {k : Nat} {w : Cond}, o_X17_usesB[k]? = some w → w.before ([.ref h0] : List Value).toArray s = true := fun h => hts _ (mow_X17_usesB _ (List.mem_of_getElem? h))
  subst hsz
  have hD := hD0.self (sz := s.heap.size)
  generalize hAe : va_A [(h0, .inr (21, [.int (zI (z17_op)), v17_1, v17_2, v17_3, v17_4, .int (zI (z17_regB)), v17_6]))] s.heap.size = A at hD ⊢
  have hA : ∀ q : Nat, s.heap.size ≤ q → A q := fun q h => by rw [← hAe]; exact Or.inr h
  have hS : va_S A s.heap s.heap [] := va_S.rf
  have hP : va_P (dC, dI) vwQ [(h0, .inr (21, [.int (zI (z17_op)), v17_1, v17_2, v17_3, v17_4, .int (zI (z17_regB)), v17_6]))] s.heap := hP
  have hl := lv_entry ([.ref h0]) (n := 1) (Nat.le_of_ble_eq_true rfl)
  rw [lg_entry_eq]
  generalize (lg_sl ([.ref h0]) ++ List.replicate (1 - (lg_sl ([.ref h0])).length) Slot.unset).toArray = ls at hl ⊢
  have hl : lv_has ls 1 [(0, .ref h0)] := hl
  obtain ⟨H, hH⟩ : ∃ H, H = s.heap := ⟨_, rfl⟩
  rw [← hH] at hP
  have hS : va_S A s.heap H [] := by rw [hH]; exact hS
  rw [← hH]
  refine zW_cap (fun Q hQ => ?_)
  refine lv_aload_n hx hb dX17_usesB_0 rfl (lv_at hl 0 rfl) ?_
  refine va_get (D := (dC, dI)) (ci := 21) (v := .int (zI (z17_op))) (C := RX17) (T := TX17) (N := 7) hx hb hts mem_X17_usesB_0 hown hK hP 0 rfl rfl 0 (by decide) (ow (k := 0) rfl) (fun _ h9 => h9) rfl dX17_usesB_1 ?_
  refine lv_if_le (tgt := 27) hx hb dX17_usesB_4 (by decide) (fun b4 => ?_) (fun b4 => ?_)
  · have yb4 : (z17_op : Int) ≤ (0 : Int) := (zI_le (a := z17_op) (b := 0) (by omega) (by omega) (by omega) (by omega)).mp b4
    refine lv_iconst (v := 0) hx hb dX17_usesB_27 (by decide) ?_
    subst hQ
    refine W.widen (k := 0) (n := 0) (Nat.le_of_ble_eq_true rfl) (Nat.le_of_ble_eq_true rfl) ?_
    exact W.zret (v := 0) hx hb hr (by decide) (fun t ht hW => ⟨⟨0, (), rfl, (congrArg zI (show (0 : Int) = rUsB (z17_op) (z17_regB) by unfold rUsB; (repeat' split) <;> omega)), by rw [ht]; exact hP, va_K.moved hW.alike hK, hD⟩, hS.F ht⟩) hS.2.2 dX17_usesB_28
  · have yb4 : ¬ (z17_op : Int) ≤ (0 : Int) := fun q => b4 ((zI_le (a := z17_op) (b := 0) (by omega) (by omega) (by omega) (by omega)).mpr q)
    refine lv_aload_n hx hb dX17_usesB_7 rfl (lv_at hl 0 rfl) ?_
    refine va_get (D := (dC, dI)) (ci := 21) (v := .int (zI (z17_op))) (C := RX17) (T := TX17) (N := 7) hx hb hts mem_X17_usesB_0 hown hK hP 0 rfl rfl 0 (by decide) (ow (k := 0) rfl) (fun _ h9 => h9) rfl dX17_usesB_8 ?_
    refine lv_bipush (v := 20) hx hb dX17_usesB_11 (by decide) ?_
    refine lv_icmp_ge (tgt := 27) hx hb dX17_usesB_13 (by decide) (fun b13 => ?_) (fun b13 => ?_)
    · have yb13 : (20 : Int) ≤ (z17_op : Int) := (zI_le (a := 20) (b := z17_op) (by omega) (by omega) (by omega) (by omega)).mp b13
      refine lv_iconst (v := 0) hx hb dX17_usesB_27 (by decide) ?_
      subst hQ
      refine W.widen (k := 0) (n := 0) (Nat.le_of_ble_eq_true rfl) (Nat.le_of_ble_eq_true rfl) ?_
      exact W.zret (v := 0) hx hb hr (by decide) (fun t ht hW => ⟨⟨0, (), rfl, (congrArg zI (show (0 : Int) = rUsB (z17_op) (z17_regB) by unfold rUsB; (repeat' split) <;> omega)), by rw [ht]; exact hP, va_K.moved hW.alike hK, hD⟩, hS.F ht⟩) hS.2.2 dX17_usesB_28
    · have yb13 : ¬ (20 : Int) ≤ (z17_op : Int) := fun q => b13 ((zI_le (a := 20) (b := z17_op) (by omega) (by omega) (by omega) (by omega)).mpr q)
      refine lv_aload_n hx hb dX17_usesB_16 rfl (lv_at hl 0 rfl) ?_
      refine va_get (D := (dC, dI)) (ci := 21) (v := .int (zI (z17_regB))) (C := RX17) (T := TX17) (N := 7) hx hb hts mem_X17_usesB_0 hown hK hP 0 rfl rfl 5 (by decide) (ow (k := 1) rfl) (fun _ h9 => h9) rfl dX17_usesB_17 ?_
      refine lv_if_eq (tgt := 27) hx hb dX17_usesB_20 (by decide) (fun b20 => ?_) (fun b20 => ?_)
      · have yb20 : (z17_regB : Int) = (0 : Int) := (zI_eq (a := z17_regB) (b := 0) (by omega) (by omega) (by omega) (by omega)).mp b20
        refine lv_iconst (v := 0) hx hb dX17_usesB_27 (by decide) ?_
        subst hQ
        refine W.widen (k := 0) (n := 0) (Nat.le_of_ble_eq_true rfl) (Nat.le_of_ble_eq_true rfl) ?_
        exact W.zret (v := 0) hx hb hr (by decide) (fun t ht hW => ⟨⟨0, (), rfl, (congrArg zI (show (0 : Int) = rUsB (z17_op) (z17_regB) by unfold rUsB; (repeat' split) <;> omega)), by rw [ht]; exact hP, va_K.moved hW.alike hK, hD⟩, hS.F ht⟩) hS.2.2 dX17_usesB_28
      · have yb20 : ¬ (z17_regB : Int) = (0 : Int) := fun q => b20 ((zI_eq (a := z17_regB) (b := 0) (by omega) (by omega) (by omega) (by omega)).mpr q)
        refine lv_iconst (v := 1) hx hb dX17_usesB_23 (by decide) ?_
        refine lv_goto (tgt := 28) hx hb dX17_usesB_24 (by decide) ?_
        subst hQ
        refine W.widen (k := 0) (n := 0) (Nat.le_of_ble_eq_true rfl) (Nat.le_of_ble_eq_true rfl) ?_
        exact W.zret (v := 1) hx hb hr (by decide) (fun t ht hW => ⟨⟨1, (), rfl, (congrArg zI (show (1 : Int) = rUsB (z17_op) (z17_regB) by unfold rUsB; (repeat' split) <;> omega)), by rw [ht]; exact hP, va_K.moved hW.alike hK, hD⟩, hS.F ht⟩) hS.2.2 dX17_usesB_28
theorem dX17_canStop_0 : decode cX17_canStop 0 = .ok (.aload_n 0, 1) := by decide +kernel
theorem dX17_canStop_1 : decode cX17_canStop 1 = .ok (.getfield 9, 3) := by decide +kernel
theorem dX17_canStop_4 : decode cX17_canStop 4 = .ok (.iconst 4, 1) := by decide +kernel
theorem dX17_canStop_5 : decode cX17_canStop 5 = .ok (.if_icmp .eq 11, 3) := by decide +kernel
theorem dX17_canStop_16 : decode cX17_canStop 16 = .ok (.aload_n 0, 1) := by decide +kernel
theorem dX17_canStop_17 : decode cX17_canStop 17 = .ok (.getfield 19, 3) := by decide +kernel
theorem dX17_canStop_20 : decode cX17_canStop 20 = .ok (.ifCond .ne 10, 3) := by decide +kernel
theorem dX17_canStop_30 : decode cX17_canStop 30 = .ok (.iconst 1, 1) := by decide +kernel
theorem dX17_canStop_31 : decode cX17_canStop 31 = .ok (.goto 4, 3) := by decide +kernel
theorem dX17_canStop_35 : decode cX17_canStop 35 = .ok (.ireturn, 1) := by decide +kernel
theorem dX17_canStop_23 : decode cX17_canStop 23 = .ok (.aload_n 0, 1) := by decide +kernel
theorem dX17_canStop_24 : decode cX17_canStop 24 = .ok (.getfield 32, 3) := by decide +kernel
theorem dX17_canStop_27 : decode cX17_canStop 27 = .ok (.ifCond .ne 7, 3) := by decide +kernel
theorem dX17_canStop_34 : decode cX17_canStop 34 = .ok (.iconst 0, 1) := by decide +kernel
theorem dX17_canStop_8 : decode cX17_canStop 8 = .ok (.aload_n 0, 1) := by decide +kernel
theorem dX17_canStop_9 : decode cX17_canStop 9 = .ok (.getfield 9, 3) := by decide +kernel
theorem dX17_canStop_12 : decode cX17_canStop 12 = .ok (.iconst 5, 1) := by decide +kernel
theorem dX17_canStop_13 : decode cX17_canStop 13 = .ok (.if_icmp .ne 21, 3) := by decide +kernel
def o_X17_canStop : List Cond := [.fieldLink RX17 9 "SsaForgeModel$Row" "op" "I", .fieldLink RX17 19 "SsaForgeModel$Row" "regB" "Z", .fieldLink RX17 32 "SsaForgeModel$Row" "b" "I"]
def v_X17_canStop : List Cond := .code yX17_canStop cX17_canStop 1 (some .boolean) :: (o_X17_canStop ++ (wsX170 ++ []))
theorem mow_X17_canStop : ∀ w ∈ o_X17_canStop, w ∈ v_X17_canStop := fun _ h => List.mem_cons_of_mem _ (List.mem_append_left _ h)
theorem mem_X17_canStop_0 : ∀ w ∈ wsX170, w ∈ v_X17_canStop := fun _ h => List.mem_cons_of_mem _ (List.mem_append_right _ (List.mem_append_left _ h))
set_option maxRecDepth 20000 in
theorem gw_X17_canStop : v_X17_canStop.all goodWord = true := by decide +kernel
set_option maxHeartbeats 4000000 in
set_option maxRecDepth 100000 in
theorem c_X17_canStop (l : Launch) (dC : Nat → ClassId) (dI : Nat → Nat → Nat) (h0 : Nat) (z17_op : Int) (v17_1 : Value) (v17_2 : Value) (z17_b : Int) (v17_4 : Value) (z17_regB : Int) (v17_6 : Value) (hNz17_op : 0 ≤ z17_op ∧ z17_op ≤ 40) (hNz17_b : -2147483648 ≤ z17_b ∧ z17_b ≤ 2147483647) (hNz17_regB : 0 ≤ z17_regB ∧ z17_regB ≤ 1) (sz : Nat) : Met l yX17_canStop v_X17_canStop ({ frames := 0, cells := 0, slots := 0, locals := 0 }) (va_Pc [.ref h0] (fun U => U.heap.size = sz ∧ va_P (dC, dI) vwQ [(h0, .inr (21, [.int (zI (z17_op)), v17_1, v17_2, .int (zI (z17_b)), v17_4, .int (zI (z17_regB)), v17_6]))] U.heap ∧ va_K (dC, dI) vwQ [] U ∧ va_D (fun _ => True) [(h0, .inr (21, [.int (zI (z17_op)), v17_1, v17_2, .int (zI (z17_b)), v17_4, .int (zI (z17_regB)), v17_6]))])) (va_Qi (fun (r : Int32) (_ : Unit) => r = zI (rStop (z17_op) (z17_regB) (z17_b))) (fun (_ : Unit) (t : State) => va_P (dC, dI) vwQ [(h0, .inr (21, [.int (zI (z17_op)), v17_1, v17_2, .int (zI (z17_b)), v17_4, .int (zI (z17_regB)), v17_6]))] t.heap ∧ va_K (dC, dI) vwQ [] t ∧ va_D (va_A [(h0, .inr (21, [.int (zI (z17_op)), v17_1, v17_2, .int (zI (z17_b)), v17_4, .int (zI (z17_regB)), v17_6]))] sz) [(h0, .inr (21, [.int (zI (z17_op)), v17_1, v17_2, .int (zI (z17_b)), v17_4, .int (zI (z17_regB)), v17_6]))]) (va_A [(h0, .inr (21, [.int (zI (z17_op)), v17_1, v17_2, .int (zI (z17_b)), v17_4, .int (zI (z17_regB)), v17_6]))] sz)) 0 0 (va_A [(h0, .inr (21, [.int (zI (z17_op)), v17_1, v17_2, .int (zI (z17_b)), v17_4, .int (zI (z17_regB)), v17_6]))] sz) := by
  refine Met.ofW (cc := cX17_canStop) (maxL := 1) (ret := (some .boolean)) (by decide) rfl ?_
  intro p e s m args below meth c s₁ B hml hv
  obtain ⟨rfl, hsz, hP, hK, hD0⟩ := hv
  have hx := B.exec
  have hb := B.bytes
  have hr := B.returns
  have hts := atoms_spec (ws := v_X17_canStop) B.pre
  have hown : s.vm.findClass RX17 = some m.cls := findClass_of_methodNamed B.named
  have hlocks := B.notSynchronized
  have ow : ∀ {k : Nat} {w : Cond}, o_X17_canStop[k]? = some w → w.before ([.ref h0] : List Value).toArray s = true := fun h => hts _ (mow_X17_canStop _ (List.mem_of_getElem? h))
  subst hsz
  have hD := hD0.self (sz := s.heap.size)
  generalize hAe : va_A [(h0, .inr (21, [.int (zI (z17_op)), v17_1, v17_2, .int (zI (z17_b)), v17_4, .int (zI (z17_regB)), v17_6]))] s.heap.size = A at hD ⊢
  have hA : ∀ q : Nat, s.heap.size ≤ q → A q := fun q h => by rw [← hAe]; exact Or.inr h
  have hS : va_S A s.heap s.heap [] := va_S.rf
  have hP : va_P (dC, dI) vwQ [(h0, .inr (21, [.int (zI (z17_op)), v17_1, v17_2, .int (zI (z17_b)), v17_4, .int (zI (z17_regB)), v17_6]))] s.heap := hP
  have hl := lv_entry ([.ref h0]) (n := 1) (Nat.le_of_ble_eq_true rfl)
  rw [lg_entry_eq]
  generalize (lg_sl ([.ref h0]) ++ List.replicate (1 - (lg_sl ([.ref h0])).length) Slot.unset).toArray = ls at hl ⊢
  have hl : lv_has ls 1 [(0, .ref h0)] := hl
  obtain ⟨H, hH⟩ : ∃ H, H = s.heap := ⟨_, rfl⟩
  rw [← hH] at hP
  have hS : va_S A s.heap H [] := by rw [hH]; exact hS
  rw [← hH]
  refine zW_cap (fun Q hQ => ?_)
  refine lv_aload_n hx hb dX17_canStop_0 rfl (lv_at hl 0 rfl) ?_
  refine va_get (D := (dC, dI)) (ci := 21) (v := .int (zI (z17_op))) (C := RX17) (T := TX17) (N := 7) hx hb hts mem_X17_canStop_0 hown hK hP 0 rfl rfl 0 (by decide) (ow (k := 0) rfl) (fun _ h9 => h9) rfl dX17_canStop_1 ?_
  refine lv_iconst (v := 4) hx hb dX17_canStop_4 (by decide) ?_
  refine lv_icmp_eq (tgt := 16) hx hb dX17_canStop_5 (by decide) (fun b5 => ?_) (fun b5 => ?_)
  · have yb5 : (z17_op : Int) = (4 : Int) := (zI_eq (a := z17_op) (b := 4) (by omega) (by omega) (by omega) (by omega)).mp b5
    refine lv_aload_n hx hb dX17_canStop_16 rfl (lv_at hl 0 rfl) ?_
    refine va_get (D := (dC, dI)) (ci := 21) (v := .int (zI (z17_regB))) (C := RX17) (T := TX17) (N := 7) hx hb hts mem_X17_canStop_0 hown hK hP 0 rfl rfl 5 (by decide) (ow (k := 1) rfl) (fun _ h9 => h9) rfl dX17_canStop_17 ?_
    refine lv_if_ne (tgt := 30) hx hb dX17_canStop_20 (by decide) (fun b20 => ?_) (fun b20 => ?_)
    · have yb20 : ¬ (z17_regB : Int) = (0 : Int) := fun q => b20 ((zI_eq (a := z17_regB) (b := 0) (by omega) (by omega) (by omega) (by omega)).mpr q)
      refine lv_iconst (v := 1) hx hb dX17_canStop_30 (by decide) ?_
      refine lv_goto (tgt := 35) hx hb dX17_canStop_31 (by decide) ?_
      subst hQ
      refine W.widen (k := 0) (n := 0) (Nat.le_of_ble_eq_true rfl) (Nat.le_of_ble_eq_true rfl) ?_
      exact W.zret (v := 1) hx hb hr (by decide) (fun t ht hW => ⟨⟨1, (), rfl, (congrArg zI (show (1 : Int) = rStop (z17_op) (z17_regB) (z17_b) by unfold rStop; (repeat' split) <;> omega)), by rw [ht]; exact hP, va_K.moved hW.alike hK, hD⟩, hS.F ht⟩) hS.2.2 dX17_canStop_35
    · have yb20 : (z17_regB : Int) = (0 : Int) := (zI_eq (a := z17_regB) (b := 0) (by omega) (by omega) (by omega) (by omega)).mp b20
      refine lv_aload_n hx hb dX17_canStop_23 rfl (lv_at hl 0 rfl) ?_
      refine va_get (D := (dC, dI)) (ci := 21) (v := .int (zI (z17_b))) (C := RX17) (T := TX17) (N := 7) hx hb hts mem_X17_canStop_0 hown hK hP 0 rfl rfl 3 (by decide) (ow (k := 2) rfl) (fun _ h9 => h9) rfl dX17_canStop_24 ?_
      refine lv_if_ne (tgt := 34) hx hb dX17_canStop_27 (by decide) (fun b27 => ?_) (fun b27 => ?_)
      · have yb27 : ¬ (z17_b : Int) = (0 : Int) := fun q => b27 ((zI_eq (a := z17_b) (b := 0) (by omega) (by omega) (by omega) (by omega)).mpr q)
        refine lv_iconst (v := 0) hx hb dX17_canStop_34 (by decide) ?_
        subst hQ
        refine W.widen (k := 0) (n := 0) (Nat.le_of_ble_eq_true rfl) (Nat.le_of_ble_eq_true rfl) ?_
        exact W.zret (v := 0) hx hb hr (by decide) (fun t ht hW => ⟨⟨0, (), rfl, (congrArg zI (show (0 : Int) = rStop (z17_op) (z17_regB) (z17_b) by unfold rStop; (repeat' split) <;> omega)), by rw [ht]; exact hP, va_K.moved hW.alike hK, hD⟩, hS.F ht⟩) hS.2.2 dX17_canStop_35
      · have yb27 : (z17_b : Int) = (0 : Int) := (zI_eq (a := z17_b) (b := 0) (by omega) (by omega) (by omega) (by omega)).mp b27
        refine lv_iconst (v := 1) hx hb dX17_canStop_30 (by decide) ?_
        refine lv_goto (tgt := 35) hx hb dX17_canStop_31 (by decide) ?_
        subst hQ
        refine W.widen (k := 0) (n := 0) (Nat.le_of_ble_eq_true rfl) (Nat.le_of_ble_eq_true rfl) ?_
        exact W.zret (v := 1) hx hb hr (by decide) (fun t ht hW => ⟨⟨1, (), rfl, (congrArg zI (show (1 : Int) = rStop (z17_op) (z17_regB) (z17_b) by unfold rStop; (repeat' split) <;> omega)), by rw [ht]; exact hP, va_K.moved hW.alike hK, hD⟩, hS.F ht⟩) hS.2.2 dX17_canStop_35
  · have yb5 : ¬ (z17_op : Int) = (4 : Int) := fun q => b5 ((zI_eq (a := z17_op) (b := 4) (by omega) (by omega) (by omega) (by omega)).mpr q)
    refine lv_aload_n hx hb dX17_canStop_8 rfl (lv_at hl 0 rfl) ?_
    refine va_get (D := (dC, dI)) (ci := 21) (v := .int (zI (z17_op))) (C := RX17) (T := TX17) (N := 7) hx hb hts mem_X17_canStop_0 hown hK hP 0 rfl rfl 0 (by decide) (ow (k := 0) rfl) (fun _ h9 => h9) rfl dX17_canStop_9 ?_
    refine lv_iconst (v := 5) hx hb dX17_canStop_12 (by decide) ?_
    refine lv_icmp_ne (tgt := 34) hx hb dX17_canStop_13 (by decide) (fun b13 => ?_) (fun b13 => ?_)
    · have yb13 : ¬ (z17_op : Int) = (5 : Int) := fun q => b13 ((zI_eq (a := z17_op) (b := 5) (by omega) (by omega) (by omega) (by omega)).mpr q)
      refine lv_iconst (v := 0) hx hb dX17_canStop_34 (by decide) ?_
      subst hQ
      refine W.widen (k := 0) (n := 0) (Nat.le_of_ble_eq_true rfl) (Nat.le_of_ble_eq_true rfl) ?_
      exact W.zret (v := 0) hx hb hr (by decide) (fun t ht hW => ⟨⟨0, (), rfl, (congrArg zI (show (0 : Int) = rStop (z17_op) (z17_regB) (z17_b) by unfold rStop; (repeat' split) <;> omega)), by rw [ht]; exact hP, va_K.moved hW.alike hK, hD⟩, hS.F ht⟩) hS.2.2 dX17_canStop_35
    · have yb13 : (z17_op : Int) = (5 : Int) := (zI_eq (a := z17_op) (b := 5) (by omega) (by omega) (by omega) (by omega)).mp b13
      refine lv_aload_n hx hb dX17_canStop_16 rfl (lv_at hl 0 rfl) ?_
      refine va_get (D := (dC, dI)) (ci := 21) (v := .int (zI (z17_regB))) (C := RX17) (T := TX17) (N := 7) hx hb hts mem_X17_canStop_0 hown hK hP 0 rfl rfl 5 (by decide) (ow (k := 1) rfl) (fun _ h9 => h9) rfl dX17_canStop_17 ?_
      refine lv_if_ne (tgt := 30) hx hb dX17_canStop_20 (by decide) (fun b20 => ?_) (fun b20 => ?_)
      · have yb20 : ¬ (z17_regB : Int) = (0 : Int) := fun q => b20 ((zI_eq (a := z17_regB) (b := 0) (by omega) (by omega) (by omega) (by omega)).mpr q)
        refine lv_iconst (v := 1) hx hb dX17_canStop_30 (by decide) ?_
        refine lv_goto (tgt := 35) hx hb dX17_canStop_31 (by decide) ?_
        subst hQ
        refine W.widen (k := 0) (n := 0) (Nat.le_of_ble_eq_true rfl) (Nat.le_of_ble_eq_true rfl) ?_
        exact W.zret (v := 1) hx hb hr (by decide) (fun t ht hW => ⟨⟨1, (), rfl, (congrArg zI (show (1 : Int) = rStop (z17_op) (z17_regB) (z17_b) by unfold rStop; (repeat' split) <;> omega)), by rw [ht]; exact hP, va_K.moved hW.alike hK, hD⟩, hS.F ht⟩) hS.2.2 dX17_canStop_35
      · have yb20 : (z17_regB : Int) = (0 : Int) := (zI_eq (a := z17_regB) (b := 0) (by omega) (by omega) (by omega) (by omega)).mp b20
        refine lv_aload_n hx hb dX17_canStop_23 rfl (lv_at hl 0 rfl) ?_
        refine va_get (D := (dC, dI)) (ci := 21) (v := .int (zI (z17_b))) (C := RX17) (T := TX17) (N := 7) hx hb hts mem_X17_canStop_0 hown hK hP 0 rfl rfl 3 (by decide) (ow (k := 2) rfl) (fun _ h9 => h9) rfl dX17_canStop_24 ?_
        refine lv_if_ne (tgt := 34) hx hb dX17_canStop_27 (by decide) (fun b27 => ?_) (fun b27 => ?_)
        · have yb27 : ¬ (z17_b : Int) = (0 : Int) := fun q => b27 ((zI_eq (a := z17_b) (b := 0) (by omega) (by omega) (by omega) (by omega)).mpr q)
          refine lv_iconst (v := 0) hx hb dX17_canStop_34 (by decide) ?_
          subst hQ
          refine W.widen (k := 0) (n := 0) (Nat.le_of_ble_eq_true rfl) (Nat.le_of_ble_eq_true rfl) ?_
          exact W.zret (v := 0) hx hb hr (by decide) (fun t ht hW => ⟨⟨0, (), rfl, (congrArg zI (show (0 : Int) = rStop (z17_op) (z17_regB) (z17_b) by unfold rStop; (repeat' split) <;> omega)), by rw [ht]; exact hP, va_K.moved hW.alike hK, hD⟩, hS.F ht⟩) hS.2.2 dX17_canStop_35
        · have yb27 : (z17_b : Int) = (0 : Int) := (zI_eq (a := z17_b) (b := 0) (by omega) (by omega) (by omega) (by omega)).mp b27
          refine lv_iconst (v := 1) hx hb dX17_canStop_30 (by decide) ?_
          refine lv_goto (tgt := 35) hx hb dX17_canStop_31 (by decide) ?_
          subst hQ
          refine W.widen (k := 0) (n := 0) (Nat.le_of_ble_eq_true rfl) (Nat.le_of_ble_eq_true rfl) ?_
          exact W.zret (v := 1) hx hb hr (by decide) (fun t ht hW => ⟨⟨1, (), rfl, (congrArg zI (show (1 : Int) = rStop (z17_op) (z17_regB) (z17_b) by unfold rStop; (repeat' split) <;> omega)), by rw [ht]; exact hP, va_K.moved hW.alike hK, hD⟩, hS.F ht⟩) hS.2.2 dX17_canStop_35
theorem dX17_put_0 : decode cX17_put 0 = .ok (.aload_n 0, 1) := by decide +kernel
theorem dX17_put_1 : decode cX17_put 1 = .ok (.aload_n 1, 1) := by decide +kernel
theorem dX17_put_2 : decode cX17_put 2 = .ok (.getfield 9, 3) := by decide +kernel
theorem dX17_put_5 : decode cX17_put 5 = .ok (.putfield 9, 3) := by decide +kernel
theorem dX17_put_8 : decode cX17_put 8 = .ok (.aload_n 0, 1) := by decide +kernel
theorem dX17_put_9 : decode cX17_put 9 = .ok (.aload_n 1, 1) := by decide +kernel
theorem dX17_put_10 : decode cX17_put 10 = .ok (.getfield 35, 3) := by decide +kernel
theorem dX17_put_13 : decode cX17_put 13 = .ok (.putfield 35, 3) := by decide +kernel
theorem dX17_put_16 : decode cX17_put 16 = .ok (.aload_n 0, 1) := by decide +kernel
theorem dX17_put_17 : decode cX17_put 17 = .ok (.aload_n 1, 1) := by decide +kernel
theorem dX17_put_18 : decode cX17_put 18 = .ok (.getfield 26, 3) := by decide +kernel
theorem dX17_put_21 : decode cX17_put 21 = .ok (.putfield 26, 3) := by decide +kernel
theorem dX17_put_24 : decode cX17_put 24 = .ok (.aload_n 0, 1) := by decide +kernel
theorem dX17_put_25 : decode cX17_put 25 = .ok (.aload_n 1, 1) := by decide +kernel
theorem dX17_put_26 : decode cX17_put 26 = .ok (.getfield 32, 3) := by decide +kernel
theorem dX17_put_29 : decode cX17_put 29 = .ok (.putfield 32, 3) := by decide +kernel
theorem dX17_put_32 : decode cX17_put 32 = .ok (.aload_n 0, 1) := by decide +kernel
theorem dX17_put_33 : decode cX17_put 33 = .ok (.aload_n 1, 1) := by decide +kernel
theorem dX17_put_34 : decode cX17_put 34 = .ok (.getfield 15, 3) := by decide +kernel
theorem dX17_put_37 : decode cX17_put 37 = .ok (.putfield 15, 3) := by decide +kernel
theorem dX17_put_40 : decode cX17_put 40 = .ok (.aload_n 0, 1) := by decide +kernel
theorem dX17_put_41 : decode cX17_put 41 = .ok (.aload_n 1, 1) := by decide +kernel
theorem dX17_put_42 : decode cX17_put 42 = .ok (.getfield 19, 3) := by decide +kernel
theorem dX17_put_45 : decode cX17_put 45 = .ok (.putfield 19, 3) := by decide +kernel
theorem dX17_put_48 : decode cX17_put 48 = .ok (.aload_n 0, 1) := by decide +kernel
theorem dX17_put_49 : decode cX17_put 49 = .ok (.iconst 0, 1) := by decide +kernel
theorem dX17_put_50 : decode cX17_put 50 = .ok (.putfield 38, 3) := by decide +kernel
theorem dX17_put_53 : decode cX17_put 53 = .ok (.return_, 1) := by decide +kernel
def o_X17_put : List Cond := [.fieldLink RX17 9 "SsaForgeModel$Row" "op" "I", .fieldLink RX17 35 "SsaForgeModel$Row" "t" "I", .fieldLink RX17 26 "SsaForgeModel$Row" "a" "I", .fieldLink RX17 32 "SsaForgeModel$Row" "b" "I", .fieldLink RX17 15 "SsaForgeModel$Row" "regA" "Z", .fieldLink RX17 19 "SsaForgeModel$Row" "regB" "Z", .fieldLink RX17 38 "SsaForgeModel$Row" "gone" "Z"]
def v_X17_put : List Cond := .code yX17_put cX17_put 2 none :: (o_X17_put ++ (wsX170 ++ []))
theorem mow_X17_put : ∀ w ∈ o_X17_put, w ∈ v_X17_put := fun _ h => List.mem_cons_of_mem _ (List.mem_append_left _ h)
theorem mem_X17_put_0 : ∀ w ∈ wsX170, w ∈ v_X17_put := fun _ h => List.mem_cons_of_mem _ (List.mem_append_right _ (List.mem_append_left _ h))
set_option maxRecDepth 20000 in
theorem gw_X17_put : v_X17_put.all goodWord = true := by decide +kernel
set_option maxHeartbeats 4000000 in
set_option maxRecDepth 100000 in
theorem c_X17_put (l : Launch) (dC : Nat → ClassId) (dI : Nat → Nat → Nat) (h0 : Nat) (z17_op : Int) (z17_t : Int) (z17_a : Int) (z17_b : Int) (z17_regA : Int) (z17_regB : Int) (z17_gone : Int) (h2 : Nat) (z18_op : Int) (z18_t : Int) (z18_a : Int) (z18_b : Int) (z18_regA : Int) (z18_regB : Int) (z18_gone : Int) (hNz17_op : 0 ≤ z17_op ∧ z17_op ≤ 40) (hNz17_t : 0 ≤ z17_t ∧ z17_t ≤ 1001) (hNz17_a : -2147483648 ≤ z17_a ∧ z17_a ≤ 2147483647) (hNz17_b : -2147483648 ≤ z17_b ∧ z17_b ≤ 2147483647) (hNz17_regA : 0 ≤ z17_regA ∧ z17_regA ≤ 1) (hNz17_regB : 0 ≤ z17_regB ∧ z17_regB ≤ 1) (hNz17_gone : 0 ≤ z17_gone ∧ z17_gone ≤ 1) (hNz18_op : 0 ≤ z18_op ∧ z18_op ≤ 40) (hNz18_t : 0 ≤ z18_t ∧ z18_t ≤ 1001) (hNz18_a : -2147483648 ≤ z18_a ∧ z18_a ≤ 2147483647) (hNz18_b : -2147483648 ≤ z18_b ∧ z18_b ≤ 2147483647) (hNz18_regA : 0 ≤ z18_regA ∧ z18_regA ≤ 1) (hNz18_regB : 0 ≤ z18_regB ∧ z18_regB ≤ 1) (hNz18_gone : 0 ≤ z18_gone ∧ z18_gone ≤ 1) (sz : Nat) : Met l yX17_put v_X17_put ({ frames := 0, cells := 0, slots := 0, locals := 0 }) (va_Pc [.ref h0, .ref h2] (fun U => U.heap.size = sz ∧ va_P (dC, dI) vwQ [(h0, .inr (21, [.int (zI (z17_op)), .int (zI (z17_t)), .int (zI (z17_a)), .int (zI (z17_b)), .int (zI (z17_regA)), .int (zI (z17_regB)), .int (zI (z17_gone))])), (h2, .inr (21, [.int (zI (z18_op)), .int (zI (z18_t)), .int (zI (z18_a)), .int (zI (z18_b)), .int (zI (z18_regA)), .int (zI (z18_regB)), .int (zI (z18_gone))]))] U.heap ∧ va_K (dC, dI) vwQ [] U ∧ va_D (fun _ => True) [(h0, .inr (21, [.int (zI (z17_op)), .int (zI (z17_t)), .int (zI (z17_a)), .int (zI (z17_b)), .int (zI (z17_regA)), .int (zI (z17_regB)), .int (zI (z17_gone))])), (h2, .inr (21, [.int (zI (z18_op)), .int (zI (z18_t)), .int (zI (z18_a)), .int (zI (z18_b)), .int (zI (z18_regA)), .int (zI (z18_regB)), .int (zI (z18_gone))]))])) (va_Qv (fun _ : Unit => True) (fun (_ : Unit) (t : State) => ∃ (z0_9 : Int) (z1_9 : Int) (z2_9 : Int) (z3_9 : Int) (z4_9 : Int) (z5_9 : Int) (z6_9 : Int), ((0 ≤ z0_9 ∧ z0_9 ≤ 40) ∧ (0 ≤ z1_9 ∧ z1_9 ≤ 1001) ∧ (-2147483648 ≤ z2_9 ∧ z2_9 ≤ 2147483647) ∧ (-2147483648 ≤ z3_9 ∧ z3_9 ≤ 2147483647) ∧ (0 ≤ z4_9 ∧ z4_9 ≤ 1) ∧ (0 ≤ z5_9 ∧ z5_9 ≤ 1) ∧ (0 ≤ z6_9 ∧ z6_9 ≤ 1) ∧ (z0_9 = z18_op ∧ z1_9 = z18_t ∧ z2_9 = z18_a ∧ z3_9 = z18_b ∧ z4_9 = z18_regA ∧ z5_9 = z18_regB ∧ z6_9 = 0)) ∧ va_P (dC, dI) vwQ [(h0, .inr (21, [.int (zI (z0_9)), .int (zI (z1_9)), .int (zI (z2_9)), .int (zI (z3_9)), .int (zI (z4_9)), .int (zI (z5_9)), .int (zI (z6_9))])), (h2, .inr (21, [.int (zI (z18_op)), .int (zI (z18_t)), .int (zI (z18_a)), .int (zI (z18_b)), .int (zI (z18_regA)), .int (zI (z18_regB)), .int (zI (z18_gone))]))] t.heap ∧ va_K (dC, dI) vwQ [] t ∧ va_D (va_A [(h0, .inr (21, [.int (zI (z17_op)), .int (zI (z17_t)), .int (zI (z17_a)), .int (zI (z17_b)), .int (zI (z17_regA)), .int (zI (z17_regB)), .int (zI (z17_gone))])), (h2, .inr (21, [.int (zI (z18_op)), .int (zI (z18_t)), .int (zI (z18_a)), .int (zI (z18_b)), .int (zI (z18_regA)), .int (zI (z18_regB)), .int (zI (z18_gone))]))] sz) [(h0, .inr (21, [.int (zI (z0_9)), .int (zI (z1_9)), .int (zI (z2_9)), .int (zI (z3_9)), .int (zI (z4_9)), .int (zI (z5_9)), .int (zI (z6_9))])), (h2, .inr (21, [.int (zI (z18_op)), .int (zI (z18_t)), .int (zI (z18_a)), .int (zI (z18_b)), .int (zI (z18_regA)), .int (zI (z18_regB)), .int (zI (z18_gone))]))]) (va_A [(h0, .inr (21, [.int (zI (z17_op)), .int (zI (z17_t)), .int (zI (z17_a)), .int (zI (z17_b)), .int (zI (z17_regA)), .int (zI (z17_regB)), .int (zI (z17_gone))])), (h2, .inr (21, [.int (zI (z18_op)), .int (zI (z18_t)), .int (zI (z18_a)), .int (zI (z18_b)), .int (zI (z18_regA)), .int (zI (z18_regB)), .int (zI (z18_gone))]))] sz)) 0 0 (va_A [(h0, .inr (21, [.int (zI (z17_op)), .int (zI (z17_t)), .int (zI (z17_a)), .int (zI (z17_b)), .int (zI (z17_regA)), .int (zI (z17_regB)), .int (zI (z17_gone))])), (h2, .inr (21, [.int (zI (z18_op)), .int (zI (z18_t)), .int (zI (z18_a)), .int (zI (z18_b)), .int (zI (z18_regA)), .int (zI (z18_regB)), .int (zI (z18_gone))]))] sz) := by
  refine Met.ofW (cc := cX17_put) (maxL := 2) (ret := none) (by decide) rfl ?_
  intro p e s m args below meth c s₁ B hml hv
  obtain ⟨rfl, hsz, hP, hK, hD0⟩ := hv
  have hx := B.exec
  have hb := B.bytes
  have hr := B.returns
  have hts := atoms_spec (ws := v_X17_put) B.pre
  have hown : s.vm.findClass RX17 = some m.cls := findClass_of_methodNamed B.named
  have hlocks := B.notSynchronized
  have ow : ∀ {k : Nat} {w : Cond}, o_X17_put[k]? = some w → w.before ([.ref h0, .ref h2] : List Value).toArray s = true := fun h => hts _ (mow_X17_put _ (List.mem_of_getElem? h))
  subst hsz
  have hD := hD0.self (sz := s.heap.size)
  generalize hAe : va_A [(h0, .inr (21, [.int (zI (z17_op)), .int (zI (z17_t)), .int (zI (z17_a)), .int (zI (z17_b)), .int (zI (z17_regA)), .int (zI (z17_regB)), .int (zI (z17_gone))])), (h2, .inr (21, [.int (zI (z18_op)), .int (zI (z18_t)), .int (zI (z18_a)), .int (zI (z18_b)), .int (zI (z18_regA)), .int (zI (z18_regB)), .int (zI (z18_gone))]))] s.heap.size = A at hD ⊢
  have hA : ∀ q : Nat, s.heap.size ≤ q → A q := fun q h => by rw [← hAe]; exact Or.inr h
  have hS : va_S A s.heap s.heap [] := va_S.rf
  have hP : va_P (dC, dI) vwQ [(h0, .inr (21, [.int (zI (z17_op)), .int (zI (z17_t)), .int (zI (z17_a)), .int (zI (z17_b)), .int (zI (z17_regA)), .int (zI (z17_regB)), .int (zI (z17_gone))])), (h2, .inr (21, [.int (zI (z18_op)), .int (zI (z18_t)), .int (zI (z18_a)), .int (zI (z18_b)), .int (zI (z18_regA)), .int (zI (z18_regB)), .int (zI (z18_gone))]))] s.heap := hP
  have hl := lv_entry ([.ref h0, .ref h2]) (n := 2) (Nat.le_of_ble_eq_true rfl)
  rw [lg_entry_eq]
  generalize (lg_sl ([.ref h0, .ref h2]) ++ List.replicate (2 - (lg_sl ([.ref h0, .ref h2])).length) Slot.unset).toArray = ls at hl ⊢
  have hl : lv_has ls 2 [(0, .ref h0), (1, .ref h2)] := hl
  obtain ⟨H, hH⟩ : ∃ H, H = s.heap := ⟨_, rfl⟩
  rw [← hH] at hP
  have hS : va_S A s.heap H [] := by rw [hH]; exact hS
  rw [← hH]
  refine zW_cap (fun Q hQ => ?_)
  refine lv_aload_n hx hb dX17_put_0 rfl (lv_at hl 0 rfl) ?_
  refine lv_aload_n hx hb dX17_put_1 rfl (lv_at hl 1 rfl) ?_
  refine va_get (D := (dC, dI)) (ci := 21) (v := .int (zI (z18_op))) (C := RX17) (T := TX17) (N := 7) hx hb hts mem_X17_put_0 hown hK hP 1 rfl rfl 0 (by decide) (ow (k := 0) rfl) (fun _ h9 => h9) rfl dX17_put_2 ?_
  refine va_put (D := (dC, dI)) (ci := 21) (v := .int (zI (z18_op))) (ty := .int) (C := RX17) (T := TX17) (N := 7) hx hb hts mem_X17_put_0 tyX17 tyX17_ok nmX17 hown hK hP hD hS 0 rfl rfl 0 (by decide) (ow (k := 0) rfl) (fun _ h9 => h9) rfl (by decide +kernel) rfl rfl (Nat.le_of_ble_eq_true rfl) dX17_put_5 (fun H locs hP hD hS => ?_)
  have hP : va_P (dC, dI) vwQ [(h0, .inr (21, [.int (zI (z18_op)), .int (zI (z17_t)), .int (zI (z17_a)), .int (zI (z17_b)), .int (zI (z17_regA)), .int (zI (z17_regB)), .int (zI (z17_gone))])), (h2, .inr (21, [.int (zI (z18_op)), .int (zI (z18_t)), .int (zI (z18_a)), .int (zI (z18_b)), .int (zI (z18_regA)), .int (zI (z18_regB)), .int (zI (z18_gone))]))] H := hP
  have hD : va_D A [(h0, .inr (21, [.int (zI (z18_op)), .int (zI (z17_t)), .int (zI (z17_a)), .int (zI (z17_b)), .int (zI (z17_regA)), .int (zI (z17_regB)), .int (zI (z17_gone))])), (h2, .inr (21, [.int (zI (z18_op)), .int (zI (z18_t)), .int (zI (z18_a)), .int (zI (z18_b)), .int (zI (z18_regA)), .int (zI (z18_regB)), .int (zI (z18_gone))]))] := hD
  refine lv_aload_n hx hb dX17_put_8 rfl (lv_at hl 0 rfl) ?_
  refine lv_aload_n hx hb dX17_put_9 rfl (lv_at hl 1 rfl) ?_
  refine va_get (D := (dC, dI)) (ci := 21) (v := .int (zI (z18_t))) (C := RX17) (T := TX17) (N := 7) hx hb hts mem_X17_put_0 hown hK hP 1 rfl rfl 1 (by decide) (ow (k := 1) rfl) (fun _ h9 => h9) rfl dX17_put_10 ?_
  refine va_put (D := (dC, dI)) (ci := 21) (v := .int (zI (z18_t))) (ty := .int) (C := RX17) (T := TX17) (N := 7) hx hb hts mem_X17_put_0 tyX17 tyX17_ok nmX17 hown hK hP hD hS 0 rfl rfl 1 (by decide) (ow (k := 1) rfl) (fun _ h9 => h9) rfl (by decide +kernel) rfl rfl (Nat.le_of_ble_eq_true rfl) dX17_put_13 (fun H locs hP hD hS => ?_)
  have hP : va_P (dC, dI) vwQ [(h0, .inr (21, [.int (zI (z18_op)), .int (zI (z18_t)), .int (zI (z17_a)), .int (zI (z17_b)), .int (zI (z17_regA)), .int (zI (z17_regB)), .int (zI (z17_gone))])), (h2, .inr (21, [.int (zI (z18_op)), .int (zI (z18_t)), .int (zI (z18_a)), .int (zI (z18_b)), .int (zI (z18_regA)), .int (zI (z18_regB)), .int (zI (z18_gone))]))] H := hP
  have hD : va_D A [(h0, .inr (21, [.int (zI (z18_op)), .int (zI (z18_t)), .int (zI (z17_a)), .int (zI (z17_b)), .int (zI (z17_regA)), .int (zI (z17_regB)), .int (zI (z17_gone))])), (h2, .inr (21, [.int (zI (z18_op)), .int (zI (z18_t)), .int (zI (z18_a)), .int (zI (z18_b)), .int (zI (z18_regA)), .int (zI (z18_regB)), .int (zI (z18_gone))]))] := hD
  refine lv_aload_n hx hb dX17_put_16 rfl (lv_at hl 0 rfl) ?_
  refine lv_aload_n hx hb dX17_put_17 rfl (lv_at hl 1 rfl) ?_
  refine va_get (D := (dC, dI)) (ci := 21) (v := .int (zI (z18_a))) (C := RX17) (T := TX17) (N := 7) hx hb hts mem_X17_put_0 hown hK hP 1 rfl rfl 2 (by decide) (ow (k := 2) rfl) (fun _ h9 => h9) rfl dX17_put_18 ?_
  refine va_put (D := (dC, dI)) (ci := 21) (v := .int (zI (z18_a))) (ty := .int) (C := RX17) (T := TX17) (N := 7) hx hb hts mem_X17_put_0 tyX17 tyX17_ok nmX17 hown hK hP hD hS 0 rfl rfl 2 (by decide) (ow (k := 2) rfl) (fun _ h9 => h9) rfl (by decide +kernel) rfl rfl (Nat.le_of_ble_eq_true rfl) dX17_put_21 (fun H locs hP hD hS => ?_)
  have hP : va_P (dC, dI) vwQ [(h0, .inr (21, [.int (zI (z18_op)), .int (zI (z18_t)), .int (zI (z18_a)), .int (zI (z17_b)), .int (zI (z17_regA)), .int (zI (z17_regB)), .int (zI (z17_gone))])), (h2, .inr (21, [.int (zI (z18_op)), .int (zI (z18_t)), .int (zI (z18_a)), .int (zI (z18_b)), .int (zI (z18_regA)), .int (zI (z18_regB)), .int (zI (z18_gone))]))] H := hP
  have hD : va_D A [(h0, .inr (21, [.int (zI (z18_op)), .int (zI (z18_t)), .int (zI (z18_a)), .int (zI (z17_b)), .int (zI (z17_regA)), .int (zI (z17_regB)), .int (zI (z17_gone))])), (h2, .inr (21, [.int (zI (z18_op)), .int (zI (z18_t)), .int (zI (z18_a)), .int (zI (z18_b)), .int (zI (z18_regA)), .int (zI (z18_regB)), .int (zI (z18_gone))]))] := hD
  refine lv_aload_n hx hb dX17_put_24 rfl (lv_at hl 0 rfl) ?_
  refine lv_aload_n hx hb dX17_put_25 rfl (lv_at hl 1 rfl) ?_
  refine va_get (D := (dC, dI)) (ci := 21) (v := .int (zI (z18_b))) (C := RX17) (T := TX17) (N := 7) hx hb hts mem_X17_put_0 hown hK hP 1 rfl rfl 3 (by decide) (ow (k := 3) rfl) (fun _ h9 => h9) rfl dX17_put_26 ?_
  refine va_put (D := (dC, dI)) (ci := 21) (v := .int (zI (z18_b))) (ty := .int) (C := RX17) (T := TX17) (N := 7) hx hb hts mem_X17_put_0 tyX17 tyX17_ok nmX17 hown hK hP hD hS 0 rfl rfl 3 (by decide) (ow (k := 3) rfl) (fun _ h9 => h9) rfl (by decide +kernel) rfl rfl (Nat.le_of_ble_eq_true rfl) dX17_put_29 (fun H locs hP hD hS => ?_)
  have hP : va_P (dC, dI) vwQ [(h0, .inr (21, [.int (zI (z18_op)), .int (zI (z18_t)), .int (zI (z18_a)), .int (zI (z18_b)), .int (zI (z17_regA)), .int (zI (z17_regB)), .int (zI (z17_gone))])), (h2, .inr (21, [.int (zI (z18_op)), .int (zI (z18_t)), .int (zI (z18_a)), .int (zI (z18_b)), .int (zI (z18_regA)), .int (zI (z18_regB)), .int (zI (z18_gone))]))] H := hP
  have hD : va_D A [(h0, .inr (21, [.int (zI (z18_op)), .int (zI (z18_t)), .int (zI (z18_a)), .int (zI (z18_b)), .int (zI (z17_regA)), .int (zI (z17_regB)), .int (zI (z17_gone))])), (h2, .inr (21, [.int (zI (z18_op)), .int (zI (z18_t)), .int (zI (z18_a)), .int (zI (z18_b)), .int (zI (z18_regA)), .int (zI (z18_regB)), .int (zI (z18_gone))]))] := hD
  refine lv_aload_n hx hb dX17_put_32 rfl (lv_at hl 0 rfl) ?_
  refine lv_aload_n hx hb dX17_put_33 rfl (lv_at hl 1 rfl) ?_
  refine va_get (D := (dC, dI)) (ci := 21) (v := .int (zI (z18_regA))) (C := RX17) (T := TX17) (N := 7) hx hb hts mem_X17_put_0 hown hK hP 1 rfl rfl 4 (by decide) (ow (k := 4) rfl) (fun _ h9 => h9) rfl dX17_put_34 ?_
  refine va_put (D := (dC, dI)) (ci := 21) (v := .int (zI (z18_regA))) (ty := .boolean) (C := RX17) (T := TX17) (N := 7) hx hb hts mem_X17_put_0 tyX17 tyX17_ok nmX17 hown hK hP hD hS 0 rfl rfl 4 (by decide) (ow (k := 4) rfl) (fun _ h9 => h9) rfl (by decide +kernel) (zI_bool (by omega) (by omega)) (zI_fitb (by omega) (by omega)) (Nat.le_of_ble_eq_true rfl) dX17_put_37 (fun H locs hP hD hS => ?_)
  have hP : va_P (dC, dI) vwQ [(h0, .inr (21, [.int (zI (z18_op)), .int (zI (z18_t)), .int (zI (z18_a)), .int (zI (z18_b)), .int (zI (z18_regA)), .int (zI (z17_regB)), .int (zI (z17_gone))])), (h2, .inr (21, [.int (zI (z18_op)), .int (zI (z18_t)), .int (zI (z18_a)), .int (zI (z18_b)), .int (zI (z18_regA)), .int (zI (z18_regB)), .int (zI (z18_gone))]))] H := hP
  have hD : va_D A [(h0, .inr (21, [.int (zI (z18_op)), .int (zI (z18_t)), .int (zI (z18_a)), .int (zI (z18_b)), .int (zI (z18_regA)), .int (zI (z17_regB)), .int (zI (z17_gone))])), (h2, .inr (21, [.int (zI (z18_op)), .int (zI (z18_t)), .int (zI (z18_a)), .int (zI (z18_b)), .int (zI (z18_regA)), .int (zI (z18_regB)), .int (zI (z18_gone))]))] := hD
  refine lv_aload_n hx hb dX17_put_40 rfl (lv_at hl 0 rfl) ?_
  refine lv_aload_n hx hb dX17_put_41 rfl (lv_at hl 1 rfl) ?_
  refine va_get (D := (dC, dI)) (ci := 21) (v := .int (zI (z18_regB))) (C := RX17) (T := TX17) (N := 7) hx hb hts mem_X17_put_0 hown hK hP 1 rfl rfl 5 (by decide) (ow (k := 5) rfl) (fun _ h9 => h9) rfl dX17_put_42 ?_
  refine va_put (D := (dC, dI)) (ci := 21) (v := .int (zI (z18_regB))) (ty := .boolean) (C := RX17) (T := TX17) (N := 7) hx hb hts mem_X17_put_0 tyX17 tyX17_ok nmX17 hown hK hP hD hS 0 rfl rfl 5 (by decide) (ow (k := 5) rfl) (fun _ h9 => h9) rfl (by decide +kernel) (zI_bool (by omega) (by omega)) (zI_fitb (by omega) (by omega)) (Nat.le_of_ble_eq_true rfl) dX17_put_45 (fun H locs hP hD hS => ?_)
  have hP : va_P (dC, dI) vwQ [(h0, .inr (21, [.int (zI (z18_op)), .int (zI (z18_t)), .int (zI (z18_a)), .int (zI (z18_b)), .int (zI (z18_regA)), .int (zI (z18_regB)), .int (zI (z17_gone))])), (h2, .inr (21, [.int (zI (z18_op)), .int (zI (z18_t)), .int (zI (z18_a)), .int (zI (z18_b)), .int (zI (z18_regA)), .int (zI (z18_regB)), .int (zI (z18_gone))]))] H := hP
  have hD : va_D A [(h0, .inr (21, [.int (zI (z18_op)), .int (zI (z18_t)), .int (zI (z18_a)), .int (zI (z18_b)), .int (zI (z18_regA)), .int (zI (z18_regB)), .int (zI (z17_gone))])), (h2, .inr (21, [.int (zI (z18_op)), .int (zI (z18_t)), .int (zI (z18_a)), .int (zI (z18_b)), .int (zI (z18_regA)), .int (zI (z18_regB)), .int (zI (z18_gone))]))] := hD
  refine lv_aload_n hx hb dX17_put_48 rfl (lv_at hl 0 rfl) ?_
  refine lv_iconst (v := 0) hx hb dX17_put_49 (by decide) ?_
  refine va_put (D := (dC, dI)) (ci := 21) (v := .int 0) (ty := .boolean) (C := RX17) (T := TX17) (N := 7) hx hb hts mem_X17_put_0 tyX17 tyX17_ok nmX17 hown hK hP hD hS 0 rfl rfl 6 (by decide) (ow (k := 6) rfl) (fun _ h9 => h9) rfl (by decide +kernel) rfl rfl (Nat.le_of_ble_eq_true rfl) dX17_put_50 (fun H locs hP hD hS => ?_)
  have hP : va_P (dC, dI) vwQ [(h0, .inr (21, [.int (zI (z18_op)), .int (zI (z18_t)), .int (zI (z18_a)), .int (zI (z18_b)), .int (zI (z18_regA)), .int (zI (z18_regB)), .int 0])), (h2, .inr (21, [.int (zI (z18_op)), .int (zI (z18_t)), .int (zI (z18_a)), .int (zI (z18_b)), .int (zI (z18_regA)), .int (zI (z18_regB)), .int (zI (z18_gone))]))] H := hP
  have hD : va_D A [(h0, .inr (21, [.int (zI (z18_op)), .int (zI (z18_t)), .int (zI (z18_a)), .int (zI (z18_b)), .int (zI (z18_regA)), .int (zI (z18_regB)), .int 0])), (h2, .inr (21, [.int (zI (z18_op)), .int (zI (z18_t)), .int (zI (z18_a)), .int (zI (z18_b)), .int (zI (z18_regA)), .int (zI (z18_regB)), .int (zI (z18_gone))]))] := hD
  subst hQ
  refine W.widen (k := 0) (n := 0) (Nat.le_of_ble_eq_true rfl) (Nat.le_of_ble_eq_true rfl) ?_
  exact W.vret hx hb hr (fun t ht hW => ⟨⟨(), rfl, trivial, z18_op, z18_t, z18_a, z18_b, z18_regA, z18_regB, 0, ⟨(by omega), (by omega), (by omega), (by omega), (by omega), (by omega), (by omega), ⟨by omega, by omega, by omega, by omega, by omega, by omega, by omega⟩⟩, by rw [ht]; exact hP, va_K.moved hW.alike hK, hD⟩, hS.F ht⟩) hS.2.2 dX17_put_53
theorem dX12_ways_0 : decode cX12_ways 0 = .ok (.aload_n 0, 1) := by decide +kernel
theorem dX12_ways_1 : decode cX12_ways 1 = .ok (.getfield 24, 3) := by decide +kernel
theorem dX12_ways_4 : decode cX12_ways 4 = .ok (.getfield 28, 3) := by decide +kernel
theorem dX12_ways_7 : decode cX12_ways 7 = .ok (.bipush 32, 2) := by decide +kernel
theorem dX12_ways_9 : decode cX12_ways 9 = .ok (.if_icmp .ne 7, 3) := by decide +kernel
theorem dX12_ways_16 : decode cX12_ways 16 = .ok (.aload_n 0, 1) := by decide +kernel
theorem dX12_ways_17 : decode cX12_ways 17 = .ok (.getfield 24, 3) := by decide +kernel
theorem dX12_ways_20 : decode cX12_ways 20 = .ok (.getfield 28, 3) := by decide +kernel
theorem dX12_ways_23 : decode cX12_ways 23 = .ok (.bipush 30, 2) := by decide +kernel
theorem dX12_ways_25 : decode cX12_ways 25 = .ok (.if_icmp .eq 14, 3) := by decide +kernel
theorem dX12_ways_39 : decode cX12_ways 39 = .ok (.iconst 1, 1) := by decide +kernel
theorem dX12_ways_40 : decode cX12_ways 40 = .ok (.goto 4, 3) := by decide +kernel
theorem dX12_ways_44 : decode cX12_ways 44 = .ok (.ireturn, 1) := by decide +kernel
theorem dX12_ways_28 : decode cX12_ways 28 = .ok (.aload_n 0, 1) := by decide +kernel
theorem dX12_ways_29 : decode cX12_ways 29 = .ok (.getfield 32, 3) := by decide +kernel
theorem dX12_ways_32 : decode cX12_ways 32 = .ok (.aload_n 0, 1) := by decide +kernel
theorem dX12_ways_33 : decode cX12_ways 33 = .ok (.getfield 35, 3) := by decide +kernel
theorem dX12_ways_36 : decode cX12_ways 36 = .ok (.if_icmp .ne 7, 3) := by decide +kernel
theorem dX12_ways_43 : decode cX12_ways 43 = .ok (.iconst 2, 1) := by decide +kernel
theorem dX12_ways_12 : decode cX12_ways 12 = .ok (.iconst 0, 1) := by decide +kernel
theorem dX12_ways_13 : decode cX12_ways 13 = .ok (.goto 31, 3) := by decide +kernel
def o_X12_ways : List Cond := [.fieldLink RX12 24 "SsaForgeModel$Block" "end" "LSsaForgeModel$Row;", .fieldLink RX12 28 "SsaForgeModel$Row" "op" "I", .fieldLink RX12 32 "SsaForgeModel$Block" "first" "I", .fieldLink RX12 35 "SsaForgeModel$Block" "second" "I"]
def v_X12_ways : List Cond := .code yX12_ways cX12_ways 1 (some .int) :: (o_X12_ways ++ (wsX120 ++ (wsX170 ++ [])))
theorem mow_X12_ways : ∀ w ∈ o_X12_ways, w ∈ v_X12_ways := fun _ h => List.mem_cons_of_mem _ (List.mem_append_left _ h)
theorem mem_X12_ways_0 : ∀ w ∈ wsX120, w ∈ v_X12_ways := fun _ h => List.mem_cons_of_mem _ (List.mem_append_right _ (List.mem_append_left _ h))
theorem mem_X12_ways_1 : ∀ w ∈ wsX170, w ∈ v_X12_ways := fun _ h => List.mem_cons_of_mem _ (List.mem_append_right _ (List.mem_append_right _ (List.mem_append_left _ h)))
set_option maxRecDepth 20000 in
theorem gw_X12_ways : v_X12_ways.all goodWord = true := by decide +kernel
set_option maxHeartbeats 4000000 in
set_option maxRecDepth 100000 in
theorem c_X12_ways (l : Launch) (dC : Nat → ClassId) (dI : Nat → Nat → Nat) (h0 : Nat) (v12_0 : Value) (v12_1 : Value) (z12_first : Int) (z12_second : Int) (he : Nat) (z17_op : Int) (v17_1 : Value) (v17_2 : Value) (v17_3 : Value) (v17_4 : Value) (v17_5 : Value) (v17_6 : Value) (hNz12_first : 0 ≤ z12_first ∧ z12_first ≤ 299) (hNz12_second : 0 ≤ z12_second ∧ z12_second ≤ 299) (hNz17_op : 0 ≤ z17_op ∧ z17_op ≤ 40) (sz : Nat) : Met l yX12_ways v_X12_ways ({ frames := 0, cells := 0, slots := 0, locals := 0 }) (va_Pc [.ref h0] (fun U => U.heap.size = sz ∧ va_P (dC, dI) vwQ [(h0, .inr (19, [v12_0, v12_1, .ref he, .int (zI (z12_first)), .int (zI (z12_second))])), (he, .inr (21, [.int (zI (z17_op)), v17_1, v17_2, v17_3, v17_4, v17_5, v17_6]))] U.heap ∧ va_K (dC, dI) vwQ [] U ∧ va_D (fun _ => True) [(h0, .inr (19, [v12_0, v12_1, .ref he, .int (zI (z12_first)), .int (zI (z12_second))])), (he, .inr (21, [.int (zI (z17_op)), v17_1, v17_2, v17_3, v17_4, v17_5, v17_6]))])) (va_Qi (fun (r : Int32) (_ : Unit) => r = zI (rWays (z17_op) (z12_first) (z12_second))) (fun (_ : Unit) (t : State) => va_P (dC, dI) vwQ [(h0, .inr (19, [v12_0, v12_1, .ref he, .int (zI (z12_first)), .int (zI (z12_second))])), (he, .inr (21, [.int (zI (z17_op)), v17_1, v17_2, v17_3, v17_4, v17_5, v17_6]))] t.heap ∧ va_K (dC, dI) vwQ [] t ∧ va_D (va_A [(h0, .inr (19, [v12_0, v12_1, .ref he, .int (zI (z12_first)), .int (zI (z12_second))])), (he, .inr (21, [.int (zI (z17_op)), v17_1, v17_2, v17_3, v17_4, v17_5, v17_6]))] sz) [(h0, .inr (19, [v12_0, v12_1, .ref he, .int (zI (z12_first)), .int (zI (z12_second))])), (he, .inr (21, [.int (zI (z17_op)), v17_1, v17_2, v17_3, v17_4, v17_5, v17_6]))]) (va_A [(h0, .inr (19, [v12_0, v12_1, .ref he, .int (zI (z12_first)), .int (zI (z12_second))])), (he, .inr (21, [.int (zI (z17_op)), v17_1, v17_2, v17_3, v17_4, v17_5, v17_6]))] sz)) 0 0 (va_A [(h0, .inr (19, [v12_0, v12_1, .ref he, .int (zI (z12_first)), .int (zI (z12_second))])), (he, .inr (21, [.int (zI (z17_op)), v17_1, v17_2, v17_3, v17_4, v17_5, v17_6]))] sz) := by
  refine Met.ofW (cc := cX12_ways) (maxL := 1) (ret := (some .int)) (by decide) rfl ?_
  intro p e s m args below meth c s₁ B hml hv
  obtain ⟨rfl, hsz, hP, hK, hD0⟩ := hv
  have hx := B.exec
  have hb := B.bytes
  have hr := B.returns
  have hts := atoms_spec (ws := v_X12_ways) B.pre
  have hown : s.vm.findClass RX12 = some m.cls := findClass_of_methodNamed B.named
  have hlocks := B.notSynchronized
  have ow : ∀ {k : Nat} {w : Cond}, o_X12_ways[k]? = some w → w.before ([.ref h0] : List Value).toArray s = true := fun h => hts _ (mow_X12_ways _ (List.mem_of_getElem? h))
  subst hsz
  have hD := hD0.self (sz := s.heap.size)
  generalize hAe : va_A [(h0, .inr (19, [v12_0, v12_1, .ref he, .int (zI (z12_first)), .int (zI (z12_second))])), (he, .inr (21, [.int (zI (z17_op)), v17_1, v17_2, v17_3, v17_4, v17_5, v17_6]))] s.heap.size = A at hD ⊢
  have hA : ∀ q : Nat, s.heap.size ≤ q → A q := fun q h => by rw [← hAe]; exact Or.inr h
  have hS : va_S A s.heap s.heap [] := va_S.rf
  have hP : va_P (dC, dI) vwQ [(h0, .inr (19, [v12_0, v12_1, .ref he, .int (zI (z12_first)), .int (zI (z12_second))])), (he, .inr (21, [.int (zI (z17_op)), v17_1, v17_2, v17_3, v17_4, v17_5, v17_6]))] s.heap := hP
  have hl := lv_entry ([.ref h0]) (n := 1) (Nat.le_of_ble_eq_true rfl)
  rw [lg_entry_eq]
  generalize (lg_sl ([.ref h0]) ++ List.replicate (1 - (lg_sl ([.ref h0])).length) Slot.unset).toArray = ls at hl ⊢
  have hl : lv_has ls 1 [(0, .ref h0)] := hl
  obtain ⟨H, hH⟩ : ∃ H, H = s.heap := ⟨_, rfl⟩
  rw [← hH] at hP
  have hS : va_S A s.heap H [] := by rw [hH]; exact hS
  rw [← hH]
  refine zW_cap (fun Q hQ => ?_)
  refine lv_aload_n hx hb dX12_ways_0 rfl (lv_at hl 0 rfl) ?_
  refine va_get (D := (dC, dI)) (ci := 19) (v := .ref he) (C := RX12) (T := TX12) (N := 5) hx hb hts mem_X12_ways_0 hown hK hP 0 rfl rfl 2 (by decide) (ow (k := 0) rfl) (fun _ h9 => h9) rfl dX12_ways_1 ?_
  refine va_get (D := (dC, dI)) (ci := 21) (v := .int (zI (z17_op))) (C := RX17) (T := TX17) (N := 7) hx hb hts mem_X12_ways_1 hown hK hP 1 rfl rfl 0 (by decide) (ow (k := 1) rfl) (fun _ h9 => h9) rfl dX12_ways_4 ?_
  refine lv_bipush (v := 32) hx hb dX12_ways_7 (by decide) ?_
  refine lv_icmp_ne (tgt := 16) hx hb dX12_ways_9 (by decide) (fun b9 => ?_) (fun b9 => ?_)
  · have yb9 : ¬ (z17_op : Int) = (32 : Int) := fun q => b9 ((zI_eq (a := z17_op) (b := 32) (by omega) (by omega) (by omega) (by omega)).mpr q)
    refine lv_aload_n hx hb dX12_ways_16 rfl (lv_at hl 0 rfl) ?_
    refine va_get (D := (dC, dI)) (ci := 19) (v := .ref he) (C := RX12) (T := TX12) (N := 5) hx hb hts mem_X12_ways_0 hown hK hP 0 rfl rfl 2 (by decide) (ow (k := 0) rfl) (fun _ h9 => h9) rfl dX12_ways_17 ?_
    refine va_get (D := (dC, dI)) (ci := 21) (v := .int (zI (z17_op))) (C := RX17) (T := TX17) (N := 7) hx hb hts mem_X12_ways_1 hown hK hP 1 rfl rfl 0 (by decide) (ow (k := 1) rfl) (fun _ h9 => h9) rfl dX12_ways_20 ?_
    refine lv_bipush (v := 30) hx hb dX12_ways_23 (by decide) ?_
    refine lv_icmp_eq (tgt := 39) hx hb dX12_ways_25 (by decide) (fun b25 => ?_) (fun b25 => ?_)
    · have yb25 : (z17_op : Int) = (30 : Int) := (zI_eq (a := z17_op) (b := 30) (by omega) (by omega) (by omega) (by omega)).mp b25
      refine lv_iconst (v := 1) hx hb dX12_ways_39 (by decide) ?_
      refine lv_goto (tgt := 44) hx hb dX12_ways_40 (by decide) ?_
      subst hQ
      refine W.widen (k := 0) (n := 0) (Nat.le_of_ble_eq_true rfl) (Nat.le_of_ble_eq_true rfl) ?_
      exact W.iret (v := 1) hx hb hr (fun t ht hW => ⟨⟨1, (), rfl, (congrArg zI (show (1 : Int) = rWays (z17_op) (z12_first) (z12_second) by unfold rWays; (repeat' split) <;> omega)), by rw [ht]; exact hP, va_K.moved hW.alike hK, hD⟩, hS.F ht⟩) hS.2.2 dX12_ways_44
    · have yb25 : ¬ (z17_op : Int) = (30 : Int) := fun q => b25 ((zI_eq (a := z17_op) (b := 30) (by omega) (by omega) (by omega) (by omega)).mpr q)
      refine lv_aload_n hx hb dX12_ways_28 rfl (lv_at hl 0 rfl) ?_
      refine va_get (D := (dC, dI)) (ci := 19) (v := .int (zI (z12_first))) (C := RX12) (T := TX12) (N := 5) hx hb hts mem_X12_ways_0 hown hK hP 0 rfl rfl 3 (by decide) (ow (k := 2) rfl) (fun _ h9 => h9) rfl dX12_ways_29 ?_
      refine lv_aload_n hx hb dX12_ways_32 rfl (lv_at hl 0 rfl) ?_
      refine va_get (D := (dC, dI)) (ci := 19) (v := .int (zI (z12_second))) (C := RX12) (T := TX12) (N := 5) hx hb hts mem_X12_ways_0 hown hK hP 0 rfl rfl 4 (by decide) (ow (k := 3) rfl) (fun _ h9 => h9) rfl dX12_ways_33 ?_
      refine lv_icmp_ne (tgt := 43) hx hb dX12_ways_36 (by decide) (fun b36 => ?_) (fun b36 => ?_)
      · have yb36 : ¬ (z12_first : Int) = (z12_second : Int) := fun q => b36 ((zI_eq (a := z12_first) (b := z12_second) (by omega) (by omega) (by omega) (by omega)).mpr q)
        refine lv_iconst (v := 2) hx hb dX12_ways_43 (by decide) ?_
        subst hQ
        refine W.widen (k := 0) (n := 0) (Nat.le_of_ble_eq_true rfl) (Nat.le_of_ble_eq_true rfl) ?_
        exact W.iret (v := 2) hx hb hr (fun t ht hW => ⟨⟨2, (), rfl, (congrArg zI (show (2 : Int) = rWays (z17_op) (z12_first) (z12_second) by unfold rWays; (repeat' split) <;> omega)), by rw [ht]; exact hP, va_K.moved hW.alike hK, hD⟩, hS.F ht⟩) hS.2.2 dX12_ways_44
      · have yb36 : (z12_first : Int) = (z12_second : Int) := (zI_eq (a := z12_first) (b := z12_second) (by omega) (by omega) (by omega) (by omega)).mp b36
        refine lv_iconst (v := 1) hx hb dX12_ways_39 (by decide) ?_
        refine lv_goto (tgt := 44) hx hb dX12_ways_40 (by decide) ?_
        subst hQ
        refine W.widen (k := 0) (n := 0) (Nat.le_of_ble_eq_true rfl) (Nat.le_of_ble_eq_true rfl) ?_
        exact W.iret (v := 1) hx hb hr (fun t ht hW => ⟨⟨1, (), rfl, (congrArg zI (show (1 : Int) = rWays (z17_op) (z12_first) (z12_second) by unfold rWays; (repeat' split) <;> omega)), by rw [ht]; exact hP, va_K.moved hW.alike hK, hD⟩, hS.F ht⟩) hS.2.2 dX12_ways_44
  · have yb9 : (z17_op : Int) = (32 : Int) := (zI_eq (a := z17_op) (b := 32) (by omega) (by omega) (by omega) (by omega)).mp b9
    refine lv_iconst (v := 0) hx hb dX12_ways_12 (by decide) ?_
    refine lv_goto (tgt := 44) hx hb dX12_ways_13 (by decide) ?_
    subst hQ
    refine W.widen (k := 0) (n := 0) (Nat.le_of_ble_eq_true rfl) (Nat.le_of_ble_eq_true rfl) ?_
    exact W.iret (v := 0) hx hb hr (fun t ht hW => ⟨⟨0, (), rfl, (congrArg zI (show (0 : Int) = rWays (z17_op) (z12_first) (z12_second) by unfold rWays; (repeat' split) <;> omega)), by rw [ht]; exact hP, va_K.moved hW.alike hK, hD⟩, hS.F ht⟩) hS.2.2 dX12_ways_44
theorem dX12_way_0 : decode cX12_way 0 = .ok (.iload_n 1, 1) := by decide +kernel
theorem dX12_way_1 : decode cX12_way 1 = .ok (.ifCond .ne 10, 3) := by decide +kernel
theorem dX12_way_11 : decode cX12_way 11 = .ok (.aload_n 0, 1) := by decide +kernel
theorem dX12_way_12 : decode cX12_way 12 = .ok (.getfield 35, 3) := by decide +kernel
theorem dX12_way_15 : decode cX12_way 15 = .ok (.ireturn, 1) := by decide +kernel
theorem dX12_way_4 : decode cX12_way 4 = .ok (.aload_n 0, 1) := by decide +kernel
theorem dX12_way_5 : decode cX12_way 5 = .ok (.getfield 32, 3) := by decide +kernel
theorem dX12_way_8 : decode cX12_way 8 = .ok (.goto 7, 3) := by decide +kernel
def o_X12_way : List Cond := [.fieldLink RX12 35 "SsaForgeModel$Block" "second" "I", .fieldLink RX12 32 "SsaForgeModel$Block" "first" "I"]
def v_X12_way : List Cond := .code yX12_way cX12_way 2 (some .int) :: (o_X12_way ++ (wsX120 ++ []))
theorem mow_X12_way : ∀ w ∈ o_X12_way, w ∈ v_X12_way := fun _ h => List.mem_cons_of_mem _ (List.mem_append_left _ h)
theorem mem_X12_way_0 : ∀ w ∈ wsX120, w ∈ v_X12_way := fun _ h => List.mem_cons_of_mem _ (List.mem_append_right _ (List.mem_append_left _ h))
set_option maxRecDepth 20000 in
theorem gw_X12_way : v_X12_way.all goodWord = true := by decide +kernel
set_option maxHeartbeats 4000000 in
set_option maxRecDepth 100000 in
theorem c_X12_way (l : Launch) (dC : Nat → ClassId) (dI : Nat → Nat → Nat) (h0 : Nat) (v12_0 : Value) (v12_1 : Value) (v12_2 : Value) (z12_first : Int) (z12_second : Int) (k0 : Int) (hNz12_first : 0 ≤ z12_first ∧ z12_first ≤ 299) (hNz12_second : 0 ≤ z12_second ∧ z12_second ≤ 299) (hNk : 0 ≤ k0 ∧ k0 ≤ 1) (sz : Nat) : Met l yX12_way v_X12_way ({ frames := 0, cells := 0, slots := 0, locals := 0 }) (va_Pc [.ref h0, .int (zI (k0))] (fun U => U.heap.size = sz ∧ va_P (dC, dI) vwQ [(h0, .inr (19, [v12_0, v12_1, v12_2, .int (zI (z12_first)), .int (zI (z12_second))]))] U.heap ∧ va_K (dC, dI) vwQ [] U ∧ va_D (fun _ => True) [(h0, .inr (19, [v12_0, v12_1, v12_2, .int (zI (z12_first)), .int (zI (z12_second))]))])) (va_Qi (fun (r : Int32) (_ : Unit) => r = zI (rWay (z12_first) (z12_second) (k0))) (fun (_ : Unit) (t : State) => va_P (dC, dI) vwQ [(h0, .inr (19, [v12_0, v12_1, v12_2, .int (zI (z12_first)), .int (zI (z12_second))]))] t.heap ∧ va_K (dC, dI) vwQ [] t ∧ va_D (va_A [(h0, .inr (19, [v12_0, v12_1, v12_2, .int (zI (z12_first)), .int (zI (z12_second))]))] sz) [(h0, .inr (19, [v12_0, v12_1, v12_2, .int (zI (z12_first)), .int (zI (z12_second))]))]) (va_A [(h0, .inr (19, [v12_0, v12_1, v12_2, .int (zI (z12_first)), .int (zI (z12_second))]))] sz)) 0 0 (va_A [(h0, .inr (19, [v12_0, v12_1, v12_2, .int (zI (z12_first)), .int (zI (z12_second))]))] sz) := by
  refine Met.ofW (cc := cX12_way) (maxL := 2) (ret := (some .int)) (by decide) rfl ?_
  intro p e s m args below meth c s₁ B hml hv
  obtain ⟨rfl, hsz, hP, hK, hD0⟩ := hv
  have hx := B.exec
  have hb := B.bytes
  have hr := B.returns
  have hts := atoms_spec (ws := v_X12_way) B.pre
  have hown : s.vm.findClass RX12 = some m.cls := findClass_of_methodNamed B.named
  have hlocks := B.notSynchronized
  have ow : ∀ {k : Nat} {w : Cond}, o_X12_way[k]? = some w → w.before ([.ref h0, .int (zI (k0))] : List Value).toArray s = true := fun h => hts _ (mow_X12_way _ (List.mem_of_getElem? h))
  subst hsz
  have hD := hD0.self (sz := s.heap.size)
  generalize hAe : va_A [(h0, .inr (19, [v12_0, v12_1, v12_2, .int (zI (z12_first)), .int (zI (z12_second))]))] s.heap.size = A at hD ⊢
  have hA : ∀ q : Nat, s.heap.size ≤ q → A q := fun q h => by rw [← hAe]; exact Or.inr h
  have hS : va_S A s.heap s.heap [] := va_S.rf
  have hP : va_P (dC, dI) vwQ [(h0, .inr (19, [v12_0, v12_1, v12_2, .int (zI (z12_first)), .int (zI (z12_second))]))] s.heap := hP
  have hl := lv_entry ([.ref h0, .int (zI (k0))]) (n := 2) (Nat.le_of_ble_eq_true rfl)
  rw [lg_entry_eq]
  generalize (lg_sl ([.ref h0, .int (zI (k0))]) ++ List.replicate (2 - (lg_sl ([.ref h0, .int (zI (k0))])).length) Slot.unset).toArray = ls at hl ⊢
  have hl : lv_has ls 2 [(0, .ref h0), (1, .int (zI (k0)))] := hl
  obtain ⟨H, hH⟩ : ∃ H, H = s.heap := ⟨_, rfl⟩
  rw [← hH] at hP
  have hS : va_S A s.heap H [] := by rw [hH]; exact hS
  rw [← hH]
  refine zW_cap (fun Q hQ => ?_)
  refine lv_iload_n hx hb dX12_way_0 rfl (lv_at hl 1 rfl) ?_
  refine lv_if_ne (tgt := 11) hx hb dX12_way_1 (by decide) (fun b1 => ?_) (fun b1 => ?_)
  · have yb1 : ¬ (k0 : Int) = (0 : Int) := fun q => b1 ((zI_eq (a := k0) (b := 0) (by omega) (by omega) (by omega) (by omega)).mpr q)
    refine lv_aload_n hx hb dX12_way_11 rfl (lv_at hl 0 rfl) ?_
    refine va_get (D := (dC, dI)) (ci := 19) (v := .int (zI (z12_second))) (C := RX12) (T := TX12) (N := 5) hx hb hts mem_X12_way_0 hown hK hP 0 rfl rfl 4 (by decide) (ow (k := 0) rfl) (fun _ h9 => h9) rfl dX12_way_12 ?_
    subst hQ
    refine W.widen (k := 0) (n := 0) (Nat.le_of_ble_eq_true rfl) (Nat.le_of_ble_eq_true rfl) ?_
    exact W.iret (v := (zI (z12_second))) hx hb hr (fun t ht hW => ⟨⟨(zI (z12_second)), (), rfl, (congrArg zI (show (z12_second : Int) = rWay (z12_first) (z12_second) (k0) by unfold rWay; (repeat' split) <;> omega)), by rw [ht]; exact hP, va_K.moved hW.alike hK, hD⟩, hS.F ht⟩) hS.2.2 dX12_way_15
  · have yb1 : (k0 : Int) = (0 : Int) := (zI_eq (a := k0) (b := 0) (by omega) (by omega) (by omega) (by omega)).mp b1
    refine lv_aload_n hx hb dX12_way_4 rfl (lv_at hl 0 rfl) ?_
    refine va_get (D := (dC, dI)) (ci := 19) (v := .int (zI (z12_first))) (C := RX12) (T := TX12) (N := 5) hx hb hts mem_X12_way_0 hown hK hP 0 rfl rfl 3 (by decide) (ow (k := 1) rfl) (fun _ h9 => h9) rfl dX12_way_5 ?_
    refine lv_goto (tgt := 15) hx hb dX12_way_8 (by decide) ?_
    subst hQ
    refine W.widen (k := 0) (n := 0) (Nat.le_of_ble_eq_true rfl) (Nat.le_of_ble_eq_true rfl) ?_
    exact W.iret (v := (zI (z12_first))) hx hb hr (fun t ht hW => ⟨⟨(zI (z12_first)), (), rfl, (congrArg zI (show (z12_first : Int) = rWay (z12_first) (z12_second) (k0) by unfold rWay; (repeat' split) <;> omega)), by rw [ht]; exact hP, va_K.moved hW.alike hK, hD⟩, hS.F ht⟩) hS.2.2 dX12_way_15
