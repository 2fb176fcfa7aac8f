theorem dX19_turns_0 : decode cX19_turns 0 = .ok (.iload_n 0, 1) := by decide +kernel
theorem dX19_turns_1 : decode cX19_turns 1 = .ok (.iconst 1, 1) := by decide +kernel
theorem dX19_turns_2 : decode cX19_turns 2 = .ok (.if_icmp .eq 26, 3) := by decide +kernel
theorem dX19_turns_28 : decode cX19_turns 28 = .ok (.iconst 1, 1) := by decide +kernel
theorem dX19_turns_29 : decode cX19_turns 29 = .ok (.goto 4, 3) := by decide +kernel
theorem dX19_turns_33 : decode cX19_turns 33 = .ok (.ireturn, 1) := by decide +kernel
theorem dX19_turns_5 : decode cX19_turns 5 = .ok (.iload_n 0, 1) := by decide +kernel
theorem dX19_turns_6 : decode cX19_turns 6 = .ok (.iconst 3, 1) := by decide +kernel
theorem dX19_turns_7 : decode cX19_turns 7 = .ok (.if_icmp .eq 21, 3) := by decide +kernel
theorem dX19_turns_10 : decode cX19_turns 10 = .ok (.iload_n 0, 1) := by decide +kernel
theorem dX19_turns_11 : decode cX19_turns 11 = .ok (.bipush 6, 2) := by decide +kernel
theorem dX19_turns_13 : decode cX19_turns 13 = .ok (.if_icmp .lt 9, 3) := by decide +kernel
theorem dX19_turns_22 : decode cX19_turns 22 = .ok (.iload_n 0, 1) := by decide +kernel
theorem dX19_turns_23 : decode cX19_turns 23 = .ok (.bipush 13, 2) := by decide +kernel
theorem dX19_turns_25 : decode cX19_turns 25 = .ok (.if_icmp .lt 7, 3) := by decide +kernel
theorem dX19_turns_32 : decode cX19_turns 32 = .ok (.iconst 0, 1) := by decide +kernel
theorem dX19_turns_16 : decode cX19_turns 16 = .ok (.iload_n 0, 1) := by decide +kernel
theorem dX19_turns_17 : decode cX19_turns 17 = .ok (.bipush 8, 2) := by decide +kernel
theorem dX19_turns_19 : decode cX19_turns 19 = .ok (.if_icmp .le 9, 3) := by decide +kernel
def o_X19_turns : List Cond := []
def v_X19_turns : List Cond := .code yX19_turns cX19_turns 1 (some .boolean) :: (o_X19_turns ++ [])
theorem mow_X19_turns : ∀ w ∈ o_X19_turns, w ∈ v_X19_turns := fun _ h => List.mem_cons_of_mem _ (List.mem_append_left _ h)
set_option maxRecDepth 20000 in
theorem gw_X19_turns : v_X19_turns.all goodWord = true := by decide +kernel
set_option maxHeartbeats 4000000 in
set_option maxRecDepth 100000 in
theorem c_X19_turns (l : Launch) (dC : Nat → ClassId) (dI : Nat → Nat → Nat) (o : Int) (hNo : 0 ≤ o ∧ o ≤ 40) (sz : Nat) : Met l yX19_turns v_X19_turns ({ frames := 0, cells := 0, slots := 0, locals := 0 }) (va_Pc [.int (zI (o))] (fun U => U.heap.size = sz ∧ va_P (dC, dI) vwQ [] U.heap ∧ va_K (dC, dI) vwQ [] U ∧ va_D (fun _ => True) [])) (va_Qi (fun (r : Int32) (_ : Unit) => ∃ z : Int, r = zI z ∧ (0 ≤ z ∧ z ≤ 1)) (fun (_ : Unit) (t : State) => va_P (dC, dI) vwQ [] t.heap ∧ va_K (dC, dI) vwQ [] t ∧ va_D (va_A [] sz) []) (va_A [] sz)) 0 0 (va_A [] sz) := by
  refine Met.ofW (cc := cX19_turns) (maxL := 1) (ret := (some .boolean)) (by decide) rfl ?_
  intro p e s m args below meth c s₁ B hml hv
  obtain ⟨rfl, hsz, hP, hK, hD0⟩ := hv
  have hx := B.exec
  have hb := B.bytes
  have hr := B.returns
  have hts := atoms_spec (ws := v_X19_turns) B.pre
  have hown : s.vm.findClass RX19 = some m.cls := findClass_of_methodNamed B.named
  have hlocks := B.notSynchronized
  have ow : ∀ {k : Nat} {w : Cond}, o_X19_turns[k]? = some w → w.before ([.int (zI (o))] : List Value).toArray s = true := fun h => hts _ (mow_X19_turns _ (List.mem_of_getElem? h))
  subst hsz
  have hD := hD0.self (sz := s.heap.size)
  generalize hAe : va_A [] s.heap.size = A at hD ⊢
  have hA : ∀ q : Nat, s.heap.size ≤ q → A q := fun q h => by rw [← hAe]; exact Or.inr h
  have hS : va_S A s.heap s.heap [] := va_S.rf
  have hP : va_P (dC, dI) vwQ [] s.heap := hP
  have hl := lv_entry ([.int (zI (o))]) (n := 1) (Nat.le_of_ble_eq_true rfl)
  rw [lg_entry_eq]
  generalize (lg_sl ([.int (zI (o))]) ++ List.replicate (1 - (lg_sl ([.int (zI (o))])).length) Slot.unset).toArray = ls at hl ⊢
  have hl : lv_has ls 1 [(0, .int (zI (o)))] := hl
  obtain ⟨H, hH⟩ : ∃ H, H = s.heap := ⟨_, rfl⟩
  rw [← hH] at hP
  have hS : va_S A s.heap H [] := by rw [hH]; exact hS
  rw [← hH]
  refine zW_cap (fun Q hQ => ?_)
  refine lv_iload_n hx hb dX19_turns_0 rfl (lv_at hl 0 rfl) ?_
  refine lv_iconst (v := 1) hx hb dX19_turns_1 (by decide) ?_
  refine lv_icmp_eq (tgt := 28) hx hb dX19_turns_2 (by decide) (fun b2 => ?_) (fun b2 => ?_)
  · have yb2 : (o : Int) = (1 : Int) := (zI_eq (a := o) (b := 1) (by omega) (by omega) (by omega) (by omega)).mp b2
    refine lv_iconst (v := 1) hx hb dX19_turns_28 (by decide) ?_
    refine lv_goto (tgt := 33) hx hb dX19_turns_29 (by decide) ?_
    subst hQ
    refine W.widen (k := 0) (n := 0) (Nat.le_of_ble_eq_true rfl) (Nat.le_of_ble_eq_true rfl) ?_
    exact W.zret (v := 1) hx hb hr (by decide) (fun t ht hW => ⟨⟨1, (), rfl, ⟨1, rfl, by omega⟩, by rw [ht]; exact hP, va_K.moved hW.alike hK, hD⟩, hS.F ht⟩) hS.2.2 dX19_turns_33
  · have yb2 : ¬ (o : Int) = (1 : Int) := fun q => b2 ((zI_eq (a := o) (b := 1) (by omega) (by omega) (by omega) (by omega)).mpr q)
    refine lv_iload_n hx hb dX19_turns_5 rfl (lv_at hl 0 rfl) ?_
    refine lv_iconst (v := 3) hx hb dX19_turns_6 (by decide) ?_
    refine lv_icmp_eq (tgt := 28) hx hb dX19_turns_7 (by decide) (fun b7 => ?_) (fun b7 => ?_)
    · have yb7 : (o : Int) = (3 : Int) := (zI_eq (a := o) (b := 3) (by omega) (by omega) (by omega) (by omega)).mp b7
      refine lv_iconst (v := 1) hx hb dX19_turns_28 (by decide) ?_
      refine lv_goto (tgt := 33) hx hb dX19_turns_29 (by decide) ?_
      subst hQ
      refine W.widen (k := 0) (n := 0) (Nat.le_of_ble_eq_true rfl) (Nat.le_of_ble_eq_true rfl) ?_
      exact W.zret (v := 1) hx hb hr (by decide) (fun t ht hW => ⟨⟨1, (), rfl, ⟨1, rfl, by omega⟩, by rw [ht]; exact hP, va_K.moved hW.alike hK, hD⟩, hS.F ht⟩) hS.2.2 dX19_turns_33
    · have yb7 : ¬ (o : Int) = (3 : Int) := fun q => b7 ((zI_eq (a := o) (b := 3) (by omega) (by omega) (by omega) (by omega)).mpr q)
      refine lv_iload_n hx hb dX19_turns_10 rfl (lv_at hl 0 rfl) ?_
      refine lv_bipush (v := 6) hx hb dX19_turns_11 (by decide) ?_
      refine lv_icmp_lt (tgt := 22) hx hb dX19_turns_13 (by decide) (fun b13 => ?_) (fun b13 => ?_)
      · have yb13 : (o : Int) < (6 : Int) := (zI_lt (a := o) (b := 6) (by omega) (by omega) (by omega) (by omega)).mp b13
        refine lv_iload_n hx hb dX19_turns_22 rfl (lv_at hl 0 rfl) ?_
        refine lv_bipush (v := 13) hx hb dX19_turns_23 (by decide) ?_
        refine lv_icmp_lt (tgt := 32) hx hb dX19_turns_25 (by decide) (fun b25 => ?_) (fun b25 => ?_)
        · have yb25 : (o : Int) < (13 : Int) := (zI_lt (a := o) (b := 13) (by omega) (by omega) (by omega) (by omega)).mp b25
          refine lv_iconst (v := 0) hx hb dX19_turns_32 (by decide) ?_
          subst hQ
          refine W.widen (k := 0) (n := 0) (Nat.le_of_ble_eq_true rfl) (Nat.le_of_ble_eq_true rfl) ?_
          exact W.zret (v := 0) hx hb hr (by decide) (fun t ht hW => ⟨⟨0, (), rfl, ⟨0, rfl, by omega⟩, by rw [ht]; exact hP, va_K.moved hW.alike hK, hD⟩, hS.F ht⟩) hS.2.2 dX19_turns_33
        · have yb25 : ¬ (o : Int) < (13 : Int) := fun q => b25 ((zI_lt (a := o) (b := 13) (by omega) (by omega) (by omega) (by omega)).mpr q)
          refine lv_iconst (v := 1) hx hb dX19_turns_28 (by decide) ?_
          refine lv_goto (tgt := 33) hx hb dX19_turns_29 (by decide) ?_
          subst hQ
          refine W.widen (k := 0) (n := 0) (Nat.le_of_ble_eq_true rfl) (Nat.le_of_ble_eq_true rfl) ?_
          exact W.zret (v := 1) hx hb hr (by decide) (fun t ht hW => ⟨⟨1, (), rfl, ⟨1, rfl, by omega⟩, by rw [ht]; exact hP, va_K.moved hW.alike hK, hD⟩, hS.F ht⟩) hS.2.2 dX19_turns_33
      · have yb13 : ¬ (o : Int) < (6 : Int) := fun q => b13 ((zI_lt (a := o) (b := 6) (by omega) (by omega) (by omega) (by omega)).mpr q)
        refine lv_iload_n hx hb dX19_turns_16 rfl (lv_at hl 0 rfl) ?_
        refine lv_bipush (v := 8) hx hb dX19_turns_17 (by decide) ?_
        refine lv_icmp_le (tgt := 28) hx hb dX19_turns_19 (by decide) (fun b19 => ?_) (fun b19 => ?_)
        · have yb19 : (o : Int) ≤ (8 : Int) := (zI_le (a := o) (b := 8) (by omega) (by omega) (by omega) (by omega)).mp b19
          refine lv_iconst (v := 1) hx hb dX19_turns_28 (by decide) ?_
          refine lv_goto (tgt := 33) hx hb dX19_turns_29 (by decide) ?_
          subst hQ
          refine W.widen (k := 0) (n := 0) (Nat.le_of_ble_eq_true rfl) (Nat.le_of_ble_eq_true rfl) ?_
          exact W.zret (v := 1) hx hb hr (by decide) (fun t ht hW => ⟨⟨1, (), rfl, ⟨1, rfl, by omega⟩, by rw [ht]; exact hP, va_K.moved hW.alike hK, hD⟩, hS.F ht⟩) hS.2.2 dX19_turns_33
        · have yb19 : ¬ (o : Int) ≤ (8 : Int) := fun q => b19 ((zI_le (a := o) (b := 8) (by omega) (by omega) (by omega) (by omega)).mpr q)
          refine lv_iload_n hx hb dX19_turns_22 rfl (lv_at hl 0 rfl) ?_
          refine lv_bipush (v := 13) hx hb dX19_turns_23 (by decide) ?_
          refine lv_icmp_lt (tgt := 32) hx hb dX19_turns_25 (by decide) (fun b25 => ?_) (fun b25 => ?_)
          · have yb25 : (o : Int) < (13 : Int) := (zI_lt (a := o) (b := 13) (by omega) (by omega) (by omega) (by omega)).mp b25
            refine lv_iconst (v := 0) hx hb dX19_turns_32 (by decide) ?_
            subst hQ
            refine W.widen (k := 0) (n := 0) (Nat.le_of_ble_eq_true rfl) (Nat.le_of_ble_eq_true rfl) ?_
            exact W.zret (v := 0) hx hb hr (by decide) (fun t ht hW => ⟨⟨0, (), rfl, ⟨0, rfl, by omega⟩, by rw [ht]; exact hP, va_K.moved hW.alike hK, hD⟩, hS.F ht⟩) hS.2.2 dX19_turns_33
          · have yb25 : ¬ (o : Int) < (13 : Int) := fun q => b25 ((zI_lt (a := o) (b := 13) (by omega) (by omega) (by omega) (by omega)).mpr q)
            refine lv_iconst (v := 1) hx hb dX19_turns_28 (by decide) ?_
            refine lv_goto (tgt := 33) hx hb dX19_turns_29 (by decide) ?_
            subst hQ
            refine W.widen (k := 0) (n := 0) (Nat.le_of_ble_eq_true rfl) (Nat.le_of_ble_eq_true rfl) ?_
            exact W.zret (v := 1) hx hb hr (by decide) (fun t ht hW => ⟨⟨1, (), rfl, ⟨1, rfl, by omega⟩, by rw [ht]; exact hP, va_K.moved hW.alike hK, hD⟩, hS.F ht⟩) hS.2.2 dX19_turns_33
theorem dX19_no_0 : decode cX19_no 0 = .ok (.aload_n 0, 1) := by decide +kernel
theorem dX19_no_1 : decode cX19_no 1 = .ok (.iload_n 1, 1) := by decide +kernel
theorem dX19_no_2 : decode cX19_no 2 = .ok (.putfield 560, 3) := by decide +kernel
theorem dX19_no_5 : decode cX19_no 5 = .ok (.iconst 0, 1) := by decide +kernel
theorem dX19_no_6 : decode cX19_no 6 = .ok (.ireturn, 1) := by decide +kernel
def o_X19_no : List Cond := [.fieldLink RX19 560 "SsaForgeModel" "thrown" "I"]
def v_X19_no : List Cond := .code yX19_no cX19_no 2 (some .int) :: (o_X19_no ++ (wsX190 ++ []))
theorem mow_X19_no : ∀ w ∈ o_X19_no, w ∈ v_X19_no := fun _ h => List.mem_cons_of_mem _ (List.mem_append_left _ h)
theorem mem_X19_no_0 : ∀ w ∈ wsX190, w ∈ v_X19_no := fun _ h => List.mem_cons_of_mem _ (List.mem_append_right _ (List.mem_append_left _ h))
set_option maxRecDepth 20000 in
theorem gw_X19_no : v_X19_no.all goodWord = true := by decide +kernel
set_option maxHeartbeats 4000000 in
set_option maxRecDepth 100000 in
theorem c_X19_no (l : Launch) (dC : Nat → ClassId) (dI : Nat → Nat → Nat) (h0 : Nat) (v19_0 : Value) (v19_1 : Value) (v19_2 : Value) (v19_3 : Value) (v19_4 : Value) (v19_5 : Value) (v19_6 : Value) (v19_7 : Value) (v19_8 : Value) (v19_9 : Value) (v19_10 : Value) (v19_11 : Value) (v19_12 : Value) (v19_13 : Value) (v19_14 : Value) (v19_15 : Value) (v19_16 : Value) (v19_17 : Value) (v19_18 : Value) (v19_19 : Value) (v19_20 : Value) (v19_21 : Value) (v19_22 : Value) (v19_23 : Value) (v19_24 : Value) (v19_25 : Value) (v19_26 : Value) (v19_27 : Value) (v19_28 : Value) (v19_29 : Value) (v19_30 : Value) (v19_31 : Value) (v19_32 : Value) (z19_thrown : Int) (v19_34 : Value) (v19_35 : Value) (v19_36 : Value) (v19_37 : Value) (v19_38 : Value) (v19_39 : Value) (v19_40 : Value) (n : Int) (hNz19_thrown : 0 ≤ z19_thrown ∧ z19_thrown ≤ 2) (hNn : 0 ≤ n ∧ n ≤ 2) (sz : Nat) : Met l yX19_no v_X19_no ({ frames := 0, cells := 0, slots := 0, locals := 0 }) (va_Pc [.ref h0, .int (zI (n))] (fun U => U.heap.size = sz ∧ va_P (dC, dI) vwQ [(h0, .inr (16, [v19_0, v19_1, v19_2, v19_3, v19_4, v19_5, v19_6, v19_7, v19_8, v19_9, v19_10, v19_11, v19_12, v19_13, v19_14, v19_15, v19_16, v19_17, v19_18, v19_19, v19_20, v19_21, v19_22, v19_23, v19_24, v19_25, v19_26, v19_27, v19_28, v19_29, v19_30, v19_31, v19_32, .int (zI (z19_thrown)), v19_34, v19_35, v19_36, v19_37, v19_38, v19_39, v19_40]))] U.heap ∧ va_K (dC, dI) vwQ [] U ∧ va_D (fun _ => True) [(h0, .inr (16, [v19_0, v19_1, v19_2, v19_3, v19_4, v19_5, v19_6, v19_7, v19_8, v19_9, v19_10, v19_11, v19_12, v19_13, v19_14, v19_15, v19_16, v19_17, v19_18, v19_19, v19_20, v19_21, v19_22, v19_23, v19_24, v19_25, v19_26, v19_27, v19_28, v19_29, v19_30, v19_31, v19_32, .int (zI (z19_thrown)), v19_34, v19_35, v19_36, v19_37, v19_38, v19_39, v19_40]))])) (va_Qi (fun (r : Int32) (zr : Int) => r = zI zr ∧ (zr = 0)) (fun (zr : Int) (t : State) => ∃ (z0_9 : Int), ((0 ≤ z0_9 ∧ z0_9 ≤ 2) ∧ (z0_9 = n)) ∧ va_P (dC, dI) vwQ [(h0, .inr (16, [v19_0, v19_1, v19_2, v19_3, v19_4, v19_5, v19_6, v19_7, v19_8, v19_9, v19_10, v19_11, v19_12, v19_13, v19_14, v19_15, v19_16, v19_17, v19_18, v19_19, v19_20, v19_21, v19_22, v19_23, v19_24, v19_25, v19_26, v19_27, v19_28, v19_29, v19_30, v19_31, v19_32, .int (zI (z0_9)), v19_34, v19_35, v19_36, v19_37, v19_38, v19_39, v19_40]))] t.heap ∧ va_K (dC, dI) vwQ [] t ∧ va_D (va_A [(h0, .inr (16, [v19_0, v19_1, v19_2, v19_3, v19_4, v19_5, v19_6, v19_7, v19_8, v19_9, v19_10, v19_11, v19_12, v19_13, v19_14, v19_15, v19_16, v19_17, v19_18, v19_19, v19_20, v19_21, v19_22, v19_23, v19_24, v19_25, v19_26, v19_27, v19_28, v19_29, v19_30, v19_31, v19_32, .int (zI (z19_thrown)), v19_34, v19_35, v19_36, v19_37, v19_38, v19_39, v19_40]))] sz) [(h0, .inr (16, [v19_0, v19_1, v19_2, v19_3, v19_4, v19_5, v19_6, v19_7, v19_8, v19_9, v19_10, v19_11, v19_12, v19_13, v19_14, v19_15, v19_16, v19_17, v19_18, v19_19, v19_20, v19_21, v19_22, v19_23, v19_24, v19_25, v19_26, v19_27, v19_28, v19_29, v19_30, v19_31, v19_32, .int (zI (z0_9)), v19_34, v19_35, v19_36, v19_37, v19_38, v19_39, v19_40]))]) (va_A [(h0, .inr (16, [v19_0, v19_1, v19_2, v19_3, v19_4, v19_5, v19_6, v19_7, v19_8, v19_9, v19_10, v19_11, v19_12, v19_13, v19_14, v19_15, v19_16, v19_17, v19_18, v19_19, v19_20, v19_21, v19_22, v19_23, v19_24, v19_25, v19_26, v19_27, v19_28, v19_29, v19_30, v19_31, v19_32, .int (zI (z19_thrown)), v19_34, v19_35, v19_36, v19_37, v19_38, v19_39, v19_40]))] sz)) 0 0 (va_A [(h0, .inr (16, [v19_0, v19_1, v19_2, v19_3, v19_4, v19_5, v19_6, v19_7, v19_8, v19_9, v19_10, v19_11, v19_12, v19_13, v19_14, v19_15, v19_16, v19_17, v19_18, v19_19, v19_20, v19_21, v19_22, v19_23, v19_24, v19_25, v19_26, v19_27, v19_28, v19_29, v19_30, v19_31, v19_32, .int (zI (z19_thrown)), v19_34, v19_35, v19_36, v19_37, v19_38, v19_39, v19_40]))] sz) := by
  refine Met.ofW (cc := cX19_no) (maxL := 2) (ret := (some .int)) (by decide) rfl ?_
  intro p e s m args below meth c s₁ B hml hv
  obtain ⟨rfl, hsz, hP, hK, hD0⟩ := hv
  have hx := B.exec
  have hb := B.bytes
  have hr := B.returns
  have hts := atoms_spec (ws := v_X19_no) B.pre
  have hown : s.vm.findClass RX19 = some m.cls := findClass_of_methodNamed B.named
  have hlocks := B.notSynchronized
  have ow : ∀ {k : Nat} {w : Cond}, o_X19_no[k]? = some w → w.before ([.ref h0, .int (zI (n))] : List Value).toArray s = true := fun h => hts _ (mow_X19_no _ (List.mem_of_getElem? h))
  subst hsz
  have hD := hD0.self (sz := s.heap.size)
  generalize hAe : va_A [(h0, .inr (16, [v19_0, v19_1, v19_2, v19_3, v19_4, v19_5, v19_6, v19_7, v19_8, v19_9, v19_10, v19_11, v19_12, v19_13, v19_14, v19_15, v19_16, v19_17, v19_18, v19_19, v19_20, v19_21, v19_22, v19_23, v19_24, v19_25, v19_26, v19_27, v19_28, v19_29, v19_30, v19_31, v19_32, .int (zI (z19_thrown)), v19_34, v19_35, v19_36, v19_37, v19_38, v19_39, v19_40]))] s.heap.size = A at hD ⊢
  have hA : ∀ q : Nat, s.heap.size ≤ q → A q := fun q h => by rw [← hAe]; exact Or.inr h
  have hS : va_S A s.heap s.heap [] := va_S.rf
  have hP : va_P (dC, dI) vwQ [(h0, .inr (16, [v19_0, v19_1, v19_2, v19_3, v19_4, v19_5, v19_6, v19_7, v19_8, v19_9, v19_10, v19_11, v19_12, v19_13, v19_14, v19_15, v19_16, v19_17, v19_18, v19_19, v19_20, v19_21, v19_22, v19_23, v19_24, v19_25, v19_26, v19_27, v19_28, v19_29, v19_30, v19_31, v19_32, .int (zI (z19_thrown)), v19_34, v19_35, v19_36, v19_37, v19_38, v19_39, v19_40]))] s.heap := hP
  have hl := lv_entry ([.ref h0, .int (zI (n))]) (n := 2) (Nat.le_of_ble_eq_true rfl)
  rw [lg_entry_eq]
  generalize (lg_sl ([.ref h0, .int (zI (n))]) ++ List.replicate (2 - (lg_sl ([.ref h0, .int (zI (n))])).length) Slot.unset).toArray = ls at hl ⊢
  have hl : lv_has ls 2 [(0, .ref h0), (1, .int (zI (n)))] := hl
  obtain ⟨H, hH⟩ : ∃ H, H = s.heap := ⟨_, rfl⟩
  rw [← hH] at hP
  have hS : va_S A s.heap H [] := by rw [hH]; exact hS
  rw [← hH]
  refine zW_cap (fun Q hQ => ?_)
  refine lv_aload_n hx hb dX19_no_0 rfl (lv_at hl 0 rfl) ?_
  refine lv_iload_n hx hb dX19_no_1 rfl (lv_at hl 1 rfl) ?_
  refine va_put (D := (dC, dI)) (ci := 16) (v := .int (zI (n))) (ty := .int) (C := RX19) (T := TX19) (N := 41) hx hb hts mem_X19_no_0 tyX19 tyX19_ok nmX19 hown hK hP hD hS 0 rfl rfl 33 (by decide) (ow (k := 0) rfl) (fun _ h9 => h9) rfl (by decide +kernel) rfl rfl (Nat.le_of_ble_eq_true rfl) dX19_no_2 (fun H locs hP hD hS => ?_)
  have hP : va_P (dC, dI) vwQ [(h0, .inr (16, [v19_0, v19_1, v19_2, v19_3, v19_4, v19_5, v19_6, v19_7, v19_8, v19_9, v19_10, v19_11, v19_12, v19_13, v19_14, v19_15, v19_16, v19_17, v19_18, v19_19, v19_20, v19_21, v19_22, v19_23, v19_24, v19_25, v19_26, v19_27, v19_28, v19_29, v19_30, v19_31, v19_32, .int (zI (n)), v19_34, v19_35, v19_36, v19_37, v19_38, v19_39, v19_40]))] H := hP
  have hD : va_D A [(h0, .inr (16, [v19_0, v19_1, v19_2, v19_3, v19_4, v19_5, v19_6, v19_7, v19_8, v19_9, v19_10, v19_11, v19_12, v19_13, v19_14, v19_15, v19_16, v19_17, v19_18, v19_19, v19_20, v19_21, v19_22, v19_23, v19_24, v19_25, v19_26, v19_27, v19_28, v19_29, v19_30, v19_31, v19_32, .int (zI (n)), v19_34, v19_35, v19_36, v19_37, v19_38, v19_39, v19_40]))] := hD
  refine lv_iconst (v := 0) hx hb dX19_no_5 (by decide) ?_
  subst hQ
  refine W.widen (k := 0) (n := 0) (Nat.le_of_ble_eq_true rfl) (Nat.le_of_ble_eq_true rfl) ?_
  exact W.iret (v := 0) hx hb hr (fun t ht hW => ⟨⟨0, (0), rfl, ⟨rfl, (by omega)⟩, n, ⟨(by omega), (by omega)⟩, by rw [ht]; exact hP, va_K.moved hW.alike hK, hD⟩, hS.F ht⟩) hS.2.2 dX19_no_6
theorem dX19_thrown_0 : decode cX19_thrown 0 = .ok (.aload_n 0, 1) := by decide +kernel
theorem dX19_thrown_1 : decode cX19_thrown 1 = .ok (.getfield 560, 3) := by decide +kernel
theorem dX19_thrown_4 : decode cX19_thrown 4 = .ok (.ireturn, 1) := by decide +kernel
def o_X19_thrown : List Cond := [.fieldLink RX19 560 "SsaForgeModel" "thrown" "I"]
def v_X19_thrown : List Cond := .code yX19_thrown cX19_thrown 1 (some .int) :: (o_X19_thrown ++ (wsX190 ++ []))
theorem mow_X19_thrown : ∀ w ∈ o_X19_thrown, w ∈ v_X19_thrown := fun _ h => List.mem_cons_of_mem _ (List.mem_append_left _ h)
theorem mem_X19_thrown_0 : ∀ w ∈ wsX190, w ∈ v_X19_thrown := fun _ h => List.mem_cons_of_mem _ (List.mem_append_right _ (List.mem_append_left _ h))
set_option maxRecDepth 20000 in
theorem gw_X19_thrown : v_X19_thrown.all goodWord = true := by decide +kernel
set_option maxHeartbeats 4000000 in
set_option maxRecDepth 100000 in
theorem c_X19_thrown (l : Launch) (dC : Nat → ClassId) (dI : Nat → Nat → Nat) (h0 : Nat) (v19_0 : Value) (v19_1 : Value) (v19_2 : Value) (v19_3 : Value) (v19_4 : Value) (v19_5 : Value) (v19_6 : Value) (v19_7 : Value) (v19_8 : Value) (v19_9 : Value) (v19_10 : Value) (v19_11 : Value) (v19_12 : Value) (v19_13 : Value) (v19_14 : Value) (v19_15 : Value) (v19_16 : Value) (v19_17 : Value) (v19_18 : Value) (v19_19 : Value) (v19_20 : Value) (v19_21 : Value) (v19_22 : Value) (v19_23 : Value) (v19_24 : Value) (v19_25 : Value) (v19_26 : Value) (v19_27 : Value) (v19_28 : Value) (v19_29 : Value) (v19_30 : Value) (v19_31 : Value) (v19_32 : Value) (z19_thrown : Int) (v19_34 : Value) (v19_35 : Value) (v19_36 : Value) (v19_37 : Value) (v19_38 : Value) (v19_39 : Value) (v19_40 : Value) (hNz19_thrown : 0 ≤ z19_thrown ∧ z19_thrown ≤ 2) (sz : Nat) : Met l yX19_thrown v_X19_thrown ({ frames := 0, cells := 0, slots := 0, locals := 0 }) (va_Pc [.ref h0] (fun U => U.heap.size = sz ∧ va_P (dC, dI) vwQ [(h0, .inr (16, [v19_0, v19_1, v19_2, v19_3, v19_4, v19_5, v19_6, v19_7, v19_8, v19_9, v19_10, v19_11, v19_12, v19_13, v19_14, v19_15, v19_16, v19_17, v19_18, v19_19, v19_20, v19_21, v19_22, v19_23, v19_24, v19_25, v19_26, v19_27, v19_28, v19_29, v19_30, v19_31, v19_32, .int (zI (z19_thrown)), v19_34, v19_35, v19_36, v19_37, v19_38, v19_39, v19_40]))] U.heap ∧ va_K (dC, dI) vwQ [] U ∧ va_D (fun _ => True) [(h0, .inr (16, [v19_0, v19_1, v19_2, v19_3, v19_4, v19_5, v19_6, v19_7, v19_8, v19_9, v19_10, v19_11, v19_12, v19_13, v19_14, v19_15, v19_16, v19_17, v19_18, v19_19, v19_20, v19_21, v19_22, v19_23, v19_24, v19_25, v19_26, v19_27, v19_28, v19_29, v19_30, v19_31, v19_32, .int (zI (z19_thrown)), v19_34, v19_35, v19_36, v19_37, v19_38, v19_39, v19_40]))])) (va_Qi (fun (r : Int32) (_ : Unit) => r = zI (z19_thrown)) (fun (_ : Unit) (t : State) => va_P (dC, dI) vwQ [(h0, .inr (16, [v19_0, v19_1, v19_2, v19_3, v19_4, v19_5, v19_6, v19_7, v19_8, v19_9, v19_10, v19_11, v19_12, v19_13, v19_14, v19_15, v19_16, v19_17, v19_18, v19_19, v19_20, v19_21, v19_22, v19_23, v19_24, v19_25, v19_26, v19_27, v19_28, v19_29, v19_30, v19_31, v19_32, .int (zI (z19_thrown)), v19_34, v19_35, v19_36, v19_37, v19_38, v19_39, v19_40]))] t.heap ∧ va_K (dC, dI) vwQ [] t ∧ va_D (va_A [(h0, .inr (16, [v19_0, v19_1, v19_2, v19_3, v19_4, v19_5, v19_6, v19_7, v19_8, v19_9, v19_10, v19_11, v19_12, v19_13, v19_14, v19_15, v19_16, v19_17, v19_18, v19_19, v19_20, v19_21, v19_22, v19_23, v19_24, v19_25, v19_26, v19_27, v19_28, v19_29, v19_30, v19_31, v19_32, .int (zI (z19_thrown)), v19_34, v19_35, v19_36, v19_37, v19_38, v19_39, v19_40]))] sz) [(h0, .inr (16, [v19_0, v19_1, v19_2, v19_3, v19_4, v19_5, v19_6, v19_7, v19_8, v19_9, v19_10, v19_11, v19_12, v19_13, v19_14, v19_15, v19_16, v19_17, v19_18, v19_19, v19_20, v19_21, v19_22, v19_23, v19_24, v19_25, v19_26, v19_27, v19_28, v19_29, v19_30, v19_31, v19_32, .int (zI (z19_thrown)), v19_34, v19_35, v19_36, v19_37, v19_38, v19_39, v19_40]))]) (va_A [(h0, .inr (16, [v19_0, v19_1, v19_2, v19_3, v19_4, v19_5, v19_6, v19_7, v19_8, v19_9, v19_10, v19_11, v19_12, v19_13, v19_14, v19_15, v19_16, v19_17, v19_18, v19_19, v19_20, v19_21, v19_22, v19_23, v19_24, v19_25, v19_26, v19_27, v19_28, v19_29, v19_30, v19_31, v19_32, .int (zI (z19_thrown)), v19_34, v19_35, v19_36, v19_37, v19_38, v19_39, v19_40]))] sz)) 0 0 (va_A [(h0, .inr (16, [v19_0, v19_1, v19_2, v19_3, v19_4, v19_5, v19_6, v19_7, v19_8, v19_9, v19_10, v19_11, v19_12, v19_13, v19_14, v19_15, v19_16, v19_17, v19_18, v19_19, v19_20, v19_21, v19_22, v19_23, v19_24, v19_25, v19_26, v19_27, v19_28, v19_29, v19_30, v19_31, v19_32, .int (zI (z19_thrown)), v19_34, v19_35, v19_36, v19_37, v19_38, v19_39, v19_40]))] sz) := by
  refine Met.ofW (cc := cX19_thrown) (maxL := 1) (ret := (some .int)) (by decide) rfl ?_
  intro p e s m args below meth c s₁ B hml hv
  obtain ⟨rfl, hsz, hP, hK, hD0⟩ := hv
  have hx := B.exec
  have hb := B.bytes
  have hr := B.returns
  have hts := atoms_spec (ws := v_X19_thrown) B.pre
  have hown : s.vm.findClass RX19 = some m.cls := findClass_of_methodNamed B.named
  have hlocks := B.notSynchronized
  have ow : ∀ {k : Nat} {w : Cond}, o_X19_thrown[k]? = some w → w.before ([.ref h0] : List Value).toArray s = true := fun h => hts _ (mow_X19_thrown _ (List.mem_of_getElem? h))
  subst hsz
  have hD := hD0.self (sz := s.heap.size)
  generalize hAe : va_A [(h0, .inr (16, [v19_0, v19_1, v19_2, v19_3, v19_4, v19_5, v19_6, v19_7, v19_8, v19_9, v19_10, v19_11, v19_12, v19_13, v19_14, v19_15, v19_16, v19_17, v19_18, v19_19, v19_20, v19_21, v19_22, v19_23, v19_24, v19_25, v19_26, v19_27, v19_28, v19_29, v19_30, v19_31, v19_32, .int (zI (z19_thrown)), v19_34, v19_35, v19_36, v19_37, v19_38, v19_39, v19_40]))] s.heap.size = A at hD ⊢
  have hA : ∀ q : Nat, s.heap.size ≤ q → A q := fun q h => by rw [← hAe]; exact Or.inr h
  have hS : va_S A s.heap s.heap [] := va_S.rf
  have hP : va_P (dC, dI) vwQ [(h0, .inr (16, [v19_0, v19_1, v19_2, v19_3, v19_4, v19_5, v19_6, v19_7, v19_8, v19_9, v19_10, v19_11, v19_12, v19_13, v19_14, v19_15, v19_16, v19_17, v19_18, v19_19, v19_20, v19_21, v19_22, v19_23, v19_24, v19_25, v19_26, v19_27, v19_28, v19_29, v19_30, v19_31, v19_32, .int (zI (z19_thrown)), v19_34, v19_35, v19_36, v19_37, v19_38, v19_39, v19_40]))] s.heap := hP
  have hl := lv_entry ([.ref h0]) (n := 1) (Nat.le_of_ble_eq_true rfl)
  rw [lg_entry_eq]
  generalize (lg_sl ([.ref h0]) ++ List.replicate (1 - (lg_sl ([.ref h0])).length) Slot.unset).toArray = ls at hl ⊢
  have hl : lv_has ls 1 [(0, .ref h0)] := hl
  obtain ⟨H, hH⟩ : ∃ H, H = s.heap := ⟨_, rfl⟩
  rw [← hH] at hP
  have hS : va_S A s.heap H [] := by rw [hH]; exact hS
  rw [← hH]
  refine zW_cap (fun Q hQ => ?_)
  refine lv_aload_n hx hb dX19_thrown_0 rfl (lv_at hl 0 rfl) ?_
  refine va_get (D := (dC, dI)) (ci := 16) (v := .int (zI (z19_thrown))) (C := RX19) (T := TX19) (N := 41) hx hb hts mem_X19_thrown_0 hown hK hP 0 rfl rfl 33 (by decide) (ow (k := 0) rfl) (fun _ h9 => h9) rfl dX19_thrown_1 ?_
  subst hQ
  refine W.widen (k := 0) (n := 0) (Nat.le_of_ble_eq_true rfl) (Nat.le_of_ble_eq_true rfl) ?_
  exact W.iret (v := (zI (z19_thrown))) hx hb hr (fun t ht hW => ⟨⟨(zI (z19_thrown)), (), rfl, rfl, by rw [ht]; exact hP, va_K.moved hW.alike hK, hD⟩, hS.F ht⟩) hS.2.2 dX19_thrown_4
theorem dX19_told_0 : decode cX19_told 0 = .ok (.aload_n 0, 1) := by decide +kernel
theorem dX19_told_1 : decode cX19_told 1 = .ok (.iconst 0, 1) := by decide +kernel
theorem dX19_told_2 : decode cX19_told 2 = .ok (.putfield 560, 3) := by decide +kernel
theorem dX19_told_5 : decode cX19_told 5 = .ok (.iload_n 1, 1) := by decide +kernel
theorem dX19_told_6 : decode cX19_told 6 = .ok (.tableswitch 70 0 4 #[34, 50, 55, 60, 65], 34) := by decide +kernel
theorem dX19_told_40 : decode cX19_told 40 = .ok (.aload_n 0, 1) := by decide +kernel
theorem dX19_told_41 : decode cX19_told 41 = .ok (.getfield 548, 3) := by decide +kernel
theorem dX19_told_44 : decode cX19_told 44 = .ok (.ifCond .ne 10, 3) := by decide +kernel
theorem dX19_told_54 : decode cX19_told 54 = .ok (.iconst 0, 1) := by decide +kernel
theorem dX19_told_55 : decode cX19_told 55 = .ok (.ireturn, 1) := by decide +kernel
theorem dX19_told_47 : decode cX19_told 47 = .ok (.aload_n 0, 1) := by decide +kernel
theorem dX19_told_48 : decode cX19_told 48 = .ok (.getfield 463, 3) := by decide +kernel
theorem dX19_told_51 : decode cX19_told 51 = .ok (.goto 4, 3) := by decide +kernel
theorem dX19_told_56 : decode cX19_told 56 = .ok (.aload_n 0, 1) := by decide +kernel
theorem dX19_told_57 : decode cX19_told 57 = .ok (.getfield 466, 3) := by decide +kernel
theorem dX19_told_60 : decode cX19_told 60 = .ok (.ireturn, 1) := by decide +kernel
theorem dX19_told_61 : decode cX19_told 61 = .ok (.aload_n 0, 1) := by decide +kernel
theorem dX19_told_62 : decode cX19_told 62 = .ok (.getfield 469, 3) := by decide +kernel
theorem dX19_told_65 : decode cX19_told 65 = .ok (.ireturn, 1) := by decide +kernel
theorem dX19_told_66 : decode cX19_told 66 = .ok (.aload_n 0, 1) := by decide +kernel
theorem dX19_told_67 : decode cX19_told 67 = .ok (.getfield 472, 3) := by decide +kernel
theorem dX19_told_70 : decode cX19_told 70 = .ok (.ireturn, 1) := by decide +kernel
theorem dX19_told_71 : decode cX19_told 71 = .ok (.aload_n 0, 1) := by decide +kernel
theorem dX19_told_72 : decode cX19_told 72 = .ok (.getfield 548, 3) := by decide +kernel
theorem dX19_told_75 : decode cX19_told 75 = .ok (.ireturn, 1) := by decide +kernel
theorem dX19_told_76 : decode cX19_told 76 = .ok (.aload_n 0, 1) := by decide +kernel
theorem dX19_told_77 : decode cX19_told 77 = .ok (.iconst 1, 1) := by decide +kernel
theorem dX19_told_78 : decode cX19_told 78 = .ok (.invokevirtual 565, 3) := by decide +kernel
theorem dX19_told_81 : decode cX19_told 81 = .ok (.ireturn, 1) := by decide +kernel
def o_X19_told : List Cond := [.fieldLink RX19 560 "SsaForgeModel" "thrown" "I", .fieldLink RX19 548 "SsaForgeModel" "ended" "I", .fieldLink RX19 463 "SsaForgeModel" "answer" "I", .fieldLink RX19 466 "SsaForgeModel" "shown" "I", .fieldLink RX19 469 "SsaForgeModel" "steps" "I", .fieldLink RX19 472 "SsaForgeModel" "read" "I", .methodLink RX19 565 yX19_no, .instanceMethod yX19_no, .selects RX19 yX19_no yX19_no, .initialized RX19]
def v_X19_told : List Cond := .code yX19_told cX19_told 2 (some .int) :: (o_X19_told ++ (wsX190 ++ (v_X19_no ++ [])))
theorem mow_X19_told : ∀ w ∈ o_X19_told, w ∈ v_X19_told := fun _ h => List.mem_cons_of_mem _ (List.mem_append_left _ h)
theorem mem_X19_told_0 : ∀ w ∈ wsX190, w ∈ v_X19_told := fun _ h => List.mem_cons_of_mem _ (List.mem_append_right _ (List.mem_append_left _ h))
theorem mem_X19_told_1 : ∀ w ∈ v_X19_no, w ∈ v_X19_told := fun _ h => List.mem_cons_of_mem _ (List.mem_append_right _ (List.mem_append_right _ (List.mem_append_left _ h)))
set_option maxRecDepth 20000 in
theorem gw_X19_told : v_X19_told.all goodWord = true := by decide +kernel
set_option maxRecDepth 20000 in
theorem g_X19_told_X19_no : GoodIn v_X19_told (wsV RX19 565 RX19 yX19_no v_X19_no) := goodIn_app (goodIn_sub (fun w h => mow_X19_told w (by revert w h; decide +kernel)) (by decide +kernel)) (goodIn_sub mem_X19_told_1 gw_X19_no)
set_option maxHeartbeats 4000000 in
set_option maxRecDepth 100000 in
theorem c_X19_told (l : Launch) (dC : Nat → ClassId) (dI : Nat → Nat → Nat) (h0 : Nat) (v19_0 : Value) (v19_1 : Value) (v19_2 : Value) (v19_3 : Value) (v19_4 : Value) (v19_5 : Value) (v19_6 : Value) (v19_7 : Value) (v19_8 : Value) (v19_9 : Value) (v19_10 : Value) (v19_11 : Value) (v19_12 : Value) (v19_13 : Value) (v19_14 : Value) (v19_15 : Value) (v19_16 : Value) (v19_17 : Value) (v19_18 : Value) (v19_19 : Value) (v19_20 : Value) (v19_21 : Value) (v19_22 : Value) (v19_23 : Value) (v19_24 : Value) (v19_25 : Value) (v19_26 : Value) (z19_ended : Int) (r19_answer : Int32) (z19_shown : Int) (z19_steps : Int) (z19_read : Int) (v19_32 : Value) (z19_thrown : Int) (v19_34 : Value) (v19_35 : Value) (v19_36 : Value) (v19_37 : Value) (v19_38 : Value) (v19_39 : Value) (v19_40 : Value) (n0 : Int) (hNz19_ended : -1 ≤ z19_ended ∧ z19_ended ≤ 5) (hNz19_shown : 0 ≤ z19_shown ∧ z19_shown ≤ 512) (hNz19_steps : 0 ≤ z19_steps ∧ z19_steps ≤ 100000) (hNz19_read : 0 ≤ z19_read ∧ z19_read ≤ 2048) (hNz19_thrown : 0 ≤ z19_thrown ∧ z19_thrown ≤ 2) (hNn : -2147483648 ≤ n0 ∧ n0 ≤ 2147483647) (sz : Nat) : Met l yX19_told v_X19_told ({ frames := 1, cells := 0, slots := 0, locals := 21 }) (va_Pc [.ref h0, .int (zI (n0))] (fun U => U.heap.size = sz ∧ va_P (dC, dI) vwQ [(h0, .inr (16, [v19_0, v19_1, v19_2, v19_3, v19_4, v19_5, v19_6, v19_7, v19_8, v19_9, v19_10, v19_11, v19_12, v19_13, v19_14, v19_15, v19_16, v19_17, v19_18, v19_19, v19_20, v19_21, v19_22, v19_23, v19_24, v19_25, v19_26, .int (zI (z19_ended)), .int r19_answer, .int (zI (z19_shown)), .int (zI (z19_steps)), .int (zI (z19_read)), v19_32, .int (zI (z19_thrown)), v19_34, v19_35, v19_36, v19_37, v19_38, v19_39, v19_40]))] U.heap ∧ va_K (dC, dI) vwQ [] U ∧ va_D (fun _ => True) [(h0, .inr (16, [v19_0, v19_1, v19_2, v19_3, v19_4, v19_5, v19_6, v19_7, v19_8, v19_9, v19_10, v19_11, v19_12, v19_13, v19_14, v19_15, v19_16, v19_17, v19_18, v19_19, v19_20, v19_21, v19_22, v19_23, v19_24, v19_25, v19_26, .int (zI (z19_ended)), .int r19_answer, .int (zI (z19_shown)), .int (zI (z19_steps)), .int (zI (z19_read)), v19_32, .int (zI (z19_thrown)), v19_34, v19_35, v19_36, v19_37, v19_38, v19_39, v19_40]))])) (va_Qi (fun (r : Int32) (_ : Unit) => True) (fun (_ : Unit) (t : State) => ∃ (z0_9 : Int), ((0 ≤ z0_9 ∧ z0_9 ≤ 2)) ∧ va_P (dC, dI) vwQ [(h0, .inr (16, [v19_0, v19_1, v19_2, v19_3, v19_4, v19_5, v19_6, v19_7, v19_8, v19_9, v19_10, v19_11, v19_12, v19_13, v19_14, v19_15, v19_16, v19_17, v19_18, v19_19, v19_20, v19_21, v19_22, v19_23, v19_24, v19_25, v19_26, .int (zI (z19_ended)), .int r19_answer, .int (zI (z19_shown)), .int (zI (z19_steps)), .int (zI (z19_read)), v19_32, .int (zI (z0_9)), v19_34, v19_35, v19_36, v19_37, v19_38, v19_39, v19_40]))] t.heap ∧ va_K (dC, dI) vwQ [] t ∧ va_D (va_A [(h0, .inr (16, [v19_0, v19_1, v19_2, v19_3, v19_4, v19_5, v19_6, v19_7, v19_8, v19_9, v19_10, v19_11, v19_12, v19_13, v19_14, v19_15, v19_16, v19_17, v19_18, v19_19, v19_20, v19_21, v19_22, v19_23, v19_24, v19_25, v19_26, .int (zI (z19_ended)), .int r19_answer, .int (zI (z19_shown)), .int (zI (z19_steps)), .int (zI (z19_read)), v19_32, .int (zI (z19_thrown)), v19_34, v19_35, v19_36, v19_37, v19_38, v19_39, v19_40]))] sz) [(h0, .inr (16, [v19_0, v19_1, v19_2, v19_3, v19_4, v19_5, v19_6, v19_7, v19_8, v19_9, v19_10, v19_11, v19_12, v19_13, v19_14, v19_15, v19_16, v19_17, v19_18, v19_19, v19_20, v19_21, v19_22, v19_23, v19_24, v19_25, v19_26, .int (zI (z19_ended)), .int r19_answer, .int (zI (z19_shown)), .int (zI (z19_steps)), .int (zI (z19_read)), v19_32, .int (zI (z0_9)), v19_34, v19_35, v19_36, v19_37, v19_38, v19_39, v19_40]))]) (va_A [(h0, .inr (16, [v19_0, v19_1, v19_2, v19_3, v19_4, v19_5, v19_6, v19_7, v19_8, v19_9, v19_10, v19_11, v19_12, v19_13, v19_14, v19_15, v19_16, v19_17, v19_18, v19_19, v19_20, v19_21, v19_22, v19_23, v19_24, v19_25, v19_26, .int (zI (z19_ended)), .int r19_answer, .int (zI (z19_shown)), .int (zI (z19_steps)), .int (zI (z19_read)), v19_32, .int (zI (z19_thrown)), v19_34, v19_35, v19_36, v19_37, v19_38, v19_39, v19_40]))] sz)) 0 0 (va_A [(h0, .inr (16, [v19_0, v19_1, v19_2, v19_3, v19_4, v19_5, v19_6, v19_7, v19_8, v19_9, v19_10, v19_11, v19_12, v19_13, v19_14, v19_15, v19_16, v19_17, v19_18, v19_19, v19_20, v19_21, v19_22, v19_23, v19_24, v19_25, v19_26, .int (zI (z19_ended)), .int r19_answer, .int (zI (z19_shown)), .int (zI (z19_steps)), .int (zI (z19_read)), v19_32, .int (zI (z19_thrown)), v19_34, v19_35, v19_36, v19_37, v19_38, v19_39, v19_40]))] sz) := by
  refine Met.ofW (cc := cX19_told) (maxL := 2) (ret := (some .int)) (by decide) rfl ?_
  intro p e s m args below meth c s₁ B hml hv
  obtain ⟨rfl, hsz, hP, hK, hD0⟩ := hv
  have hx := B.exec
  have hb := B.bytes
  have hr := B.returns
  have hts := atoms_spec (ws := v_X19_told) B.pre
  have hown : s.vm.findClass RX19 = some m.cls := findClass_of_methodNamed B.named
  have hlocks := B.notSynchronized
  have ow : ∀ {k : Nat} {w : Cond}, o_X19_told[k]? = some w → w.before ([.ref h0, .int (zI (n0))] : List Value).toArray s = true := fun h => hts _ (mow_X19_told _ (List.mem_of_getElem? h))
  subst hsz
  have hD := hD0.self (sz := s.heap.size)
  generalize hAe : va_A [(h0, .inr (16, [v19_0, v19_1, v19_2, v19_3, v19_4, v19_5, v19_6, v19_7, v19_8, v19_9, v19_10, v19_11, v19_12, v19_13, v19_14, v19_15, v19_16, v19_17, v19_18, v19_19, v19_20, v19_21, v19_22, v19_23, v19_24, v19_25, v19_26, .int (zI (z19_ended)), .int r19_answer, .int (zI (z19_shown)), .int (zI (z19_steps)), .int (zI (z19_read)), v19_32, .int (zI (z19_thrown)), v19_34, v19_35, v19_36, v19_37, v19_38, v19_39, v19_40]))] s.heap.size = A at hD ⊢
  have hA : ∀ q : Nat, s.heap.size ≤ q → A q := fun q h => by rw [← hAe]; exact Or.inr h
  have hS : va_S A s.heap s.heap [] := va_S.rf
  have hP : va_P (dC, dI) vwQ [(h0, .inr (16, [v19_0, v19_1, v19_2, v19_3, v19_4, v19_5, v19_6, v19_7, v19_8, v19_9, v19_10, v19_11, v19_12, v19_13, v19_14, v19_15, v19_16, v19_17, v19_18, v19_19, v19_20, v19_21, v19_22, v19_23, v19_24, v19_25, v19_26, .int (zI (z19_ended)), .int r19_answer, .int (zI (z19_shown)), .int (zI (z19_steps)), .int (zI (z19_read)), v19_32, .int (zI (z19_thrown)), v19_34, v19_35, v19_36, v19_37, v19_38, v19_39, v19_40]))] s.heap := hP
  have hl := lv_entry ([.ref h0, .int (zI (n0))]) (n := 2) (Nat.le_of_ble_eq_true rfl)
  rw [lg_entry_eq]
  generalize (lg_sl ([.ref h0, .int (zI (n0))]) ++ List.replicate (2 - (lg_sl ([.ref h0, .int (zI (n0))])).length) Slot.unset).toArray = ls at hl ⊢
  have hl : lv_has ls 2 [(0, .ref h0), (1, .int (zI (n0)))] := hl
  obtain ⟨H, hH⟩ : ∃ H, H = s.heap := ⟨_, rfl⟩
  rw [← hH] at hP
  have hS : va_S A s.heap H [] := by rw [hH]; exact hS
  rw [← hH]
  refine zW_cap (fun Q hQ => ?_)
  refine lv_aload_n hx hb dX19_told_0 rfl (lv_at hl 0 rfl) ?_
  refine lv_iconst (v := 0) hx hb dX19_told_1 (by decide) ?_
  refine va_put (D := (dC, dI)) (ci := 16) (v := .int 0) (ty := .int) (C := RX19) (T := TX19) (N := 41) hx hb hts mem_X19_told_0 tyX19 tyX19_ok nmX19 hown hK hP hD hS 0 rfl rfl 33 (by decide) (ow (k := 0) rfl) (fun _ h9 => h9) rfl (by decide +kernel) rfl rfl (Nat.le_of_ble_eq_true rfl) dX19_told_2 (fun H locs hP hD hS => ?_)
  have hP : va_P (dC, dI) vwQ [(h0, .inr (16, [v19_0, v19_1, v19_2, v19_3, v19_4, v19_5, v19_6, v19_7, v19_8, v19_9, v19_10, v19_11, v19_12, v19_13, v19_14, v19_15, v19_16, v19_17, v19_18, v19_19, v19_20, v19_21, v19_22, v19_23, v19_24, v19_25, v19_26, .int (zI (z19_ended)), .int r19_answer, .int (zI (z19_shown)), .int (zI (z19_steps)), .int (zI (z19_read)), v19_32, .int 0, v19_34, v19_35, v19_36, v19_37, v19_38, v19_39, v19_40]))] H := hP
  have hD : va_D A [(h0, .inr (16, [v19_0, v19_1, v19_2, v19_3, v19_4, v19_5, v19_6, v19_7, v19_8, v19_9, v19_10, v19_11, v19_12, v19_13, v19_14, v19_15, v19_16, v19_17, v19_18, v19_19, v19_20, v19_21, v19_22, v19_23, v19_24, v19_25, v19_26, .int (zI (z19_ended)), .int r19_answer, .int (zI (z19_shown)), .int (zI (z19_steps)), .int (zI (z19_read)), v19_32, .int 0, v19_34, v19_35, v19_36, v19_37, v19_38, v19_39, v19_40]))] := hD
  refine lv_iload_n hx hb dX19_told_5 rfl (lv_at hl 1 rfl) ?_
  by_cases s6_0 : n0 = 0
  · refine lv_tableIn (off := 34) (tgt := 40) hx hb dX19_told_6 (by rw [s6_0]; decide) (by rw [s6_0]; decide) (by rw [s6_0]; decide) (by decide) ?_
    refine lv_aload_n hx hb dX19_told_40 rfl (lv_at hl 0 rfl) ?_
    refine va_get (D := (dC, dI)) (ci := 16) (v := .int (zI (z19_ended))) (C := RX19) (T := TX19) (N := 41) hx hb hts mem_X19_told_0 hown hK hP 0 rfl rfl 27 (by decide) (ow (k := 1) rfl) (fun _ h9 => h9) rfl dX19_told_41 ?_
    refine lv_if_ne (tgt := 54) hx hb dX19_told_44 (by decide) (fun b44 => ?_) (fun b44 => ?_)
    · have yb44 : ¬ (z19_ended : Int) = (0 : Int) := fun q => b44 ((zI_eq (a := z19_ended) (b := 0) (by omega) (by omega) (by omega) (by omega)).mpr q)
      refine lv_iconst (v := 0) hx hb dX19_told_54 (by decide) ?_
      subst hQ
      refine W.widen (k := 0) (n := 0) (Nat.le_of_ble_eq_true rfl) (Nat.le_of_ble_eq_true rfl) ?_
      exact W.iret (v := 0) hx hb hr (fun t ht hW => ⟨⟨0, (), rfl, trivial, 0, (by omega), by rw [ht]; exact hP, va_K.moved hW.alike hK, hD⟩, hS.F ht⟩) hS.2.2 dX19_told_55
    · have yb44 : (z19_ended : Int) = (0 : Int) := (zI_eq (a := z19_ended) (b := 0) (by omega) (by omega) (by omega) (by omega)).mp b44
      refine lv_aload_n hx hb dX19_told_47 rfl (lv_at hl 0 rfl) ?_
      refine va_get (D := (dC, dI)) (ci := 16) (v := .int r19_answer) (C := RX19) (T := TX19) (N := 41) hx hb hts mem_X19_told_0 hown hK hP 0 rfl rfl 28 (by decide) (ow (k := 2) rfl) (fun _ h9 => h9) rfl dX19_told_48 ?_
      refine lv_goto (tgt := 55) hx hb dX19_told_51 (by decide) ?_
      subst hQ
      refine W.widen (k := 0) (n := 0) (Nat.le_of_ble_eq_true rfl) (Nat.le_of_ble_eq_true rfl) ?_
      exact W.iret (v := r19_answer) hx hb hr (fun t ht hW => ⟨⟨r19_answer, (), rfl, trivial, 0, (by omega), by rw [ht]; exact hP, va_K.moved hW.alike hK, hD⟩, hS.F ht⟩) hS.2.2 dX19_told_55
  by_cases s6_1 : n0 = 1
  · refine lv_tableIn (off := 50) (tgt := 56) hx hb dX19_told_6 (by rw [s6_1]; decide) (by rw [s6_1]; decide) (by rw [s6_1]; decide) (by decide) ?_
    refine lv_aload_n hx hb dX19_told_56 rfl (lv_at hl 0 rfl) ?_
    refine va_get (D := (dC, dI)) (ci := 16) (v := .int (zI (z19_shown))) (C := RX19) (T := TX19) (N := 41) hx hb hts mem_X19_told_0 hown hK hP 0 rfl rfl 29 (by decide) (ow (k := 3) rfl) (fun _ h9 => h9) rfl dX19_told_57 ?_
    subst hQ
    refine W.widen (k := 0) (n := 0) (Nat.le_of_ble_eq_true rfl) (Nat.le_of_ble_eq_true rfl) ?_
    exact W.iret (v := (zI (z19_shown))) hx hb hr (fun t ht hW => ⟨⟨(zI (z19_shown)), (), rfl, trivial, 0, (by omega), by rw [ht]; exact hP, va_K.moved hW.alike hK, hD⟩, hS.F ht⟩) hS.2.2 dX19_told_60
  by_cases s6_2 : n0 = 2
  · refine lv_tableIn (off := 55) (tgt := 61) hx hb dX19_told_6 (by rw [s6_2]; decide) (by rw [s6_2]; decide) (by rw [s6_2]; decide) (by decide) ?_
    refine lv_aload_n hx hb dX19_told_61 rfl (lv_at hl 0 rfl) ?_
    refine va_get (D := (dC, dI)) (ci := 16) (v := .int (zI (z19_steps))) (C := RX19) (T := TX19) (N := 41) hx hb hts mem_X19_told_0 hown hK hP 0 rfl rfl 30 (by decide) (ow (k := 4) rfl) (fun _ h9 => h9) rfl dX19_told_62 ?_
    subst hQ
    refine W.widen (k := 0) (n := 0) (Nat.le_of_ble_eq_true rfl) (Nat.le_of_ble_eq_true rfl) ?_
    exact W.iret (v := (zI (z19_steps))) hx hb hr (fun t ht hW => ⟨⟨(zI (z19_steps)), (), rfl, trivial, 0, (by omega), by rw [ht]; exact hP, va_K.moved hW.alike hK, hD⟩, hS.F ht⟩) hS.2.2 dX19_told_65
  by_cases s6_3 : n0 = 3
  · refine lv_tableIn (off := 60) (tgt := 66) hx hb dX19_told_6 (by rw [s6_3]; decide) (by rw [s6_3]; decide) (by rw [s6_3]; decide) (by decide) ?_
    refine lv_aload_n hx hb dX19_told_66 rfl (lv_at hl 0 rfl) ?_
    refine va_get (D := (dC, dI)) (ci := 16) (v := .int (zI (z19_read))) (C := RX19) (T := TX19) (N := 41) hx hb hts mem_X19_told_0 hown hK hP 0 rfl rfl 31 (by decide) (ow (k := 5) rfl) (fun _ h9 => h9) rfl dX19_told_67 ?_
    subst hQ
    refine W.widen (k := 0) (n := 0) (Nat.le_of_ble_eq_true rfl) (Nat.le_of_ble_eq_true rfl) ?_
    exact W.iret (v := (zI (z19_read))) hx hb hr (fun t ht hW => ⟨⟨(zI (z19_read)), (), rfl, trivial, 0, (by omega), by rw [ht]; exact hP, va_K.moved hW.alike hK, hD⟩, hS.F ht⟩) hS.2.2 dX19_told_70
  by_cases s6_4 : n0 = 4
  · refine lv_tableIn (off := 65) (tgt := 71) hx hb dX19_told_6 (by rw [s6_4]; decide) (by rw [s6_4]; decide) (by rw [s6_4]; decide) (by decide) ?_
    refine lv_aload_n hx hb dX19_told_71 rfl (lv_at hl 0 rfl) ?_
    refine va_get (D := (dC, dI)) (ci := 16) (v := .int (zI (z19_ended))) (C := RX19) (T := TX19) (N := 41) hx hb hts mem_X19_told_0 hown hK hP 0 rfl rfl 27 (by decide) (ow (k := 1) rfl) (fun _ h9 => h9) rfl dX19_told_72 ?_
    subst hQ
    refine W.widen (k := 0) (n := 0) (Nat.le_of_ble_eq_true rfl) (Nat.le_of_ble_eq_true rfl) ?_
    exact W.iret (v := (zI (z19_ended))) hx hb hr (fun t ht hW => ⟨⟨(zI (z19_ended)), (), rfl, trivial, 0, (by omega), by rw [ht]; exact hP, va_K.moved hW.alike hK, hD⟩, hS.F ht⟩) hS.2.2 dX19_told_75
  refine lv_tableOut (tgt := 76) hx hb dX19_told_6 (by rw [zI_toInt (by omega) (by omega)]; omega) (by decide) ?_
  refine lv_aload_n hx hb dX19_told_76 rfl (lv_at hl 0 rfl) ?_
  refine lv_iconst (v := 1) hx hb dX19_told_77 (by decide) ?_
  have hPc := hP.sub (ws' := [(h0, .inr (16, [v19_0, v19_1, v19_2, v19_3, v19_4, v19_5, v19_6, v19_7, v19_8, v19_9, v19_10, v19_11, v19_12, v19_13, v19_14, v19_15, v19_16, v19_17, v19_18, v19_19, v19_20, v19_21, v19_22, v19_23, v19_24, v19_25, v19_26, .int (zI (z19_ended)), .int r19_answer, .int (zI (z19_shown)), .int (zI (z19_steps)), .int (zI (z19_read)), v19_32, .int (zI (0)), v19_34, v19_35, v19_36, v19_37, v19_38, v19_39, v19_40]))]) [0] rfl
  have hDc := hD.sub (ws' := [(h0, .inr (16, [v19_0, v19_1, v19_2, v19_3, v19_4, v19_5, v19_6, v19_7, v19_8, v19_9, v19_10, v19_11, v19_12, v19_13, v19_14, v19_15, v19_16, v19_17, v19_18, v19_19, v19_20, v19_21, v19_22, v19_23, v19_24, v19_25, v19_26, .int (zI (z19_ended)), .int r19_answer, .int (zI (z19_shown)), .int (zI (z19_steps)), .int (zI (z19_read)), v19_32, .int (zI (0)), v19_34, v19_35, v19_36, v19_37, v19_38, v19_39, v19_40]))]) [0] (by decide) rfl
  have hKc := hK.sub (tys' := []) [] rfl
  have hFc := va_free (wc := [(h0, .inr (16, [v19_0, v19_1, v19_2, v19_3, v19_4, v19_5, v19_6, v19_7, v19_8, v19_9, v19_10, v19_11, v19_12, v19_13, v19_14, v19_15, v19_16, v19_17, v19_18, v19_19, v19_20, v19_21, v19_22, v19_23, v19_24, v19_25, v19_26, .int (zI (z19_ended)), .int r19_answer, .int (zI (z19_shown)), .int (zI (z19_steps)), .int (zI (z19_read)), v19_32, .int (zI (0)), v19_34, v19_35, v19_36, v19_37, v19_38, v19_39, v19_40]))]) hD hS hA [0] rfl
  refine va_calli (va_runV (As := [.int 1]) (rest := []) ⟨hx, hb, hml, hown, hts⟩ (c_X19_no l dC dI h0 v19_0 v19_1 v19_2 v19_3 v19_4 v19_5 v19_6 v19_7 v19_8 v19_9 v19_10 v19_11 v19_12 v19_13 v19_14 v19_15 v19_16 v19_17 v19_18 v19_19 v19_20 v19_21 v19_22 v19_23 v19_24 v19_25 v19_26 (.int (zI (z19_ended))) (.int r19_answer) (.int (zI (z19_shown))) (.int (zI (z19_steps))) (.int (zI (z19_read))) v19_32 0 v19_34 v19_35 v19_36 v19_37 v19_38 v19_39 v19_40 1 (by omega) (by omega) H.size) (cwV 1 hts g_X19_told_X19_no rfl rfl rfl (by decide +kernel) ⟨(Nat.le_of_ble_eq_true rfl), (Nat.le_of_ble_eq_true rfl)⟩) ⟨fun a U g mk q => by obtain ⟨q0, q1, qP, qK, qD⟩ := q; exact ⟨q0, q1, qP, va_K.moved (u := U) (U := U.calling g mk a) (Vm.Alike.refl U.vm) qK, qD⟩, va_recv hKc hPc (ci := 16) (q0 := 0) rfl rfl, fun U hU hW => ⟨rfl, by rw [hU], by rw [hU]; exact hPc, va_K.moved hW.alike hKc, hDc.weaken (fun _ _ _ _ => trivial)⟩⟩ rfl rfl hl.1 rfl (lv_room (Nat.le_of_ble_eq_true rfl)) dX19_told_78 ⟨(Nat.le_of_ble_eq_true rfl), (Nat.le_of_ble_eq_true rfl)⟩) hS (fun q _ h => hFc q h) hFc (fun r_1 z_2 t H1 locs ht hvm hw hB hz1 hk1 hS => ?_)
  obtain ⟨z0_3, hxt_3, hP1, hK1, hD1⟩ := hB
  rw [ht] at hP1
  have hK1 := va_K.moved hvm.symm hK1
  obtain ⟨hP, hD⟩ := va_join (wr := []) (w1 := [(h0, .inr (16, [v19_0, v19_1, v19_2, v19_3, v19_4, v19_5, v19_6, v19_7, v19_8, v19_9, v19_10, v19_11, v19_12, v19_13, v19_14, v19_15, v19_16, v19_17, v19_18, v19_19, v19_20, v19_21, v19_22, v19_23, v19_24, v19_25, v19_26, .int (zI (z19_ended)), .int r19_answer, .int (zI (z19_shown)), .int (zI (z19_steps)), .int (zI (z19_read)), v19_32, .int (zI (z0_3)), v19_34, v19_35, v19_36, v19_37, v19_38, v19_39, v19_40]))]) hP hD [0] [] rfl rfl (by decide) (by decide) hk1 hFc hP1 hD1
  have hK := (hK.sub (tys' := []) [] rfl).app hK1
  generalize H1 = H at hP hS ⊢
  have hP : va_P (dC, dI) vwQ [(h0, .inr (16, [v19_0, v19_1, v19_2, v19_3, v19_4, v19_5, v19_6, v19_7, v19_8, v19_9, v19_10, v19_11, v19_12, v19_13, v19_14, v19_15, v19_16, v19_17, v19_18, v19_19, v19_20, v19_21, v19_22, v19_23, v19_24, v19_25, v19_26, .int (zI (z19_ended)), .int r19_answer, .int (zI (z19_shown)), .int (zI (z19_steps)), .int (zI (z19_read)), v19_32, .int (zI (z0_3)), v19_34, v19_35, v19_36, v19_37, v19_38, v19_39, v19_40]))] H := hP
  have hD : va_D A [(h0, .inr (16, [v19_0, v19_1, v19_2, v19_3, v19_4, v19_5, v19_6, v19_7, v19_8, v19_9, v19_10, v19_11, v19_12, v19_13, v19_14, v19_15, v19_16, v19_17, v19_18, v19_19, v19_20, v19_21, v19_22, v19_23, v19_24, v19_25, v19_26, .int (zI (z19_ended)), .int r19_answer, .int (zI (z19_shown)), .int (zI (z19_steps)), .int (zI (z19_read)), v19_32, .int (zI (z0_3)), v19_34, v19_35, v19_36, v19_37, v19_38, v19_39, v19_40]))] := hD
  have hK : va_K (dC, dI) vwQ [] s := hK
  refine W.widen (k := 0) (n := 0) (Nat.le_of_ble_eq_true rfl) (Nat.le_of_ble_eq_true rfl) ?_
  obtain ⟨rfl, hzz_2⟩ := hw
  obtain ⟨rk_4, hu_4⟩ := hxt_3
  subst hQ
  refine W.widen (k := 0) (n := 0) (Nat.le_of_ble_eq_true rfl) (Nat.le_of_ble_eq_true rfl) ?_
  exact W.iret (v := (zI (z_2))) hx hb hr (fun t ht hW => ⟨⟨(zI (z_2)), (), rfl, trivial, z0_3, (by omega), by rw [ht]; exact hP, va_K.moved hW.alike hK, hD⟩, hS.F ht⟩) hS.2.2 dX19_told_81
theorem dX19_shown_0 : decode cX19_shown 0 = .ok (.aload_n 0, 1) := by decide +kernel
theorem dX19_shown_1 : decode cX19_shown 1 = .ok (.iconst 0, 1) := by decide +kernel
theorem dX19_shown_2 : decode cX19_shown 2 = .ok (.putfield 560, 3) := by decide +kernel
theorem dX19_shown_5 : decode cX19_shown 5 = .ok (.iload_n 1, 1) := by decide +kernel
theorem dX19_shown_6 : decode cX19_shown 6 = .ok (.ifCond .lt 20, 3) := by decide +kernel
theorem dX19_shown_26 : decode cX19_shown 26 = .ok (.aload_n 0, 1) := by decide +kernel
theorem dX19_shown_27 : decode cX19_shown 27 = .ok (.iconst 1, 1) := by decide +kernel
theorem dX19_shown_28 : decode cX19_shown 28 = .ok (.invokevirtual 565, 3) := by decide +kernel
theorem dX19_shown_31 : decode cX19_shown 31 = .ok (.ireturn, 1) := by decide +kernel
theorem dX19_shown_9 : decode cX19_shown 9 = .ok (.iload_n 1, 1) := by decide +kernel
theorem dX19_shown_10 : decode cX19_shown 10 = .ok (.aload_n 0, 1) := by decide +kernel
theorem dX19_shown_11 : decode cX19_shown 11 = .ok (.getfield 466, 3) := by decide +kernel
theorem dX19_shown_14 : decode cX19_shown 14 = .ok (.if_icmp .ge 12, 3) := by decide +kernel
theorem dX19_shown_17 : decode cX19_shown 17 = .ok (.aload_n 0, 1) := by decide +kernel
theorem dX19_shown_18 : decode cX19_shown 18 = .ok (.getfield 486, 3) := by decide +kernel
theorem dX19_shown_21 : decode cX19_shown 21 = .ok (.iload_n 1, 1) := by decide +kernel
theorem dX19_shown_22 : decode cX19_shown 22 = .ok (.iaload, 1) := by decide +kernel
theorem dX19_shown_23 : decode cX19_shown 23 = .ok (.goto 8, 3) := by decide +kernel
def o_X19_shown : List Cond := [.fieldLink RX19 560 "SsaForgeModel" "thrown" "I", .methodLink RX19 565 yX19_no, .instanceMethod yX19_no, .selects RX19 yX19_no yX19_no, .initialized RX19, .fieldLink RX19 466 "SsaForgeModel" "shown" "I", .fieldLink RX19 486 "SsaForgeModel" "shows" "[I"]
def v_X19_shown : List Cond := .code yX19_shown cX19_shown 2 (some .int) :: (o_X19_shown ++ (wsX190 ++ (v_X19_no ++ [])))
theorem mow_X19_shown : ∀ w ∈ o_X19_shown, w ∈ v_X19_shown := fun _ h => List.mem_cons_of_mem _ (List.mem_append_left _ h)
theorem mem_X19_shown_0 : ∀ w ∈ wsX190, w ∈ v_X19_shown := fun _ h => List.mem_cons_of_mem _ (List.mem_append_right _ (List.mem_append_left _ h))
theorem mem_X19_shown_1 : ∀ w ∈ v_X19_no, w ∈ v_X19_shown := fun _ h => List.mem_cons_of_mem _ (List.mem_append_right _ (List.mem_append_right _ (List.mem_append_left _ h)))
set_option maxRecDepth 20000 in
theorem gw_X19_shown : v_X19_shown.all goodWord = true := by decide +kernel
set_option maxRecDepth 20000 in
theorem g_X19_shown_X19_no : GoodIn v_X19_shown (wsV RX19 565 RX19 yX19_no v_X19_no) := goodIn_app (goodIn_sub (fun w h => mow_X19_shown w (by revert w h; decide +kernel)) (by decide +kernel)) (goodIn_sub mem_X19_shown_1 gw_X19_no)
set_option maxHeartbeats 4000000 in
set_option maxRecDepth 100000 in
theorem c_X19_shown (l : Launch) (dC : Nat → ClassId) (dI : Nat → Nat → Nat) (h0 : Nat) (v19_0 : Value) (v19_1 : Value) (v19_2 : Value) (v19_3 : Value) (v19_4 : Value) (v19_5 : Value) (v19_6 : Value) (v19_7 : Value) (v19_8 : Value) (v19_9 : Value) (v19_10 : Value) (v19_11 : Value) (v19_12 : Value) (v19_13 : Value) (v19_14 : Value) (v19_15 : Value) (v19_16 : Value) (v19_17 : Value) (v19_18 : Value) (v19_19 : Value) (v19_20 : Value) (v19_21 : Value) (v19_22 : Value) (v19_23 : Value) (v19_24 : Value) (q_1925 : Nat) (cA_1925 : ClassId) (fa19_shows : Nat → Int32) (v19_26 : Value) (v19_27 : Value) (v19_28 : Value) (z19_shown : Int) (v19_30 : Value) (v19_31 : Value) (v19_32 : Value) (z19_thrown : Int) (v19_34 : Value) (v19_35 : Value) (v19_36 : Value) (v19_37 : Value) (v19_38 : Value) (v19_39 : Value) (v19_40 : Value) (n0 : Int) (hNz19_shown : 0 ≤ z19_shown ∧ z19_shown ≤ 512) (hNz19_thrown : 0 ≤ z19_thrown ∧ z19_thrown ≤ 2) (hNn : -2147483648 ≤ n0 ∧ n0 ≤ 2147483647) (sz : Nat) : Met l yX19_shown v_X19_shown ({ frames := 1, cells := 0, slots := 0, locals := 21 }) (va_Pc [.ref h0, .int (zI (n0))] (fun U => U.heap.size = sz ∧ va_P (dC, dI) vwQ [(h0, .inr (16, [v19_0, v19_1, v19_2, v19_3, v19_4, v19_5, v19_6, v19_7, v19_8, v19_9, v19_10, v19_11, v19_12, v19_13, v19_14, v19_15, v19_16, v19_17, v19_18, v19_19, v19_20, v19_21, v19_22, v19_23, v19_24, .ref q_1925, v19_26, v19_27, v19_28, .int (zI (z19_shown)), v19_30, v19_31, v19_32, .int (zI (z19_thrown)), v19_34, v19_35, v19_36, v19_37, v19_38, v19_39, v19_40])), (q_1925, .inl (cA_1925, 512, .inl fa19_shows))] U.heap ∧ va_K (dC, dI) vwQ [(cA_1925, .int)] U ∧ va_D (fun _ => True) [(h0, .inr (16, [v19_0, v19_1, v19_2, v19_3, v19_4, v19_5, v19_6, v19_7, v19_8, v19_9, v19_10, v19_11, v19_12, v19_13, v19_14, v19_15, v19_16, v19_17, v19_18, v19_19, v19_20, v19_21, v19_22, v19_23, v19_24, .ref q_1925, v19_26, v19_27, v19_28, .int (zI (z19_shown)), v19_30, v19_31, v19_32, .int (zI (z19_thrown)), v19_34, v19_35, v19_36, v19_37, v19_38, v19_39, v19_40])), (q_1925, .inl (cA_1925, 512, .inl fa19_shows))])) (va_Qi (fun (r : Int32) (_ : Unit) => True) (fun (_ : Unit) (t : State) => ∃ (z0_9 : Int), ((0 ≤ z0_9 ∧ z0_9 ≤ 2)) ∧ va_P (dC, dI) vwQ [(h0, .inr (16, [v19_0, v19_1, v19_2, v19_3, v19_4, v19_5, v19_6, v19_7, v19_8, v19_9, v19_10, v19_11, v19_12, v19_13, v19_14, v19_15, v19_16, v19_17, v19_18, v19_19, v19_20, v19_21, v19_22, v19_23, v19_24, .ref q_1925, v19_26, v19_27, v19_28, .int (zI (z19_shown)), v19_30, v19_31, v19_32, .int (zI (z0_9)), v19_34, v19_35, v19_36, v19_37, v19_38, v19_39, v19_40])), (q_1925, .inl (cA_1925, 512, .inl fa19_shows))] t.heap ∧ va_K (dC, dI) vwQ [(cA_1925, .int)] t ∧ va_D (va_A [(h0, .inr (16, [v19_0, v19_1, v19_2, v19_3, v19_4, v19_5, v19_6, v19_7, v19_8, v19_9, v19_10, v19_11, v19_12, v19_13, v19_14, v19_15, v19_16, v19_17, v19_18, v19_19, v19_20, v19_21, v19_22, v19_23, v19_24, .ref q_1925, v19_26, v19_27, v19_28, .int (zI (z19_shown)), v19_30, v19_31, v19_32, .int (zI (z19_thrown)), v19_34, v19_35, v19_36, v19_37, v19_38, v19_39, v19_40])), (q_1925, .inl (cA_1925, 512, .inl fa19_shows))] sz) [(h0, .inr (16, [v19_0, v19_1, v19_2, v19_3, v19_4, v19_5, v19_6, v19_7, v19_8, v19_9, v19_10, v19_11, v19_12, v19_13, v19_14, v19_15, v19_16, v19_17, v19_18, v19_19, v19_20, v19_21, v19_22, v19_23, v19_24, .ref q_1925, v19_26, v19_27, v19_28, .int (zI (z19_shown)), v19_30, v19_31, v19_32, .int (zI (z0_9)), v19_34, v19_35, v19_36, v19_37, v19_38, v19_39, v19_40])), (q_1925, .inl (cA_1925, 512, .inl fa19_shows))]) (va_A [(h0, .inr (16, [v19_0, v19_1, v19_2, v19_3, v19_4, v19_5, v19_6, v19_7, v19_8, v19_9, v19_10, v19_11, v19_12, v19_13, v19_14, v19_15, v19_16, v19_17, v19_18, v19_19, v19_20, v19_21, v19_22, v19_23, v19_24, .ref q_1925, v19_26, v19_27, v19_28, .int (zI (z19_shown)), v19_30, v19_31, v19_32, .int (zI (z19_thrown)), v19_34, v19_35, v19_36, v19_37, v19_38, v19_39, v19_40])), (q_1925, .inl (cA_1925, 512, .inl fa19_shows))] sz)) 0 0 (va_A [(h0, .inr (16, [v19_0, v19_1, v19_2, v19_3, v19_4, v19_5, v19_6, v19_7, v19_8, v19_9, v19_10, v19_11, v19_12, v19_13, v19_14, v19_15, v19_16, v19_17, v19_18, v19_19, v19_20, v19_21, v19_22, v19_23, v19_24, .ref q_1925, v19_26, v19_27, v19_28, .int (zI (z19_shown)), v19_30, v19_31, v19_32, .int (zI (z19_thrown)), v19_34, v19_35, v19_36, v19_37, v19_38, v19_39, v19_40])), (q_1925, .inl (cA_1925, 512, .inl fa19_shows))] sz) := by
  refine Met.ofW (cc := cX19_shown) (maxL := 2) (ret := (some .int)) (by decide) rfl ?_
  intro p e s m args below meth c s₁ B hml hv
  obtain ⟨rfl, hsz, hP, hK, hD0⟩ := hv
  have hx := B.exec
  have hb := B.bytes
  have hr := B.returns
  have hts := atoms_spec (ws := v_X19_shown) B.pre
  have hown : s.vm.findClass RX19 = some m.cls := findClass_of_methodNamed B.named
  have hlocks := B.notSynchronized
  have ow : ∀ {k : Nat} {w : Cond}, o_X19_shown[k]? = some w → w.before ([.ref h0, .int (zI (n0))] : List Value).toArray s = true := fun h => hts _ (mow_X19_shown _ (List.mem_of_getElem? h))
  subst hsz
  have hD := hD0.self (sz := s.heap.size)
  generalize hAe : va_A [(h0, .inr (16, [v19_0, v19_1, v19_2, v19_3, v19_4, v19_5, v19_6, v19_7, v19_8, v19_9, v19_10, v19_11, v19_12, v19_13, v19_14, v19_15, v19_16, v19_17, v19_18, v19_19, v19_20, v19_21, v19_22, v19_23, v19_24, .ref q_1925, v19_26, v19_27, v19_28, .int (zI (z19_shown)), v19_30, v19_31, v19_32, .int (zI (z19_thrown)), v19_34, v19_35, v19_36, v19_37, v19_38, v19_39, v19_40])), (q_1925, .inl (cA_1925, 512, .inl fa19_shows))] s.heap.size = A at hD ⊢
  have hA : ∀ q : Nat, s.heap.size ≤ q → A q := fun q h => by rw [← hAe]; exact Or.inr h
  have hS : va_S A s.heap s.heap [] := va_S.rf
  have hP : va_P (dC, dI) vwQ [(h0, .inr (16, [v19_0, v19_1, v19_2, v19_3, v19_4, v19_5, v19_6, v19_7, v19_8, v19_9, v19_10, v19_11, v19_12, v19_13, v19_14, v19_15, v19_16, v19_17, v19_18, v19_19, v19_20, v19_21, v19_22, v19_23, v19_24, .ref q_1925, v19_26, v19_27, v19_28, .int (zI (z19_shown)), v19_30, v19_31, v19_32, .int (zI (z19_thrown)), v19_34, v19_35, v19_36, v19_37, v19_38, v19_39, v19_40])), (q_1925, .inl (cA_1925, 512, .inl fa19_shows))] s.heap := hP
  have hl := lv_entry ([.ref h0, .int (zI (n0))]) (n := 2) (Nat.le_of_ble_eq_true rfl)
  rw [lg_entry_eq]
  generalize (lg_sl ([.ref h0, .int (zI (n0))]) ++ List.replicate (2 - (lg_sl ([.ref h0, .int (zI (n0))])).length) Slot.unset).toArray = ls at hl ⊢
  have hl : lv_has ls 2 [(0, .ref h0), (1, .int (zI (n0)))] := hl
  obtain ⟨H, hH⟩ : ∃ H, H = s.heap := ⟨_, rfl⟩
  rw [← hH] at hP
  have hS : va_S A s.heap H [] := by rw [hH]; exact hS
  rw [← hH]
  refine zW_cap (fun Q hQ => ?_)
  refine lv_aload_n hx hb dX19_shown_0 rfl (lv_at hl 0 rfl) ?_
  refine lv_iconst (v := 0) hx hb dX19_shown_1 (by decide) ?_
  refine va_put (D := (dC, dI)) (ci := 16) (v := .int 0) (ty := .int) (C := RX19) (T := TX19) (N := 41) hx hb hts mem_X19_shown_0 tyX19 tyX19_ok nmX19 hown hK hP hD hS 0 rfl rfl 33 (by decide) (ow (k := 0) rfl) (fun _ h9 => h9) rfl (by decide +kernel) rfl rfl (Nat.le_of_ble_eq_true rfl) dX19_shown_2 (fun H locs hP hD hS => ?_)
  have hP : va_P (dC, dI) vwQ [(h0, .inr (16, [v19_0, v19_1, v19_2, v19_3, v19_4, v19_5, v19_6, v19_7, v19_8, v19_9, v19_10, v19_11, v19_12, v19_13, v19_14, v19_15, v19_16, v19_17, v19_18, v19_19, v19_20, v19_21, v19_22, v19_23, v19_24, .ref q_1925, v19_26, v19_27, v19_28, .int (zI (z19_shown)), v19_30, v19_31, v19_32, .int 0, v19_34, v19_35, v19_36, v19_37, v19_38, v19_39, v19_40])), (q_1925, .inl (cA_1925, 512, .inl fa19_shows))] H := hP
  have hD : va_D A [(h0, .inr (16, [v19_0, v19_1, v19_2, v19_3, v19_4, v19_5, v19_6, v19_7, v19_8, v19_9, v19_10, v19_11, v19_12, v19_13, v19_14, v19_15, v19_16, v19_17, v19_18, v19_19, v19_20, v19_21, v19_22, v19_23, v19_24, .ref q_1925, v19_26, v19_27, v19_28, .int (zI (z19_shown)), v19_30, v19_31, v19_32, .int 0, v19_34, v19_35, v19_36, v19_37, v19_38, v19_39, v19_40])), (q_1925, .inl (cA_1925, 512, .inl fa19_shows))] := hD
  refine lv_iload_n hx hb dX19_shown_5 rfl (lv_at hl 1 rfl) ?_
  refine lv_if_lt (tgt := 26) hx hb dX19_shown_6 (by decide) (fun b6 => ?_) (fun b6 => ?_)
  · have yb6 : (n0 : Int) < (0 : Int) := (zI_lt (a := n0) (b := 0) (by omega) (by omega) (by omega) (by omega)).mp b6
    refine lv_aload_n hx hb dX19_shown_26 rfl (lv_at hl 0 rfl) ?_
    refine lv_iconst (v := 1) hx hb dX19_shown_27 (by decide) ?_
    have hPc := hP.sub (ws' := [(h0, .inr (16, [v19_0, v19_1, v19_2, v19_3, v19_4, v19_5, v19_6, v19_7, v19_8, v19_9, v19_10, v19_11, v19_12, v19_13, v19_14, v19_15, v19_16, v19_17, v19_18, v19_19, v19_20, v19_21, v19_22, v19_23, v19_24, .ref q_1925, v19_26, v19_27, v19_28, .int (zI (z19_shown)), v19_30, v19_31, v19_32, .int (zI (0)), v19_34, v19_35, v19_36, v19_37, v19_38, v19_39, v19_40]))]) [0] rfl
    have hDc := hD.sub (ws' := [(h0, .inr (16, [v19_0, v19_1, v19_2, v19_3, v19_4, v19_5, v19_6, v19_7, v19_8, v19_9, v19_10, v19_11, v19_12, v19_13, v19_14, v19_15, v19_16, v19_17, v19_18, v19_19, v19_20, v19_21, v19_22, v19_23, v19_24, .ref q_1925, v19_26, v19_27, v19_28, .int (zI (z19_shown)), v19_30, v19_31, v19_32, .int (zI (0)), v19_34, v19_35, v19_36, v19_37, v19_38, v19_39, v19_40]))]) [0] (by decide) rfl
    have hKc := hK.sub (tys' := []) [] rfl
    have hFc := va_free (wc := [(h0, .inr (16, [v19_0, v19_1, v19_2, v19_3, v19_4, v19_5, v19_6, v19_7, v19_8, v19_9, v19_10, v19_11, v19_12, v19_13, v19_14, v19_15, v19_16, v19_17, v19_18, v19_19, v19_20, v19_21, v19_22, v19_23, v19_24, .ref q_1925, v19_26, v19_27, v19_28, .int (zI (z19_shown)), v19_30, v19_31, v19_32, .int (zI (0)), v19_34, v19_35, v19_36, v19_37, v19_38, v19_39, v19_40]))]) hD hS hA [0] rfl
    refine va_calli (va_runV (As := [.int 1]) (rest := []) ⟨hx, hb, hml, hown, hts⟩ (c_X19_no l dC dI h0 v19_0 v19_1 v19_2 v19_3 v19_4 v19_5 v19_6 v19_7 v19_8 v19_9 v19_10 v19_11 v19_12 v19_13 v19_14 v19_15 v19_16 v19_17 v19_18 v19_19 v19_20 v19_21 v19_22 v19_23 v19_24 (.ref q_1925) v19_26 v19_27 v19_28 (.int (zI (z19_shown))) v19_30 v19_31 v19_32 0 v19_34 v19_35 v19_36 v19_37 v19_38 v19_39 v19_40 1 (by omega) (by omega) H.size) (cwV 1 hts g_X19_shown_X19_no rfl rfl rfl (by decide +kernel) ⟨(Nat.le_of_ble_eq_true rfl), (Nat.le_of_ble_eq_true rfl)⟩) ⟨fun a U g mk q => by obtain ⟨q0, q1, qP, qK, qD⟩ := q; exact ⟨q0, q1, qP, va_K.moved (u := U) (U := U.calling g mk a) (Vm.Alike.refl U.vm) qK, qD⟩, va_recv hKc hPc (ci := 16) (q0 := 0) rfl rfl, fun U hU hW => ⟨rfl, by rw [hU], by rw [hU]; exact hPc, va_K.moved hW.alike hKc, hDc.weaken (fun _ _ _ _ => trivial)⟩⟩ rfl rfl hl.1 rfl (lv_room (Nat.le_of_ble_eq_true rfl)) dX19_shown_28 ⟨(Nat.le_of_ble_eq_true rfl), (Nat.le_of_ble_eq_true rfl)⟩) hS (fun q _ h => hFc q h) hFc (fun r_2001 z_2002 t H1 locs ht hvm hw hB hz1 hk1 hS => ?_)
    obtain ⟨z0_2003, hxt_2003, hP1, hK1, hD1⟩ := hB
    rw [ht] at hP1
    have hK1 := va_K.moved hvm.symm hK1
    obtain ⟨hP, hD⟩ := va_join (wr := [(q_1925, .inl (cA_1925, 512, .inl fa19_shows))]) (w1 := [(h0, .inr (16, [v19_0, v19_1, v19_2, v19_3, v19_4, v19_5, v19_6, v19_7, v19_8, v19_9, v19_10, v19_11, v19_12, v19_13, v19_14, v19_15, v19_16, v19_17, v19_18, v19_19, v19_20, v19_21, v19_22, v19_23, v19_24, .ref q_1925, v19_26, v19_27, v19_28, .int (zI (z19_shown)), v19_30, v19_31, v19_32, .int (zI (z0_2003)), v19_34, v19_35, v19_36, v19_37, v19_38, v19_39, v19_40]))]) hP hD [0] [1] rfl rfl (by decide) (by decide) hk1 hFc hP1 hD1
    have hK := (hK.sub (tys' := [(cA_1925, .int)]) [0] rfl).app hK1
    generalize H1 = H at hP hS ⊢
    have hP : va_P (dC, dI) vwQ [(q_1925, .inl (cA_1925, 512, .inl fa19_shows)), (h0, .inr (16, [v19_0, v19_1, v19_2, v19_3, v19_4, v19_5, v19_6, v19_7, v19_8, v19_9, v19_10, v19_11, v19_12, v19_13, v19_14, v19_15, v19_16, v19_17, v19_18, v19_19, v19_20, v19_21, v19_22, v19_23, v19_24, .ref q_1925, v19_26, v19_27, v19_28, .int (zI (z19_shown)), v19_30, v19_31, v19_32, .int (zI (z0_2003)), v19_34, v19_35, v19_36, v19_37, v19_38, v19_39, v19_40]))] H := hP
    have hD : va_D A [(q_1925, .inl (cA_1925, 512, .inl fa19_shows)), (h0, .inr (16, [v19_0, v19_1, v19_2, v19_3, v19_4, v19_5, v19_6, v19_7, v19_8, v19_9, v19_10, v19_11, v19_12, v19_13, v19_14, v19_15, v19_16, v19_17, v19_18, v19_19, v19_20, v19_21, v19_22, v19_23, v19_24, .ref q_1925, v19_26, v19_27, v19_28, .int (zI (z19_shown)), v19_30, v19_31, v19_32, .int (zI (z0_2003)), v19_34, v19_35, v19_36, v19_37, v19_38, v19_39, v19_40]))] := hD
    have hK : va_K (dC, dI) vwQ [(cA_1925, .int)] s := hK
    refine W.widen (k := 0) (n := 0) (Nat.le_of_ble_eq_true rfl) (Nat.le_of_ble_eq_true rfl) ?_
    obtain ⟨rfl, hzz_2002⟩ := hw
    obtain ⟨rk_2004, hu_2004⟩ := hxt_2003
    subst hQ
    have hP := hP.sub (ws' := [(h0, .inr (16, [v19_0, v19_1, v19_2, v19_3, v19_4, v19_5, v19_6, v19_7, v19_8, v19_9, v19_10, v19_11, v19_12, v19_13, v19_14, v19_15, v19_16, v19_17, v19_18, v19_19, v19_20, v19_21, v19_22, v19_23, v19_24, .ref q_1925, v19_26, v19_27, v19_28, .int (zI (z19_shown)), v19_30, v19_31, v19_32, .int (zI (z0_2003)), v19_34, v19_35, v19_36, v19_37, v19_38, v19_39, v19_40])), (q_1925, .inl (cA_1925, 512, .inl fa19_shows))]) [1, 0] rfl
    have hD := hD.sub (ws' := [(h0, .inr (16, [v19_0, v19_1, v19_2, v19_3, v19_4, v19_5, v19_6, v19_7, v19_8, v19_9, v19_10, v19_11, v19_12, v19_13, v19_14, v19_15, v19_16, v19_17, v19_18, v19_19, v19_20, v19_21, v19_22, v19_23, v19_24, .ref q_1925, v19_26, v19_27, v19_28, .int (zI (z19_shown)), v19_30, v19_31, v19_32, .int (zI (z0_2003)), v19_34, v19_35, v19_36, v19_37, v19_38, v19_39, v19_40])), (q_1925, .inl (cA_1925, 512, .inl fa19_shows))]) [1, 0] (by decide) rfl
    refine W.widen (k := 0) (n := 0) (Nat.le_of_ble_eq_true rfl) (Nat.le_of_ble_eq_true rfl) ?_
    exact W.iret (v := (zI (z_2002))) hx hb hr (fun t ht hW => ⟨⟨(zI (z_2002)), (), rfl, trivial, z0_2003, (by omega), by rw [ht]; exact hP, va_K.moved hW.alike hK, hD⟩, hS.F ht⟩) hS.2.2 dX19_shown_31
  · have yb6 : ¬ (n0 : Int) < (0 : Int) := fun q => b6 ((zI_lt (a := n0) (b := 0) (by omega) (by omega) (by omega) (by omega)).mpr q)
    refine lv_iload_n hx hb dX19_shown_9 rfl (lv_at hl 1 rfl) ?_
    refine lv_aload_n hx hb dX19_shown_10 rfl (lv_at hl 0 rfl) ?_
    refine va_get (D := (dC, dI)) (ci := 16) (v := .int (zI (z19_shown))) (C := RX19) (T := TX19) (N := 41) hx hb hts mem_X19_shown_0 hown hK hP 0 rfl rfl 29 (by decide) (ow (k := 5) rfl) (fun _ h9 => h9) rfl dX19_shown_11 ?_
    refine lv_icmp_ge (tgt := 26) hx hb dX19_shown_14 (by decide) (fun b14 => ?_) (fun b14 => ?_)
    · have yb14 : (z19_shown : Int) ≤ (n0 : Int) := (zI_le (a := z19_shown) (b := n0) (by omega) (by omega) (by omega) (by omega)).mp b14
      refine lv_aload_n hx hb dX19_shown_26 rfl (lv_at hl 0 rfl) ?_
      refine lv_iconst (v := 1) hx hb dX19_shown_27 (by decide) ?_
      have hPc := hP.sub (ws' := [(h0, .inr (16, [v19_0, v19_1, v19_2, v19_3, v19_4, v19_5, v19_6, v19_7, v19_8, v19_9, v19_10, v19_11, v19_12, v19_13, v19_14, v19_15, v19_16, v19_17, v19_18, v19_19, v19_20, v19_21, v19_22, v19_23, v19_24, .ref q_1925, v19_26, v19_27, v19_28, .int (zI (z19_shown)), v19_30, v19_31, v19_32, .int (zI (0)), v19_34, v19_35, v19_36, v19_37, v19_38, v19_39, v19_40]))]) [0] rfl
      have hDc := hD.sub (ws' := [(h0, .inr (16, [v19_0, v19_1, v19_2, v19_3, v19_4, v19_5, v19_6, v19_7, v19_8, v19_9, v19_10, v19_11, v19_12, v19_13, v19_14, v19_15, v19_16, v19_17, v19_18, v19_19, v19_20, v19_21, v19_22, v19_23, v19_24, .ref q_1925, v19_26, v19_27, v19_28, .int (zI (z19_shown)), v19_30, v19_31, v19_32, .int (zI (0)), v19_34, v19_35, v19_36, v19_37, v19_38, v19_39, v19_40]))]) [0] (by decide) rfl
      have hKc := hK.sub (tys' := []) [] rfl
      have hFc := va_free (wc := [(h0, .inr (16, [v19_0, v19_1, v19_2, v19_3, v19_4, v19_5, v19_6, v19_7, v19_8, v19_9, v19_10, v19_11, v19_12, v19_13, v19_14, v19_15, v19_16, v19_17, v19_18, v19_19, v19_20, v19_21, v19_22, v19_23, v19_24, .ref q_1925, v19_26, v19_27, v19_28, .int (zI (z19_shown)), v19_30, v19_31, v19_32, .int (zI (0)), v19_34, v19_35, v19_36, v19_37, v19_38, v19_39, v19_40]))]) hD hS hA [0] rfl
      refine va_calli (va_runV (As := [.int 1]) (rest := []) ⟨hx, hb, hml, hown, hts⟩ (c_X19_no l dC dI h0 v19_0 v19_1 v19_2 v19_3 v19_4 v19_5 v19_6 v19_7 v19_8 v19_9 v19_10 v19_11 v19_12 v19_13 v19_14 v19_15 v19_16 v19_17 v19_18 v19_19 v19_20 v19_21 v19_22 v19_23 v19_24 (.ref q_1925) v19_26 v19_27 v19_28 (.int (zI (z19_shown))) v19_30 v19_31 v19_32 0 v19_34 v19_35 v19_36 v19_37 v19_38 v19_39 v19_40 1 (by omega) (by omega) H.size) (cwV 1 hts g_X19_shown_X19_no rfl rfl rfl (by decide +kernel) ⟨(Nat.le_of_ble_eq_true rfl), (Nat.le_of_ble_eq_true rfl)⟩) ⟨fun a U g mk q => by obtain ⟨q0, q1, qP, qK, qD⟩ := q; exact ⟨q0, q1, qP, va_K.moved (u := U) (U := U.calling g mk a) (Vm.Alike.refl U.vm) qK, qD⟩, va_recv hKc hPc (ci := 16) (q0 := 0) rfl rfl, fun U hU hW => ⟨rfl, by rw [hU], by rw [hU]; exact hPc, va_K.moved hW.alike hKc, hDc.weaken (fun _ _ _ _ => trivial)⟩⟩ rfl rfl hl.1 rfl (lv_room (Nat.le_of_ble_eq_true rfl)) dX19_shown_28 ⟨(Nat.le_of_ble_eq_true rfl), (Nat.le_of_ble_eq_true rfl)⟩) hS (fun q _ h => hFc q h) hFc (fun r_2005 z_2006 t H1 locs ht hvm hw hB hz1 hk1 hS => ?_)
      obtain ⟨z0_2007, hxt_2007, hP1, hK1, hD1⟩ := hB
      rw [ht] at hP1
      have hK1 := va_K.moved hvm.symm hK1
      obtain ⟨hP, hD⟩ := va_join (wr := [(q_1925, .inl (cA_1925, 512, .inl fa19_shows))]) (w1 := [(h0, .inr (16, [v19_0, v19_1, v19_2, v19_3, v19_4, v19_5, v19_6, v19_7, v19_8, v19_9, v19_10, v19_11, v19_12, v19_13, v19_14, v19_15, v19_16, v19_17, v19_18, v19_19, v19_20, v19_21, v19_22, v19_23, v19_24, .ref q_1925, v19_26, v19_27, v19_28, .int (zI (z19_shown)), v19_30, v19_31, v19_32, .int (zI (z0_2007)), v19_34, v19_35, v19_36, v19_37, v19_38, v19_39, v19_40]))]) hP hD [0] [1] rfl rfl (by decide) (by decide) hk1 hFc hP1 hD1
      have hK := (hK.sub (tys' := [(cA_1925, .int)]) [0] rfl).app hK1
      generalize H1 = H at hP hS ⊢
      have hP : va_P (dC, dI) vwQ [(q_1925, .inl (cA_1925, 512, .inl fa19_shows)), (h0, .inr (16, [v19_0, v19_1, v19_2, v19_3, v19_4, v19_5, v19_6, v19_7, v19_8, v19_9, v19_10, v19_11, v19_12, v19_13, v19_14, v19_15, v19_16, v19_17, v19_18, v19_19, v19_20, v19_21, v19_22, v19_23, v19_24, .ref q_1925, v19_26, v19_27, v19_28, .int (zI (z19_shown)), v19_30, v19_31, v19_32, .int (zI (z0_2007)), v19_34, v19_35, v19_36, v19_37, v19_38, v19_39, v19_40]))] H := hP
      have hD : va_D A [(q_1925, .inl (cA_1925, 512, .inl fa19_shows)), (h0, .inr (16, [v19_0, v19_1, v19_2, v19_3, v19_4, v19_5, v19_6, v19_7, v19_8, v19_9, v19_10, v19_11, v19_12, v19_13, v19_14, v19_15, v19_16, v19_17, v19_18, v19_19, v19_20, v19_21, v19_22, v19_23, v19_24, .ref q_1925, v19_26, v19_27, v19_28, .int (zI (z19_shown)), v19_30, v19_31, v19_32, .int (zI (z0_2007)), v19_34, v19_35, v19_36, v19_37, v19_38, v19_39, v19_40]))] := hD
      have hK : va_K (dC, dI) vwQ [(cA_1925, .int)] s := hK
      refine W.widen (k := 0) (n := 0) (Nat.le_of_ble_eq_true rfl) (Nat.le_of_ble_eq_true rfl) ?_
      obtain ⟨rfl, hzz_2006⟩ := hw
      obtain ⟨rk_2008, hu_2008⟩ := hxt_2007
      subst hQ
      have hP := hP.sub (ws' := [(h0, .inr (16, [v19_0, v19_1, v19_2, v19_3, v19_4, v19_5, v19_6, v19_7, v19_8, v19_9, v19_10, v19_11, v19_12, v19_13, v19_14, v19_15, v19_16, v19_17, v19_18, v19_19, v19_20, v19_21, v19_22, v19_23, v19_24, .ref q_1925, v19_26, v19_27, v19_28, .int (zI (z19_shown)), v19_30, v19_31, v19_32, .int (zI (z0_2007)), v19_34, v19_35, v19_36, v19_37, v19_38, v19_39, v19_40])), (q_1925, .inl (cA_1925, 512, .inl fa19_shows))]) [1, 0] rfl
      have hD := hD.sub (ws' := [(h0, .inr (16, [v19_0, v19_1, v19_2, v19_3, v19_4, v19_5, v19_6, v19_7, v19_8, v19_9, v19_10, v19_11, v19_12, v19_13, v19_14, v19_15, v19_16, v19_17, v19_18, v19_19, v19_20, v19_21, v19_22, v19_23, v19_24, .ref q_1925, v19_26, v19_27, v19_28, .int (zI (z19_shown)), v19_30, v19_31, v19_32, .int (zI (z0_2007)), v19_34, v19_35, v19_36, v19_37, v19_38, v19_39, v19_40])), (q_1925, .inl (cA_1925, 512, .inl fa19_shows))]) [1, 0] (by decide) rfl
      refine W.widen (k := 0) (n := 0) (Nat.le_of_ble_eq_true rfl) (Nat.le_of_ble_eq_true rfl) ?_
      exact W.iret (v := (zI (z_2006))) hx hb hr (fun t ht hW => ⟨⟨(zI (z_2006)), (), rfl, trivial, z0_2007, (by omega), by rw [ht]; exact hP, va_K.moved hW.alike hK, hD⟩, hS.F ht⟩) hS.2.2 dX19_shown_31
    · have yb14 : ¬ (z19_shown : Int) ≤ (n0 : Int) := fun q => b14 ((zI_le (a := z19_shown) (b := n0) (by omega) (by omega) (by omega) (by omega)).mpr q)
      refine lv_aload_n hx hb dX19_shown_17 rfl (lv_at hl 0 rfl) ?_
      refine va_get (D := (dC, dI)) (ci := 16) (v := .ref q_1925) (C := RX19) (T := TX19) (N := 41) hx hb hts mem_X19_shown_0 hown hK hP 0 rfl rfl 25 (by decide) (ow (k := 6) rfl) (fun _ h9 => h9) rfl dX19_shown_18 ?_
      refine lv_iload_n hx hb dX19_shown_21 rfl (lv_at hl 1 rfl) ?_
      refine va_iald hx hb hK hP 1 0 rfl rfl (zI_in (a := n0) (n := 512) (by omega) (by omega) (by decide)) dX19_shown_22 ?_
      refine lv_topi (fun x_2009 _ => ?_)
      refine lv_goto (tgt := 31) hx hb dX19_shown_23 (by decide) ?_
      subst hQ
      refine W.widen (k := 0) (n := 0) (Nat.le_of_ble_eq_true rfl) (Nat.le_of_ble_eq_true rfl) ?_
      exact W.iret (v := x_2009) hx hb hr (fun t ht hW => ⟨⟨x_2009, (), rfl, trivial, 0, (by omega), by rw [ht]; exact hP, va_K.moved hW.alike hK, hD⟩, hS.F ht⟩) hS.2.2 dX19_shown_31
theorem dX19_end_0 : decode cX19_end 0 = .ok (.aload_n 0, 1) := by decide +kernel
theorem dX19_end_1 : decode cX19_end 1 = .ok (.iconst 0, 1) := by decide +kernel
theorem dX19_end_2 : decode cX19_end 2 = .ok (.putfield 560, 3) := by decide +kernel
theorem dX19_end_5 : decode cX19_end 5 = .ok (.iload_n 1, 1) := by decide +kernel
theorem dX19_end_6 : decode cX19_end 6 = .ok (.ifCond .lt 11, 3) := by decide +kernel
theorem dX19_end_17 : decode cX19_end 17 = .ok (.aload_n 0, 1) := by decide +kernel
theorem dX19_end_18 : decode cX19_end 18 = .ok (.iconst 1, 1) := by decide +kernel
theorem dX19_end_19 : decode cX19_end 19 = .ok (.invokevirtual 565, 3) := by decide +kernel
theorem dX19_end_22 : decode cX19_end 22 = .ok (.ireturn, 1) := by decide +kernel
theorem dX19_end_9 : decode cX19_end 9 = .ok (.iload_n 1, 1) := by decide +kernel
theorem dX19_end_10 : decode cX19_end 10 = .ok (.aload_n 0, 1) := by decide +kernel
theorem dX19_end_11 : decode cX19_end 11 = .ok (.getfield 563, 3) := by decide +kernel
theorem dX19_end_14 : decode cX19_end 14 = .ok (.if_icmp .le 9, 3) := by decide +kernel
theorem dX19_end_23 : decode cX19_end 23 = .ok (.aload_n 0, 1) := by decide +kernel
theorem dX19_end_24 : decode cX19_end 24 = .ok (.iload_n 1, 1) := by decide +kernel
theorem dX19_end_25 : decode cX19_end 25 = .ok (.putfield 563, 3) := by decide +kernel
theorem dX19_end_28 : decode cX19_end 28 = .ok (.iload_n 1, 1) := by decide +kernel
theorem dX19_end_29 : decode cX19_end 29 = .ok (.ireturn, 1) := by decide +kernel
def o_X19_end : List Cond := [.fieldLink RX19 560 "SsaForgeModel" "thrown" "I", .methodLink RX19 565 yX19_no, .instanceMethod yX19_no, .selects RX19 yX19_no yX19_no, .initialized RX19, .fieldLink RX19 563 "SsaForgeModel" "size" "I"]
def v_X19_end : List Cond := .code yX19_end cX19_end 2 (some .int) :: (o_X19_end ++ (wsX190 ++ (v_X19_no ++ [])))
theorem mow_X19_end : ∀ w ∈ o_X19_end, w ∈ v_X19_end := fun _ h => List.mem_cons_of_mem _ (List.mem_append_left _ h)
theorem mem_X19_end_0 : ∀ w ∈ wsX190, w ∈ v_X19_end := fun _ h => List.mem_cons_of_mem _ (List.mem_append_right _ (List.mem_append_left _ h))
theorem mem_X19_end_1 : ∀ w ∈ v_X19_no, w ∈ v_X19_end := fun _ h => List.mem_cons_of_mem _ (List.mem_append_right _ (List.mem_append_right _ (List.mem_append_left _ h)))
set_option maxRecDepth 20000 in
theorem gw_X19_end : v_X19_end.all goodWord = true := by decide +kernel
set_option maxRecDepth 20000 in
theorem g_X19_end_X19_no : GoodIn v_X19_end (wsV RX19 565 RX19 yX19_no v_X19_no) := goodIn_app (goodIn_sub (fun w h => mow_X19_end w (by revert w h; decide +kernel)) (by decide +kernel)) (goodIn_sub mem_X19_end_1 gw_X19_no)
set_option maxHeartbeats 4000000 in
set_option maxRecDepth 100000 in
theorem c_X19_end (l : Launch) (dC : Nat → ClassId) (dI : Nat → Nat → Nat) (h0 : Nat) (v19_0 : Value) (v19_1 : Value) (v19_2 : Value) (v19_3 : Value) (v19_4 : Value) (v19_5 : Value) (v19_6 : Value) (v19_7 : Value) (v19_8 : Value) (v19_9 : Value) (v19_10 : Value) (v19_11 : Value) (v19_12 : Value) (v19_13 : Value) (v19_14 : Value) (v19_15 : Value) (v19_16 : Value) (v19_17 : Value) (v19_18 : Value) (v19_19 : Value) (v19_20 : Value) (v19_21 : Value) (v19_22 : Value) (v19_23 : Value) (v19_24 : Value) (v19_25 : Value) (v19_26 : Value) (v19_27 : Value) (v19_28 : Value) (v19_29 : Value) (v19_30 : Value) (v19_31 : Value) (v19_32 : Value) (z19_thrown : Int) (v19_34 : Value) (z19_size : Int) (v19_36 : Value) (v19_37 : Value) (v19_38 : Value) (v19_39 : Value) (v19_40 : Value) (n0 : Int) (hNz19_thrown : 0 ≤ z19_thrown ∧ z19_thrown ≤ 2) (hNz19_size : 0 ≤ z19_size ∧ z19_size ≤ 8192) (hNn : -2147483648 ≤ n0 ∧ n0 ≤ 2147483647) (sz : Nat) : Met l yX19_end v_X19_end ({ frames := 1, cells := 0, slots := 0, locals := 21 }) (va_Pc [.ref h0, .int (zI (n0))] (fun U => U.heap.size = sz ∧ va_P (dC, dI) vwQ [(h0, .inr (16, [v19_0, v19_1, v19_2, v19_3, v19_4, v19_5, v19_6, v19_7, v19_8, v19_9, v19_10, v19_11, v19_12, v19_13, v19_14, v19_15, v19_16, v19_17, v19_18, v19_19, v19_20, v19_21, v19_22, v19_23, v19_24, v19_25, v19_26, v19_27, v19_28, v19_29, v19_30, v19_31, v19_32, .int (zI (z19_thrown)), v19_34, .int (zI (z19_size)), v19_36, v19_37, v19_38, v19_39, v19_40]))] U.heap ∧ va_K (dC, dI) vwQ [] U ∧ va_D (fun _ => True) [(h0, .inr (16, [v19_0, v19_1, v19_2, v19_3, v19_4, v19_5, v19_6, v19_7, v19_8, v19_9, v19_10, v19_11, v19_12, v19_13, v19_14, v19_15, v19_16, v19_17, v19_18, v19_19, v19_20, v19_21, v19_22, v19_23, v19_24, v19_25, v19_26, v19_27, v19_28, v19_29, v19_30, v19_31, v19_32, .int (zI (z19_thrown)), v19_34, .int (zI (z19_size)), v19_36, v19_37, v19_38, v19_39, v19_40]))])) (va_Qi (fun (r : Int32) (_ : Unit) => True) (fun (_ : Unit) (t : State) => ∃ (z0_9 : Int) (z1_9 : Int), ((0 ≤ z0_9 ∧ z0_9 ≤ 2) ∧ (0 ≤ z1_9 ∧ z1_9 ≤ 8192) ∧ ((0 ≤ n0 ∧ n0 ≤ z19_size → z1_9 = n0 ∧ z0_9 = 0) ∧ (n0 < 0 ∨ z19_size < n0 → z1_9 = z19_size ∧ z0_9 = 1))) ∧ va_P (dC, dI) vwQ [(h0, .inr (16, [v19_0, v19_1, v19_2, v19_3, v19_4, v19_5, v19_6, v19_7, v19_8, v19_9, v19_10, v19_11, v19_12, v19_13, v19_14, v19_15, v19_16, v19_17, v19_18, v19_19, v19_20, v19_21, v19_22, v19_23, v19_24, v19_25, v19_26, v19_27, v19_28, v19_29, v19_30, v19_31, v19_32, .int (zI (z0_9)), v19_34, .int (zI (z1_9)), v19_36, v19_37, v19_38, v19_39, v19_40]))] t.heap ∧ va_K (dC, dI) vwQ [] t ∧ va_D (va_A [(h0, .inr (16, [v19_0, v19_1, v19_2, v19_3, v19_4, v19_5, v19_6, v19_7, v19_8, v19_9, v19_10, v19_11, v19_12, v19_13, v19_14, v19_15, v19_16, v19_17, v19_18, v19_19, v19_20, v19_21, v19_22, v19_23, v19_24, v19_25, v19_26, v19_27, v19_28, v19_29, v19_30, v19_31, v19_32, .int (zI (z19_thrown)), v19_34, .int (zI (z19_size)), v19_36, v19_37, v19_38, v19_39, v19_40]))] sz) [(h0, .inr (16, [v19_0, v19_1, v19_2, v19_3, v19_4, v19_5, v19_6, v19_7, v19_8, v19_9, v19_10, v19_11, v19_12, v19_13, v19_14, v19_15, v19_16, v19_17, v19_18, v19_19, v19_20, v19_21, v19_22, v19_23, v19_24, v19_25, v19_26, v19_27, v19_28, v19_29, v19_30, v19_31, v19_32, .int (zI (z0_9)), v19_34, .int (zI (z1_9)), v19_36, v19_37, v19_38, v19_39, v19_40]))]) (va_A [(h0, .inr (16, [v19_0, v19_1, v19_2, v19_3, v19_4, v19_5, v19_6, v19_7, v19_8, v19_9, v19_10, v19_11, v19_12, v19_13, v19_14, v19_15, v19_16, v19_17, v19_18, v19_19, v19_20, v19_21, v19_22, v19_23, v19_24, v19_25, v19_26, v19_27, v19_28, v19_29, v19_30, v19_31, v19_32, .int (zI (z19_thrown)), v19_34, .int (zI (z19_size)), v19_36, v19_37, v19_38, v19_39, v19_40]))] sz)) 0 0 (va_A [(h0, .inr (16, [v19_0, v19_1, v19_2, v19_3, v19_4, v19_5, v19_6, v19_7, v19_8, v19_9, v19_10, v19_11, v19_12, v19_13, v19_14, v19_15, v19_16, v19_17, v19_18, v19_19, v19_20, v19_21, v19_22, v19_23, v19_24, v19_25, v19_26, v19_27, v19_28, v19_29, v19_30, v19_31, v19_32, .int (zI (z19_thrown)), v19_34, .int (zI (z19_size)), v19_36, v19_37, v19_38, v19_39, v19_40]))] sz) := by
  refine Met.ofW (cc := cX19_end) (maxL := 2) (ret := (some .int)) (by decide) rfl ?_
  intro p e s m args below meth c s₁ B hml hv
  obtain ⟨rfl, hsz, hP, hK, hD0⟩ := hv
  have hx := B.exec
  have hb := B.bytes
  have hr := B.returns
  have hts := atoms_spec (ws := v_X19_end) B.pre
  have hown : s.vm.findClass RX19 = some m.cls := findClass_of_methodNamed B.named
  have hlocks := B.notSynchronized
  have ow : ∀ {k : Nat} {w : Cond}, o_X19_end[k]? = some w → w.before ([.ref h0, .int (zI (n0))] : List Value).toArray s = true := fun h => hts _ (mow_X19_end _ (List.mem_of_getElem? h))
  subst hsz
  have hD := hD0.self (sz := s.heap.size)
  generalize hAe : va_A [(h0, .inr (16, [v19_0, v19_1, v19_2, v19_3, v19_4, v19_5, v19_6, v19_7, v19_8, v19_9, v19_10, v19_11, v19_12, v19_13, v19_14, v19_15, v19_16, v19_17, v19_18, v19_19, v19_20, v19_21, v19_22, v19_23, v19_24, v19_25, v19_26, v19_27, v19_28, v19_29, v19_30, v19_31, v19_32, .int (zI (z19_thrown)), v19_34, .int (zI (z19_size)), v19_36, v19_37, v19_38, v19_39, v19_40]))] s.heap.size = A at hD ⊢
  have hA : ∀ q : Nat, s.heap.size ≤ q → A q := fun q h => by rw [← hAe]; exact Or.inr h
  have hS : va_S A s.heap s.heap [] := va_S.rf
  have hP : va_P (dC, dI) vwQ [(h0, .inr (16, [v19_0, v19_1, v19_2, v19_3, v19_4, v19_5, v19_6, v19_7, v19_8, v19_9, v19_10, v19_11, v19_12, v19_13, v19_14, v19_15, v19_16, v19_17, v19_18, v19_19, v19_20, v19_21, v19_22, v19_23, v19_24, v19_25, v19_26, v19_27, v19_28, v19_29, v19_30, v19_31, v19_32, .int (zI (z19_thrown)), v19_34, .int (zI (z19_size)), v19_36, v19_37, v19_38, v19_39, v19_40]))] s.heap := hP
  have hl := lv_entry ([.ref h0, .int (zI (n0))]) (n := 2) (Nat.le_of_ble_eq_true rfl)
  rw [lg_entry_eq]
  generalize (lg_sl ([.ref h0, .int (zI (n0))]) ++ List.replicate (2 - (lg_sl ([.ref h0, .int (zI (n0))])).length) Slot.unset).toArray = ls at hl ⊢
  have hl : lv_has ls 2 [(0, .ref h0), (1, .int (zI (n0)))] := hl
  obtain ⟨H, hH⟩ : ∃ H, H = s.heap := ⟨_, rfl⟩
  rw [← hH] at hP
  have hS : va_S A s.heap H [] := by rw [hH]; exact hS
  rw [← hH]
  refine zW_cap (fun Q hQ => ?_)
  refine lv_aload_n hx hb dX19_end_0 rfl (lv_at hl 0 rfl) ?_
  refine lv_iconst (v := 0) hx hb dX19_end_1 (by decide) ?_
  refine va_put (D := (dC, dI)) (ci := 16) (v := .int 0) (ty := .int) (C := RX19) (T := TX19) (N := 41) hx hb hts mem_X19_end_0 tyX19 tyX19_ok nmX19 hown hK hP hD hS 0 rfl rfl 33 (by decide) (ow (k := 0) rfl) (fun _ h9 => h9) rfl (by decide +kernel) rfl rfl (Nat.le_of_ble_eq_true rfl) dX19_end_2 (fun H locs hP hD hS => ?_)
  have hP : va_P (dC, dI) vwQ [(h0, .inr (16, [v19_0, v19_1, v19_2, v19_3, v19_4, v19_5, v19_6, v19_7, v19_8, v19_9, v19_10, v19_11, v19_12, v19_13, v19_14, v19_15, v19_16, v19_17, v19_18, v19_19, v19_20, v19_21, v19_22, v19_23, v19_24, v19_25, v19_26, v19_27, v19_28, v19_29, v19_30, v19_31, v19_32, .int 0, v19_34, .int (zI (z19_size)), v19_36, v19_37, v19_38, v19_39, v19_40]))] H := hP
  have hD : va_D A [(h0, .inr (16, [v19_0, v19_1, v19_2, v19_3, v19_4, v19_5, v19_6, v19_7, v19_8, v19_9, v19_10, v19_11, v19_12, v19_13, v19_14, v19_15, v19_16, v19_17, v19_18, v19_19, v19_20, v19_21, v19_22, v19_23, v19_24, v19_25, v19_26, v19_27, v19_28, v19_29, v19_30, v19_31, v19_32, .int 0, v19_34, .int (zI (z19_size)), v19_36, v19_37, v19_38, v19_39, v19_40]))] := hD
  refine lv_iload_n hx hb dX19_end_5 rfl (lv_at hl 1 rfl) ?_
  refine lv_if_lt (tgt := 17) hx hb dX19_end_6 (by decide) (fun b6 => ?_) (fun b6 => ?_)
  · have yb6 : (n0 : Int) < (0 : Int) := (zI_lt (a := n0) (b := 0) (by omega) (by omega) (by omega) (by omega)).mp b6
    refine lv_aload_n hx hb dX19_end_17 rfl (lv_at hl 0 rfl) ?_
    refine lv_iconst (v := 1) hx hb dX19_end_18 (by decide) ?_
    have hPc := hP.sub (ws' := [(h0, .inr (16, [v19_0, v19_1, v19_2, v19_3, v19_4, v19_5, v19_6, v19_7, v19_8, v19_9, v19_10, v19_11, v19_12, v19_13, v19_14, v19_15, v19_16, v19_17, v19_18, v19_19, v19_20, v19_21, v19_22, v19_23, v19_24, v19_25, v19_26, v19_27, v19_28, v19_29, v19_30, v19_31, v19_32, .int (zI (0)), v19_34, .int (zI (z19_size)), v19_36, v19_37, v19_38, v19_39, v19_40]))]) [0] rfl
    have hDc := hD.sub (ws' := [(h0, .inr (16, [v19_0, v19_1, v19_2, v19_3, v19_4, v19_5, v19_6, v19_7, v19_8, v19_9, v19_10, v19_11, v19_12, v19_13, v19_14, v19_15, v19_16, v19_17, v19_18, v19_19, v19_20, v19_21, v19_22, v19_23, v19_24, v19_25, v19_26, v19_27, v19_28, v19_29, v19_30, v19_31, v19_32, .int (zI (0)), v19_34, .int (zI (z19_size)), v19_36, v19_37, v19_38, v19_39, v19_40]))]) [0] (by decide) rfl
    have hKc := hK.sub (tys' := []) [] rfl
    have hFc := va_free (wc := [(h0, .inr (16, [v19_0, v19_1, v19_2, v19_3, v19_4, v19_5, v19_6, v19_7, v19_8, v19_9, v19_10, v19_11, v19_12, v19_13, v19_14, v19_15, v19_16, v19_17, v19_18, v19_19, v19_20, v19_21, v19_22, v19_23, v19_24, v19_25, v19_26, v19_27, v19_28, v19_29, v19_30, v19_31, v19_32, .int (zI (0)), v19_34, .int (zI (z19_size)), v19_36, v19_37, v19_38, v19_39, v19_40]))]) hD hS hA [0] rfl
    refine va_calli (va_runV (As := [.int 1]) (rest := []) ⟨hx, hb, hml, hown, hts⟩ (c_X19_no l dC dI h0 v19_0 v19_1 v19_2 v19_3 v19_4 v19_5 v19_6 v19_7 v19_8 v19_9 v19_10 v19_11 v19_12 v19_13 v19_14 v19_15 v19_16 v19_17 v19_18 v19_19 v19_20 v19_21 v19_22 v19_23 v19_24 v19_25 v19_26 v19_27 v19_28 v19_29 v19_30 v19_31 v19_32 0 v19_34 (.int (zI (z19_size))) v19_36 v19_37 v19_38 v19_39 v19_40 1 (by omega) (by omega) H.size) (cwV 1 hts g_X19_end_X19_no rfl rfl rfl (by decide +kernel) ⟨(Nat.le_of_ble_eq_true rfl), (Nat.le_of_ble_eq_true rfl)⟩) ⟨fun a U g mk q => by obtain ⟨q0, q1, qP, qK, qD⟩ := q; exact ⟨q0, q1, qP, va_K.moved (u := U) (U := U.calling g mk a) (Vm.Alike.refl U.vm) qK, qD⟩, va_recv hKc hPc (ci := 16) (q0 := 0) rfl rfl, fun U hU hW => ⟨rfl, by rw [hU], by rw [hU]; exact hPc, va_K.moved hW.alike hKc, hDc.weaken (fun _ _ _ _ => trivial)⟩⟩ rfl rfl hl.1 rfl (lv_room (Nat.le_of_ble_eq_true rfl)) dX19_end_19 ⟨(Nat.le_of_ble_eq_true rfl), (Nat.le_of_ble_eq_true rfl)⟩) hS (fun q _ h => hFc q h) hFc (fun r_1 z_2 t H1 locs ht hvm hw hB hz1 hk1 hS => ?_)
    obtain ⟨z0_3, hxt_3, hP1, hK1, hD1⟩ := hB
    rw [ht] at hP1
    have hK1 := va_K.moved hvm.symm hK1
    obtain ⟨hP, hD⟩ := va_join (wr := []) (w1 := [(h0, .inr (16, [v19_0, v19_1, v19_2, v19_3, v19_4, v19_5, v19_6, v19_7, v19_8, v19_9, v19_10, v19_11, v19_12, v19_13, v19_14, v19_15, v19_16, v19_17, v19_18, v19_19, v19_20, v19_21, v19_22, v19_23, v19_24, v19_25, v19_26, v19_27, v19_28, v19_29, v19_30, v19_31, v19_32, .int (zI (z0_3)), v19_34, .int (zI (z19_size)), v19_36, v19_37, v19_38, v19_39, v19_40]))]) hP hD [0] [] rfl rfl (by decide) (by decide) hk1 hFc hP1 hD1
    have hK := (hK.sub (tys' := []) [] rfl).app hK1
    generalize H1 = H at hP hS ⊢
    have hP : va_P (dC, dI) vwQ [(h0, .inr (16, [v19_0, v19_1, v19_2, v19_3, v19_4, v19_5, v19_6, v19_7, v19_8, v19_9, v19_10, v19_11, v19_12, v19_13, v19_14, v19_15, v19_16, v19_17, v19_18, v19_19, v19_20, v19_21, v19_22, v19_23, v19_24, v19_25, v19_26, v19_27, v19_28, v19_29, v19_30, v19_31, v19_32, .int (zI (z0_3)), v19_34, .int (zI (z19_size)), v19_36, v19_37, v19_38, v19_39, v19_40]))] H := hP
    have hD : va_D A [(h0, .inr (16, [v19_0, v19_1, v19_2, v19_3, v19_4, v19_5, v19_6, v19_7, v19_8, v19_9, v19_10, v19_11, v19_12, v19_13, v19_14, v19_15, v19_16, v19_17, v19_18, v19_19, v19_20, v19_21, v19_22, v19_23, v19_24, v19_25, v19_26, v19_27, v19_28, v19_29, v19_30, v19_31, v19_32, .int (zI (z0_3)), v19_34, .int (zI (z19_size)), v19_36, v19_37, v19_38, v19_39, v19_40]))] := hD
    have hK : va_K (dC, dI) vwQ [] s := hK
    refine W.widen (k := 0) (n := 0) (Nat.le_of_ble_eq_true rfl) (Nat.le_of_ble_eq_true rfl) ?_
    obtain ⟨rfl, hzz_2⟩ := hw
    obtain ⟨rk_4, hu_4⟩ := hxt_3
    subst hQ
    refine W.widen (k := 0) (n := 0) (Nat.le_of_ble_eq_true rfl) (Nat.le_of_ble_eq_true rfl) ?_
    exact W.iret (v := (zI (z_2))) hx hb hr (fun t ht hW => ⟨⟨(zI (z_2)), (), rfl, trivial, z0_3, z19_size, ⟨(by omega), (by omega), ⟨fun q9 => by omega, fun q9 => by omega⟩⟩, by rw [ht]; exact hP, va_K.moved hW.alike hK, hD⟩, hS.F ht⟩) hS.2.2 dX19_end_22
  · have yb6 : ¬ (n0 : Int) < (0 : Int) := fun q => b6 ((zI_lt (a := n0) (b := 0) (by omega) (by omega) (by omega) (by omega)).mpr q)
    refine lv_iload_n hx hb dX19_end_9 rfl (lv_at hl 1 rfl) ?_
    refine lv_aload_n hx hb dX19_end_10 rfl (lv_at hl 0 rfl) ?_
    refine va_get (D := (dC, dI)) (ci := 16) (v := .int (zI (z19_size))) (C := RX19) (T := TX19) (N := 41) hx hb hts mem_X19_end_0 hown hK hP 0 rfl rfl 35 (by decide) (ow (k := 5) rfl) (fun _ h9 => h9) rfl dX19_end_11 ?_
    refine lv_icmp_le (tgt := 23) hx hb dX19_end_14 (by decide) (fun b14 => ?_) (fun b14 => ?_)
    · have yb14 : (n0 : Int) ≤ (z19_size : Int) := (zI_le (a := n0) (b := z19_size) (by omega) (by omega) (by omega) (by omega)).mp b14
      refine lv_aload_n hx hb dX19_end_23 rfl (lv_at hl 0 rfl) ?_
      refine lv_iload_n hx hb dX19_end_24 rfl (lv_at hl 1 rfl) ?_
      refine va_put (D := (dC, dI)) (ci := 16) (v := .int (zI (n0))) (ty := .int) (C := RX19) (T := TX19) (N := 41) hx hb hts mem_X19_end_0 tyX19 tyX19_ok nmX19 hown hK hP hD hS 0 rfl rfl 35 (by decide) (ow (k := 5) rfl) (fun _ h9 => h9) rfl (by decide +kernel) rfl rfl (Nat.le_of_ble_eq_true rfl) dX19_end_25 (fun H locs hP hD hS => ?_)
      have hP : va_P (dC, dI) vwQ [(h0, .inr (16, [v19_0, v19_1, v19_2, v19_3, v19_4, v19_5, v19_6, v19_7, v19_8, v19_9, v19_10, v19_11, v19_12, v19_13, v19_14, v19_15, v19_16, v19_17, v19_18, v19_19, v19_20, v19_21, v19_22, v19_23, v19_24, v19_25, v19_26, v19_27, v19_28, v19_29, v19_30, v19_31, v19_32, .int 0, v19_34, .int (zI (n0)), v19_36, v19_37, v19_38, v19_39, v19_40]))] H := hP
      have hD : va_D A [(h0, .inr (16, [v19_0, v19_1, v19_2, v19_3, v19_4, v19_5, v19_6, v19_7, v19_8, v19_9, v19_10, v19_11, v19_12, v19_13, v19_14, v19_15, v19_16, v19_17, v19_18, v19_19, v19_20, v19_21, v19_22, v19_23, v19_24, v19_25, v19_26, v19_27, v19_28, v19_29, v19_30, v19_31, v19_32, .int 0, v19_34, .int (zI (n0)), v19_36, v19_37, v19_38, v19_39, v19_40]))] := hD
      refine lv_iload_n hx hb dX19_end_28 rfl (lv_at hl 1 rfl) ?_
      subst hQ
      refine W.widen (k := 0) (n := 0) (Nat.le_of_ble_eq_true rfl) (Nat.le_of_ble_eq_true rfl) ?_
      exact W.iret (v := (zI (n0))) hx hb hr (fun t ht hW => ⟨⟨(zI (n0)), (), rfl, trivial, 0, n0, ⟨(by omega), (by omega), ⟨fun q9 => by omega, fun q9 => by omega⟩⟩, by rw [ht]; exact hP, va_K.moved hW.alike hK, hD⟩, hS.F ht⟩) hS.2.2 dX19_end_29
    · have yb14 : ¬ (n0 : Int) ≤ (z19_size : Int) := fun q => b14 ((zI_le (a := n0) (b := z19_size) (by omega) (by omega) (by omega) (by omega)).mpr q)
      refine lv_aload_n hx hb dX19_end_17 rfl (lv_at hl 0 rfl) ?_
      refine lv_iconst (v := 1) hx hb dX19_end_18 (by decide) ?_
      have hPc := hP.sub (ws' := [(h0, .inr (16, [v19_0, v19_1, v19_2, v19_3, v19_4, v19_5, v19_6, v19_7, v19_8, v19_9, v19_10, v19_11, v19_12, v19_13, v19_14, v19_15, v19_16, v19_17, v19_18, v19_19, v19_20, v19_21, v19_22, v19_23, v19_24, v19_25, v19_26, v19_27, v19_28, v19_29, v19_30, v19_31, v19_32, .int (zI (0)), v19_34, .int (zI (z19_size)), v19_36, v19_37, v19_38, v19_39, v19_40]))]) [0] rfl
      have hDc := hD.sub (ws' := [(h0, .inr (16, [v19_0, v19_1, v19_2, v19_3, v19_4, v19_5, v19_6, v19_7, v19_8, v19_9, v19_10, v19_11, v19_12, v19_13, v19_14, v19_15, v19_16, v19_17, v19_18, v19_19, v19_20, v19_21, v19_22, v19_23, v19_24, v19_25, v19_26, v19_27, v19_28, v19_29, v19_30, v19_31, v19_32, .int (zI (0)), v19_34, .int (zI (z19_size)), v19_36, v19_37, v19_38, v19_39, v19_40]))]) [0] (by decide) rfl
      have hKc := hK.sub (tys' := []) [] rfl
      have hFc := va_free (wc := [(h0, .inr (16, [v19_0, v19_1, v19_2, v19_3, v19_4, v19_5, v19_6, v19_7, v19_8, v19_9, v19_10, v19_11, v19_12, v19_13, v19_14, v19_15, v19_16, v19_17, v19_18, v19_19, v19_20, v19_21, v19_22, v19_23, v19_24, v19_25, v19_26, v19_27, v19_28, v19_29, v19_30, v19_31, v19_32, .int (zI (0)), v19_34, .int (zI (z19_size)), v19_36, v19_37, v19_38, v19_39, v19_40]))]) hD hS hA [0] rfl
      refine va_calli (va_runV (As := [.int 1]) (rest := []) ⟨hx, hb, hml, hown, hts⟩ (c_X19_no l dC dI h0 v19_0 v19_1 v19_2 v19_3 v19_4 v19_5 v19_6 v19_7 v19_8 v19_9 v19_10 v19_11 v19_12 v19_13 v19_14 v19_15 v19_16 v19_17 v19_18 v19_19 v19_20 v19_21 v19_22 v19_23 v19_24 v19_25 v19_26 v19_27 v19_28 v19_29 v19_30 v19_31 v19_32 0 v19_34 (.int (zI (z19_size))) v19_36 v19_37 v19_38 v19_39 v19_40 1 (by omega) (by omega) H.size) (cwV 1 hts g_X19_end_X19_no rfl rfl rfl (by decide +kernel) ⟨(Nat.le_of_ble_eq_true rfl), (Nat.le_of_ble_eq_true rfl)⟩) ⟨fun a U g mk q => by obtain ⟨q0, q1, qP, qK, qD⟩ := q; exact ⟨q0, q1, qP, va_K.moved (u := U) (U := U.calling g mk a) (Vm.Alike.refl U.vm) qK, qD⟩, va_recv hKc hPc (ci := 16) (q0 := 0) rfl rfl, fun U hU hW => ⟨rfl, by rw [hU], by rw [hU]; exact hPc, va_K.moved hW.alike hKc, hDc.weaken (fun _ _ _ _ => trivial)⟩⟩ rfl rfl hl.1 rfl (lv_room (Nat.le_of_ble_eq_true rfl)) dX19_end_19 ⟨(Nat.le_of_ble_eq_true rfl), (Nat.le_of_ble_eq_true rfl)⟩) hS (fun q _ h => hFc q h) hFc (fun r_5 z_6 t H1 locs ht hvm hw hB hz1 hk1 hS => ?_)
      obtain ⟨z0_7, hxt_7, hP1, hK1, hD1⟩ := hB
      rw [ht] at hP1
      have hK1 := va_K.moved hvm.symm hK1
      obtain ⟨hP, hD⟩ := va_join (wr := []) (w1 := [(h0, .inr (16, [v19_0, v19_1, v19_2, v19_3, v19_4, v19_5, v19_6, v19_7, v19_8, v19_9, v19_10, v19_11, v19_12, v19_13, v19_14, v19_15, v19_16, v19_17, v19_18, v19_19, v19_20, v19_21, v19_22, v19_23, v19_24, v19_25, v19_26, v19_27, v19_28, v19_29, v19_30, v19_31, v19_32, .int (zI (z0_7)), v19_34, .int (zI (z19_size)), v19_36, v19_37, v19_38, v19_39, v19_40]))]) hP hD [0] [] rfl rfl (by decide) (by decide) hk1 hFc hP1 hD1
      have hK := (hK.sub (tys' := []) [] rfl).app hK1
      generalize H1 = H at hP hS ⊢
      have hP : va_P (dC, dI) vwQ [(h0, .inr (16, [v19_0, v19_1, v19_2, v19_3, v19_4, v19_5, v19_6, v19_7, v19_8, v19_9, v19_10, v19_11, v19_12, v19_13, v19_14, v19_15, v19_16, v19_17, v19_18, v19_19, v19_20, v19_21, v19_22, v19_23, v19_24, v19_25, v19_26, v19_27, v19_28, v19_29, v19_30, v19_31, v19_32, .int (zI (z0_7)), v19_34, .int (zI (z19_size)), v19_36, v19_37, v19_38, v19_39, v19_40]))] H := hP
      have hD : va_D A [(h0, .inr (16, [v19_0, v19_1, v19_2, v19_3, v19_4, v19_5, v19_6, v19_7, v19_8, v19_9, v19_10, v19_11, v19_12, v19_13, v19_14, v19_15, v19_16, v19_17, v19_18, v19_19, v19_20, v19_21, v19_22, v19_23, v19_24, v19_25, v19_26, v19_27, v19_28, v19_29, v19_30, v19_31, v19_32, .int (zI (z0_7)), v19_34, .int (zI (z19_size)), v19_36, v19_37, v19_38, v19_39, v19_40]))] := hD
      have hK : va_K (dC, dI) vwQ [] s := hK
      refine W.widen (k := 0) (n := 0) (Nat.le_of_ble_eq_true rfl) (Nat.le_of_ble_eq_true rfl) ?_
      obtain ⟨rfl, hzz_6⟩ := hw
      obtain ⟨rk_8, hu_8⟩ := hxt_7
      subst hQ
      refine W.widen (k := 0) (n := 0) (Nat.le_of_ble_eq_true rfl) (Nat.le_of_ble_eq_true rfl) ?_
      exact W.iret (v := (zI (z_6))) hx hb hr (fun t ht hW => ⟨⟨(zI (z_6)), (), rfl, trivial, z0_7, z19_size, ⟨(by omega), (by omega), ⟨fun q9 => by omega, fun q9 => by omega⟩⟩, by rw [ht]; exact hP, va_K.moved hW.alike hK, hD⟩, hS.F ht⟩) hS.2.2 dX19_end_22
theorem dX19_stateOf_0 : decode cX19_stateOf 0 = .ok (.iload_n 1, 1) := by decide +kernel
theorem dX19_stateOf_1 : decode cX19_stateOf 1 = .ok (.ifCond .eq 12, 3) := by decide +kernel
theorem dX19_stateOf_13 : decode cX19_stateOf 13 = .ok (.iconst 1, 1) := by decide +kernel
theorem dX19_stateOf_14 : decode cX19_stateOf 14 = .ok (.ireturn, 1) := by decide +kernel
theorem dX19_stateOf_4 : decode cX19_stateOf 4 = .ok (.aload_n 0, 1) := by decide +kernel
theorem dX19_stateOf_5 : decode cX19_stateOf 5 = .ok (.getfield 220, 3) := by decide +kernel
theorem dX19_stateOf_8 : decode cX19_stateOf 8 = .ok (.iload_n 2, 1) := by decide +kernel
theorem dX19_stateOf_9 : decode cX19_stateOf 9 = .ok (.iaload, 1) := by decide +kernel
theorem dX19_stateOf_10 : decode cX19_stateOf 10 = .ok (.goto 4, 3) := by decide +kernel
def o_X19_stateOf : List Cond := [.fieldLink RX19 220 "SsaForgeModel" "state" "[I"]
def v_X19_stateOf : List Cond := .code yX19_stateOf cX19_stateOf 3 (some .int) :: (o_X19_stateOf ++ (wsX190 ++ []))
theorem mow_X19_stateOf : ∀ w ∈ o_X19_stateOf, w ∈ v_X19_stateOf := fun _ h => List.mem_cons_of_mem _ (List.mem_append_left _ h)
theorem mem_X19_stateOf_0 : ∀ w ∈ wsX190, w ∈ v_X19_stateOf := fun _ h => List.mem_cons_of_mem _ (List.mem_append_right _ (List.mem_append_left _ h))
set_option maxRecDepth 20000 in
theorem gw_X19_stateOf : v_X19_stateOf.all goodWord = true := by decide +kernel
set_option maxHeartbeats 4000000 in
set_option maxRecDepth 100000 in
theorem c_X19_stateOf (l : Launch) (dC : Nat → ClassId) (dI : Nat → Nat → Nat) (h0 : Nat) (v19_0 : Value) (v19_1 : Value) (v19_2 : Value) (v19_3 : Value) (v19_4 : Value) (v19_5 : Value) (v19_6 : Value) (q_1907 : Nat) (cA_1907 : ClassId) (a19_state : Int → Int) (v19_8 : Value) (v19_9 : Value) (v19_10 : Value) (v19_11 : Value) (v19_12 : Value) (v19_13 : Value) (v19_14 : Value) (v19_15 : Value) (v19_16 : Value) (v19_17 : Value) (v19_18 : Value) (v19_19 : Value) (v19_20 : Value) (v19_21 : Value) (v19_22 : Value) (v19_23 : Value) (v19_24 : Value) (v19_25 : Value) (v19_26 : Value) (v19_27 : Value) (v19_28 : Value) (v19_29 : Value) (v19_30 : Value) (v19_31 : Value) (v19_32 : Value) (v19_33 : Value) (v19_34 : Value) (v19_35 : Value) (v19_36 : Value) (v19_37 : Value) (v19_38 : Value) (v19_39 : Value) (v19_40 : Value) (g : Int) (v : Int) (hR_a19_state : ∀ j : Int, 0 ≤ a19_state j ∧ a19_state j ≤ 2) (hNg : 0 ≤ g ∧ g ≤ 1) (hNv : -2147483648 ≤ v ∧ v ≤ 2147483647) (hNr : g = 0 ∨ (0 ≤ v ∧ v ≤ 1001)) (sz : Nat) : Met l yX19_stateOf v_X19_stateOf ({ frames := 0, cells := 0, slots := 0, locals := 0 }) (va_Pc [.ref h0, .int (zI (g)), .int (zI (v))] (fun U => U.heap.size = sz ∧ va_P (dC, dI) vwQ [(h0, .inr (16, [v19_0, v19_1, v19_2, v19_3, v19_4, v19_5, v19_6, .ref q_1907, v19_8, v19_9, v19_10, v19_11, v19_12, v19_13, v19_14, v19_15, v19_16, v19_17, v19_18, v19_19, v19_20, v19_21, v19_22, v19_23, v19_24, v19_25, v19_26, v19_27, v19_28, v19_29, v19_30, v19_31, v19_32, v19_33, v19_34, v19_35, v19_36, v19_37, v19_38, v19_39, v19_40])), (q_1907, .inl (cA_1907, 1002, .inl (fun j : Nat => zI (a19_state (j : Int)))))] U.heap ∧ va_K (dC, dI) vwQ [(cA_1907, .int)] U ∧ va_D (fun _ => True) [(h0, .inr (16, [v19_0, v19_1, v19_2, v19_3, v19_4, v19_5, v19_6, .ref q_1907, v19_8, v19_9, v19_10, v19_11, v19_12, v19_13, v19_14, v19_15, v19_16, v19_17, v19_18, v19_19, v19_20, v19_21, v19_22, v19_23, v19_24, v19_25, v19_26, v19_27, v19_28, v19_29, v19_30, v19_31, v19_32, v19_33, v19_34, v19_35, v19_36, v19_37, v19_38, v19_39, v19_40])), (q_1907, .inl (cA_1907, 1002, .inl (fun j : Nat => zI (a19_state (j : Int)))))])) (va_Qi (fun (r : Int32) (_ : Unit) => ∃ z : Int, r = zI z ∧ (0 ≤ z ∧ z ≤ 2)) (fun (_ : Unit) (t : State) => va_P (dC, dI) vwQ [(h0, .inr (16, [v19_0, v19_1, v19_2, v19_3, v19_4, v19_5, v19_6, .ref q_1907, v19_8, v19_9, v19_10, v19_11, v19_12, v19_13, v19_14, v19_15, v19_16, v19_17, v19_18, v19_19, v19_20, v19_21, v19_22, v19_23, v19_24, v19_25, v19_26, v19_27, v19_28, v19_29, v19_30, v19_31, v19_32, v19_33, v19_34, v19_35, v19_36, v19_37, v19_38, v19_39, v19_40])), (q_1907, .inl (cA_1907, 1002, .inl (fun j : Nat => zI (a19_state (j : Int)))))] t.heap ∧ va_K (dC, dI) vwQ [(cA_1907, .int)] t ∧ va_D (va_A [(h0, .inr (16, [v19_0, v19_1, v19_2, v19_3, v19_4, v19_5, v19_6, .ref q_1907, v19_8, v19_9, v19_10, v19_11, v19_12, v19_13, v19_14, v19_15, v19_16, v19_17, v19_18, v19_19, v19_20, v19_21, v19_22, v19_23, v19_24, v19_25, v19_26, v19_27, v19_28, v19_29, v19_30, v19_31, v19_32, v19_33, v19_34, v19_35, v19_36, v19_37, v19_38, v19_39, v19_40])), (q_1907, .inl (cA_1907, 1002, .inl (fun j : Nat => zI (a19_state (j : Int)))))] sz) [(h0, .inr (16, [v19_0, v19_1, v19_2, v19_3, v19_4, v19_5, v19_6, .ref q_1907, v19_8, v19_9, v19_10, v19_11, v19_12, v19_13, v19_14, v19_15, v19_16, v19_17, v19_18, v19_19, v19_20, v19_21, v19_22, v19_23, v19_24, v19_25, v19_26, v19_27, v19_28, v19_29, v19_30, v19_31, v19_32, v19_33, v19_34, v19_35, v19_36, v19_37, v19_38, v19_39, v19_40])), (q_1907, .inl (cA_1907, 1002, .inl (fun j : Nat => zI (a19_state (j : Int)))))]) (va_A [(h0, .inr (16, [v19_0, v19_1, v19_2, v19_3, v19_4, v19_5, v19_6, .ref q_1907, v19_8, v19_9, v19_10, v19_11, v19_12, v19_13, v19_14, v19_15, v19_16, v19_17, v19_18, v19_19, v19_20, v19_21, v19_22, v19_23, v19_24, v19_25, v19_26, v19_27, v19_28, v19_29, v19_30, v19_31, v19_32, v19_33, v19_34, v19_35, v19_36, v19_37, v19_38, v19_39, v19_40])), (q_1907, .inl (cA_1907, 1002, .inl (fun j : Nat => zI (a19_state (j : Int)))))] sz)) 0 0 (va_A [(h0, .inr (16, [v19_0, v19_1, v19_2, v19_3, v19_4, v19_5, v19_6, .ref q_1907, v19_8, v19_9, v19_10, v19_11, v19_12, v19_13, v19_14, v19_15, v19_16, v19_17, v19_18, v19_19, v19_20, v19_21, v19_22, v19_23, v19_24, v19_25, v19_26, v19_27, v19_28, v19_29, v19_30, v19_31, v19_32, v19_33, v19_34, v19_35, v19_36, v19_37, v19_38, v19_39, v19_40])), (q_1907, .inl (cA_1907, 1002, .inl (fun j : Nat => zI (a19_state (j : Int)))))] sz) := by
  refine Met.ofW (cc := cX19_stateOf) (maxL := 3) (ret := (some .int)) (by decide) rfl ?_
  intro p e s m args below meth c s₁ B hml hv
  obtain ⟨rfl, hsz, hP, hK, hD0⟩ := hv
  have hx := B.exec
  have hb := B.bytes
  have hr := B.returns
  have hts := atoms_spec (ws := v_X19_stateOf) B.pre
  have hown : s.vm.findClass RX19 = some m.cls := findClass_of_methodNamed B.named
  have hlocks := B.notSynchronized
  have ow : ∀ {k : Nat} {w : Cond}, o_X19_stateOf[k]? = some w → w.before ([.ref h0, .int (zI (g)), .int (zI (v))] : List Value).toArray s = true := fun h => hts _ (mow_X19_stateOf _ (List.mem_of_getElem? h))
  subst hsz
  have hD := hD0.self (sz := s.heap.size)
  generalize hAe : va_A [(h0, .inr (16, [v19_0, v19_1, v19_2, v19_3, v19_4, v19_5, v19_6, .ref q_1907, v19_8, v19_9, v19_10, v19_11, v19_12, v19_13, v19_14, v19_15, v19_16, v19_17, v19_18, v19_19, v19_20, v19_21, v19_22, v19_23, v19_24, v19_25, v19_26, v19_27, v19_28, v19_29, v19_30, v19_31, v19_32, v19_33, v19_34, v19_35, v19_36, v19_37, v19_38, v19_39, v19_40])), (q_1907, .inl (cA_1907, 1002, .inl (fun j : Nat => zI (a19_state (j : Int)))))] s.heap.size = A at hD ⊢
  have hA : ∀ q : Nat, s.heap.size ≤ q → A q := fun q h => by rw [← hAe]; exact Or.inr h
  have hS : va_S A s.heap s.heap [] := va_S.rf
  have hP : va_P (dC, dI) vwQ [(h0, .inr (16, [v19_0, v19_1, v19_2, v19_3, v19_4, v19_5, v19_6, .ref q_1907, v19_8, v19_9, v19_10, v19_11, v19_12, v19_13, v19_14, v19_15, v19_16, v19_17, v19_18, v19_19, v19_20, v19_21, v19_22, v19_23, v19_24, v19_25, v19_26, v19_27, v19_28, v19_29, v19_30, v19_31, v19_32, v19_33, v19_34, v19_35, v19_36, v19_37, v19_38, v19_39, v19_40])), (q_1907, .inl (cA_1907, 1002, .inl (fun j : Nat => zI (a19_state (j : Int)))))] s.heap := hP
  have hl := lv_entry ([.ref h0, .int (zI (g)), .int (zI (v))]) (n := 3) (Nat.le_of_ble_eq_true rfl)
  rw [lg_entry_eq]
  generalize (lg_sl ([.ref h0, .int (zI (g)), .int (zI (v))]) ++ List.replicate (3 - (lg_sl ([.ref h0, .int (zI (g)), .int (zI (v))])).length) Slot.unset).toArray = ls at hl ⊢
  have hl : lv_has ls 3 [(0, .ref h0), (1, .int (zI (g))), (2, .int (zI (v)))] := hl
  obtain ⟨H, hH⟩ : ∃ H, H = s.heap := ⟨_, rfl⟩
  rw [← hH] at hP
  have hS : va_S A s.heap H [] := by rw [hH]; exact hS
  rw [← hH]
  refine zW_cap (fun Q hQ => ?_)
  refine lv_iload_n hx hb dX19_stateOf_0 rfl (lv_at hl 1 rfl) ?_
  refine lv_if_eq (tgt := 13) hx hb dX19_stateOf_1 (by decide) (fun b1 => ?_) (fun b1 => ?_)
  · have yb1 : (g : Int) = (0 : Int) := (zI_eq (a := g) (b := 0) (by omega) (by omega) (by omega) (by omega)).mp b1
    refine lv_iconst (v := 1) hx hb dX19_stateOf_13 (by decide) ?_
    subst hQ
    refine W.widen (k := 0) (n := 0) (Nat.le_of_ble_eq_true rfl) (Nat.le_of_ble_eq_true rfl) ?_
    exact W.iret (v := 1) hx hb hr (fun t ht hW => ⟨⟨1, (), rfl, ⟨1, rfl, by omega⟩, by rw [ht]; exact hP, va_K.moved hW.alike hK, hD⟩, hS.F ht⟩) hS.2.2 dX19_stateOf_14
  · have yb1 : ¬ (g : Int) = (0 : Int) := fun q => b1 ((zI_eq (a := g) (b := 0) (by omega) (by omega) (by omega) (by omega)).mpr q)
    refine lv_aload_n hx hb dX19_stateOf_4 rfl (lv_at hl 0 rfl) ?_
    refine va_get (D := (dC, dI)) (ci := 16) (v := .ref q_1907) (C := RX19) (T := TX19) (N := 41) hx hb hts mem_X19_stateOf_0 hown hK hP 0 rfl rfl 7 (by decide) (ow (k := 0) rfl) (fun _ h9 => h9) rfl dX19_stateOf_5 ?_
    refine lv_iload_n hx hb dX19_stateOf_8 rfl (lv_at hl 2 rfl) ?_
    refine va_iald hx hb hK hP 1 0 rfl rfl (zI_in (a := v) (n := 1002) (by omega) (by omega) (by decide)) dX19_stateOf_9 ?_
    refine lv_topi (fun z ez => ?_)
    obtain rfl : z = zI (a19_state (v)) := ez.trans (zI_ld (a19_state) (by omega) (by omega))
    have k1 := hR_a19_state (v)
    refine lv_goto (tgt := 14) hx hb dX19_stateOf_10 (by decide) ?_
    subst hQ
    refine W.widen (k := 0) (n := 0) (Nat.le_of_ble_eq_true rfl) (Nat.le_of_ble_eq_true rfl) ?_
    exact W.iret (v := (zI (a19_state (v)))) hx hb hr (fun t ht hW => ⟨⟨(zI (a19_state (v))), (), rfl, ⟨a19_state (v), rfl, by omega⟩, by rw [ht]; exact hP, va_K.moved hW.alike hK, hD⟩, hS.F ht⟩) hS.2.2 dX19_stateOf_14
theorem dX19_numberOf_0 : decode cX19_numberOf 0 = .ok (.iload_n 1, 1) := by decide +kernel
theorem dX19_numberOf_1 : decode cX19_numberOf 1 = .ok (.ifCond .eq 12, 3) := by decide +kernel
theorem dX19_numberOf_13 : decode cX19_numberOf 13 = .ok (.iload_n 2, 1) := by decide +kernel
theorem dX19_numberOf_14 : decode cX19_numberOf 14 = .ok (.ireturn, 1) := by decide +kernel
theorem dX19_numberOf_4 : decode cX19_numberOf 4 = .ok (.aload_n 0, 1) := by decide +kernel
theorem dX19_numberOf_5 : decode cX19_numberOf 5 = .ok (.getfield 223, 3) := by decide +kernel
theorem dX19_numberOf_8 : decode cX19_numberOf 8 = .ok (.iload_n 2, 1) := by decide +kernel
theorem dX19_numberOf_9 : decode cX19_numberOf 9 = .ok (.iaload, 1) := by decide +kernel
theorem dX19_numberOf_10 : decode cX19_numberOf 10 = .ok (.goto 4, 3) := by decide +kernel
def o_X19_numberOf : List Cond := [.fieldLink RX19 223 "SsaForgeModel" "number" "[I"]
def v_X19_numberOf : List Cond := .code yX19_numberOf cX19_numberOf 3 (some .int) :: (o_X19_numberOf ++ (wsX190 ++ []))
theorem mow_X19_numberOf : ∀ w ∈ o_X19_numberOf, w ∈ v_X19_numberOf := fun _ h => List.mem_cons_of_mem _ (List.mem_append_left _ h)
theorem mem_X19_numberOf_0 : ∀ w ∈ wsX190, w ∈ v_X19_numberOf := fun _ h => List.mem_cons_of_mem _ (List.mem_append_right _ (List.mem_append_left _ h))
set_option maxRecDepth 20000 in
theorem gw_X19_numberOf : v_X19_numberOf.all goodWord = true := by decide +kernel
set_option maxHeartbeats 4000000 in
set_option maxRecDepth 100000 in
theorem c_X19_numberOf (l : Launch) (dC : Nat → ClassId) (dI : Nat → Nat → Nat) (h0 : Nat) (v19_0 : Value) (v19_1 : Value) (v19_2 : Value) (v19_3 : Value) (v19_4 : Value) (v19_5 : Value) (v19_6 : Value) (v19_7 : Value) (q_1908 : Nat) (cA_1908 : ClassId) (a19_number : Int → Int) (v19_9 : Value) (v19_10 : Value) (v19_11 : Value) (v19_12 : Value) (v19_13 : Value) (v19_14 : Value) (v19_15 : Value) (v19_16 : Value) (v19_17 : Value) (v19_18 : Value) (v19_19 : Value) (v19_20 : Value) (v19_21 : Value) (v19_22 : Value) (v19_23 : Value) (v19_24 : Value) (v19_25 : Value) (v19_26 : Value) (v19_27 : Value) (v19_28 : Value) (v19_29 : Value) (v19_30 : Value) (v19_31 : Value) (v19_32 : Value) (v19_33 : Value) (v19_34 : Value) (v19_35 : Value) (v19_36 : Value) (v19_37 : Value) (v19_38 : Value) (v19_39 : Value) (v19_40 : Value) (g : Int) (v : Int) (hR_a19_number : ∀ j : Int, -2147483648 ≤ a19_number j ∧ a19_number j ≤ 2147483647) (hNg : 0 ≤ g ∧ g ≤ 1) (hNv : -2147483648 ≤ v ∧ v ≤ 2147483647) (hNr : g = 0 ∨ (0 ≤ v ∧ v ≤ 1001)) (sz : Nat) : Met l yX19_numberOf v_X19_numberOf ({ frames := 0, cells := 0, slots := 0, locals := 0 }) (va_Pc [.ref h0, .int (zI (g)), .int (zI (v))] (fun U => U.heap.size = sz ∧ va_P (dC, dI) vwQ [(h0, .inr (16, [v19_0, v19_1, v19_2, v19_3, v19_4, v19_5, v19_6, v19_7, .ref q_1908, v19_9, v19_10, v19_11, v19_12, v19_13, v19_14, v19_15, v19_16, v19_17, v19_18, v19_19, v19_20, v19_21, v19_22, v19_23, v19_24, v19_25, v19_26, v19_27, v19_28, v19_29, v19_30, v19_31, v19_32, v19_33, v19_34, v19_35, v19_36, v19_37, v19_38, v19_39, v19_40])), (q_1908, .inl (cA_1908, 1002, .inl (fun j : Nat => zI (a19_number (j : Int)))))] U.heap ∧ va_K (dC, dI) vwQ [(cA_1908, .int)] U ∧ va_D (fun _ => True) [(h0, .inr (16, [v19_0, v19_1, v19_2, v19_3, v19_4, v19_5, v19_6, v19_7, .ref q_1908, v19_9, v19_10, v19_11, v19_12, v19_13, v19_14, v19_15, v19_16, v19_17, v19_18, v19_19, v19_20, v19_21, v19_22, v19_23, v19_24, v19_25, v19_26, v19_27, v19_28, v19_29, v19_30, v19_31, v19_32, v19_33, v19_34, v19_35, v19_36, v19_37, v19_38, v19_39, v19_40])), (q_1908, .inl (cA_1908, 1002, .inl (fun j : Nat => zI (a19_number (j : Int)))))])) (va_Qi (fun (r : Int32) (_ : Unit) => ∃ z : Int, r = zI z ∧ (-2147483648 ≤ z ∧ z ≤ 2147483647)) (fun (_ : Unit) (t : State) => va_P (dC, dI) vwQ [(h0, .inr (16, [v19_0, v19_1, v19_2, v19_3, v19_4, v19_5, v19_6, v19_7, .ref q_1908, v19_9, v19_10, v19_11, v19_12, v19_13, v19_14, v19_15, v19_16, v19_17, v19_18, v19_19, v19_20, v19_21, v19_22, v19_23, v19_24, v19_25, v19_26, v19_27, v19_28, v19_29, v19_30, v19_31, v19_32, v19_33, v19_34, v19_35, v19_36, v19_37, v19_38, v19_39, v19_40])), (q_1908, .inl (cA_1908, 1002, .inl (fun j : Nat => zI (a19_number (j : Int)))))] t.heap ∧ va_K (dC, dI) vwQ [(cA_1908, .int)] t ∧ va_D (va_A [(h0, .inr (16, [v19_0, v19_1, v19_2, v19_3, v19_4, v19_5, v19_6, v19_7, .ref q_1908, v19_9, v19_10, v19_11, v19_12, v19_13, v19_14, v19_15, v19_16, v19_17, v19_18, v19_19, v19_20, v19_21, v19_22, v19_23, v19_24, v19_25, v19_26, v19_27, v19_28, v19_29, v19_30, v19_31, v19_32, v19_33, v19_34, v19_35, v19_36, v19_37, v19_38, v19_39, v19_40])), (q_1908, .inl (cA_1908, 1002, .inl (fun j : Nat => zI (a19_number (j : Int)))))] sz) [(h0, .inr (16, [v19_0, v19_1, v19_2, v19_3, v19_4, v19_5, v19_6, v19_7, .ref q_1908, v19_9, v19_10, v19_11, v19_12, v19_13, v19_14, v19_15, v19_16, v19_17, v19_18, v19_19, v19_20, v19_21, v19_22, v19_23, v19_24, v19_25, v19_26, v19_27, v19_28, v19_29, v19_30, v19_31, v19_32, v19_33, v19_34, v19_35, v19_36, v19_37, v19_38, v19_39, v19_40])), (q_1908, .inl (cA_1908, 1002, .inl (fun j : Nat => zI (a19_number (j : Int)))))]) (va_A [(h0, .inr (16, [v19_0, v19_1, v19_2, v19_3, v19_4, v19_5, v19_6, v19_7, .ref q_1908, v19_9, v19_10, v19_11, v19_12, v19_13, v19_14, v19_15, v19_16, v19_17, v19_18, v19_19, v19_20, v19_21, v19_22, v19_23, v19_24, v19_25, v19_26, v19_27, v19_28, v19_29, v19_30, v19_31, v19_32, v19_33, v19_34, v19_35, v19_36, v19_37, v19_38, v19_39, v19_40])), (q_1908, .inl (cA_1908, 1002, .inl (fun j : Nat => zI (a19_number (j : Int)))))] sz)) 0 0 (va_A [(h0, .inr (16, [v19_0, v19_1, v19_2, v19_3, v19_4, v19_5, v19_6, v19_7, .ref q_1908, v19_9, v19_10, v19_11, v19_12, v19_13, v19_14, v19_15, v19_16, v19_17, v19_18, v19_19, v19_20, v19_21, v19_22, v19_23, v19_24, v19_25, v19_26, v19_27, v19_28, v19_29, v19_30, v19_31, v19_32, v19_33, v19_34, v19_35, v19_36, v19_37, v19_38, v19_39, v19_40])), (q_1908, .inl (cA_1908, 1002, .inl (fun j : Nat => zI (a19_number (j : Int)))))] sz) := by
  refine Met.ofW (cc := cX19_numberOf) (maxL := 3) (ret := (some .int)) (by decide) rfl ?_
  intro p e s m args below meth c s₁ B hml hv
  obtain ⟨rfl, hsz, hP, hK, hD0⟩ := hv
  have hx := B.exec
  have hb := B.bytes
  have hr := B.returns
  have hts := atoms_spec (ws := v_X19_numberOf) B.pre
  have hown : s.vm.findClass RX19 = some m.cls := findClass_of_methodNamed B.named
  have hlocks := B.notSynchronized
  have ow : ∀ {k : Nat} {w : Cond}, o_X19_numberOf[k]? = some w → w.before ([.ref h0, .int (zI (g)), .int (zI (v))] : List Value).toArray s = true := fun h => hts _ (mow_X19_numberOf _ (List.mem_of_getElem? h))
  subst hsz
  have hD := hD0.self (sz := s.heap.size)
  generalize hAe : va_A [(h0, .inr (16, [v19_0, v19_1, v19_2, v19_3, v19_4, v19_5, v19_6, v19_7, .ref q_1908, v19_9, v19_10, v19_11, v19_12, v19_13, v19_14, v19_15, v19_16, v19_17, v19_18, v19_19, v19_20, v19_21, v19_22, v19_23, v19_24, v19_25, v19_26, v19_27, v19_28, v19_29, v19_30, v19_31, v19_32, v19_33, v19_34, v19_35, v19_36, v19_37, v19_38, v19_39, v19_40])), (q_1908, .inl (cA_1908, 1002, .inl (fun j : Nat => zI (a19_number (j : Int)))))] s.heap.size = A at hD ⊢
  have hA : ∀ q : Nat, s.heap.size ≤ q → A q := fun q h => by rw [← hAe]; exact Or.inr h
  have hS : va_S A s.heap s.heap [] := va_S.rf
  have hP : va_P (dC, dI) vwQ [(h0, .inr (16, [v19_0, v19_1, v19_2, v19_3, v19_4, v19_5, v19_6, v19_7, .ref q_1908, v19_9, v19_10, v19_11, v19_12, v19_13, v19_14, v19_15, v19_16, v19_17, v19_18, v19_19, v19_20, v19_21, v19_22, v19_23, v19_24, v19_25, v19_26, v19_27, v19_28, v19_29, v19_30, v19_31, v19_32, v19_33, v19_34, v19_35, v19_36, v19_37, v19_38, v19_39, v19_40])), (q_1908, .inl (cA_1908, 1002, .inl (fun j : Nat => zI (a19_number (j : Int)))))] s.heap := hP
  have hl := lv_entry ([.ref h0, .int (zI (g)), .int (zI (v))]) (n := 3) (Nat.le_of_ble_eq_true rfl)
  rw [lg_entry_eq]
  generalize (lg_sl ([.ref h0, .int (zI (g)), .int (zI (v))]) ++ List.replicate (3 - (lg_sl ([.ref h0, .int (zI (g)), .int (zI (v))])).length) Slot.unset).toArray = ls at hl ⊢
  have hl : lv_has ls 3 [(0, .ref h0), (1, .int (zI (g))), (2, .int (zI (v)))] := hl
  obtain ⟨H, hH⟩ : ∃ H, H = s.heap := ⟨_, rfl⟩
  rw [← hH] at hP
  have hS : va_S A s.heap H [] := by rw [hH]; exact hS
  rw [← hH]
  refine zW_cap (fun Q hQ => ?_)
  refine lv_iload_n hx hb dX19_numberOf_0 rfl (lv_at hl 1 rfl) ?_
  refine lv_if_eq (tgt := 13) hx hb dX19_numberOf_1 (by decide) (fun b1 => ?_) (fun b1 => ?_)
  · have yb1 : (g : Int) = (0 : Int) := (zI_eq (a := g) (b := 0) (by omega) (by omega) (by omega) (by omega)).mp b1
    refine lv_iload_n hx hb dX19_numberOf_13 rfl (lv_at hl 2 rfl) ?_
    subst hQ
    refine W.widen (k := 0) (n := 0) (Nat.le_of_ble_eq_true rfl) (Nat.le_of_ble_eq_true rfl) ?_
    exact W.iret (v := (zI (v))) hx hb hr (fun t ht hW => ⟨⟨(zI (v)), (), rfl, ⟨v, rfl, (by omega)⟩, by rw [ht]; exact hP, va_K.moved hW.alike hK, hD⟩, hS.F ht⟩) hS.2.2 dX19_numberOf_14
  · have yb1 : ¬ (g : Int) = (0 : Int) := fun q => b1 ((zI_eq (a := g) (b := 0) (by omega) (by omega) (by omega) (by omega)).mpr q)
    refine lv_aload_n hx hb dX19_numberOf_4 rfl (lv_at hl 0 rfl) ?_
    refine va_get (D := (dC, dI)) (ci := 16) (v := .ref q_1908) (C := RX19) (T := TX19) (N := 41) hx hb hts mem_X19_numberOf_0 hown hK hP 0 rfl rfl 8 (by decide) (ow (k := 0) rfl) (fun _ h9 => h9) rfl dX19_numberOf_5 ?_
    refine lv_iload_n hx hb dX19_numberOf_8 rfl (lv_at hl 2 rfl) ?_
    refine va_iald hx hb hK hP 1 0 rfl rfl (zI_in (a := v) (n := 1002) (by omega) (by omega) (by decide)) dX19_numberOf_9 ?_
    refine lv_topi (fun z ez => ?_)
    obtain rfl : z = zI (a19_number (v)) := ez.trans (zI_ld (a19_number) (by omega) (by omega))
    have k1 := hR_a19_number (v)
    refine lv_goto (tgt := 14) hx hb dX19_numberOf_10 (by decide) ?_
    subst hQ
    refine W.widen (k := 0) (n := 0) (Nat.le_of_ble_eq_true rfl) (Nat.le_of_ble_eq_true rfl) ?_
    exact W.iret (v := (zI (a19_number (v)))) hx hb hr (fun t ht hW => ⟨⟨(zI (a19_number (v))), (), rfl, ⟨a19_number (v), rfl, (by omega)⟩, by rw [ht]; exact hP, va_K.moved hW.alike hK, hD⟩, hS.F ht⟩) hS.2.2 dX19_numberOf_14
theorem dX19_set_0 : decode cX19_set 0 = .ok (.aload_n 0, 1) := by decide +kernel
theorem dX19_set_1 : decode cX19_set 1 = .ok (.getfield 220, 3) := by decide +kernel
theorem dX19_set_4 : decode cX19_set 4 = .ok (.iload_n 1, 1) := by decide +kernel
theorem dX19_set_5 : decode cX19_set 5 = .ok (.iaload, 1) := by decide +kernel
theorem dX19_set_6 : decode cX19_set 6 = .ok (.iload_n 2, 1) := by decide +kernel
theorem dX19_set_7 : decode cX19_set 7 = .ok (.if_icmp .ne 19, 3) := by decide +kernel
theorem dX19_set_26 : decode cX19_set 26 = .ok (.aload_n 0, 1) := by decide +kernel
theorem dX19_set_27 : decode cX19_set 27 = .ok (.getfield 220, 3) := by decide +kernel
theorem dX19_set_30 : decode cX19_set 30 = .ok (.iload_n 1, 1) := by decide +kernel
theorem dX19_set_31 : decode cX19_set 31 = .ok (.iload_n 2, 1) := by decide +kernel
theorem dX19_set_32 : decode cX19_set 32 = .ok (.iastore, 1) := by decide +kernel
theorem dX19_set_33 : decode cX19_set 33 = .ok (.aload_n 0, 1) := by decide +kernel
theorem dX19_set_34 : decode cX19_set 34 = .ok (.getfield 223, 3) := by decide +kernel
theorem dX19_set_37 : decode cX19_set 37 = .ok (.iload_n 1, 1) := by decide +kernel
theorem dX19_set_38 : decode cX19_set 38 = .ok (.iload_n 3, 1) := by decide +kernel
theorem dX19_set_39 : decode cX19_set 39 = .ok (.iastore, 1) := by decide +kernel
theorem dX19_set_40 : decode cX19_set 40 = .ok (.aload_n 0, 1) := by decide +kernel
theorem dX19_set_41 : decode cX19_set 41 = .ok (.iconst 1, 1) := by decide +kernel
theorem dX19_set_42 : decode cX19_set 42 = .ok (.putfield 226, 3) := by decide +kernel
theorem dX19_set_45 : decode cX19_set 45 = .ok (.return_, 1) := by decide +kernel
theorem dX19_set_10 : decode cX19_set 10 = .ok (.iload_n 2, 1) := by decide +kernel
theorem dX19_set_11 : decode cX19_set 11 = .ok (.iconst 1, 1) := by decide +kernel
theorem dX19_set_12 : decode cX19_set 12 = .ok (.if_icmp .ne 13, 3) := by decide +kernel
theorem dX19_set_25 : decode cX19_set 25 = .ok (.return_, 1) := by decide +kernel
theorem dX19_set_15 : decode cX19_set 15 = .ok (.aload_n 0, 1) := by decide +kernel
theorem dX19_set_16 : decode cX19_set 16 = .ok (.getfield 223, 3) := by decide +kernel
theorem dX19_set_19 : decode cX19_set 19 = .ok (.iload_n 1, 1) := by decide +kernel
theorem dX19_set_20 : decode cX19_set 20 = .ok (.iaload, 1) := by decide +kernel
theorem dX19_set_21 : decode cX19_set 21 = .ok (.iload_n 3, 1) := by decide +kernel
theorem dX19_set_22 : decode cX19_set 22 = .ok (.if_icmp .ne 4, 3) := by decide +kernel
def o_X19_set : List Cond := [.fieldLink RX19 220 "SsaForgeModel" "state" "[I", .fieldLink RX19 223 "SsaForgeModel" "number" "[I", .fieldLink RX19 226 "SsaForgeModel" "changed" "Z"]
def v_X19_set : List Cond := .code yX19_set cX19_set 4 none :: (o_X19_set ++ (wsX190 ++ []))
theorem mow_X19_set : ∀ w ∈ o_X19_set, w ∈ v_X19_set := fun _ h => List.mem_cons_of_mem _ (List.mem_append_left _ h)
theorem mem_X19_set_0 : ∀ w ∈ wsX190, w ∈ v_X19_set := fun _ h => List.mem_cons_of_mem _ (List.mem_append_right _ (List.mem_append_left _ h))
set_option maxRecDepth 20000 in
theorem gw_X19_set : v_X19_set.all goodWord = true := by decide +kernel
set_option maxHeartbeats 4000000 in
set_option maxRecDepth 100000 in
theorem c_X19_set (l : Launch) (dC : Nat → ClassId) (dI : Nat → Nat → Nat) (h0 : Nat) (v19_0 : Value) (v19_1 : Value) (v19_2 : Value) (v19_3 : Value) (v19_4 : Value) (v19_5 : Value) (v19_6 : Value) (q_1907 : Nat) (cA_1907 : ClassId) (a19_state : Int → Int) (q_1908 : Nat) (cA_1908 : ClassId) (a19_number : Int → Int) (v19_9 : Value) (v19_10 : Value) (z19_changed : Int) (v19_12 : Value) (v19_13 : Value) (v19_14 : Value) (v19_15 : Value) (v19_16 : Value) (v19_17 : Value) (v19_18 : Value) (v19_19 : Value) (v19_20 : Value) (v19_21 : Value) (v19_22 : Value) (v19_23 : Value) (v19_24 : Value) (v19_25 : Value) (v19_26 : Value) (v19_27 : Value) (v19_28 : Value) (v19_29 : Value) (v19_30 : Value) (v19_31 : Value) (v19_32 : Value) (v19_33 : Value) (v19_34 : Value) (v19_35 : Value) (v19_36 : Value) (v19_37 : Value) (v19_38 : Value) (v19_39 : Value) (v19_40 : Value) (r0 : Int) (s0 : Int) (v : Int) (hR_a19_state : ∀ j : Int, 0 ≤ a19_state j ∧ a19_state j ≤ 2) (hR_a19_number : ∀ j : Int, -2147483648 ≤ a19_number j ∧ a19_number j ≤ 2147483647) (hNz19_changed : 0 ≤ z19_changed ∧ z19_changed ≤ 1) (hNr : 0 ≤ r0 ∧ r0 ≤ 1001) (hNs : 0 ≤ s0 ∧ s0 ≤ 2) (hNv : -2147483648 ≤ v ∧ v ≤ 2147483647) (sz : Nat) : Met l yX19_set v_X19_set ({ frames := 0, cells := 0, slots := 0, locals := 0 }) (va_Pc [.ref h0, .int (zI (r0)), .int (zI (s0)), .int (zI (v))] (fun U => U.heap.size = sz ∧ va_P (dC, dI) vwQ [(h0, .inr (16, [v19_0, v19_1, v19_2, v19_3, v19_4, v19_5, v19_6, .ref q_1907, .ref q_1908, v19_9, v19_10, .int (zI (z19_changed)), v19_12, v19_13, v19_14, v19_15, v19_16, v19_17, v19_18, v19_19, v19_20, v19_21, v19_22, v19_23, v19_24, v19_25, v19_26, v19_27, v19_28, v19_29, v19_30, v19_31, v19_32, v19_33, v19_34, v19_35, v19_36, v19_37, v19_38, v19_39, v19_40])), (q_1907, .inl (cA_1907, 1002, .inl (fun j : Nat => zI (a19_state (j : Int))))), (q_1908, .inl (cA_1908, 1002, .inl (fun j : Nat => zI (a19_number (j : Int)))))] U.heap ∧ va_K (dC, dI) vwQ [(cA_1907, .int), (cA_1908, .int)] U ∧ va_D (fun _ => True) [(h0, .inr (16, [v19_0, v19_1, v19_2, v19_3, v19_4, v19_5, v19_6, .ref q_1907, .ref q_1908, v19_9, v19_10, .int (zI (z19_changed)), v19_12, v19_13, v19_14, v19_15, v19_16, v19_17, v19_18, v19_19, v19_20, v19_21, v19_22, v19_23, v19_24, v19_25, v19_26, v19_27, v19_28, v19_29, v19_30, v19_31, v19_32, v19_33, v19_34, v19_35, v19_36, v19_37, v19_38, v19_39, v19_40])), (q_1907, .inl (cA_1907, 1002, .inl (fun j : Nat => zI (a19_state (j : Int))))), (q_1908, .inl (cA_1908, 1002, .inl (fun j : Nat => zI (a19_number (j : Int)))))])) (va_Qv (fun _ : Unit => True) (fun (_ : Unit) (t : State) => ∃ (z0_9 : Int) (a1_9 : Int → Int) (a2_9 : Int → Int), ((0 ≤ z0_9 ∧ z0_9 ≤ 1) ∧ (∀ j : Int, 0 ≤ a1_9 j ∧ a1_9 j ≤ 2) ∧ (∀ j : Int, -2147483648 ≤ a2_9 j ∧ a2_9 j ≤ 2147483647)) ∧ va_P (dC, dI) vwQ [(h0, .inr (16, [v19_0, v19_1, v19_2, v19_3, v19_4, v19_5, v19_6, .ref q_1907, .ref q_1908, v19_9, v19_10, .int (zI (z0_9)), v19_12, v19_13, v19_14, v19_15, v19_16, v19_17, v19_18, v19_19, v19_20, v19_21, v19_22, v19_23, v19_24, v19_25, v19_26, v19_27, v19_28, v19_29, v19_30, v19_31, v19_32, v19_33, v19_34, v19_35, v19_36, v19_37, v19_38, v19_39, v19_40])), (q_1907, .inl (cA_1907, 1002, .inl (fun j : Nat => zI (a1_9 (j : Int))))), (q_1908, .inl (cA_1908, 1002, .inl (fun j : Nat => zI (a2_9 (j : Int)))))] t.heap ∧ va_K (dC, dI) vwQ [(cA_1907, .int), (cA_1908, .int)] t ∧ va_D (va_A [(h0, .inr (16, [v19_0, v19_1, v19_2, v19_3, v19_4, v19_5, v19_6, .ref q_1907, .ref q_1908, v19_9, v19_10, .int (zI (z19_changed)), v19_12, v19_13, v19_14, v19_15, v19_16, v19_17, v19_18, v19_19, v19_20, v19_21, v19_22, v19_23, v19_24, v19_25, v19_26, v19_27, v19_28, v19_29, v19_30, v19_31, v19_32, v19_33, v19_34, v19_35, v19_36, v19_37, v19_38, v19_39, v19_40])), (q_1907, .inl (cA_1907, 1002, .inl (fun j : Nat => zI (a19_state (j : Int))))), (q_1908, .inl (cA_1908, 1002, .inl (fun j : Nat => zI (a19_number (j : Int)))))] sz) [(h0, .inr (16, [v19_0, v19_1, v19_2, v19_3, v19_4, v19_5, v19_6, .ref q_1907, .ref q_1908, v19_9, v19_10, .int (zI (z0_9)), v19_12, v19_13, v19_14, v19_15, v19_16, v19_17, v19_18, v19_19, v19_20, v19_21, v19_22, v19_23, v19_24, v19_25, v19_26, v19_27, v19_28, v19_29, v19_30, v19_31, v19_32, v19_33, v19_34, v19_35, v19_36, v19_37, v19_38, v19_39, v19_40])), (q_1907, .inl (cA_1907, 1002, .inl (fun j : Nat => zI (a1_9 (j : Int))))), (q_1908, .inl (cA_1908, 1002, .inl (fun j : Nat => zI (a2_9 (j : Int)))))]) (va_A [(h0, .inr (16, [v19_0, v19_1, v19_2, v19_3, v19_4, v19_5, v19_6, .ref q_1907, .ref q_1908, v19_9, v19_10, .int (zI (z19_changed)), v19_12, v19_13, v19_14, v19_15, v19_16, v19_17, v19_18, v19_19, v19_20, v19_21, v19_22, v19_23, v19_24, v19_25, v19_26, v19_27, v19_28, v19_29, v19_30, v19_31, v19_32, v19_33, v19_34, v19_35, v19_36, v19_37, v19_38, v19_39, v19_40])), (q_1907, .inl (cA_1907, 1002, .inl (fun j : Nat => zI (a19_state (j : Int))))), (q_1908, .inl (cA_1908, 1002, .inl (fun j : Nat => zI (a19_number (j : Int)))))] sz)) 0 0 (va_A [(h0, .inr (16, [v19_0, v19_1, v19_2, v19_3, v19_4, v19_5, v19_6, .ref q_1907, .ref q_1908, v19_9, v19_10, .int (zI (z19_changed)), v19_12, v19_13, v19_14, v19_15, v19_16, v19_17, v19_18, v19_19, v19_20, v19_21, v19_22, v19_23, v19_24, v19_25, v19_26, v19_27, v19_28, v19_29, v19_30, v19_31, v19_32, v19_33, v19_34, v19_35, v19_36, v19_37, v19_38, v19_39, v19_40])), (q_1907, .inl (cA_1907, 1002, .inl (fun j : Nat => zI (a19_state (j : Int))))), (q_1908, .inl (cA_1908, 1002, .inl (fun j : Nat => zI (a19_number (j : Int)))))] sz) := by
  refine Met.ofW (cc := cX19_set) (maxL := 4) (ret := none) (by decide) rfl ?_
  intro p e s m args below meth c s₁ B hml hv
  obtain ⟨rfl, hsz, hP, hK, hD0⟩ := hv
  have hx := B.exec
  have hb := B.bytes
  have hr := B.returns
  have hts := atoms_spec (ws := v_X19_set) B.pre
  have hown : s.vm.findClass RX19 = some m.cls := findClass_of_methodNamed B.named
  have hlocks := B.notSynchronized
  have ow : ∀ {k : Nat} {w : Cond}, o_X19_set[k]? = some w → w.before ([.ref h0, .int (zI (r0)), .int (zI (s0)), .int (zI (v))] : List Value).toArray s = true := fun h => hts _ (mow_X19_set _ (List.mem_of_getElem? h))
  subst hsz
  have hD := hD0.self (sz := s.heap.size)
  generalize hAe : va_A [(h0, .inr (16, [v19_0, v19_1, v19_2, v19_3, v19_4, v19_5, v19_6, .ref q_1907, .ref q_1908, v19_9, v19_10, .int (zI (z19_changed)), v19_12, v19_13, v19_14, v19_15, v19_16, v19_17, v19_18, v19_19, v19_20, v19_21, v19_22, v19_23, v19_24, v19_25, v19_26, v19_27, v19_28, v19_29, v19_30, v19_31, v19_32, v19_33, v19_34, v19_35, v19_36, v19_37, v19_38, v19_39, v19_40])), (q_1907, .inl (cA_1907, 1002, .inl (fun j : Nat => zI (a19_state (j : Int))))), (q_1908, .inl (cA_1908, 1002, .inl (fun j : Nat => zI (a19_number (j : Int)))))] s.heap.size = A at hD ⊢
  have hA : ∀ q : Nat, s.heap.size ≤ q → A q := fun q h => by rw [← hAe]; exact Or.inr h
  have hS : va_S A s.heap s.heap [] := va_S.rf
  have hP : va_P (dC, dI) vwQ [(h0, .inr (16, [v19_0, v19_1, v19_2, v19_3, v19_4, v19_5, v19_6, .ref q_1907, .ref q_1908, v19_9, v19_10, .int (zI (z19_changed)), v19_12, v19_13, v19_14, v19_15, v19_16, v19_17, v19_18, v19_19, v19_20, v19_21, v19_22, v19_23, v19_24, v19_25, v19_26, v19_27, v19_28, v19_29, v19_30, v19_31, v19_32, v19_33, v19_34, v19_35, v19_36, v19_37, v19_38, v19_39, v19_40])), (q_1907, .inl (cA_1907, 1002, .inl (fun j : Nat => zI (a19_state (j : Int))))), (q_1908, .inl (cA_1908, 1002, .inl (fun j : Nat => zI (a19_number (j : Int)))))] s.heap := hP
  have hl := lv_entry ([.ref h0, .int (zI (r0)), .int (zI (s0)), .int (zI (v))]) (n := 4) (Nat.le_of_ble_eq_true rfl)
  rw [lg_entry_eq]
  generalize (lg_sl ([.ref h0, .int (zI (r0)), .int (zI (s0)), .int (zI (v))]) ++ List.replicate (4 - (lg_sl ([.ref h0, .int (zI (r0)), .int (zI (s0)), .int (zI (v))])).length) Slot.unset).toArray = ls at hl ⊢
  have hl : lv_has ls 4 [(0, .ref h0), (1, .int (zI (r0))), (2, .int (zI (s0))), (3, .int (zI (v)))] := hl
  obtain ⟨H, hH⟩ : ∃ H, H = s.heap := ⟨_, rfl⟩
  rw [← hH] at hP
  have hS : va_S A s.heap H [] := by rw [hH]; exact hS
  rw [← hH]
  refine zW_cap (fun Q hQ => ?_)
  refine lv_aload_n hx hb dX19_set_0 rfl (lv_at hl 0 rfl) ?_
  refine va_get (D := (dC, dI)) (ci := 16) (v := .ref q_1907) (C := RX19) (T := TX19) (N := 41) hx hb hts mem_X19_set_0 hown hK hP 0 rfl rfl 7 (by decide) (ow (k := 0) rfl) (fun _ h9 => h9) rfl dX19_set_1 ?_
  refine lv_iload_n hx hb dX19_set_4 rfl (lv_at hl 1 rfl) ?_
  refine va_iald hx hb hK hP 1 0 rfl rfl (zI_in (a := r0) (n := 1002) (by omega) (by omega) (by decide)) dX19_set_5 ?_
  refine lv_topi (fun z ez => ?_)
  obtain rfl : z = zI (a19_state (r0)) := ez.trans (zI_ld (a19_state) (by omega) (by omega))
  have k1 := hR_a19_state (r0)
  refine lv_iload_n hx hb dX19_set_6 rfl (lv_at hl 2 rfl) ?_
  refine lv_icmp_ne (tgt := 26) hx hb dX19_set_7 (by decide) (fun b7 => ?_) (fun b7 => ?_)
  · have yb7 : ¬ (a19_state (r0) : Int) = (s0 : Int) := fun q => b7 ((zI_eq (a := a19_state (r0)) (b := s0) (by omega) (by omega) (by omega) (by omega)).mpr q)
    refine lv_aload_n hx hb dX19_set_26 rfl (lv_at hl 0 rfl) ?_
    refine va_get (D := (dC, dI)) (ci := 16) (v := .ref q_1907) (C := RX19) (T := TX19) (N := 41) hx hb hts mem_X19_set_0 hown hK hP 0 rfl rfl 7 (by decide) (ow (k := 0) rfl) (fun _ h9 => h9) rfl dX19_set_27 ?_
    refine lv_iload_n hx hb dX19_set_30 rfl (lv_at hl 1 rfl) ?_
    refine lv_iload_n hx hb dX19_set_31 rfl (lv_at hl 2 rfl) ?_
    refine va_iast (i := zI (r0)) hx hb hK hP hD hS 1 0 rfl rfl (zI_in (a := r0) (n := 1002) (by omega) (by omega) (by decide)) dX19_set_32 (fun H locs hP hD hS => ?_)
    have eQ : upd (fun j : Nat => zI (a19_state (j : Int))) (zI (r0)).toNatClampNeg (zI (s0)) = (fun j : Nat => zI (zup a19_state (r0) (s0) (j : Int))) := zI_st a19_state (e := r0) (v := s0) (by omega) (by omega)
    rw [eQ] at hP hD
    clear eQ
    have ra_2001 : ∀ j : Int, 0 ≤ zup a19_state (r0) (s0) j ∧ zup a19_state (r0) (s0) j ≤ 2 := zup_P (P := fun x9 => 0 ≤ x9 ∧ x9 ≤ 2) hR_a19_state (show 0 ≤ (s0) ∧ (s0) ≤ 2 by omega)
    generalize zup a19_state (r0) (s0) = a_2001 at hP hD ra_2001
    have hP : va_P (dC, dI) vwQ [(h0, .inr (16, [v19_0, v19_1, v19_2, v19_3, v19_4, v19_5, v19_6, .ref q_1907, .ref q_1908, v19_9, v19_10, .int (zI (z19_changed)), v19_12, v19_13, v19_14, v19_15, v19_16, v19_17, v19_18, v19_19, v19_20, v19_21, v19_22, v19_23, v19_24, v19_25, v19_26, v19_27, v19_28, v19_29, v19_30, v19_31, v19_32, v19_33, v19_34, v19_35, v19_36, v19_37, v19_38, v19_39, v19_40])), (q_1907, .inl (cA_1907, 1002, .inl (fun j : Nat => zI (a_2001 (j : Int))))), (q_1908, .inl (cA_1908, 1002, .inl (fun j : Nat => zI (a19_number (j : Int)))))] H := hP
    have hD : va_D A [(h0, .inr (16, [v19_0, v19_1, v19_2, v19_3, v19_4, v19_5, v19_6, .ref q_1907, .ref q_1908, v19_9, v19_10, .int (zI (z19_changed)), v19_12, v19_13, v19_14, v19_15, v19_16, v19_17, v19_18, v19_19, v19_20, v19_21, v19_22, v19_23, v19_24, v19_25, v19_26, v19_27, v19_28, v19_29, v19_30, v19_31, v19_32, v19_33, v19_34, v19_35, v19_36, v19_37, v19_38, v19_39, v19_40])), (q_1907, .inl (cA_1907, 1002, .inl (fun j : Nat => zI (a_2001 (j : Int))))), (q_1908, .inl (cA_1908, 1002, .inl (fun j : Nat => zI (a19_number (j : Int)))))] := hD
    refine lv_aload_n hx hb dX19_set_33 rfl (lv_at hl 0 rfl) ?_
    refine va_get (D := (dC, dI)) (ci := 16) (v := .ref q_1908) (C := RX19) (T := TX19) (N := 41) hx hb hts mem_X19_set_0 hown hK hP 0 rfl rfl 8 (by decide) (ow (k := 1) rfl) (fun _ h9 => h9) rfl dX19_set_34 ?_
    refine lv_iload_n hx hb dX19_set_37 rfl (lv_at hl 1 rfl) ?_
    refine lv_iload_n hx hb dX19_set_38 rfl (lv_at hl 3 rfl) ?_
    refine va_iast (i := zI (r0)) hx hb hK hP hD hS 2 1 rfl rfl (zI_in (a := r0) (n := 1002) (by omega) (by omega) (by decide)) dX19_set_39 (fun H locs hP hD hS => ?_)
    have eQ : upd (fun j : Nat => zI (a19_number (j : Int))) (zI (r0)).toNatClampNeg (zI (v)) = (fun j : Nat => zI (zup a19_number (r0) (v) (j : Int))) := zI_st a19_number (e := r0) (v := v) (by omega) (by omega)
    rw [eQ] at hP hD
    clear eQ
    have ra_2002 : ∀ j : Int, -2147483648 ≤ zup a19_number (r0) (v) j ∧ zup a19_number (r0) (v) j ≤ 2147483647 := zup_P (P := fun x9 => -2147483648 ≤ x9 ∧ x9 ≤ 2147483647) hR_a19_number (show -2147483648 ≤ (v) ∧ (v) ≤ 2147483647 by omega)
    generalize zup a19_number (r0) (v) = a_2002 at hP hD ra_2002
    have hP : va_P (dC, dI) vwQ [(h0, .inr (16, [v19_0, v19_1, v19_2, v19_3, v19_4, v19_5, v19_6, .ref q_1907, .ref q_1908, v19_9, v19_10, .int (zI (z19_changed)), v19_12, v19_13, v19_14, v19_15, v19_16, v19_17, v19_18, v19_19, v19_20, v19_21, v19_22, v19_23, v19_24, v19_25, v19_26, v19_27, v19_28, v19_29, v19_30, v19_31, v19_32, v19_33, v19_34, v19_35, v19_36, v19_37, v19_38, v19_39, v19_40])), (q_1907, .inl (cA_1907, 1002, .inl (fun j : Nat => zI (a_2001 (j : Int))))), (q_1908, .inl (cA_1908, 1002, .inl (fun j : Nat => zI (a_2002 (j : Int)))))] H := hP
    have hD : va_D A [(h0, .inr (16, [v19_0, v19_1, v19_2, v19_3, v19_4, v19_5, v19_6, .ref q_1907, .ref q_1908, v19_9, v19_10, .int (zI (z19_changed)), v19_12, v19_13, v19_14, v19_15, v19_16, v19_17, v19_18, v19_19, v19_20, v19_21, v19_22, v19_23, v19_24, v19_25, v19_26, v19_27, v19_28, v19_29, v19_30, v19_31, v19_32, v19_33, v19_34, v19_35, v19_36, v19_37, v19_38, v19_39, v19_40])), (q_1907, .inl (cA_1907, 1002, .inl (fun j : Nat => zI (a_2001 (j : Int))))), (q_1908, .inl (cA_1908, 1002, .inl (fun j : Nat => zI (a_2002 (j : Int)))))] := hD
    refine lv_aload_n hx hb dX19_set_40 rfl (lv_at hl 0 rfl) ?_
    refine lv_iconst (v := 1) hx hb dX19_set_41 (by decide) ?_
    refine va_put (D := (dC, dI)) (ci := 16) (v := .int 1) (ty := .boolean) (C := RX19) (T := TX19) (N := 41) hx hb hts mem_X19_set_0 tyX19 tyX19_ok nmX19 hown hK hP hD hS 0 rfl rfl 11 (by decide) (ow (k := 2) rfl) (fun _ h9 => h9) rfl (by decide +kernel) rfl rfl (Nat.le_of_ble_eq_true rfl) dX19_set_42 (fun H locs hP hD hS => ?_)
    have hP : va_P (dC, dI) vwQ [(h0, .inr (16, [v19_0, v19_1, v19_2, v19_3, v19_4, v19_5, v19_6, .ref q_1907, .ref q_1908, v19_9, v19_10, .int 1, v19_12, v19_13, v19_14, v19_15, v19_16, v19_17, v19_18, v19_19, v19_20, v19_21, v19_22, v19_23, v19_24, v19_25, v19_26, v19_27, v19_28, v19_29, v19_30, v19_31, v19_32, v19_33, v19_34, v19_35, v19_36, v19_37, v19_38, v19_39, v19_40])), (q_1907, .inl (cA_1907, 1002, .inl (fun j : Nat => zI (a_2001 (j : Int))))), (q_1908, .inl (cA_1908, 1002, .inl (fun j : Nat => zI (a_2002 (j : Int)))))] H := hP
    have hD : va_D A [(h0, .inr (16, [v19_0, v19_1, v19_2, v19_3, v19_4, v19_5, v19_6, .ref q_1907, .ref q_1908, v19_9, v19_10, .int 1, v19_12, v19_13, v19_14, v19_15, v19_16, v19_17, v19_18, v19_19, v19_20, v19_21, v19_22, v19_23, v19_24, v19_25, v19_26, v19_27, v19_28, v19_29, v19_30, v19_31, v19_32, v19_33, v19_34, v19_35, v19_36, v19_37, v19_38, v19_39, v19_40])), (q_1907, .inl (cA_1907, 1002, .inl (fun j : Nat => zI (a_2001 (j : Int))))), (q_1908, .inl (cA_1908, 1002, .inl (fun j : Nat => zI (a_2002 (j : Int)))))] := hD
    subst hQ
    refine W.widen (k := 0) (n := 0) (Nat.le_of_ble_eq_true rfl) (Nat.le_of_ble_eq_true rfl) ?_
    exact W.vret hx hb hr (fun t ht hW => ⟨⟨(), rfl, trivial, 1, a_2001, a_2002, ⟨(by omega), ra_2001, ra_2002⟩, by rw [ht]; exact hP, va_K.moved hW.alike hK, hD⟩, hS.F ht⟩) hS.2.2 dX19_set_45
  · have yb7 : (a19_state (r0) : Int) = (s0 : Int) := (zI_eq (a := a19_state (r0)) (b := s0) (by omega) (by omega) (by omega) (by omega)).mp b7
    refine lv_iload_n hx hb dX19_set_10 rfl (lv_at hl 2 rfl) ?_
    refine lv_iconst (v := 1) hx hb dX19_set_11 (by decide) ?_
    refine lv_icmp_ne (tgt := 25) hx hb dX19_set_12 (by decide) (fun b12 => ?_) (fun b12 => ?_)
    · have yb12 : ¬ (s0 : Int) = (1 : Int) := fun q => b12 ((zI_eq (a := s0) (b := 1) (by omega) (by omega) (by omega) (by omega)).mpr q)
      subst hQ
      refine W.widen (k := 0) (n := 0) (Nat.le_of_ble_eq_true rfl) (Nat.le_of_ble_eq_true rfl) ?_
      exact W.vret hx hb hr (fun t ht hW => ⟨⟨(), rfl, trivial, z19_changed, a19_state, a19_number, ⟨(by omega), hR_a19_state, hR_a19_number⟩, by rw [ht]; exact hP, va_K.moved hW.alike hK, hD⟩, hS.F ht⟩) hS.2.2 dX19_set_25
    · have yb12 : (s0 : Int) = (1 : Int) := (zI_eq (a := s0) (b := 1) (by omega) (by omega) (by omega) (by omega)).mp b12
      refine lv_aload_n hx hb dX19_set_15 rfl (lv_at hl 0 rfl) ?_
      refine va_get (D := (dC, dI)) (ci := 16) (v := .ref q_1908) (C := RX19) (T := TX19) (N := 41) hx hb hts mem_X19_set_0 hown hK hP 0 rfl rfl 8 (by decide) (ow (k := 1) rfl) (fun _ h9 => h9) rfl dX19_set_16 ?_
      refine lv_iload_n hx hb dX19_set_19 rfl (lv_at hl 1 rfl) ?_
      refine va_iald hx hb hK hP 2 1 rfl rfl (zI_in (a := r0) (n := 1002) (by omega) (by omega) (by decide)) dX19_set_20 ?_
      refine lv_topi (fun z ez => ?_)
      obtain rfl : z = zI (a19_number (r0)) := ez.trans (zI_ld (a19_number) (by omega) (by omega))
      have k2 := hR_a19_number (r0)
      refine lv_iload_n hx hb dX19_set_21 rfl (lv_at hl 3 rfl) ?_
      refine lv_icmp_ne (tgt := 26) hx hb dX19_set_22 (by decide) (fun b22 => ?_) (fun b22 => ?_)
      · have yb22 : ¬ (a19_number (r0) : Int) = (v : Int) := fun q => b22 ((zI_eq (a := a19_number (r0)) (b := v) (by omega) (by omega) (by omega) (by omega)).mpr q)
        refine lv_aload_n hx hb dX19_set_26 rfl (lv_at hl 0 rfl) ?_
        refine va_get (D := (dC, dI)) (ci := 16) (v := .ref q_1907) (C := RX19) (T := TX19) (N := 41) hx hb hts mem_X19_set_0 hown hK hP 0 rfl rfl 7 (by decide) (ow (k := 0) rfl) (fun _ h9 => h9) rfl dX19_set_27 ?_
        refine lv_iload_n hx hb dX19_set_30 rfl (lv_at hl 1 rfl) ?_
        refine lv_iload_n hx hb dX19_set_31 rfl (lv_at hl 2 rfl) ?_
        refine va_iast (i := zI (r0)) hx hb hK hP hD hS 1 0 rfl rfl (zI_in (a := r0) (n := 1002) (by omega) (by omega) (by decide)) dX19_set_32 (fun H locs hP hD hS => ?_)
        have eQ : upd (fun j : Nat => zI (a19_state (j : Int))) (zI (r0)).toNatClampNeg (zI (s0)) = (fun j : Nat => zI (zup a19_state (r0) (s0) (j : Int))) := zI_st a19_state (e := r0) (v := s0) (by omega) (by omega)
        rw [eQ] at hP hD
        clear eQ
        have ra_2003 : ∀ j : Int, 0 ≤ zup a19_state (r0) (s0) j ∧ zup a19_state (r0) (s0) j ≤ 2 := zup_P (P := fun x9 => 0 ≤ x9 ∧ x9 ≤ 2) hR_a19_state (show 0 ≤ (s0) ∧ (s0) ≤ 2 by omega)
        generalize zup a19_state (r0) (s0) = a_2003 at hP hD ra_2003
        have hP : va_P (dC, dI) vwQ [(h0, .inr (16, [v19_0, v19_1, v19_2, v19_3, v19_4, v19_5, v19_6, .ref q_1907, .ref q_1908, v19_9, v19_10, .int (zI (z19_changed)), v19_12, v19_13, v19_14, v19_15, v19_16, v19_17, v19_18, v19_19, v19_20, v19_21, v19_22, v19_23, v19_24, v19_25, v19_26, v19_27, v19_28, v19_29, v19_30, v19_31, v19_32, v19_33, v19_34, v19_35, v19_36, v19_37, v19_38, v19_39, v19_40])), (q_1907, .inl (cA_1907, 1002, .inl (fun j : Nat => zI (a_2003 (j : Int))))), (q_1908, .inl (cA_1908, 1002, .inl (fun j : Nat => zI (a19_number (j : Int)))))] H := hP
        have hD : va_D A [(h0, .inr (16, [v19_0, v19_1, v19_2, v19_3, v19_4, v19_5, v19_6, .ref q_1907, .ref q_1908, v19_9, v19_10, .int (zI (z19_changed)), v19_12, v19_13, v19_14, v19_15, v19_16, v19_17, v19_18, v19_19, v19_20, v19_21, v19_22, v19_23, v19_24, v19_25, v19_26, v19_27, v19_28, v19_29, v19_30, v19_31, v19_32, v19_33, v19_34, v19_35, v19_36, v19_37, v19_38, v19_39, v19_40])), (q_1907, .inl (cA_1907, 1002, .inl (fun j : Nat => zI (a_2003 (j : Int))))), (q_1908, .inl (cA_1908, 1002, .inl (fun j : Nat => zI (a19_number (j : Int)))))] := hD
        refine lv_aload_n hx hb dX19_set_33 rfl (lv_at hl 0 rfl) ?_
        refine va_get (D := (dC, dI)) (ci := 16) (v := .ref q_1908) (C := RX19) (T := TX19) (N := 41) hx hb hts mem_X19_set_0 hown hK hP 0 rfl rfl 8 (by decide) (ow (k := 1) rfl) (fun _ h9 => h9) rfl dX19_set_34 ?_
        refine lv_iload_n hx hb dX19_set_37 rfl (lv_at hl 1 rfl) ?_
        refine lv_iload_n hx hb dX19_set_38 rfl (lv_at hl 3 rfl) ?_
        refine va_iast (i := zI (r0)) hx hb hK hP hD hS 2 1 rfl rfl (zI_in (a := r0) (n := 1002) (by omega) (by omega) (by decide)) dX19_set_39 (fun H locs hP hD hS => ?_)
        have eQ : upd (fun j : Nat => zI (a19_number (j : Int))) (zI (r0)).toNatClampNeg (zI (v)) = (fun j : Nat => zI (zup a19_number (r0) (v) (j : Int))) := zI_st a19_number (e := r0) (v := v) (by omega) (by omega)
        rw [eQ] at hP hD
        clear eQ
        have ra_2004 : ∀ j : Int, -2147483648 ≤ zup a19_number (r0) (v) j ∧ zup a19_number (r0) (v) j ≤ 2147483647 := zup_P (P := fun x9 => -2147483648 ≤ x9 ∧ x9 ≤ 2147483647) hR_a19_number (show -2147483648 ≤ (v) ∧ (v) ≤ 2147483647 by omega)
        generalize zup a19_number (r0) (v) = a_2004 at hP hD ra_2004
        have hP : va_P (dC, dI) vwQ [(h0, .inr (16, [v19_0, v19_1, v19_2, v19_3, v19_4, v19_5, v19_6, .ref q_1907, .ref q_1908, v19_9, v19_10, .int (zI (z19_changed)), v19_12, v19_13, v19_14, v19_15, v19_16, v19_17, v19_18, v19_19, v19_20, v19_21, v19_22, v19_23, v19_24, v19_25, v19_26, v19_27, v19_28, v19_29, v19_30, v19_31, v19_32, v19_33, v19_34, v19_35, v19_36, v19_37, v19_38, v19_39, v19_40])), (q_1907, .inl (cA_1907, 1002, .inl (fun j : Nat => zI (a_2003 (j : Int))))), (q_1908, .inl (cA_1908, 1002, .inl (fun j : Nat => zI (a_2004 (j : Int)))))] H := hP
        have hD : va_D A [(h0, .inr (16, [v19_0, v19_1, v19_2, v19_3, v19_4, v19_5, v19_6, .ref q_1907, .ref q_1908, v19_9, v19_10, .int (zI (z19_changed)), v19_12, v19_13, v19_14, v19_15, v19_16, v19_17, v19_18, v19_19, v19_20, v19_21, v19_22, v19_23, v19_24, v19_25, v19_26, v19_27, v19_28, v19_29, v19_30, v19_31, v19_32, v19_33, v19_34, v19_35, v19_36, v19_37, v19_38, v19_39, v19_40])), (q_1907, .inl (cA_1907, 1002, .inl (fun j : Nat => zI (a_2003 (j : Int))))), (q_1908, .inl (cA_1908, 1002, .inl (fun j : Nat => zI (a_2004 (j : Int)))))] := hD
        refine lv_aload_n hx hb dX19_set_40 rfl (lv_at hl 0 rfl) ?_
        refine lv_iconst (v := 1) hx hb dX19_set_41 (by decide) ?_
        refine va_put (D := (dC, dI)) (ci := 16) (v := .int 1) (ty := .boolean) (C := RX19) (T := TX19) (N := 41) hx hb hts mem_X19_set_0 tyX19 tyX19_ok nmX19 hown hK hP hD hS 0 rfl rfl 11 (by decide) (ow (k := 2) rfl) (fun _ h9 => h9) rfl (by decide +kernel) rfl rfl (Nat.le_of_ble_eq_true rfl) dX19_set_42 (fun H locs hP hD hS => ?_)
        have hP : va_P (dC, dI) vwQ [(h0, .inr (16, [v19_0, v19_1, v19_2, v19_3, v19_4, v19_5, v19_6, .ref q_1907, .ref q_1908, v19_9, v19_10, .int 1, v19_12, v19_13, v19_14, v19_15, v19_16, v19_17, v19_18, v19_19, v19_20, v19_21, v19_22, v19_23, v19_24, v19_25, v19_26, v19_27, v19_28, v19_29, v19_30, v19_31, v19_32, v19_33, v19_34, v19_35, v19_36, v19_37, v19_38, v19_39, v19_40])), (q_1907, .inl (cA_1907, 1002, .inl (fun j : Nat => zI (a_2003 (j : Int))))), (q_1908, .inl (cA_1908, 1002, .inl (fun j : Nat => zI (a_2004 (j : Int)))))] H := hP
        have hD : va_D A [(h0, .inr (16, [v19_0, v19_1, v19_2, v19_3, v19_4, v19_5, v19_6, .ref q_1907, .ref q_1908, v19_9, v19_10, .int 1, v19_12, v19_13, v19_14, v19_15, v19_16, v19_17, v19_18, v19_19, v19_20, v19_21, v19_22, v19_23, v19_24, v19_25, v19_26, v19_27, v19_28, v19_29, v19_30, v19_31, v19_32, v19_33, v19_34, v19_35, v19_36, v19_37, v19_38, v19_39, v19_40])), (q_1907, .inl (cA_1907, 1002, .inl (fun j : Nat => zI (a_2003 (j : Int))))), (q_1908, .inl (cA_1908, 1002, .inl (fun j : Nat => zI (a_2004 (j : Int)))))] := hD
        subst hQ
        refine W.widen (k := 0) (n := 0) (Nat.le_of_ble_eq_true rfl) (Nat.le_of_ble_eq_true rfl) ?_
        exact W.vret hx hb hr (fun t ht hW => ⟨⟨(), rfl, trivial, 1, a_2003, a_2004, ⟨(by omega), ra_2003, ra_2004⟩, by rw [ht]; exact hP, va_K.moved hW.alike hK, hD⟩, hS.F ht⟩) hS.2.2 dX19_set_45
      · have yb22 : (a19_number (r0) : Int) = (v : Int) := (zI_eq (a := a19_number (r0)) (b := v) (by omega) (by omega) (by omega) (by omega)).mp b22
        subst hQ
        refine W.widen (k := 0) (n := 0) (Nat.le_of_ble_eq_true rfl) (Nat.le_of_ble_eq_true rfl) ?_
        exact W.vret hx hb hr (fun t ht hW => ⟨⟨(), rfl, trivial, z19_changed, a19_state, a19_number, ⟨(by omega), hR_a19_state, hR_a19_number⟩, by rw [ht]; exact hP, va_K.moved hW.alike hK, hD⟩, hS.F ht⟩) hS.2.2 dX19_set_25
theorem dX19_replace_0 : decode cX19_replace 0 = .ok (.aload_n 0, 1) := by decide +kernel
theorem dX19_replace_1 : decode cX19_replace 1 = .ok (.getfield 284, 3) := by decide +kernel
theorem dX19_replace_4 : decode cX19_replace 4 = .ok (.iload_n 1, 1) := by decide +kernel
theorem dX19_replace_5 : decode cX19_replace 5 = .ok (.iconst 1, 1) := by decide +kernel
theorem dX19_replace_6 : decode cX19_replace 6 = .ok (.bastore, 1) := by decide +kernel
theorem dX19_replace_7 : decode cX19_replace 7 = .ok (.aload_n 0, 1) := by decide +kernel
theorem dX19_replace_8 : decode cX19_replace 8 = .ok (.getfield 287, 3) := by decide +kernel
theorem dX19_replace_11 : decode cX19_replace 11 = .ok (.iload_n 1, 1) := by decide +kernel
theorem dX19_replace_12 : decode cX19_replace 12 = .ok (.iload_n 2, 1) := by decide +kernel
theorem dX19_replace_13 : decode cX19_replace 13 = .ok (.iastore, 1) := by decide +kernel
theorem dX19_replace_14 : decode cX19_replace 14 = .ok (.aload_n 0, 1) := by decide +kernel
theorem dX19_replace_15 : decode cX19_replace 15 = .ok (.getfield 290, 3) := by decide +kernel
theorem dX19_replace_18 : decode cX19_replace 18 = .ok (.iload_n 1, 1) := by decide +kernel
theorem dX19_replace_19 : decode cX19_replace 19 = .ok (.iload_n 3, 1) := by decide +kernel
theorem dX19_replace_20 : decode cX19_replace 20 = .ok (.bastore, 1) := by decide +kernel
theorem dX19_replace_21 : decode cX19_replace 21 = .ok (.return_, 1) := by decide +kernel
def o_X19_replace : List Cond := [.fieldLink RX19 284 "SsaForgeModel" "replaced" "[Z", .fieldLink RX19 287 "SsaForgeModel" "by" "[I", .fieldLink RX19 290 "SsaForgeModel" "byReg" "[Z"]
def v_X19_replace : List Cond := .code yX19_replace cX19_replace 4 none :: (o_X19_replace ++ (wsX190 ++ []))
theorem mow_X19_replace : ∀ w ∈ o_X19_replace, w ∈ v_X19_replace := fun _ h => List.mem_cons_of_mem _ (List.mem_append_left _ h)
theorem mem_X19_replace_0 : ∀ w ∈ wsX190, w ∈ v_X19_replace := fun _ h => List.mem_cons_of_mem _ (List.mem_append_right _ (List.mem_append_left _ h))
set_option maxRecDepth 20000 in
theorem gw_X19_replace : v_X19_replace.all goodWord = true := by decide +kernel
set_option maxHeartbeats 4000000 in
set_option maxRecDepth 100000 in
theorem c_X19_replace (l : Launch) (dC : Nat → ClassId) (dI : Nat → Nat → Nat) (h0 : Nat) (v19_0 : Value) (v19_1 : Value) (v19_2 : Value) (v19_3 : Value) (v19_4 : Value) (v19_5 : Value) (v19_6 : Value) (v19_7 : Value) (v19_8 : Value) (v19_9 : Value) (v19_10 : Value) (v19_11 : Value) (q_1912 : Nat) (cA_1912 : ClassId) (a19_replaced : Int → Int) (q_1913 : Nat) (cA_1913 : ClassId) (a19_byReg : Int → Int) (q_1914 : Nat) (cA_1914 : ClassId) (a19_by : Int → Int) (v19_15 : Value) (v19_16 : Value) (v19_17 : Value) (v19_18 : Value) (v19_19 : Value) (v19_20 : Value) (v19_21 : Value) (v19_22 : Value) (v19_23 : Value) (v19_24 : Value) (v19_25 : Value) (v19_26 : Value) (v19_27 : Value) (v19_28 : Value) (v19_29 : Value) (v19_30 : Value) (v19_31 : Value) (v19_32 : Value) (v19_33 : Value) (v19_34 : Value) (v19_35 : Value) (v19_36 : Value) (v19_37 : Value) (v19_38 : Value) (v19_39 : Value) (v19_40 : Value) (r0 : Int) (x : Int) (g : Int) (hR_a19_replaced : ∀ j : Int, 0 ≤ a19_replaced j ∧ a19_replaced j ≤ 1) (hR_a19_byReg : ∀ j : Int, 0 ≤ a19_byReg j ∧ a19_byReg j ≤ 1) (hR_a19_by : ∀ j : Int, -2147483648 ≤ a19_by j ∧ a19_by j ≤ 2147483647) (hNr : 0 ≤ r0 ∧ r0 ≤ 1001) (hNx : -2147483648 ≤ x ∧ x ≤ 2147483647) (hNg : 0 ≤ g ∧ g ≤ 1) (sz : Nat) : Met l yX19_replace v_X19_replace ({ frames := 0, cells := 0, slots := 0, locals := 0 }) (va_Pc [.ref h0, .int (zI (r0)), .int (zI (x)), .int (zI (g))] (fun U => U.heap.size = sz ∧ va_P (dC, dI) vwQ [(h0, .inr (16, [v19_0, v19_1, v19_2, v19_3, v19_4, v19_5, v19_6, v19_7, v19_8, v19_9, v19_10, v19_11, .ref q_1912, .ref q_1913, .ref q_1914, v19_15, v19_16, v19_17, v19_18, v19_19, v19_20, v19_21, v19_22, v19_23, v19_24, v19_25, v19_26, v19_27, v19_28, v19_29, v19_30, v19_31, v19_32, v19_33, v19_34, v19_35, v19_36, v19_37, v19_38, v19_39, v19_40])), (q_1912, .inl (cA_1912, 1002, .inl (fun j : Nat => zI (a19_replaced (j : Int))))), (q_1913, .inl (cA_1913, 1002, .inl (fun j : Nat => zI (a19_byReg (j : Int))))), (q_1914, .inl (cA_1914, 1002, .inl (fun j : Nat => zI (a19_by (j : Int)))))] U.heap ∧ va_K (dC, dI) vwQ [(cA_1912, .boolean), (cA_1913, .boolean), (cA_1914, .int)] U ∧ va_D (fun _ => True) [(h0, .inr (16, [v19_0, v19_1, v19_2, v19_3, v19_4, v19_5, v19_6, v19_7, v19_8, v19_9, v19_10, v19_11, .ref q_1912, .ref q_1913, .ref q_1914, v19_15, v19_16, v19_17, v19_18, v19_19, v19_20, v19_21, v19_22, v19_23, v19_24, v19_25, v19_26, v19_27, v19_28, v19_29, v19_30, v19_31, v19_32, v19_33, v19_34, v19_35, v19_36, v19_37, v19_38, v19_39, v19_40])), (q_1912, .inl (cA_1912, 1002, .inl (fun j : Nat => zI (a19_replaced (j : Int))))), (q_1913, .inl (cA_1913, 1002, .inl (fun j : Nat => zI (a19_byReg (j : Int))))), (q_1914, .inl (cA_1914, 1002, .inl (fun j : Nat => zI (a19_by (j : Int)))))])) (va_Qv (fun _ : Unit => True) (fun (_ : Unit) (t : State) => ∃ (a0_9 : Int → Int) (a1_9 : Int → Int) (a2_9 : Int → Int), ((∀ j : Int, 0 ≤ a0_9 j ∧ a0_9 j ≤ 1) ∧ (∀ j : Int, 0 ≤ a1_9 j ∧ a1_9 j ≤ 1) ∧ (∀ j : Int, -2147483648 ≤ a2_9 j ∧ a2_9 j ≤ 2147483647)) ∧ va_P (dC, dI) vwQ [(h0, .inr (16, [v19_0, v19_1, v19_2, v19_3, v19_4, v19_5, v19_6, v19_7, v19_8, v19_9, v19_10, v19_11, .ref q_1912, .ref q_1913, .ref q_1914, v19_15, v19_16, v19_17, v19_18, v19_19, v19_20, v19_21, v19_22, v19_23, v19_24, v19_25, v19_26, v19_27, v19_28, v19_29, v19_30, v19_31, v19_32, v19_33, v19_34, v19_35, v19_36, v19_37, v19_38, v19_39, v19_40])), (q_1912, .inl (cA_1912, 1002, .inl (fun j : Nat => zI (a0_9 (j : Int))))), (q_1913, .inl (cA_1913, 1002, .inl (fun j : Nat => zI (a1_9 (j : Int))))), (q_1914, .inl (cA_1914, 1002, .inl (fun j : Nat => zI (a2_9 (j : Int)))))] t.heap ∧ va_K (dC, dI) vwQ [(cA_1912, .boolean), (cA_1913, .boolean), (cA_1914, .int)] t ∧ va_D (va_A [(h0, .inr (16, [v19_0, v19_1, v19_2, v19_3, v19_4, v19_5, v19_6, v19_7, v19_8, v19_9, v19_10, v19_11, .ref q_1912, .ref q_1913, .ref q_1914, v19_15, v19_16, v19_17, v19_18, v19_19, v19_20, v19_21, v19_22, v19_23, v19_24, v19_25, v19_26, v19_27, v19_28, v19_29, v19_30, v19_31, v19_32, v19_33, v19_34, v19_35, v19_36, v19_37, v19_38, v19_39, v19_40])), (q_1912, .inl (cA_1912, 1002, .inl (fun j : Nat => zI (a19_replaced (j : Int))))), (q_1913, .inl (cA_1913, 1002, .inl (fun j : Nat => zI (a19_byReg (j : Int))))), (q_1914, .inl (cA_1914, 1002, .inl (fun j : Nat => zI (a19_by (j : Int)))))] sz) [(h0, .inr (16, [v19_0, v19_1, v19_2, v19_3, v19_4, v19_5, v19_6, v19_7, v19_8, v19_9, v19_10, v19_11, .ref q_1912, .ref q_1913, .ref q_1914, v19_15, v19_16, v19_17, v19_18, v19_19, v19_20, v19_21, v19_22, v19_23, v19_24, v19_25, v19_26, v19_27, v19_28, v19_29, v19_30, v19_31, v19_32, v19_33, v19_34, v19_35, v19_36, v19_37, v19_38, v19_39, v19_40])), (q_1912, .inl (cA_1912, 1002, .inl (fun j : Nat => zI (a0_9 (j : Int))))), (q_1913, .inl (cA_1913, 1002, .inl (fun j : Nat => zI (a1_9 (j : Int))))), (q_1914, .inl (cA_1914, 1002, .inl (fun j : Nat => zI (a2_9 (j : Int)))))]) (va_A [(h0, .inr (16, [v19_0, v19_1, v19_2, v19_3, v19_4, v19_5, v19_6, v19_7, v19_8, v19_9, v19_10, v19_11, .ref q_1912, .ref q_1913, .ref q_1914, v19_15, v19_16, v19_17, v19_18, v19_19, v19_20, v19_21, v19_22, v19_23, v19_24, v19_25, v19_26, v19_27, v19_28, v19_29, v19_30, v19_31, v19_32, v19_33, v19_34, v19_35, v19_36, v19_37, v19_38, v19_39, v19_40])), (q_1912, .inl (cA_1912, 1002, .inl (fun j : Nat => zI (a19_replaced (j : Int))))), (q_1913, .inl (cA_1913, 1002, .inl (fun j : Nat => zI (a19_byReg (j : Int))))), (q_1914, .inl (cA_1914, 1002, .inl (fun j : Nat => zI (a19_by (j : Int)))))] sz)) 0 0 (va_A [(h0, .inr (16, [v19_0, v19_1, v19_2, v19_3, v19_4, v19_5, v19_6, v19_7, v19_8, v19_9, v19_10, v19_11, .ref q_1912, .ref q_1913, .ref q_1914, v19_15, v19_16, v19_17, v19_18, v19_19, v19_20, v19_21, v19_22, v19_23, v19_24, v19_25, v19_26, v19_27, v19_28, v19_29, v19_30, v19_31, v19_32, v19_33, v19_34, v19_35, v19_36, v19_37, v19_38, v19_39, v19_40])), (q_1912, .inl (cA_1912, 1002, .inl (fun j : Nat => zI (a19_replaced (j : Int))))), (q_1913, .inl (cA_1913, 1002, .inl (fun j : Nat => zI (a19_byReg (j : Int))))), (q_1914, .inl (cA_1914, 1002, .inl (fun j : Nat => zI (a19_by (j : Int)))))] sz) := by
  refine Met.ofW (cc := cX19_replace) (maxL := 4) (ret := none) (by decide) rfl ?_
  intro p e s m args below meth c s₁ B hml hv
  obtain ⟨rfl, hsz, hP, hK, hD0⟩ := hv
  have hx := B.exec
  have hb := B.bytes
  have hr := B.returns
  have hts := atoms_spec (ws := v_X19_replace) B.pre
  have hown : s.vm.findClass RX19 = some m.cls := findClass_of_methodNamed B.named
  have hlocks := B.notSynchronized
  have ow : ∀ {k : Nat} {w : Cond}, o_X19_replace[k]? = some w → w.before ([.ref h0, .int (zI (r0)), .int (zI (x)), .int (zI (g))] : List Value).toArray s = true := fun h => hts _ (mow_X19_replace _ (List.mem_of_getElem? h))
  subst hsz
  have hD := hD0.self (sz := s.heap.size)
  generalize hAe : va_A [(h0, .inr (16, [v19_0, v19_1, v19_2, v19_3, v19_4, v19_5, v19_6, v19_7, v19_8, v19_9, v19_10, v19_11, .ref q_1912, .ref q_1913, .ref q_1914, v19_15, v19_16, v19_17, v19_18, v19_19, v19_20, v19_21, v19_22, v19_23, v19_24, v19_25, v19_26, v19_27, v19_28, v19_29, v19_30, v19_31, v19_32, v19_33, v19_34, v19_35, v19_36, v19_37, v19_38, v19_39, v19_40])), (q_1912, .inl (cA_1912, 1002, .inl (fun j : Nat => zI (a19_replaced (j : Int))))), (q_1913, .inl (cA_1913, 1002, .inl (fun j : Nat => zI (a19_byReg (j : Int))))), (q_1914, .inl (cA_1914, 1002, .inl (fun j : Nat => zI (a19_by (j : Int)))))] s.heap.size = A at hD ⊢
  have hA : ∀ q : Nat, s.heap.size ≤ q → A q := fun q h => by rw [← hAe]; exact Or.inr h
  have hS : va_S A s.heap s.heap [] := va_S.rf
  have hP : va_P (dC, dI) vwQ [(h0, .inr (16, [v19_0, v19_1, v19_2, v19_3, v19_4, v19_5, v19_6, v19_7, v19_8, v19_9, v19_10, v19_11, .ref q_1912, .ref q_1913, .ref q_1914, v19_15, v19_16, v19_17, v19_18, v19_19, v19_20, v19_21, v19_22, v19_23, v19_24, v19_25, v19_26, v19_27, v19_28, v19_29, v19_30, v19_31, v19_32, v19_33, v19_34, v19_35, v19_36, v19_37, v19_38, v19_39, v19_40])), (q_1912, .inl (cA_1912, 1002, .inl (fun j : Nat => zI (a19_replaced (j : Int))))), (q_1913, .inl (cA_1913, 1002, .inl (fun j : Nat => zI (a19_byReg (j : Int))))), (q_1914, .inl (cA_1914, 1002, .inl (fun j : Nat => zI (a19_by (j : Int)))))] s.heap := hP
  have hl := lv_entry ([.ref h0, .int (zI (r0)), .int (zI (x)), .int (zI (g))]) (n := 4) (Nat.le_of_ble_eq_true rfl)
  rw [lg_entry_eq]
  generalize (lg_sl ([.ref h0, .int (zI (r0)), .int (zI (x)), .int (zI (g))]) ++ List.replicate (4 - (lg_sl ([.ref h0, .int (zI (r0)), .int (zI (x)), .int (zI (g))])).length) Slot.unset).toArray = ls at hl ⊢
  have hl : lv_has ls 4 [(0, .ref h0), (1, .int (zI (r0))), (2, .int (zI (x))), (3, .int (zI (g)))] := hl
  obtain ⟨H, hH⟩ : ∃ H, H = s.heap := ⟨_, rfl⟩
  rw [← hH] at hP
  have hS : va_S A s.heap H [] := by rw [hH]; exact hS
  rw [← hH]
  refine zW_cap (fun Q hQ => ?_)
  refine lv_aload_n hx hb dX19_replace_0 rfl (lv_at hl 0 rfl) ?_
  refine va_get (D := (dC, dI)) (ci := 16) (v := .ref q_1912) (C := RX19) (T := TX19) (N := 41) hx hb hts mem_X19_replace_0 hown hK hP 0 rfl rfl 12 (by decide) (ow (k := 0) rfl) (fun _ h9 => h9) rfl dX19_replace_1 ?_
  refine lv_iload_n hx hb dX19_replace_4 rfl (lv_at hl 1 rfl) ?_
  refine lv_iconst (v := 1) hx hb dX19_replace_5 (by decide) ?_
  refine va_zast (i := zI (r0)) hx hb hK hP hD hS 1 0 rfl rfl (zI_in (a := r0) (n := 1002) (by omega) (by omega) (by decide)) dX19_replace_6 (fun H locs hP hD hS => ?_)
  rw [show vp_nar .boolean 1 = 1 from zI_nar (a := 1) (by omega) (by omega)] at hP hD
  have eQ : upd (fun j : Nat => zI (a19_replaced (j : Int))) (zI (r0)).toNatClampNeg 1 = (fun j : Nat => zI (zup a19_replaced (r0) (1) (j : Int))) := zI_st a19_replaced (e := r0) (v := 1) (by omega) (by omega)
  rw [eQ] at hP hD
  clear eQ
  have ra_2001 : ∀ j : Int, 0 ≤ zup a19_replaced (r0) (1) j ∧ zup a19_replaced (r0) (1) j ≤ 1 := zup_P (P := fun x9 => 0 ≤ x9 ∧ x9 ≤ 1) hR_a19_replaced (show 0 ≤ (1) ∧ (1) ≤ 1 by omega)
  generalize zup a19_replaced (r0) (1) = a_2001 at hP hD ra_2001
  have hP : va_P (dC, dI) vwQ [(h0, .inr (16, [v19_0, v19_1, v19_2, v19_3, v19_4, v19_5, v19_6, v19_7, v19_8, v19_9, v19_10, v19_11, .ref q_1912, .ref q_1913, .ref q_1914, v19_15, v19_16, v19_17, v19_18, v19_19, v19_20, v19_21, v19_22, v19_23, v19_24, v19_25, v19_26, v19_27, v19_28, v19_29, v19_30, v19_31, v19_32, v19_33, v19_34, v19_35, v19_36, v19_37, v19_38, v19_39, v19_40])), (q_1912, .inl (cA_1912, 1002, .inl (fun j : Nat => zI (a_2001 (j : Int))))), (q_1913, .inl (cA_1913, 1002, .inl (fun j : Nat => zI (a19_byReg (j : Int))))), (q_1914, .inl (cA_1914, 1002, .inl (fun j : Nat => zI (a19_by (j : Int)))))] H := hP
  have hD : va_D A [(h0, .inr (16, [v19_0, v19_1, v19_2, v19_3, v19_4, v19_5, v19_6, v19_7, v19_8, v19_9, v19_10, v19_11, .ref q_1912, .ref q_1913, .ref q_1914, v19_15, v19_16, v19_17, v19_18, v19_19, v19_20, v19_21, v19_22, v19_23, v19_24, v19_25, v19_26, v19_27, v19_28, v19_29, v19_30, v19_31, v19_32, v19_33, v19_34, v19_35, v19_36, v19_37, v19_38, v19_39, v19_40])), (q_1912, .inl (cA_1912, 1002, .inl (fun j : Nat => zI (a_2001 (j : Int))))), (q_1913, .inl (cA_1913, 1002, .inl (fun j : Nat => zI (a19_byReg (j : Int))))), (q_1914, .inl (cA_1914, 1002, .inl (fun j : Nat => zI (a19_by (j : Int)))))] := hD
  refine lv_aload_n hx hb dX19_replace_7 rfl (lv_at hl 0 rfl) ?_
  refine va_get (D := (dC, dI)) (ci := 16) (v := .ref q_1914) (C := RX19) (T := TX19) (N := 41) hx hb hts mem_X19_replace_0 hown hK hP 0 rfl rfl 14 (by decide) (ow (k := 1) rfl) (fun _ h9 => h9) rfl dX19_replace_8 ?_
  refine lv_iload_n hx hb dX19_replace_11 rfl (lv_at hl 1 rfl) ?_
  refine lv_iload_n hx hb dX19_replace_12 rfl (lv_at hl 2 rfl) ?_
  refine va_iast (i := zI (r0)) hx hb hK hP hD hS 3 2 rfl rfl (zI_in (a := r0) (n := 1002) (by omega) (by omega) (by decide)) dX19_replace_13 (fun H locs hP hD hS => ?_)
  have eQ : upd (fun j : Nat => zI (a19_by (j : Int))) (zI (r0)).toNatClampNeg (zI (x)) = (fun j : Nat => zI (zup a19_by (r0) (x) (j : Int))) := zI_st a19_by (e := r0) (v := x) (by omega) (by omega)
  rw [eQ] at hP hD
  clear eQ
  have ra_2002 : ∀ j : Int, -2147483648 ≤ zup a19_by (r0) (x) j ∧ zup a19_by (r0) (x) j ≤ 2147483647 := zup_P (P := fun x9 => -2147483648 ≤ x9 ∧ x9 ≤ 2147483647) hR_a19_by (show -2147483648 ≤ (x) ∧ (x) ≤ 2147483647 by omega)
  generalize zup a19_by (r0) (x) = a_2002 at hP hD ra_2002
  have hP : va_P (dC, dI) vwQ [(h0, .inr (16, [v19_0, v19_1, v19_2, v19_3, v19_4, v19_5, v19_6, v19_7, v19_8, v19_9, v19_10, v19_11, .ref q_1912, .ref q_1913, .ref q_1914, v19_15, v19_16, v19_17, v19_18, v19_19, v19_20, v19_21, v19_22, v19_23, v19_24, v19_25, v19_26, v19_27, v19_28, v19_29, v19_30, v19_31, v19_32, v19_33, v19_34, v19_35, v19_36, v19_37, v19_38, v19_39, v19_40])), (q_1912, .inl (cA_1912, 1002, .inl (fun j : Nat => zI (a_2001 (j : Int))))), (q_1913, .inl (cA_1913, 1002, .inl (fun j : Nat => zI (a19_byReg (j : Int))))), (q_1914, .inl (cA_1914, 1002, .inl (fun j : Nat => zI (a_2002 (j : Int)))))] H := hP
  have hD : va_D A [(h0, .inr (16, [v19_0, v19_1, v19_2, v19_3, v19_4, v19_5, v19_6, v19_7, v19_8, v19_9, v19_10, v19_11, .ref q_1912, .ref q_1913, .ref q_1914, v19_15, v19_16, v19_17, v19_18, v19_19, v19_20, v19_21, v19_22, v19_23, v19_24, v19_25, v19_26, v19_27, v19_28, v19_29, v19_30, v19_31, v19_32, v19_33, v19_34, v19_35, v19_36, v19_37, v19_38, v19_39, v19_40])), (q_1912, .inl (cA_1912, 1002, .inl (fun j : Nat => zI (a_2001 (j : Int))))), (q_1913, .inl (cA_1913, 1002, .inl (fun j : Nat => zI (a19_byReg (j : Int))))), (q_1914, .inl (cA_1914, 1002, .inl (fun j : Nat => zI (a_2002 (j : Int)))))] := hD
  refine lv_aload_n hx hb dX19_replace_14 rfl (lv_at hl 0 rfl) ?_
  refine va_get (D := (dC, dI)) (ci := 16) (v := .ref q_1913) (C := RX19) (T := TX19) (N := 41) hx hb hts mem_X19_replace_0 hown hK hP 0 rfl rfl 13 (by decide) (ow (k := 2) rfl) (fun _ h9 => h9) rfl dX19_replace_15 ?_
  refine lv_iload_n hx hb dX19_replace_18 rfl (lv_at hl 1 rfl) ?_
  refine lv_iload_n hx hb dX19_replace_19 rfl (lv_at hl 3 rfl) ?_
  refine va_zast (i := zI (r0)) hx hb hK hP hD hS 2 1 rfl rfl (zI_in (a := r0) (n := 1002) (by omega) (by omega) (by decide)) dX19_replace_20 (fun H locs hP hD hS => ?_)
  rw [show vp_nar .boolean (zI (g)) = (zI (g)) from zI_nar (a := g) (by omega) (by omega)] at hP hD
  have eQ : upd (fun j : Nat => zI (a19_byReg (j : Int))) (zI (r0)).toNatClampNeg (zI (g)) = (fun j : Nat => zI (zup a19_byReg (r0) (g) (j : Int))) := zI_st a19_byReg (e := r0) (v := g) (by omega) (by omega)
  rw [eQ] at hP hD
  clear eQ
  have ra_2003 : ∀ j : Int, 0 ≤ zup a19_byReg (r0) (g) j ∧ zup a19_byReg (r0) (g) j ≤ 1 := zup_P (P := fun x9 => 0 ≤ x9 ∧ x9 ≤ 1) hR_a19_byReg (show 0 ≤ (g) ∧ (g) ≤ 1 by omega)
  generalize zup a19_byReg (r0) (g) = a_2003 at hP hD ra_2003
  have hP : va_P (dC, dI) vwQ [(h0, .inr (16, [v19_0, v19_1, v19_2, v19_3, v19_4, v19_5, v19_6, v19_7, v19_8, v19_9, v19_10, v19_11, .ref q_1912, .ref q_1913, .ref q_1914, v19_15, v19_16, v19_17, v19_18, v19_19, v19_20, v19_21, v19_22, v19_23, v19_24, v19_25, v19_26, v19_27, v19_28, v19_29, v19_30, v19_31, v19_32, v19_33, v19_34, v19_35, v19_36, v19_37, v19_38, v19_39, v19_40])), (q_1912, .inl (cA_1912, 1002, .inl (fun j : Nat => zI (a_2001 (j : Int))))), (q_1913, .inl (cA_1913, 1002, .inl (fun j : Nat => zI (a_2003 (j : Int))))), (q_1914, .inl (cA_1914, 1002, .inl (fun j : Nat => zI (a_2002 (j : Int)))))] H := hP
  have hD : va_D A [(h0, .inr (16, [v19_0, v19_1, v19_2, v19_3, v19_4, v19_5, v19_6, v19_7, v19_8, v19_9, v19_10, v19_11, .ref q_1912, .ref q_1913, .ref q_1914, v19_15, v19_16, v19_17, v19_18, v19_19, v19_20, v19_21, v19_22, v19_23, v19_24, v19_25, v19_26, v19_27, v19_28, v19_29, v19_30, v19_31, v19_32, v19_33, v19_34, v19_35, v19_36, v19_37, v19_38, v19_39, v19_40])), (q_1912, .inl (cA_1912, 1002, .inl (fun j : Nat => zI (a_2001 (j : Int))))), (q_1913, .inl (cA_1913, 1002, .inl (fun j : Nat => zI (a_2003 (j : Int))))), (q_1914, .inl (cA_1914, 1002, .inl (fun j : Nat => zI (a_2002 (j : Int)))))] := hD
  subst hQ
  refine W.widen (k := 0) (n := 0) (Nat.le_of_ble_eq_true rfl) (Nat.le_of_ble_eq_true rfl) ?_
  exact W.vret hx hb hr (fun t ht hW => ⟨⟨(), rfl, trivial, a_2001, a_2003, a_2002, ⟨ra_2001, ra_2003, ra_2002⟩, by rw [ht]; exact hP, va_K.moved hW.alike hK, hD⟩, hS.F ht⟩) hS.2.2 dX19_replace_21
theorem dX19_nothingReplaced_0 : decode cX19_nothingReplaced 0 = .ok (.iconst 0, 1) := by decide +kernel
theorem dX19_nothingReplaced_1 : decode cX19_nothingReplaced 1 = .ok (.istore_n 1, 1) := by decide +kernel
theorem dX19_nothingReplaced_2 : decode cX19_nothingReplaced 2 = .ok (.iload_n 1, 1) := by decide +kernel
theorem dX19_nothingReplaced_3 : decode cX19_nothingReplaced 3 = .ok (.sipush 1001, 3) := by decide +kernel
theorem dX19_nothingReplaced_6 : decode cX19_nothingReplaced 6 = .ok (.if_icmp .gt 16, 3) := by decide +kernel
theorem dX19_nothingReplaced_22 : decode cX19_nothingReplaced 22 = .ok (.return_, 1) := by decide +kernel
theorem dX19_nothingReplaced_9 : decode cX19_nothingReplaced 9 = .ok (.aload_n 0, 1) := by decide +kernel
theorem dX19_nothingReplaced_10 : decode cX19_nothingReplaced 10 = .ok (.getfield 284, 3) := by decide +kernel
theorem dX19_nothingReplaced_13 : decode cX19_nothingReplaced 13 = .ok (.iload_n 1, 1) := by decide +kernel
theorem dX19_nothingReplaced_14 : decode cX19_nothingReplaced 14 = .ok (.iconst 0, 1) := by decide +kernel
theorem dX19_nothingReplaced_15 : decode cX19_nothingReplaced 15 = .ok (.bastore, 1) := by decide +kernel
theorem dX19_nothingReplaced_16 : decode cX19_nothingReplaced 16 = .ok (.iinc 1 1, 3) := by decide +kernel
theorem dX19_nothingReplaced_19 : decode cX19_nothingReplaced 19 = .ok (.goto (-17), 3) := by decide +kernel
def o_X19_nothingReplaced : List Cond := [.fieldLink RX19 284 "SsaForgeModel" "replaced" "[Z"]
def v_X19_nothingReplaced : List Cond := .code yX19_nothingReplaced cX19_nothingReplaced 2 none :: (o_X19_nothingReplaced ++ (wsX190 ++ []))
theorem mow_X19_nothingReplaced : ∀ w ∈ o_X19_nothingReplaced, w ∈ v_X19_nothingReplaced := fun _ h => List.mem_cons_of_mem _ (List.mem_append_left _ h)
theorem mem_X19_nothingReplaced_0 : ∀ w ∈ wsX190, w ∈ v_X19_nothingReplaced := fun _ h => List.mem_cons_of_mem _ (List.mem_append_right _ (List.mem_append_left _ h))
set_option maxRecDepth 20000 in
theorem gw_X19_nothingReplaced : v_X19_nothingReplaced.all goodWord = true := by decide +kernel
set_option maxHeartbeats 4000000 in
set_option maxRecDepth 100000 in
theorem c_X19_nothingReplaced (l : Launch) (dC : Nat → ClassId) (dI : Nat → Nat → Nat) (h0 : Nat) (v19_0 : Value) (v19_1 : Value) (v19_2 : Value) (v19_3 : Value) (v19_4 : Value) (v19_5 : Value) (v19_6 : Value) (v19_7 : Value) (v19_8 : Value) (v19_9 : Value) (v19_10 : Value) (v19_11 : Value) (q_1912 : Nat) (cA_1912 : ClassId) (a19_replaced : Int → Int) (v19_13 : Value) (v19_14 : Value) (v19_15 : Value) (v19_16 : Value) (v19_17 : Value) (v19_18 : Value) (v19_19 : Value) (v19_20 : Value) (v19_21 : Value) (v19_22 : Value) (v19_23 : Value) (v19_24 : Value) (v19_25 : Value) (v19_26 : Value) (v19_27 : Value) (v19_28 : Value) (v19_29 : Value) (v19_30 : Value) (v19_31 : Value) (v19_32 : Value) (v19_33 : Value) (v19_34 : Value) (v19_35 : Value) (v19_36 : Value) (v19_37 : Value) (v19_38 : Value) (v19_39 : Value) (v19_40 : Value) (hR_a19_replaced : ∀ j : Int, 0 ≤ a19_replaced j ∧ a19_replaced j ≤ 1) (sz : Nat) : Met l yX19_nothingReplaced v_X19_nothingReplaced ({ frames := 0, cells := 0, slots := 0, locals := 0 }) (va_Pc [.ref h0] (fun U => U.heap.size = sz ∧ va_P (dC, dI) vwQ [(h0, .inr (16, [v19_0, v19_1, v19_2, v19_3, v19_4, v19_5, v19_6, v19_7, v19_8, v19_9, v19_10, v19_11, .ref q_1912, v19_13, v19_14, v19_15, v19_16, v19_17, v19_18, v19_19, v19_20, v19_21, v19_22, v19_23, v19_24, v19_25, v19_26, v19_27, v19_28, v19_29, v19_30, v19_31, v19_32, v19_33, v19_34, v19_35, v19_36, v19_37, v19_38, v19_39, v19_40])), (q_1912, .inl (cA_1912, 1002, .inl (fun j : Nat => zI (a19_replaced (j : Int)))))] U.heap ∧ va_K (dC, dI) vwQ [(cA_1912, .boolean)] U ∧ va_D (fun _ => True) [(h0, .inr (16, [v19_0, v19_1, v19_2, v19_3, v19_4, v19_5, v19_6, v19_7, v19_8, v19_9, v19_10, v19_11, .ref q_1912, v19_13, v19_14, v19_15, v19_16, v19_17, v19_18, v19_19, v19_20, v19_21, v19_22, v19_23, v19_24, v19_25, v19_26, v19_27, v19_28, v19_29, v19_30, v19_31, v19_32, v19_33, v19_34, v19_35, v19_36, v19_37, v19_38, v19_39, v19_40])), (q_1912, .inl (cA_1912, 1002, .inl (fun j : Nat => zI (a19_replaced (j : Int)))))])) (va_Qv (fun _ : Unit => True) (fun (_ : Unit) (t : State) => ∃ (a0_9 : Int → Int), ((∀ j : Int, 0 ≤ a0_9 j ∧ a0_9 j ≤ 1)) ∧ va_P (dC, dI) vwQ [(h0, .inr (16, [v19_0, v19_1, v19_2, v19_3, v19_4, v19_5, v19_6, v19_7, v19_8, v19_9, v19_10, v19_11, .ref q_1912, v19_13, v19_14, v19_15, v19_16, v19_17, v19_18, v19_19, v19_20, v19_21, v19_22, v19_23, v19_24, v19_25, v19_26, v19_27, v19_28, v19_29, v19_30, v19_31, v19_32, v19_33, v19_34, v19_35, v19_36, v19_37, v19_38, v19_39, v19_40])), (q_1912, .inl (cA_1912, 1002, .inl (fun j : Nat => zI (a0_9 (j : Int)))))] t.heap ∧ va_K (dC, dI) vwQ [(cA_1912, .boolean)] t ∧ va_D (va_A [(h0, .inr (16, [v19_0, v19_1, v19_2, v19_3, v19_4, v19_5, v19_6, v19_7, v19_8, v19_9, v19_10, v19_11, .ref q_1912, v19_13, v19_14, v19_15, v19_16, v19_17, v19_18, v19_19, v19_20, v19_21, v19_22, v19_23, v19_24, v19_25, v19_26, v19_27, v19_28, v19_29, v19_30, v19_31, v19_32, v19_33, v19_34, v19_35, v19_36, v19_37, v19_38, v19_39, v19_40])), (q_1912, .inl (cA_1912, 1002, .inl (fun j : Nat => zI (a19_replaced (j : Int)))))] sz) [(h0, .inr (16, [v19_0, v19_1, v19_2, v19_3, v19_4, v19_5, v19_6, v19_7, v19_8, v19_9, v19_10, v19_11, .ref q_1912, v19_13, v19_14, v19_15, v19_16, v19_17, v19_18, v19_19, v19_20, v19_21, v19_22, v19_23, v19_24, v19_25, v19_26, v19_27, v19_28, v19_29, v19_30, v19_31, v19_32, v19_33, v19_34, v19_35, v19_36, v19_37, v19_38, v19_39, v19_40])), (q_1912, .inl (cA_1912, 1002, .inl (fun j : Nat => zI (a0_9 (j : Int)))))]) (va_A [(h0, .inr (16, [v19_0, v19_1, v19_2, v19_3, v19_4, v19_5, v19_6, v19_7, v19_8, v19_9, v19_10, v19_11, .ref q_1912, v19_13, v19_14, v19_15, v19_16, v19_17, v19_18, v19_19, v19_20, v19_21, v19_22, v19_23, v19_24, v19_25, v19_26, v19_27, v19_28, v19_29, v19_30, v19_31, v19_32, v19_33, v19_34, v19_35, v19_36, v19_37, v19_38, v19_39, v19_40])), (q_1912, .inl (cA_1912, 1002, .inl (fun j : Nat => zI (a19_replaced (j : Int)))))] sz)) 0 0 (va_A [(h0, .inr (16, [v19_0, v19_1, v19_2, v19_3, v19_4, v19_5, v19_6, v19_7, v19_8, v19_9, v19_10, v19_11, .ref q_1912, v19_13, v19_14, v19_15, v19_16, v19_17, v19_18, v19_19, v19_20, v19_21, v19_22, v19_23, v19_24, v19_25, v19_26, v19_27, v19_28, v19_29, v19_30, v19_31, v19_32, v19_33, v19_34, v19_35, v19_36, v19_37, v19_38, v19_39, v19_40])), (q_1912, .inl (cA_1912, 1002, .inl (fun j : Nat => zI (a19_replaced (j : Int)))))] sz) := by
  refine Met.ofW (cc := cX19_nothingReplaced) (maxL := 2) (ret := none) (by decide) rfl ?_
  intro p e s m args below meth c s₁ B hml hv
  obtain ⟨rfl, hsz, hP, hK, hD0⟩ := hv
  have hx := B.exec
  have hb := B.bytes
  have hr := B.returns
  have hts := atoms_spec (ws := v_X19_nothingReplaced) B.pre
  have hown : s.vm.findClass RX19 = some m.cls := findClass_of_methodNamed B.named
  have hlocks := B.notSynchronized
  have ow : ∀ {k : Nat} {w : Cond}, o_X19_nothingReplaced[k]? = some w → w.before ([.ref h0] : List Value).toArray s = true := fun h => hts _ (mow_X19_nothingReplaced _ (List.mem_of_getElem? h))
  subst hsz
  have hD := hD0.self (sz := s.heap.size)
  generalize hAe : va_A [(h0, .inr (16, [v19_0, v19_1, v19_2, v19_3, v19_4, v19_5, v19_6, v19_7, v19_8, v19_9, v19_10, v19_11, .ref q_1912, v19_13, v19_14, v19_15, v19_16, v19_17, v19_18, v19_19, v19_20, v19_21, v19_22, v19_23, v19_24, v19_25, v19_26, v19_27, v19_28, v19_29, v19_30, v19_31, v19_32, v19_33, v19_34, v19_35, v19_36, v19_37, v19_38, v19_39, v19_40])), (q_1912, .inl (cA_1912, 1002, .inl (fun j : Nat => zI (a19_replaced (j : Int)))))] s.heap.size = A at hD ⊢
  have hA : ∀ q : Nat, s.heap.size ≤ q → A q := fun q h => by rw [← hAe]; exact Or.inr h
  have hS : va_S A s.heap s.heap [] := va_S.rf
  have hP : va_P (dC, dI) vwQ [(h0, .inr (16, [v19_0, v19_1, v19_2, v19_3, v19_4, v19_5, v19_6, v19_7, v19_8, v19_9, v19_10, v19_11, .ref q_1912, v19_13, v19_14, v19_15, v19_16, v19_17, v19_18, v19_19, v19_20, v19_21, v19_22, v19_23, v19_24, v19_25, v19_26, v19_27, v19_28, v19_29, v19_30, v19_31, v19_32, v19_33, v19_34, v19_35, v19_36, v19_37, v19_38, v19_39, v19_40])), (q_1912, .inl (cA_1912, 1002, .inl (fun j : Nat => zI (a19_replaced (j : Int)))))] s.heap := hP
  have hl := lv_entry ([.ref h0]) (n := 2) (Nat.le_of_ble_eq_true rfl)
  rw [lg_entry_eq]
  generalize (lg_sl ([.ref h0]) ++ List.replicate (2 - (lg_sl ([.ref h0])).length) Slot.unset).toArray = ls at hl ⊢
  have hl : lv_has ls 2 [(0, .ref h0)] := hl
  obtain ⟨H, hH⟩ : ∃ H, H = s.heap := ⟨_, rfl⟩
  rw [← hH] at hP
  have hS : va_S A s.heap H [] := by rw [hH]; exact hS
  rw [← hH]
  refine zW_cap (fun Q hQ => ?_)
  refine lv_iconst (v := 0) hx hb dX19_nothingReplaced_0 (by decide) ?_
  refine lv_istore_n (lv' := [(1, .int 0), (0, .ref h0)]) hx hb dX19_nothingReplaced_1 rfl hl (by decide) rfl (fun ls hl => ?_)
  have key2 : ∀ n2 : Nat, ∀ (d2_1 : Int) (w2_1912 : Int → Int) (ls : Array Slot) (H : Heap) (locs : List Loc), (0 ≤ d2_1 ∧ d2_1 ≤ 1000000000) → (∀ j : Int, 0 ≤ w2_1912 j ∧ w2_1912 j ≤ 1) → (((1001) - (d2_1) + 1 : Int).toNat) < n2 → lv_has ls 2 [(0, .ref h0), (1, .int (zI (d2_1)))] → va_P (dC, dI) vwQ [(h0, .inr (16, [v19_0, v19_1, v19_2, v19_3, v19_4, v19_5, v19_6, v19_7, v19_8, v19_9, v19_10, v19_11, .ref q_1912, v19_13, v19_14, v19_15, v19_16, v19_17, v19_18, v19_19, v19_20, v19_21, v19_22, v19_23, v19_24, v19_25, v19_26, v19_27, v19_28, v19_29, v19_30, v19_31, v19_32, v19_33, v19_34, v19_35, v19_36, v19_37, v19_38, v19_39, v19_40])), (q_1912, .inl (cA_1912, 1002, .inl (fun j : Nat => zI (w2_1912 (j : Int)))))] H → va_D A [(h0, .inr (16, [v19_0, v19_1, v19_2, v19_3, v19_4, v19_5, v19_6, v19_7, v19_8, v19_9, v19_10, v19_11, .ref q_1912, v19_13, v19_14, v19_15, v19_16, v19_17, v19_18, v19_19, v19_20, v19_21, v19_22, v19_23, v19_24, v19_25, v19_26, v19_27, v19_28, v19_29, v19_30, v19_31, v19_32, v19_33, v19_34, v19_35, v19_36, v19_37, v19_38, v19_39, v19_40])), (q_1912, .inl (cA_1912, 1002, .inl (fun j : Nat => zI (w2_1912 (j : Int)))))] → va_S A s.heap H locs → W p l e (headSpec v_X19_nothingReplaced ({ frames := 0, cells := 0, slots := 0, locals := 0 })).room s m ([.ref h0] : List Value).toArray below meth c H locs 0 0 Q (F0 m 2 ls []) := by
    intro n2
    induction n2 with
    | zero => intro d2_1 w2_1912 ls H locs jd2_1 jw2_1912 hm2; exact absurd hm2 (by omega)
    | succ n2 ih2 =>
      intro d2_1 w2_1912 ls H locs jd2_1 jw2_1912 hm2 hl hP hD hS
      refine lv_iload_n hx hb dX19_nothingReplaced_2 rfl (lv_at hl 1 rfl) ?_
      refine lv_sipush (v := 1001) hx hb dX19_nothingReplaced_3 (by decide) ?_
      refine lv_icmp_gt (tgt := 22) hx hb dX19_nothingReplaced_6 (by decide) (fun b6 => ?_) (fun b6 => ?_)
      · have yb6 : (1001 : Int) < (d2_1 : Int) := (zI_lt (a := 1001) (b := d2_1) (by omega) (by omega) (by omega) (by omega)).mp b6
        subst hQ
        refine W.widen (k := 0) (n := 0) (Nat.le_of_ble_eq_true rfl) (Nat.le_of_ble_eq_true rfl) ?_
        exact W.vret hx hb hr (fun t ht hW => ⟨⟨(), rfl, trivial, w2_1912, jw2_1912, by rw [ht]; exact hP, va_K.moved hW.alike hK, hD⟩, hS.F ht⟩) hS.2.2 dX19_nothingReplaced_22
      · have yb6 : ¬ (1001 : Int) < (d2_1 : Int) := fun q => b6 ((zI_lt (a := 1001) (b := d2_1) (by omega) (by omega) (by omega) (by omega)).mpr q)
        refine lv_aload_n hx hb dX19_nothingReplaced_9 rfl (lv_at hl 0 rfl) ?_
        refine va_get (D := (dC, dI)) (ci := 16) (v := .ref q_1912) (C := RX19) (T := TX19) (N := 41) hx hb hts mem_X19_nothingReplaced_0 hown hK hP 0 rfl rfl 12 (by decide) (ow (k := 0) rfl) (fun _ h9 => h9) rfl dX19_nothingReplaced_10 ?_
        refine lv_iload_n hx hb dX19_nothingReplaced_13 rfl (lv_at hl 1 rfl) ?_
        refine lv_iconst (v := 0) hx hb dX19_nothingReplaced_14 (by decide) ?_
        refine va_zast (i := zI (d2_1)) hx hb hK hP hD hS 1 0 rfl rfl (zI_in (a := d2_1) (n := 1002) (by omega) (by omega) (by decide)) dX19_nothingReplaced_15 (fun H locs hP hD hS => ?_)
        rw [show vp_nar .boolean 0 = 0 from zI_nar (a := 0) (by omega) (by omega)] at hP hD
        have eQ : upd (fun j : Nat => zI (w2_1912 (j : Int))) (zI (d2_1)).toNatClampNeg 0 = (fun j : Nat => zI (zup w2_1912 (d2_1) (0) (j : Int))) := zI_st w2_1912 (e := d2_1) (v := 0) (by omega) (by omega)
        rw [eQ] at hP hD
        clear eQ
        have ra_2001 : ∀ j : Int, 0 ≤ zup w2_1912 (d2_1) (0) j ∧ zup w2_1912 (d2_1) (0) j ≤ 1 := zup_P (P := fun x9 => 0 ≤ x9 ∧ x9 ≤ 1) jw2_1912 (show 0 ≤ (0) ∧ (0) ≤ 1 by omega)
        generalize zup w2_1912 (d2_1) (0) = a_2001 at hP hD ra_2001
        have hP : va_P (dC, dI) vwQ [(h0, .inr (16, [v19_0, v19_1, v19_2, v19_3, v19_4, v19_5, v19_6, v19_7, v19_8, v19_9, v19_10, v19_11, .ref q_1912, v19_13, v19_14, v19_15, v19_16, v19_17, v19_18, v19_19, v19_20, v19_21, v19_22, v19_23, v19_24, v19_25, v19_26, v19_27, v19_28, v19_29, v19_30, v19_31, v19_32, v19_33, v19_34, v19_35, v19_36, v19_37, v19_38, v19_39, v19_40])), (q_1912, .inl (cA_1912, 1002, .inl (fun j : Nat => zI (a_2001 (j : Int)))))] H := hP
        have hD : va_D A [(h0, .inr (16, [v19_0, v19_1, v19_2, v19_3, v19_4, v19_5, v19_6, v19_7, v19_8, v19_9, v19_10, v19_11, .ref q_1912, v19_13, v19_14, v19_15, v19_16, v19_17, v19_18, v19_19, v19_20, v19_21, v19_22, v19_23, v19_24, v19_25, v19_26, v19_27, v19_28, v19_29, v19_30, v19_31, v19_32, v19_33, v19_34, v19_35, v19_36, v19_37, v19_38, v19_39, v19_40])), (q_1912, .inl (cA_1912, 1002, .inl (fun j : Nat => zI (a_2001 (j : Int)))))] := hD
        refine lv_iinc (v := zI (d2_1 + 1)) (lv' := [(1, .int (zI (d2_1 + 1))), (0, .ref h0)]) hx hb dX19_nothingReplaced_16 hl (k := 1) rfl (zI_add (d2_1) (1)) (by decide) rfl (fun ls hl => ?_)
        refine lv_goto (tgt := 2) hx hb dX19_nothingReplaced_19 (by decide) ?_
        exact ih2 (d2_1 + 1) a_2001 ls H _ (by omega) ra_2001 (by omega) (lv_sub hl [1, 0] rfl) hP hD hS
  exact key2 (((1001) - (0) + 1 : Int).toNat + 1) 0 a19_replaced ls H _ (by omega) hR_a19_replaced (by omega) (lv_sub hl [1, 0] rfl) hP hD hS
theorem dX19_need_0 : decode cX19_need 0 = .ok (.aload_n 0, 1) := by decide +kernel
theorem dX19_need_1 : decode cX19_need 1 = .ok (.getfield 339, 3) := by decide +kernel
theorem dX19_need_4 : decode cX19_need 4 = .ok (.iload_n 1, 1) := by decide +kernel
theorem dX19_need_5 : decode cX19_need 5 = .ok (.baload, 1) := by decide +kernel
theorem dX19_need_6 : decode cX19_need 6 = .ok (.ifCond .ne 7, 3) := by decide +kernel
theorem dX19_need_13 : decode cX19_need 13 = .ok (.iconst 0, 1) := by decide +kernel
theorem dX19_need_14 : decode cX19_need 14 = .ok (.istore_n 2, 1) := by decide +kernel
theorem dX19_need_15 : decode cX19_need 15 = .ok (.aload_n 0, 1) := by decide +kernel
theorem dX19_need_16 : decode cX19_need 16 = .ok (.getfield 339, 3) := by decide +kernel
theorem dX19_need_19 : decode cX19_need 19 = .ok (.iload_n 1, 1) := by decide +kernel
theorem dX19_need_20 : decode cX19_need 20 = .ok (.iconst 1, 1) := by decide +kernel
theorem dX19_need_21 : decode cX19_need 21 = .ok (.bastore, 1) := by decide +kernel
theorem dX19_need_22 : decode cX19_need 22 = .ok (.iload_n 2, 1) := by decide +kernel
theorem dX19_need_23 : decode cX19_need 23 = .ok (.ireturn, 1) := by decide +kernel
theorem dX19_need_9 : decode cX19_need 9 = .ok (.iconst 1, 1) := by decide +kernel
theorem dX19_need_10 : decode cX19_need 10 = .ok (.goto 4, 3) := by decide +kernel
def o_X19_need : List Cond := [.fieldLink RX19 339 "SsaForgeModel" "needed" "[Z"]
def v_X19_need : List Cond := .code yX19_need cX19_need 3 (some .boolean) :: (o_X19_need ++ (wsX190 ++ []))
theorem mow_X19_need : ∀ w ∈ o_X19_need, w ∈ v_X19_need := fun _ h => List.mem_cons_of_mem _ (List.mem_append_left _ h)
theorem mem_X19_need_0 : ∀ w ∈ wsX190, w ∈ v_X19_need := fun _ h => List.mem_cons_of_mem _ (List.mem_append_right _ (List.mem_append_left _ h))
set_option maxRecDepth 20000 in
theorem gw_X19_need : v_X19_need.all goodWord = true := by decide +kernel
set_option maxHeartbeats 4000000 in
set_option maxRecDepth 100000 in
theorem c_X19_need (l : Launch) (dC : Nat → ClassId) (dI : Nat → Nat → Nat) (h0 : Nat) (v19_0 : Value) (v19_1 : Value) (v19_2 : Value) (v19_3 : Value) (v19_4 : Value) (v19_5 : Value) (v19_6 : Value) (v19_7 : Value) (v19_8 : Value) (v19_9 : Value) (v19_10 : Value) (v19_11 : Value) (v19_12 : Value) (v19_13 : Value) (v19_14 : Value) (q_1915 : Nat) (cA_1915 : ClassId) (a19_needed : Int → Int) (v19_16 : Value) (v19_17 : Value) (v19_18 : Value) (v19_19 : Value) (v19_20 : Value) (v19_21 : Value) (v19_22 : Value) (v19_23 : Value) (v19_24 : Value) (v19_25 : Value) (v19_26 : Value) (v19_27 : Value) (v19_28 : Value) (v19_29 : Value) (v19_30 : Value) (v19_31 : Value) (v19_32 : Value) (v19_33 : Value) (v19_34 : Value) (v19_35 : Value) (v19_36 : Value) (v19_37 : Value) (v19_38 : Value) (v19_39 : Value) (v19_40 : Value) (r0 : Int) (hR_a19_needed : ∀ j : Int, 0 ≤ a19_needed j ∧ a19_needed j ≤ 1) (hNr : 0 ≤ r0 ∧ r0 ≤ 1001) (sz : Nat) : Met l yX19_need v_X19_need ({ frames := 0, cells := 0, slots := 0, locals := 0 }) (va_Pc [.ref h0, .int (zI (r0))] (fun U => U.heap.size = sz ∧ va_P (dC, dI) vwQ [(h0, .inr (16, [v19_0, v19_1, v19_2, v19_3, v19_4, v19_5, v19_6, v19_7, v19_8, v19_9, v19_10, v19_11, v19_12, v19_13, v19_14, .ref q_1915, v19_16, v19_17, v19_18, v19_19, v19_20, v19_21, v19_22, v19_23, v19_24, v19_25, v19_26, v19_27, v19_28, v19_29, v19_30, v19_31, v19_32, v19_33, v19_34, v19_35, v19_36, v19_37, v19_38, v19_39, v19_40])), (q_1915, .inl (cA_1915, 1002, .inl (fun j : Nat => zI (a19_needed (j : Int)))))] U.heap ∧ va_K (dC, dI) vwQ [(cA_1915, .boolean)] U ∧ va_D (fun _ => True) [(h0, .inr (16, [v19_0, v19_1, v19_2, v19_3, v19_4, v19_5, v19_6, v19_7, v19_8, v19_9, v19_10, v19_11, v19_12, v19_13, v19_14, .ref q_1915, v19_16, v19_17, v19_18, v19_19, v19_20, v19_21, v19_22, v19_23, v19_24, v19_25, v19_26, v19_27, v19_28, v19_29, v19_30, v19_31, v19_32, v19_33, v19_34, v19_35, v19_36, v19_37, v19_38, v19_39, v19_40])), (q_1915, .inl (cA_1915, 1002, .inl (fun j : Nat => zI (a19_needed (j : Int)))))])) (va_Qi (fun (r : Int32) (_ : Unit) => ∃ z : Int, r = zI z ∧ (0 ≤ z ∧ z ≤ 1)) (fun (_ : Unit) (t : State) => ∃ (a0_9 : Int → Int), ((∀ j : Int, 0 ≤ a0_9 j ∧ a0_9 j ≤ 1)) ∧ va_P (dC, dI) vwQ [(h0, .inr (16, [v19_0, v19_1, v19_2, v19_3, v19_4, v19_5, v19_6, v19_7, v19_8, v19_9, v19_10, v19_11, v19_12, v19_13, v19_14, .ref q_1915, v19_16, v19_17, v19_18, v19_19, v19_20, v19_21, v19_22, v19_23, v19_24, v19_25, v19_26, v19_27, v19_28, v19_29, v19_30, v19_31, v19_32, v19_33, v19_34, v19_35, v19_36, v19_37, v19_38, v19_39, v19_40])), (q_1915, .inl (cA_1915, 1002, .inl (fun j : Nat => zI (a0_9 (j : Int)))))] t.heap ∧ va_K (dC, dI) vwQ [(cA_1915, .boolean)] t ∧ va_D (va_A [(h0, .inr (16, [v19_0, v19_1, v19_2, v19_3, v19_4, v19_5, v19_6, v19_7, v19_8, v19_9, v19_10, v19_11, v19_12, v19_13, v19_14, .ref q_1915, v19_16, v19_17, v19_18, v19_19, v19_20, v19_21, v19_22, v19_23, v19_24, v19_25, v19_26, v19_27, v19_28, v19_29, v19_30, v19_31, v19_32, v19_33, v19_34, v19_35, v19_36, v19_37, v19_38, v19_39, v19_40])), (q_1915, .inl (cA_1915, 1002, .inl (fun j : Nat => zI (a19_needed (j : Int)))))] sz) [(h0, .inr (16, [v19_0, v19_1, v19_2, v19_3, v19_4, v19_5, v19_6, v19_7, v19_8, v19_9, v19_10, v19_11, v19_12, v19_13, v19_14, .ref q_1915, v19_16, v19_17, v19_18, v19_19, v19_20, v19_21, v19_22, v19_23, v19_24, v19_25, v19_26, v19_27, v19_28, v19_29, v19_30, v19_31, v19_32, v19_33, v19_34, v19_35, v19_36, v19_37, v19_38, v19_39, v19_40])), (q_1915, .inl (cA_1915, 1002, .inl (fun j : Nat => zI (a0_9 (j : Int)))))]) (va_A [(h0, .inr (16, [v19_0, v19_1, v19_2, v19_3, v19_4, v19_5, v19_6, v19_7, v19_8, v19_9, v19_10, v19_11, v19_12, v19_13, v19_14, .ref q_1915, v19_16, v19_17, v19_18, v19_19, v19_20, v19_21, v19_22, v19_23, v19_24, v19_25, v19_26, v19_27, v19_28, v19_29, v19_30, v19_31, v19_32, v19_33, v19_34, v19_35, v19_36, v19_37, v19_38, v19_39, v19_40])), (q_1915, .inl (cA_1915, 1002, .inl (fun j : Nat => zI (a19_needed (j : Int)))))] sz)) 0 0 (va_A [(h0, .inr (16, [v19_0, v19_1, v19_2, v19_3, v19_4, v19_5, v19_6, v19_7, v19_8, v19_9, v19_10, v19_11, v19_12, v19_13, v19_14, .ref q_1915, v19_16, v19_17, v19_18, v19_19, v19_20, v19_21, v19_22, v19_23, v19_24, v19_25, v19_26, v19_27, v19_28, v19_29, v19_30, v19_31, v19_32, v19_33, v19_34, v19_35, v19_36, v19_37, v19_38, v19_39, v19_40])), (q_1915, .inl (cA_1915, 1002, .inl (fun j : Nat => zI (a19_needed (j : Int)))))] sz) := by
  refine Met.ofW (cc := cX19_need) (maxL := 3) (ret := (some .boolean)) (by decide) rfl ?_
  intro p e s m args below meth c s₁ B hml hv
  obtain ⟨rfl, hsz, hP, hK, hD0⟩ := hv
  have hx := B.exec
  have hb := B.bytes
  have hr := B.returns
  have hts := atoms_spec (ws := v_X19_need) B.pre
  have hown : s.vm.findClass RX19 = some m.cls := findClass_of_methodNamed B.named
  have hlocks := B.notSynchronized
  have ow : ∀ {k : Nat} {w : Cond}, o_X19_need[k]? = some w → w.before ([.ref h0, .int (zI (r0))] : List Value).toArray s = true := fun h => hts _ (mow_X19_need _ (List.mem_of_getElem? h))
  subst hsz
  have hD := hD0.self (sz := s.heap.size)
  generalize hAe : va_A [(h0, .inr (16, [v19_0, v19_1, v19_2, v19_3, v19_4, v19_5, v19_6, v19_7, v19_8, v19_9, v19_10, v19_11, v19_12, v19_13, v19_14, .ref q_1915, v19_16, v19_17, v19_18, v19_19, v19_20, v19_21, v19_22, v19_23, v19_24, v19_25, v19_26, v19_27, v19_28, v19_29, v19_30, v19_31, v19_32, v19_33, v19_34, v19_35, v19_36, v19_37, v19_38, v19_39, v19_40])), (q_1915, .inl (cA_1915, 1002, .inl (fun j : Nat => zI (a19_needed (j : Int)))))] s.heap.size = A at hD ⊢
  have hA : ∀ q : Nat, s.heap.size ≤ q → A q := fun q h => by rw [← hAe]; exact Or.inr h
  have hS : va_S A s.heap s.heap [] := va_S.rf
  have hP : va_P (dC, dI) vwQ [(h0, .inr (16, [v19_0, v19_1, v19_2, v19_3, v19_4, v19_5, v19_6, v19_7, v19_8, v19_9, v19_10, v19_11, v19_12, v19_13, v19_14, .ref q_1915, v19_16, v19_17, v19_18, v19_19, v19_20, v19_21, v19_22, v19_23, v19_24, v19_25, v19_26, v19_27, v19_28, v19_29, v19_30, v19_31, v19_32, v19_33, v19_34, v19_35, v19_36, v19_37, v19_38, v19_39, v19_40])), (q_1915, .inl (cA_1915, 1002, .inl (fun j : Nat => zI (a19_needed (j : Int)))))] s.heap := hP
  have hl := lv_entry ([.ref h0, .int (zI (r0))]) (n := 3) (Nat.le_of_ble_eq_true rfl)
  rw [lg_entry_eq]
  generalize (lg_sl ([.ref h0, .int (zI (r0))]) ++ List.replicate (3 - (lg_sl ([.ref h0, .int (zI (r0))])).length) Slot.unset).toArray = ls at hl ⊢
  have hl : lv_has ls 3 [(0, .ref h0), (1, .int (zI (r0)))] := hl
  obtain ⟨H, hH⟩ : ∃ H, H = s.heap := ⟨_, rfl⟩
  rw [← hH] at hP
  have hS : va_S A s.heap H [] := by rw [hH]; exact hS
  rw [← hH]
  refine zW_cap (fun Q hQ => ?_)
  refine lv_aload_n hx hb dX19_need_0 rfl (lv_at hl 0 rfl) ?_
  refine va_get (D := (dC, dI)) (ci := 16) (v := .ref q_1915) (C := RX19) (T := TX19) (N := 41) hx hb hts mem_X19_need_0 hown hK hP 0 rfl rfl 15 (by decide) (ow (k := 0) rfl) (fun _ h9 => h9) rfl dX19_need_1 ?_
  refine lv_iload_n hx hb dX19_need_4 rfl (lv_at hl 1 rfl) ?_
  refine va_zald hx hb hK hP 1 0 rfl rfl (zI_in (a := r0) (n := 1002) (by omega) (by omega) (by decide)) dX19_need_5 ?_
  refine lv_topi (fun z ez => ?_)
  obtain rfl : z = zI (a19_needed (r0)) := ez.trans (zI_ld (a19_needed) (by omega) (by omega))
  have k1 := hR_a19_needed (r0)
  refine lv_if_ne (tgt := 13) hx hb dX19_need_6 (by decide) (fun b6 => ?_) (fun b6 => ?_)
  · have yb6 : ¬ (a19_needed (r0) : Int) = (0 : Int) := fun q => b6 ((zI_eq (a := a19_needed (r0)) (b := 0) (by omega) (by omega) (by omega) (by omega)).mpr q)
    refine lv_iconst (v := 0) hx hb dX19_need_13 (by decide) ?_
    refine lv_istore_n (lv' := [(2, .int 0), (0, .ref h0), (1, .int (zI (r0)))]) hx hb dX19_need_14 rfl hl (by decide) rfl (fun ls hl => ?_)
    refine lv_aload_n hx hb dX19_need_15 rfl (lv_at hl 1 rfl) ?_
    refine va_get (D := (dC, dI)) (ci := 16) (v := .ref q_1915) (C := RX19) (T := TX19) (N := 41) hx hb hts mem_X19_need_0 hown hK hP 0 rfl rfl 15 (by decide) (ow (k := 0) rfl) (fun _ h9 => h9) rfl dX19_need_16 ?_
    refine lv_iload_n hx hb dX19_need_19 rfl (lv_at hl 2 rfl) ?_
    refine lv_iconst (v := 1) hx hb dX19_need_20 (by decide) ?_
    refine va_zast (i := zI (r0)) hx hb hK hP hD hS 1 0 rfl rfl (zI_in (a := r0) (n := 1002) (by omega) (by omega) (by decide)) dX19_need_21 (fun H locs hP hD hS => ?_)
    rw [show vp_nar .boolean 1 = 1 from zI_nar (a := 1) (by omega) (by omega)] at hP hD
    have eQ : upd (fun j : Nat => zI (a19_needed (j : Int))) (zI (r0)).toNatClampNeg 1 = (fun j : Nat => zI (zup a19_needed (r0) (1) (j : Int))) := zI_st a19_needed (e := r0) (v := 1) (by omega) (by omega)
    rw [eQ] at hP hD
    clear eQ
    have ra_2001 : ∀ j : Int, 0 ≤ zup a19_needed (r0) (1) j ∧ zup a19_needed (r0) (1) j ≤ 1 := zup_P (P := fun x9 => 0 ≤ x9 ∧ x9 ≤ 1) hR_a19_needed (show 0 ≤ (1) ∧ (1) ≤ 1 by omega)
    generalize zup a19_needed (r0) (1) = a_2001 at hP hD ra_2001
    have hP : va_P (dC, dI) vwQ [(h0, .inr (16, [v19_0, v19_1, v19_2, v19_3, v19_4, v19_5, v19_6, v19_7, v19_8, v19_9, v19_10, v19_11, v19_12, v19_13, v19_14, .ref q_1915, v19_16, v19_17, v19_18, v19_19, v19_20, v19_21, v19_22, v19_23, v19_24, v19_25, v19_26, v19_27, v19_28, v19_29, v19_30, v19_31, v19_32, v19_33, v19_34, v19_35, v19_36, v19_37, v19_38, v19_39, v19_40])), (q_1915, .inl (cA_1915, 1002, .inl (fun j : Nat => zI (a_2001 (j : Int)))))] H := hP
    have hD : va_D A [(h0, .inr (16, [v19_0, v19_1, v19_2, v19_3, v19_4, v19_5, v19_6, v19_7, v19_8, v19_9, v19_10, v19_11, v19_12, v19_13, v19_14, .ref q_1915, v19_16, v19_17, v19_18, v19_19, v19_20, v19_21, v19_22, v19_23, v19_24, v19_25, v19_26, v19_27, v19_28, v19_29, v19_30, v19_31, v19_32, v19_33, v19_34, v19_35, v19_36, v19_37, v19_38, v19_39, v19_40])), (q_1915, .inl (cA_1915, 1002, .inl (fun j : Nat => zI (a_2001 (j : Int)))))] := hD
    refine lv_iload_n hx hb dX19_need_22 rfl (lv_at hl 0 rfl) ?_
    subst hQ
    refine W.widen (k := 0) (n := 0) (Nat.le_of_ble_eq_true rfl) (Nat.le_of_ble_eq_true rfl) ?_
    exact W.zret (v := 0) hx hb hr (by decide) (fun t ht hW => ⟨⟨0, (), rfl, ⟨0, rfl, by omega⟩, a_2001, ra_2001, by rw [ht]; exact hP, va_K.moved hW.alike hK, hD⟩, hS.F ht⟩) hS.2.2 dX19_need_23
  · have yb6 : (a19_needed (r0) : Int) = (0 : Int) := (zI_eq (a := a19_needed (r0)) (b := 0) (by omega) (by omega) (by omega) (by omega)).mp b6
    refine lv_iconst (v := 1) hx hb dX19_need_9 (by decide) ?_
    refine lv_goto (tgt := 14) hx hb dX19_need_10 (by decide) ?_
    refine lv_istore_n (lv' := [(2, .int 1), (0, .ref h0), (1, .int (zI (r0)))]) hx hb dX19_need_14 rfl hl (by decide) rfl (fun ls hl => ?_)
    refine lv_aload_n hx hb dX19_need_15 rfl (lv_at hl 1 rfl) ?_
    refine va_get (D := (dC, dI)) (ci := 16) (v := .ref q_1915) (C := RX19) (T := TX19) (N := 41) hx hb hts mem_X19_need_0 hown hK hP 0 rfl rfl 15 (by decide) (ow (k := 0) rfl) (fun _ h9 => h9) rfl dX19_need_16 ?_
    refine lv_iload_n hx hb dX19_need_19 rfl (lv_at hl 2 rfl) ?_
    refine lv_iconst (v := 1) hx hb dX19_need_20 (by decide) ?_
    refine va_zast (i := zI (r0)) hx hb hK hP hD hS 1 0 rfl rfl (zI_in (a := r0) (n := 1002) (by omega) (by omega) (by decide)) dX19_need_21 (fun H locs hP hD hS => ?_)
    rw [show vp_nar .boolean 1 = 1 from zI_nar (a := 1) (by omega) (by omega)] at hP hD
    have eQ : upd (fun j : Nat => zI (a19_needed (j : Int))) (zI (r0)).toNatClampNeg 1 = (fun j : Nat => zI (zup a19_needed (r0) (1) (j : Int))) := zI_st a19_needed (e := r0) (v := 1) (by omega) (by omega)
    rw [eQ] at hP hD
    clear eQ
    have ra_2002 : ∀ j : Int, 0 ≤ zup a19_needed (r0) (1) j ∧ zup a19_needed (r0) (1) j ≤ 1 := zup_P (P := fun x9 => 0 ≤ x9 ∧ x9 ≤ 1) hR_a19_needed (show 0 ≤ (1) ∧ (1) ≤ 1 by omega)
    generalize zup a19_needed (r0) (1) = a_2002 at hP hD ra_2002
    have hP : va_P (dC, dI) vwQ [(h0, .inr (16, [v19_0, v19_1, v19_2, v19_3, v19_4, v19_5, v19_6, v19_7, v19_8, v19_9, v19_10, v19_11, v19_12, v19_13, v19_14, .ref q_1915, v19_16, v19_17, v19_18, v19_19, v19_20, v19_21, v19_22, v19_23, v19_24, v19_25, v19_26, v19_27, v19_28, v19_29, v19_30, v19_31, v19_32, v19_33, v19_34, v19_35, v19_36, v19_37, v19_38, v19_39, v19_40])), (q_1915, .inl (cA_1915, 1002, .inl (fun j : Nat => zI (a_2002 (j : Int)))))] H := hP
    have hD : va_D A [(h0, .inr (16, [v19_0, v19_1, v19_2, v19_3, v19_4, v19_5, v19_6, v19_7, v19_8, v19_9, v19_10, v19_11, v19_12, v19_13, v19_14, .ref q_1915, v19_16, v19_17, v19_18, v19_19, v19_20, v19_21, v19_22, v19_23, v19_24, v19_25, v19_26, v19_27, v19_28, v19_29, v19_30, v19_31, v19_32, v19_33, v19_34, v19_35, v19_36, v19_37, v19_38, v19_39, v19_40])), (q_1915, .inl (cA_1915, 1002, .inl (fun j : Nat => zI (a_2002 (j : Int)))))] := hD
    refine lv_iload_n hx hb dX19_need_22 rfl (lv_at hl 0 rfl) ?_
    subst hQ
    refine W.widen (k := 0) (n := 0) (Nat.le_of_ble_eq_true rfl) (Nat.le_of_ble_eq_true rfl) ?_
    exact W.zret (v := 1) hx hb hr (by decide) (fun t ht hW => ⟨⟨1, (), rfl, ⟨1, rfl, by omega⟩, a_2002, ra_2002, by rw [ht]; exact hP, va_K.moved hW.alike hK, hD⟩, hS.F ht⟩) hS.2.2 dX19_need_23
