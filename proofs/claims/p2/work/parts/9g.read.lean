theorem dX7_byteAt_0 : decode cX7_byteAt 0 = .ok (.iload_n 1, 1) := by decide +kernel
theorem dX7_byteAt_1 : decode cX7_byteAt 1 = .ok (.aload_n 0, 1) := by decide +kernel
theorem dX7_byteAt_2 : decode cX7_byteAt 2 = .ok (.getfield 19, 3) := by decide +kernel
theorem dX7_byteAt_5 : decode cX7_byteAt 5 = .ok (.if_icmp .ge 16, 3) := by decide +kernel
theorem dX7_byteAt_21 : decode cX7_byteAt 21 = .ok (.iconst (-1), 1) := by decide +kernel
theorem dX7_byteAt_22 : decode cX7_byteAt 22 = .ok (.ireturn, 1) := by decide +kernel
theorem dX7_byteAt_8 : decode cX7_byteAt 8 = .ok (.aload_n 0, 1) := by decide +kernel
theorem dX7_byteAt_9 : decode cX7_byteAt 9 = .ok (.getfield 15, 3) := by decide +kernel
theorem dX7_byteAt_12 : decode cX7_byteAt 12 = .ok (.iload_n 1, 1) := by decide +kernel
theorem dX7_byteAt_13 : decode cX7_byteAt 13 = .ok (.baload, 1) := by decide +kernel
theorem dX7_byteAt_14 : decode cX7_byteAt 14 = .ok (.sipush 255, 3) := by decide +kernel
theorem dX7_byteAt_17 : decode cX7_byteAt 17 = .ok (.iand, 1) := by decide +kernel
theorem dX7_byteAt_18 : decode cX7_byteAt 18 = .ok (.goto 4, 3) := by decide +kernel
def o_X7_byteAt : List Cond := [.fieldLink RX7 19 "SsaForge$Reader" "length" "I", .fieldLink RX7 15 "SsaForge$Reader" "bytes" "[B"]
def v_X7_byteAt : List Cond := .code yX7_byteAt cX7_byteAt 2 (some .int) :: (o_X7_byteAt ++ (wsX70 ++ []))
theorem mow_X7_byteAt : ∀ w ∈ o_X7_byteAt, w ∈ v_X7_byteAt := fun _ h => List.mem_cons_of_mem _ (List.mem_append_left _ h)
theorem mem_X7_byteAt_0 : ∀ w ∈ wsX70, w ∈ v_X7_byteAt := fun _ h => List.mem_cons_of_mem _ (List.mem_append_right _ (List.mem_append_left _ h))
set_option maxRecDepth 20000 in
theorem gw_X7_byteAt : v_X7_byteAt.all goodWord = true := by decide +kernel
set_option maxHeartbeats 4000000 in
set_option maxRecDepth 100000 in
theorem c_X7_byteAt (l : Launch) (dC : Nat → ClassId) (dI : Nat → Nat → Nat) (h0 : Nat) (v12_0 : Value) (z12_length : Int) (v12_3 : Value) (v12_4 : Value) (v12_5 : Value) (v12_6 : Value) (v12_7 : Value) (v12_8 : Value) (v12_9 : Value) (v12_10 : Value) (v12_11 : Value) (v12_12 : Value) (v12_13 : Value) (v12_14 : Value) (v12_15 : Value) (v12_16 : Value) (v12_17 : Value) (q_1201 : Nat) (cA_1201 : ClassId) (fa12_bytes : Nat → Int32) (i : Int) (hNz12_length : 0 ≤ z12_length ∧ z12_length ≤ 8192) (hNi : 0 ≤ i ∧ i ≤ 9000) (sz : Nat) : Met l yX7_byteAt v_X7_byteAt ({ frames := 0, cells := 0, slots := 0, locals := 0 }) (va_Pc [.ref h0, .int (zI (i))] (fun U => U.heap.size = sz ∧ va_P (dC, dI) vwP [(h0, .inr (7, [v12_0, .ref q_1201, .int (zI (z12_length)), v12_3, v12_4, v12_5, v12_6, v12_7, v12_8, v12_9, v12_10, v12_11, v12_12, v12_13, v12_14, v12_15, v12_16, v12_17])), (q_1201, .inl (cA_1201, 8192, .inl fa12_bytes))] U.heap ∧ va_K (dC, dI) vwP [(cA_1201, .byte)] U ∧ va_D (fun _ => True) [(h0, .inr (7, [v12_0, .ref q_1201, .int (zI (z12_length)), v12_3, v12_4, v12_5, v12_6, v12_7, v12_8, v12_9, v12_10, v12_11, v12_12, v12_13, v12_14, v12_15, v12_16, v12_17])), (q_1201, .inl (cA_1201, 8192, .inl fa12_bytes))])) (va_Qi (fun (r : Int32) (_ : Unit) => r = zI (btF fa12_bytes z12_length (i))) (fun (_ : Unit) (t : State) => va_P (dC, dI) vwP [(h0, .inr (7, [v12_0, .ref q_1201, .int (zI (z12_length)), v12_3, v12_4, v12_5, v12_6, v12_7, v12_8, v12_9, v12_10, v12_11, v12_12, v12_13, v12_14, v12_15, v12_16, v12_17])), (q_1201, .inl (cA_1201, 8192, .inl fa12_bytes))] t.heap ∧ va_K (dC, dI) vwP [(cA_1201, .byte)] t ∧ va_D (va_A [(h0, .inr (7, [v12_0, .ref q_1201, .int (zI (z12_length)), v12_3, v12_4, v12_5, v12_6, v12_7, v12_8, v12_9, v12_10, v12_11, v12_12, v12_13, v12_14, v12_15, v12_16, v12_17])), (q_1201, .inl (cA_1201, 8192, .inl fa12_bytes))] sz) [(h0, .inr (7, [v12_0, .ref q_1201, .int (zI (z12_length)), v12_3, v12_4, v12_5, v12_6, v12_7, v12_8, v12_9, v12_10, v12_11, v12_12, v12_13, v12_14, v12_15, v12_16, v12_17])), (q_1201, .inl (cA_1201, 8192, .inl fa12_bytes))]) (va_A [(h0, .inr (7, [v12_0, .ref q_1201, .int (zI (z12_length)), v12_3, v12_4, v12_5, v12_6, v12_7, v12_8, v12_9, v12_10, v12_11, v12_12, v12_13, v12_14, v12_15, v12_16, v12_17])), (q_1201, .inl (cA_1201, 8192, .inl fa12_bytes))] sz)) 0 0 (va_A [(h0, .inr (7, [v12_0, .ref q_1201, .int (zI (z12_length)), v12_3, v12_4, v12_5, v12_6, v12_7, v12_8, v12_9, v12_10, v12_11, v12_12, v12_13, v12_14, v12_15, v12_16, v12_17])), (q_1201, .inl (cA_1201, 8192, .inl fa12_bytes))] sz) := by
  refine Met.ofW (cc := cX7_byteAt) (maxL := 2) (ret := (some .int)) (by decide) rfl ?_
  intro p e s m args below meth c s₁ B hml hv
  obtain ⟨rfl, hsz, hP, hK, hD0⟩ := hv
  have hx := B.exec
  have hb := B.bytes
  have hr := B.returns
  have hts := atoms_spec (ws := v_X7_byteAt) B.pre
  have hown : s.vm.findClass RX7 = some m.cls := findClass_of_methodNamed B.named
  have hlocks := B.notSynchronized
  have ow : ∀ {k : Nat} {w : Cond}, o_X7_byteAt[k]? = some w → w.before ([.ref h0, .int (zI (i))] : List Value).toArray s = true := fun h => hts _ (mow_X7_byteAt _ (List.mem_of_getElem? h))
  subst hsz
  have hD := hD0.self (sz := s.heap.size)
  generalize hAe : va_A [(h0, .inr (7, [v12_0, .ref q_1201, .int (zI (z12_length)), v12_3, v12_4, v12_5, v12_6, v12_7, v12_8, v12_9, v12_10, v12_11, v12_12, v12_13, v12_14, v12_15, v12_16, v12_17])), (q_1201, .inl (cA_1201, 8192, .inl fa12_bytes))] s.heap.size = A at hD ⊢
  have hA : ∀ q : Nat, s.heap.size ≤ q → A q := fun q h => by rw [← hAe]; exact Or.inr h
  have hS : va_S A s.heap s.heap [] := va_S.rf
  have hP : va_P (dC, dI) vwP [(h0, .inr (7, [v12_0, .ref q_1201, .int (zI (z12_length)), v12_3, v12_4, v12_5, v12_6, v12_7, v12_8, v12_9, v12_10, v12_11, v12_12, v12_13, v12_14, v12_15, v12_16, v12_17])), (q_1201, .inl (cA_1201, 8192, .inl fa12_bytes))] s.heap := hP
  have hl := lv_entry ([.ref h0, .int (zI (i))]) (n := 2) (Nat.le_of_ble_eq_true rfl)
  rw [lg_entry_eq]
  generalize (lg_sl ([.ref h0, .int (zI (i))]) ++ List.replicate (2 - (lg_sl ([.ref h0, .int (zI (i))])).length) Slot.unset).toArray = ls at hl ⊢
  have hl : lv_has ls 2 [(0, .ref h0), (1, .int (zI (i)))] := hl
  obtain ⟨H, hH⟩ : ∃ H, H = s.heap := ⟨_, rfl⟩
  rw [← hH] at hP
  have hS : va_S A s.heap H [] := by rw [hH]; exact hS
  rw [← hH]
  refine zW_cap (fun Q hQ => ?_)
  refine lv_iload_n hx hb dX7_byteAt_0 rfl (lv_at hl 1 rfl) ?_
  refine lv_aload_n hx hb dX7_byteAt_1 rfl (lv_at hl 0 rfl) ?_
  refine va_get (D := (dC, dI)) (ci := 7) (v := .int (zI (z12_length))) (C := RX7) (T := TX7) (N := 18) hx hb hts mem_X7_byteAt_0 hown hK hP 0 rfl rfl 2 (by decide) (ow (k := 0) rfl) (fun _ h9 => h9) rfl dX7_byteAt_2 ?_
  refine lv_icmp_ge (tgt := 21) hx hb dX7_byteAt_5 (by decide) (fun b5 => ?_) (fun b5 => ?_)
  · have yb5 : (z12_length : Int) ≤ (i : Int) := (zI_le (a := z12_length) (b := i) (by omega) (by omega) (by omega) (by omega)).mp b5
    refine lv_iconst (v := (-1)) hx hb dX7_byteAt_21 (by decide) ?_
    subst hQ
    refine W.widen (k := 0) (n := 0) (Nat.le_of_ble_eq_true rfl) (Nat.le_of_ble_eq_true rfl) ?_
    exact W.iret (v := (-1)) hx hb hr (fun t ht hW => ⟨⟨(-1), (), rfl, (by rw [btF_out (by omega)]; decide), by rw [ht]; exact hP, va_K.moved hW.alike hK, hD⟩, hS.F ht⟩) hS.2.2 dX7_byteAt_22
  · have yb5 : ¬ (z12_length : Int) ≤ (i : Int) := fun q => b5 ((zI_le (a := z12_length) (b := i) (by omega) (by omega) (by omega) (by omega)).mpr q)
    refine lv_aload_n hx hb dX7_byteAt_8 rfl (lv_at hl 0 rfl) ?_
    refine va_get (D := (dC, dI)) (ci := 7) (v := .ref q_1201) (C := RX7) (T := TX7) (N := 18) hx hb hts mem_X7_byteAt_0 hown hK hP 0 rfl rfl 1 (by decide) (ow (k := 1) rfl) (fun _ h9 => h9) rfl dX7_byteAt_9 ?_
    refine lv_iload_n hx hb dX7_byteAt_12 rfl (lv_at hl 1 rfl) ?_
    refine va_bald hx hb hK hP 1 0 rfl rfl (zI_in (a := i) (n := 8192) (by omega) (by omega) (by decide)) dX7_byteAt_13 ?_
    refine lv_topi (fun x_2001 ex_2001 => ?_)
    refine lv_sipush (v := 255) hx hb dX7_byteAt_14 (by decide) ?_
    refine lv_iand hx hb dX7_byteAt_17 ?_
    refine lv_topi (fun x_2002 ex_2002 => ?_)
    refine lv_goto (tgt := 22) hx hb dX7_byteAt_18 (by decide) ?_
    subst hQ
    refine W.widen (k := 0) (n := 0) (Nat.le_of_ble_eq_true rfl) (Nat.le_of_ble_eq_true rfl) ?_
    exact W.iret (v := x_2002) hx hb hr (fun t ht hW => ⟨⟨x_2002, (), rfl, (btF_in (by omega) (by omega) (by omega) ex_2001 ex_2002), by rw [ht]; exact hP, va_K.moved hW.alike hK, hD⟩, hS.F ht⟩) hS.2.2 dX7_byteAt_22
theorem dX7_digitAt_0 : decode cX7_digitAt 0 = .ok (.aload_n 0, 1) := by decide +kernel
theorem dX7_digitAt_1 : decode cX7_digitAt 1 = .ok (.iload_n 1, 1) := by decide +kernel
theorem dX7_digitAt_2 : decode cX7_digitAt 2 = .ok (.invokevirtual 93, 3) := by decide +kernel
theorem dX7_digitAt_5 : decode cX7_digitAt 5 = .ok (.istore_n 2, 1) := by decide +kernel
theorem dX7_digitAt_6 : decode cX7_digitAt 6 = .ok (.iload_n 2, 1) := by decide +kernel
theorem dX7_digitAt_7 : decode cX7_digitAt 7 = .ok (.bipush 48, 2) := by decide +kernel
theorem dX7_digitAt_9 : decode cX7_digitAt 9 = .ok (.if_icmp .lt 13, 3) := by decide +kernel
theorem dX7_digitAt_22 : decode cX7_digitAt 22 = .ok (.iconst 0, 1) := by decide +kernel
theorem dX7_digitAt_23 : decode cX7_digitAt 23 = .ok (.ireturn, 1) := by decide +kernel
theorem dX7_digitAt_12 : decode cX7_digitAt 12 = .ok (.iload_n 2, 1) := by decide +kernel
theorem dX7_digitAt_13 : decode cX7_digitAt 13 = .ok (.bipush 57, 2) := by decide +kernel
theorem dX7_digitAt_15 : decode cX7_digitAt 15 = .ok (.if_icmp .gt 7, 3) := by decide +kernel
theorem dX7_digitAt_18 : decode cX7_digitAt 18 = .ok (.iconst 1, 1) := by decide +kernel
theorem dX7_digitAt_19 : decode cX7_digitAt 19 = .ok (.goto 4, 3) := by decide +kernel
def o_X7_digitAt : List Cond := [.methodLink RX7 93 yX7_byteAt, .instanceMethod yX7_byteAt, .selects RX7 yX7_byteAt yX7_byteAt, .initialized RX7]
def v_X7_digitAt : List Cond := .code yX7_digitAt cX7_digitAt 3 (some .boolean) :: (o_X7_digitAt ++ (v_X7_byteAt ++ []))
theorem mow_X7_digitAt : ∀ w ∈ o_X7_digitAt, w ∈ v_X7_digitAt := fun _ h => List.mem_cons_of_mem _ (List.mem_append_left _ h)
theorem mem_X7_digitAt_0 : ∀ w ∈ v_X7_byteAt, w ∈ v_X7_digitAt := fun _ h => List.mem_cons_of_mem _ (List.mem_append_right _ (List.mem_append_left _ h))
set_option maxRecDepth 20000 in
theorem gw_X7_digitAt : v_X7_digitAt.all goodWord = true := by decide +kernel
set_option maxRecDepth 20000 in
theorem g_X7_digitAt_X7_byteAt : GoodIn v_X7_digitAt (wsV RX7 93 RX7 yX7_byteAt v_X7_byteAt) := goodIn_app (goodIn_sub (fun w h => mow_X7_digitAt w (by revert w h; decide +kernel)) (by decide +kernel)) (goodIn_sub mem_X7_digitAt_0 gw_X7_byteAt)
set_option maxHeartbeats 4000000 in
set_option maxRecDepth 100000 in
theorem c_X7_digitAt (l : Launch) (dC : Nat → ClassId) (dI : Nat → Nat → Nat) (h0 : Nat) (v12_0 : Value) (z12_length : Int) (v12_3 : Value) (v12_4 : Value) (v12_5 : Value) (v12_6 : Value) (v12_7 : Value) (v12_8 : Value) (v12_9 : Value) (v12_10 : Value) (v12_11 : Value) (v12_12 : Value) (v12_13 : Value) (v12_14 : Value) (v12_15 : Value) (v12_16 : Value) (v12_17 : Value) (q_1201 : Nat) (cA_1201 : ClassId) (fa12_bytes : Nat → Int32) (i : Int) (hNz12_length : 0 ≤ z12_length ∧ z12_length ≤ 8192) (hNi : 0 ≤ i ∧ i ≤ 9000) (sz : Nat) : Met l yX7_digitAt v_X7_digitAt ({ frames := 1, cells := 0, slots := 0, locals := 21 }) (va_Pc [.ref h0, .int (zI (i))] (fun U => U.heap.size = sz ∧ va_P (dC, dI) vwP [(h0, .inr (7, [v12_0, .ref q_1201, .int (zI (z12_length)), v12_3, v12_4, v12_5, v12_6, v12_7, v12_8, v12_9, v12_10, v12_11, v12_12, v12_13, v12_14, v12_15, v12_16, v12_17])), (q_1201, .inl (cA_1201, 8192, .inl fa12_bytes))] U.heap ∧ va_K (dC, dI) vwP [(cA_1201, .byte)] U ∧ va_D (fun _ => True) [(h0, .inr (7, [v12_0, .ref q_1201, .int (zI (z12_length)), v12_3, v12_4, v12_5, v12_6, v12_7, v12_8, v12_9, v12_10, v12_11, v12_12, v12_13, v12_14, v12_15, v12_16, v12_17])), (q_1201, .inl (cA_1201, 8192, .inl fa12_bytes))])) (va_Qi (fun (r : Int32) (_ : Unit) => r = zI (dgF fa12_bytes z12_length (i))) (fun (_ : Unit) (t : State) => va_P (dC, dI) vwP [(h0, .inr (7, [v12_0, .ref q_1201, .int (zI (z12_length)), v12_3, v12_4, v12_5, v12_6, v12_7, v12_8, v12_9, v12_10, v12_11, v12_12, v12_13, v12_14, v12_15, v12_16, v12_17])), (q_1201, .inl (cA_1201, 8192, .inl fa12_bytes))] t.heap ∧ va_K (dC, dI) vwP [(cA_1201, .byte)] t ∧ va_D (va_A [(h0, .inr (7, [v12_0, .ref q_1201, .int (zI (z12_length)), v12_3, v12_4, v12_5, v12_6, v12_7, v12_8, v12_9, v12_10, v12_11, v12_12, v12_13, v12_14, v12_15, v12_16, v12_17])), (q_1201, .inl (cA_1201, 8192, .inl fa12_bytes))] sz) [(h0, .inr (7, [v12_0, .ref q_1201, .int (zI (z12_length)), v12_3, v12_4, v12_5, v12_6, v12_7, v12_8, v12_9, v12_10, v12_11, v12_12, v12_13, v12_14, v12_15, v12_16, v12_17])), (q_1201, .inl (cA_1201, 8192, .inl fa12_bytes))]) (va_A [(h0, .inr (7, [v12_0, .ref q_1201, .int (zI (z12_length)), v12_3, v12_4, v12_5, v12_6, v12_7, v12_8, v12_9, v12_10, v12_11, v12_12, v12_13, v12_14, v12_15, v12_16, v12_17])), (q_1201, .inl (cA_1201, 8192, .inl fa12_bytes))] sz)) 0 0 (va_A [(h0, .inr (7, [v12_0, .ref q_1201, .int (zI (z12_length)), v12_3, v12_4, v12_5, v12_6, v12_7, v12_8, v12_9, v12_10, v12_11, v12_12, v12_13, v12_14, v12_15, v12_16, v12_17])), (q_1201, .inl (cA_1201, 8192, .inl fa12_bytes))] sz) := by
  refine Met.ofW (cc := cX7_digitAt) (maxL := 3) (ret := (some .boolean)) (by decide) rfl ?_
  intro p e s m args below meth c s₁ B hml hv
  obtain ⟨rfl, hsz, hP, hK, hD0⟩ := hv
  have hx := B.exec
  have hb := B.bytes
  have hr := B.returns
  have hts := atoms_spec (ws := v_X7_digitAt) B.pre
  have hown : s.vm.findClass RX7 = some m.cls := findClass_of_methodNamed B.named
  have hlocks := B.notSynchronized
  have ow : ∀ {k : Nat} {w : Cond}, o_X7_digitAt[k]? = some w → w.before ([.ref h0, .int (zI (i))] : List Value).toArray s = true := fun h => hts _ (mow_X7_digitAt _ (List.mem_of_getElem? h))
  subst hsz
  have hD := hD0.self (sz := s.heap.size)
  generalize hAe : va_A [(h0, .inr (7, [v12_0, .ref q_1201, .int (zI (z12_length)), v12_3, v12_4, v12_5, v12_6, v12_7, v12_8, v12_9, v12_10, v12_11, v12_12, v12_13, v12_14, v12_15, v12_16, v12_17])), (q_1201, .inl (cA_1201, 8192, .inl fa12_bytes))] s.heap.size = A at hD ⊢
  have hA : ∀ q : Nat, s.heap.size ≤ q → A q := fun q h => by rw [← hAe]; exact Or.inr h
  have hS : va_S A s.heap s.heap [] := va_S.rf
  have hP : va_P (dC, dI) vwP [(h0, .inr (7, [v12_0, .ref q_1201, .int (zI (z12_length)), v12_3, v12_4, v12_5, v12_6, v12_7, v12_8, v12_9, v12_10, v12_11, v12_12, v12_13, v12_14, v12_15, v12_16, v12_17])), (q_1201, .inl (cA_1201, 8192, .inl fa12_bytes))] s.heap := hP
  have hl := lv_entry ([.ref h0, .int (zI (i))]) (n := 3) (Nat.le_of_ble_eq_true rfl)
  rw [lg_entry_eq]
  generalize (lg_sl ([.ref h0, .int (zI (i))]) ++ List.replicate (3 - (lg_sl ([.ref h0, .int (zI (i))])).length) Slot.unset).toArray = ls at hl ⊢
  have hl : lv_has ls 3 [(0, .ref h0), (1, .int (zI (i)))] := hl
  obtain ⟨H, hH⟩ : ∃ H, H = s.heap := ⟨_, rfl⟩
  rw [← hH] at hP
  have hS : va_S A s.heap H [] := by rw [hH]; exact hS
  rw [← hH]
  refine zW_cap (fun Q hQ => ?_)
  refine lv_aload_n hx hb dX7_digitAt_0 rfl (lv_at hl 0 rfl) ?_
  refine lv_iload_n hx hb dX7_digitAt_1 rfl (lv_at hl 1 rfl) ?_
  have hPc := hP.sub (ws' := [(h0, .inr (7, [v12_0, .ref q_1201, .int (zI (z12_length)), v12_3, v12_4, v12_5, v12_6, v12_7, v12_8, v12_9, v12_10, v12_11, v12_12, v12_13, v12_14, v12_15, v12_16, v12_17])), (q_1201, .inl (cA_1201, 8192, .inl fa12_bytes))]) [0, 1] rfl
  have hDc := hD.sub (ws' := [(h0, .inr (7, [v12_0, .ref q_1201, .int (zI (z12_length)), v12_3, v12_4, v12_5, v12_6, v12_7, v12_8, v12_9, v12_10, v12_11, v12_12, v12_13, v12_14, v12_15, v12_16, v12_17])), (q_1201, .inl (cA_1201, 8192, .inl fa12_bytes))]) [0, 1] (by decide) rfl
  have hKc := hK.sub (tys' := [(cA_1201, .byte)]) [0] rfl
  have hFc := va_free (wc := [(h0, .inr (7, [v12_0, .ref q_1201, .int (zI (z12_length)), v12_3, v12_4, v12_5, v12_6, v12_7, v12_8, v12_9, v12_10, v12_11, v12_12, v12_13, v12_14, v12_15, v12_16, v12_17])), (q_1201, .inl (cA_1201, 8192, .inl fa12_bytes))]) hD hS hA [0, 1] rfl
  refine va_calli (va_runV (As := [.int (zI (i))]) (rest := []) ⟨hx, hb, hml, hown, hts⟩ (c_X7_byteAt l dC dI h0 v12_0 z12_length v12_3 v12_4 v12_5 v12_6 v12_7 v12_8 v12_9 v12_10 v12_11 v12_12 v12_13 v12_14 v12_15 v12_16 v12_17 q_1201 cA_1201 fa12_bytes i (by omega) (by omega) H.size) (cwV 1 hts g_X7_digitAt_X7_byteAt rfl rfl rfl (by decide +kernel) ⟨(Nat.le_of_ble_eq_true rfl), (Nat.le_of_ble_eq_true rfl)⟩) ⟨fun a U g mk q => by obtain ⟨q0, q1, qP, qK, qD⟩ := q; exact ⟨q0, q1, qP, va_K.moved (u := U) (U := U.calling g mk a) (Vm.Alike.refl U.vm) qK, qD⟩, va_recv hKc hPc (ci := 7) (q0 := 0) rfl rfl, fun U hU hW => ⟨rfl, by rw [hU], by rw [hU]; exact hPc, va_K.moved hW.alike hKc, hDc.weaken (fun _ _ _ _ => trivial)⟩⟩ rfl rfl hl.1 rfl (lv_room (Nat.le_of_ble_eq_true rfl)) dX7_digitAt_2 ⟨(Nat.le_of_ble_eq_true rfl), (Nat.le_of_ble_eq_true rfl)⟩) hS (fun q _ h => hFc q h) hFc (fun r_2001 u t H1 locs ht hvm hw hB hz1 hk1 hS => ?_)
  obtain ⟨hP1, hK1, hD1⟩ := hB
  rw [ht] at hP1
  have hK1 := va_K.moved hvm.symm hK1
  obtain ⟨hP, hD⟩ := va_join (wr := []) (w1 := [(h0, .inr (7, [v12_0, .ref q_1201, .int (zI (z12_length)), v12_3, v12_4, v12_5, v12_6, v12_7, v12_8, v12_9, v12_10, v12_11, v12_12, v12_13, v12_14, v12_15, v12_16, v12_17])), (q_1201, .inl (cA_1201, 8192, .inl fa12_bytes))]) hP hD [0, 1] [] rfl rfl (by decide) (by decide) hk1 hFc hP1 hD1
  have hK := (hK.sub (tys' := []) [] rfl).app hK1
  generalize H1 = H at hP hS ⊢
  have hP : va_P (dC, dI) vwP [(h0, .inr (7, [v12_0, .ref q_1201, .int (zI (z12_length)), v12_3, v12_4, v12_5, v12_6, v12_7, v12_8, v12_9, v12_10, v12_11, v12_12, v12_13, v12_14, v12_15, v12_16, v12_17])), (q_1201, .inl (cA_1201, 8192, .inl fa12_bytes))] H := hP
  have hD : va_D A [(h0, .inr (7, [v12_0, .ref q_1201, .int (zI (z12_length)), v12_3, v12_4, v12_5, v12_6, v12_7, v12_8, v12_9, v12_10, v12_11, v12_12, v12_13, v12_14, v12_15, v12_16, v12_17])), (q_1201, .inl (cA_1201, 8192, .inl fa12_bytes))] := hD
  have hK : va_K (dC, dI) vwP [(cA_1201, .byte)] s := hK
  refine W.widen (k := 0) (n := 0) (Nat.le_of_ble_eq_true rfl) (Nat.le_of_ble_eq_true rfl) ?_
  obtain rfl : r_2001 = (zI (btF fa12_bytes z12_length (i))) := hw
  have := btF_rng fa12_bytes z12_length (i)
  refine lv_istore_n (lv' := [(2, .int (zI (btF fa12_bytes z12_length (i)))), (0, .ref h0), (1, .int (zI (i)))]) hx hb dX7_digitAt_5 rfl hl (by decide) rfl (fun ls hl => ?_)
  refine lv_iload_n hx hb dX7_digitAt_6 rfl (lv_at hl 0 rfl) ?_
  refine lv_bipush (v := 48) hx hb dX7_digitAt_7 (by decide) ?_
  refine lv_icmp_lt (tgt := 22) hx hb dX7_digitAt_9 (by decide) (fun b9 => ?_) (fun b9 => ?_)
  · have yb9 : (btF fa12_bytes z12_length (i) : Int) < (48 : Int) := (zI_lt (a := btF fa12_bytes z12_length (i)) (b := 48) (by omega) (by omega) (by omega) (by omega)).mp b9
    refine lv_iconst (v := 0) hx hb dX7_digitAt_22 (by decide) ?_
    subst hQ
    refine W.widen (k := 0) (n := 0) (Nat.le_of_ble_eq_true rfl) (Nat.le_of_ble_eq_true rfl) ?_
    exact W.zret (v := 0) hx hb hr (by decide) (fun t ht hW => ⟨⟨0, (), rfl, (congrArg zI (show (0 : Int) = dgF fa12_bytes z12_length (i) by have q9 := dgF_spec fa12_bytes z12_length (i); omega)), by rw [ht]; exact hP, va_K.moved hW.alike hK, hD⟩, hS.F ht⟩) hS.2.2 dX7_digitAt_23
  · have yb9 : ¬ (btF fa12_bytes z12_length (i) : Int) < (48 : Int) := fun q => b9 ((zI_lt (a := btF fa12_bytes z12_length (i)) (b := 48) (by omega) (by omega) (by omega) (by omega)).mpr q)
    refine lv_iload_n hx hb dX7_digitAt_12 rfl (lv_at hl 0 rfl) ?_
    refine lv_bipush (v := 57) hx hb dX7_digitAt_13 (by decide) ?_
    refine lv_icmp_gt (tgt := 22) hx hb dX7_digitAt_15 (by decide) (fun b15 => ?_) (fun b15 => ?_)
    · have yb15 : (57 : Int) < (btF fa12_bytes z12_length (i) : Int) := (zI_lt (a := 57) (b := btF fa12_bytes z12_length (i)) (by omega) (by omega) (by omega) (by omega)).mp b15
      refine lv_iconst (v := 0) hx hb dX7_digitAt_22 (by decide) ?_
      subst hQ
      refine W.widen (k := 0) (n := 0) (Nat.le_of_ble_eq_true rfl) (Nat.le_of_ble_eq_true rfl) ?_
      exact W.zret (v := 0) hx hb hr (by decide) (fun t ht hW => ⟨⟨0, (), rfl, (congrArg zI (show (0 : Int) = dgF fa12_bytes z12_length (i) by have q9 := dgF_spec fa12_bytes z12_length (i); omega)), by rw [ht]; exact hP, va_K.moved hW.alike hK, hD⟩, hS.F ht⟩) hS.2.2 dX7_digitAt_23
    · have yb15 : ¬ (57 : Int) < (btF fa12_bytes z12_length (i) : Int) := fun q => b15 ((zI_lt (a := 57) (b := btF fa12_bytes z12_length (i)) (by omega) (by omega) (by omega) (by omega)).mpr q)
      refine lv_iconst (v := 1) hx hb dX7_digitAt_18 (by decide) ?_
      refine lv_goto (tgt := 23) hx hb dX7_digitAt_19 (by decide) ?_
      subst hQ
      refine W.widen (k := 0) (n := 0) (Nat.le_of_ble_eq_true rfl) (Nat.le_of_ble_eq_true rfl) ?_
      exact W.zret (v := 1) hx hb hr (by decide) (fun t ht hW => ⟨⟨1, (), rfl, (congrArg zI (show (1 : Int) = dgF fa12_bytes z12_length (i) by have q9 := dgF_spec fa12_bytes z12_length (i); omega)), by rw [ht]; exact hP, va_K.moved hW.alike hK, hD⟩, hS.F ht⟩) hS.2.2 dX7_digitAt_23
theorem dX7_letterAt_0 : decode cX7_letterAt 0 = .ok (.aload_n 0, 1) := by decide +kernel
theorem dX7_letterAt_1 : decode cX7_letterAt 1 = .ok (.iload_n 1, 1) := by decide +kernel
theorem dX7_letterAt_2 : decode cX7_letterAt 2 = .ok (.invokevirtual 93, 3) := by decide +kernel
theorem dX7_letterAt_5 : decode cX7_letterAt 5 = .ok (.istore_n 2, 1) := by decide +kernel
theorem dX7_letterAt_6 : decode cX7_letterAt 6 = .ok (.iload_n 2, 1) := by decide +kernel
theorem dX7_letterAt_7 : decode cX7_letterAt 7 = .ok (.bipush 97, 2) := by decide +kernel
theorem dX7_letterAt_9 : decode cX7_letterAt 9 = .ok (.if_icmp .lt 13, 3) := by decide +kernel
theorem dX7_letterAt_22 : decode cX7_letterAt 22 = .ok (.iconst 0, 1) := by decide +kernel
theorem dX7_letterAt_23 : decode cX7_letterAt 23 = .ok (.ireturn, 1) := by decide +kernel
theorem dX7_letterAt_12 : decode cX7_letterAt 12 = .ok (.iload_n 2, 1) := by decide +kernel
theorem dX7_letterAt_13 : decode cX7_letterAt 13 = .ok (.bipush 122, 2) := by decide +kernel
theorem dX7_letterAt_15 : decode cX7_letterAt 15 = .ok (.if_icmp .gt 7, 3) := by decide +kernel
theorem dX7_letterAt_18 : decode cX7_letterAt 18 = .ok (.iconst 1, 1) := by decide +kernel
theorem dX7_letterAt_19 : decode cX7_letterAt 19 = .ok (.goto 4, 3) := by decide +kernel
def o_X7_letterAt : List Cond := [.methodLink RX7 93 yX7_byteAt, .instanceMethod yX7_byteAt, .selects RX7 yX7_byteAt yX7_byteAt, .initialized RX7]
def v_X7_letterAt : List Cond := .code yX7_letterAt cX7_letterAt 3 (some .boolean) :: (o_X7_letterAt ++ (v_X7_byteAt ++ []))
theorem mow_X7_letterAt : ∀ w ∈ o_X7_letterAt, w ∈ v_X7_letterAt := fun _ h => List.mem_cons_of_mem _ (List.mem_append_left _ h)
theorem mem_X7_letterAt_0 : ∀ w ∈ v_X7_byteAt, w ∈ v_X7_letterAt := fun _ h => List.mem_cons_of_mem _ (List.mem_append_right _ (List.mem_append_left _ h))
set_option maxRecDepth 20000 in
theorem gw_X7_letterAt : v_X7_letterAt.all goodWord = true := by decide +kernel
set_option maxRecDepth 20000 in
theorem g_X7_letterAt_X7_byteAt : GoodIn v_X7_letterAt (wsV RX7 93 RX7 yX7_byteAt v_X7_byteAt) := goodIn_app (goodIn_sub (fun w h => mow_X7_letterAt w (by revert w h; decide +kernel)) (by decide +kernel)) (goodIn_sub mem_X7_letterAt_0 gw_X7_byteAt)
set_option maxHeartbeats 4000000 in
set_option maxRecDepth 100000 in
theorem c_X7_letterAt (l : Launch) (dC : Nat → ClassId) (dI : Nat → Nat → Nat) (h0 : Nat) (v12_0 : Value) (z12_length : Int) (v12_3 : Value) (v12_4 : Value) (v12_5 : Value) (v12_6 : Value) (v12_7 : Value) (v12_8 : Value) (v12_9 : Value) (v12_10 : Value) (v12_11 : Value) (v12_12 : Value) (v12_13 : Value) (v12_14 : Value) (v12_15 : Value) (v12_16 : Value) (v12_17 : Value) (q_1201 : Nat) (cA_1201 : ClassId) (fa12_bytes : Nat → Int32) (i : Int) (hNz12_length : 0 ≤ z12_length ∧ z12_length ≤ 8192) (hNi : 0 ≤ i ∧ i ≤ 9000) (sz : Nat) : Met l yX7_letterAt v_X7_letterAt ({ frames := 1, cells := 0, slots := 0, locals := 21 }) (va_Pc [.ref h0, .int (zI (i))] (fun U => U.heap.size = sz ∧ va_P (dC, dI) vwP [(h0, .inr (7, [v12_0, .ref q_1201, .int (zI (z12_length)), v12_3, v12_4, v12_5, v12_6, v12_7, v12_8, v12_9, v12_10, v12_11, v12_12, v12_13, v12_14, v12_15, v12_16, v12_17])), (q_1201, .inl (cA_1201, 8192, .inl fa12_bytes))] U.heap ∧ va_K (dC, dI) vwP [(cA_1201, .byte)] U ∧ va_D (fun _ => True) [(h0, .inr (7, [v12_0, .ref q_1201, .int (zI (z12_length)), v12_3, v12_4, v12_5, v12_6, v12_7, v12_8, v12_9, v12_10, v12_11, v12_12, v12_13, v12_14, v12_15, v12_16, v12_17])), (q_1201, .inl (cA_1201, 8192, .inl fa12_bytes))])) (va_Qi (fun (r : Int32) (_ : Unit) => ∃ z : Int, r = zI z ∧ (0 ≤ z ∧ z ≤ 1)) (fun (_ : Unit) (t : State) => va_P (dC, dI) vwP [(h0, .inr (7, [v12_0, .ref q_1201, .int (zI (z12_length)), v12_3, v12_4, v12_5, v12_6, v12_7, v12_8, v12_9, v12_10, v12_11, v12_12, v12_13, v12_14, v12_15, v12_16, v12_17])), (q_1201, .inl (cA_1201, 8192, .inl fa12_bytes))] t.heap ∧ va_K (dC, dI) vwP [(cA_1201, .byte)] t ∧ va_D (va_A [(h0, .inr (7, [v12_0, .ref q_1201, .int (zI (z12_length)), v12_3, v12_4, v12_5, v12_6, v12_7, v12_8, v12_9, v12_10, v12_11, v12_12, v12_13, v12_14, v12_15, v12_16, v12_17])), (q_1201, .inl (cA_1201, 8192, .inl fa12_bytes))] sz) [(h0, .inr (7, [v12_0, .ref q_1201, .int (zI (z12_length)), v12_3, v12_4, v12_5, v12_6, v12_7, v12_8, v12_9, v12_10, v12_11, v12_12, v12_13, v12_14, v12_15, v12_16, v12_17])), (q_1201, .inl (cA_1201, 8192, .inl fa12_bytes))]) (va_A [(h0, .inr (7, [v12_0, .ref q_1201, .int (zI (z12_length)), v12_3, v12_4, v12_5, v12_6, v12_7, v12_8, v12_9, v12_10, v12_11, v12_12, v12_13, v12_14, v12_15, v12_16, v12_17])), (q_1201, .inl (cA_1201, 8192, .inl fa12_bytes))] sz)) 0 0 (va_A [(h0, .inr (7, [v12_0, .ref q_1201, .int (zI (z12_length)), v12_3, v12_4, v12_5, v12_6, v12_7, v12_8, v12_9, v12_10, v12_11, v12_12, v12_13, v12_14, v12_15, v12_16, v12_17])), (q_1201, .inl (cA_1201, 8192, .inl fa12_bytes))] sz) := by
  refine Met.ofW (cc := cX7_letterAt) (maxL := 3) (ret := (some .boolean)) (by decide) rfl ?_
  intro p e s m args below meth c s₁ B hml hv
  obtain ⟨rfl, hsz, hP, hK, hD0⟩ := hv
  have hx := B.exec
  have hb := B.bytes
  have hr := B.returns
  have hts := atoms_spec (ws := v_X7_letterAt) B.pre
  have hown : s.vm.findClass RX7 = some m.cls := findClass_of_methodNamed B.named
  have hlocks := B.notSynchronized
  have ow : ∀ {k : Nat} {w : Cond}, o_X7_letterAt[k]? = some w → w.before ([.ref h0, .int (zI (i))] : List Value).toArray s = true := fun h => hts _ (mow_X7_letterAt _ (List.mem_of_getElem? h))
  subst hsz
  have hD := hD0.self (sz := s.heap.size)
  generalize hAe : va_A [(h0, .inr (7, [v12_0, .ref q_1201, .int (zI (z12_length)), v12_3, v12_4, v12_5, v12_6, v12_7, v12_8, v12_9, v12_10, v12_11, v12_12, v12_13, v12_14, v12_15, v12_16, v12_17])), (q_1201, .inl (cA_1201, 8192, .inl fa12_bytes))] s.heap.size = A at hD ⊢
  have hA : ∀ q : Nat, s.heap.size ≤ q → A q := fun q h => by rw [← hAe]; exact Or.inr h
  have hS : va_S A s.heap s.heap [] := va_S.rf
  have hP : va_P (dC, dI) vwP [(h0, .inr (7, [v12_0, .ref q_1201, .int (zI (z12_length)), v12_3, v12_4, v12_5, v12_6, v12_7, v12_8, v12_9, v12_10, v12_11, v12_12, v12_13, v12_14, v12_15, v12_16, v12_17])), (q_1201, .inl (cA_1201, 8192, .inl fa12_bytes))] s.heap := hP
  have hl := lv_entry ([.ref h0, .int (zI (i))]) (n := 3) (Nat.le_of_ble_eq_true rfl)
  rw [lg_entry_eq]
  generalize (lg_sl ([.ref h0, .int (zI (i))]) ++ List.replicate (3 - (lg_sl ([.ref h0, .int (zI (i))])).length) Slot.unset).toArray = ls at hl ⊢
  have hl : lv_has ls 3 [(0, .ref h0), (1, .int (zI (i)))] := hl
  obtain ⟨H, hH⟩ : ∃ H, H = s.heap := ⟨_, rfl⟩
  rw [← hH] at hP
  have hS : va_S A s.heap H [] := by rw [hH]; exact hS
  rw [← hH]
  refine zW_cap (fun Q hQ => ?_)
  refine lv_aload_n hx hb dX7_letterAt_0 rfl (lv_at hl 0 rfl) ?_
  refine lv_iload_n hx hb dX7_letterAt_1 rfl (lv_at hl 1 rfl) ?_
  have hPc := hP.sub (ws' := [(h0, .inr (7, [v12_0, .ref q_1201, .int (zI (z12_length)), v12_3, v12_4, v12_5, v12_6, v12_7, v12_8, v12_9, v12_10, v12_11, v12_12, v12_13, v12_14, v12_15, v12_16, v12_17])), (q_1201, .inl (cA_1201, 8192, .inl fa12_bytes))]) [0, 1] rfl
  have hDc := hD.sub (ws' := [(h0, .inr (7, [v12_0, .ref q_1201, .int (zI (z12_length)), v12_3, v12_4, v12_5, v12_6, v12_7, v12_8, v12_9, v12_10, v12_11, v12_12, v12_13, v12_14, v12_15, v12_16, v12_17])), (q_1201, .inl (cA_1201, 8192, .inl fa12_bytes))]) [0, 1] (by decide) rfl
  have hKc := hK.sub (tys' := [(cA_1201, .byte)]) [0] rfl
  have hFc := va_free (wc := [(h0, .inr (7, [v12_0, .ref q_1201, .int (zI (z12_length)), v12_3, v12_4, v12_5, v12_6, v12_7, v12_8, v12_9, v12_10, v12_11, v12_12, v12_13, v12_14, v12_15, v12_16, v12_17])), (q_1201, .inl (cA_1201, 8192, .inl fa12_bytes))]) hD hS hA [0, 1] rfl
  refine va_calli (va_runV (As := [.int (zI (i))]) (rest := []) ⟨hx, hb, hml, hown, hts⟩ (c_X7_byteAt l dC dI h0 v12_0 z12_length v12_3 v12_4 v12_5 v12_6 v12_7 v12_8 v12_9 v12_10 v12_11 v12_12 v12_13 v12_14 v12_15 v12_16 v12_17 q_1201 cA_1201 fa12_bytes i (by omega) (by omega) H.size) (cwV 1 hts g_X7_letterAt_X7_byteAt rfl rfl rfl (by decide +kernel) ⟨(Nat.le_of_ble_eq_true rfl), (Nat.le_of_ble_eq_true rfl)⟩) ⟨fun a U g mk q => by obtain ⟨q0, q1, qP, qK, qD⟩ := q; exact ⟨q0, q1, qP, va_K.moved (u := U) (U := U.calling g mk a) (Vm.Alike.refl U.vm) qK, qD⟩, va_recv hKc hPc (ci := 7) (q0 := 0) rfl rfl, fun U hU hW => ⟨rfl, by rw [hU], by rw [hU]; exact hPc, va_K.moved hW.alike hKc, hDc.weaken (fun _ _ _ _ => trivial)⟩⟩ rfl rfl hl.1 rfl (lv_room (Nat.le_of_ble_eq_true rfl)) dX7_letterAt_2 ⟨(Nat.le_of_ble_eq_true rfl), (Nat.le_of_ble_eq_true rfl)⟩) hS (fun q _ h => hFc q h) hFc (fun r_2001 u t H1 locs ht hvm hw hB hz1 hk1 hS => ?_)
  obtain ⟨hP1, hK1, hD1⟩ := hB
  rw [ht] at hP1
  have hK1 := va_K.moved hvm.symm hK1
  obtain ⟨hP, hD⟩ := va_join (wr := []) (w1 := [(h0, .inr (7, [v12_0, .ref q_1201, .int (zI (z12_length)), v12_3, v12_4, v12_5, v12_6, v12_7, v12_8, v12_9, v12_10, v12_11, v12_12, v12_13, v12_14, v12_15, v12_16, v12_17])), (q_1201, .inl (cA_1201, 8192, .inl fa12_bytes))]) hP hD [0, 1] [] rfl rfl (by decide) (by decide) hk1 hFc hP1 hD1
  have hK := (hK.sub (tys' := []) [] rfl).app hK1
  generalize H1 = H at hP hS ⊢
  have hP : va_P (dC, dI) vwP [(h0, .inr (7, [v12_0, .ref q_1201, .int (zI (z12_length)), v12_3, v12_4, v12_5, v12_6, v12_7, v12_8, v12_9, v12_10, v12_11, v12_12, v12_13, v12_14, v12_15, v12_16, v12_17])), (q_1201, .inl (cA_1201, 8192, .inl fa12_bytes))] H := hP
  have hD : va_D A [(h0, .inr (7, [v12_0, .ref q_1201, .int (zI (z12_length)), v12_3, v12_4, v12_5, v12_6, v12_7, v12_8, v12_9, v12_10, v12_11, v12_12, v12_13, v12_14, v12_15, v12_16, v12_17])), (q_1201, .inl (cA_1201, 8192, .inl fa12_bytes))] := hD
  have hK : va_K (dC, dI) vwP [(cA_1201, .byte)] s := hK
  refine W.widen (k := 0) (n := 0) (Nat.le_of_ble_eq_true rfl) (Nat.le_of_ble_eq_true rfl) ?_
  obtain rfl : r_2001 = (zI (btF fa12_bytes z12_length (i))) := hw
  have := btF_rng fa12_bytes z12_length (i)
  refine lv_istore_n (lv' := [(2, .int (zI (btF fa12_bytes z12_length (i)))), (0, .ref h0), (1, .int (zI (i)))]) hx hb dX7_letterAt_5 rfl hl (by decide) rfl (fun ls hl => ?_)
  refine lv_iload_n hx hb dX7_letterAt_6 rfl (lv_at hl 0 rfl) ?_
  refine lv_bipush (v := 97) hx hb dX7_letterAt_7 (by decide) ?_
  refine lv_icmp_lt (tgt := 22) hx hb dX7_letterAt_9 (by decide) (fun b9 => ?_) (fun b9 => ?_)
  · have yb9 : (btF fa12_bytes z12_length (i) : Int) < (97 : Int) := (zI_lt (a := btF fa12_bytes z12_length (i)) (b := 97) (by omega) (by omega) (by omega) (by omega)).mp b9
    refine lv_iconst (v := 0) hx hb dX7_letterAt_22 (by decide) ?_
    subst hQ
    refine W.widen (k := 0) (n := 0) (Nat.le_of_ble_eq_true rfl) (Nat.le_of_ble_eq_true rfl) ?_
    exact W.zret (v := 0) hx hb hr (by decide) (fun t ht hW => ⟨⟨0, (), rfl, ⟨0, rfl, by omega⟩, by rw [ht]; exact hP, va_K.moved hW.alike hK, hD⟩, hS.F ht⟩) hS.2.2 dX7_letterAt_23
  · have yb9 : ¬ (btF fa12_bytes z12_length (i) : Int) < (97 : Int) := fun q => b9 ((zI_lt (a := btF fa12_bytes z12_length (i)) (b := 97) (by omega) (by omega) (by omega) (by omega)).mpr q)
    refine lv_iload_n hx hb dX7_letterAt_12 rfl (lv_at hl 0 rfl) ?_
    refine lv_bipush (v := 122) hx hb dX7_letterAt_13 (by decide) ?_
    refine lv_icmp_gt (tgt := 22) hx hb dX7_letterAt_15 (by decide) (fun b15 => ?_) (fun b15 => ?_)
    · have yb15 : (122 : Int) < (btF fa12_bytes z12_length (i) : Int) := (zI_lt (a := 122) (b := btF fa12_bytes z12_length (i)) (by omega) (by omega) (by omega) (by omega)).mp b15
      refine lv_iconst (v := 0) hx hb dX7_letterAt_22 (by decide) ?_
      subst hQ
      refine W.widen (k := 0) (n := 0) (Nat.le_of_ble_eq_true rfl) (Nat.le_of_ble_eq_true rfl) ?_
      exact W.zret (v := 0) hx hb hr (by decide) (fun t ht hW => ⟨⟨0, (), rfl, ⟨0, rfl, by omega⟩, by rw [ht]; exact hP, va_K.moved hW.alike hK, hD⟩, hS.F ht⟩) hS.2.2 dX7_letterAt_23
    · have yb15 : ¬ (122 : Int) < (btF fa12_bytes z12_length (i) : Int) := fun q => b15 ((zI_lt (a := 122) (b := btF fa12_bytes z12_length (i)) (by omega) (by omega) (by omega) (by omega)).mpr q)
      refine lv_iconst (v := 1) hx hb dX7_letterAt_18 (by decide) ?_
      refine lv_goto (tgt := 23) hx hb dX7_letterAt_19 (by decide) ?_
      subst hQ
      refine W.widen (k := 0) (n := 0) (Nat.le_of_ble_eq_true rfl) (Nat.le_of_ble_eq_true rfl) ?_
      exact W.zret (v := 1) hx hb hr (by decide) (fun t ht hW => ⟨⟨1, (), rfl, ⟨1, rfl, by omega⟩, by rw [ht]; exact hP, va_K.moved hW.alike hK, hD⟩, hS.F ht⟩) hS.2.2 dX7_letterAt_23
theorem dX7_skipBlanks_0 : decode cX7_skipBlanks 0 = .ok (.iconst 0, 1) := by decide +kernel
theorem dX7_skipBlanks_1 : decode cX7_skipBlanks 1 = .ok (.istore_n 1, 1) := by decide +kernel
theorem dX7_skipBlanks_2 : decode cX7_skipBlanks 2 = .ok (.aload_n 0, 1) := by decide +kernel
theorem dX7_skipBlanks_3 : decode cX7_skipBlanks 3 = .ok (.getfield 22, 3) := by decide +kernel
theorem dX7_skipBlanks_6 : decode cX7_skipBlanks 6 = .ok (.aload_n 0, 1) := by decide +kernel
theorem dX7_skipBlanks_7 : decode cX7_skipBlanks 7 = .ok (.getfield 19, 3) := by decide +kernel
theorem dX7_skipBlanks_10 : decode cX7_skipBlanks 10 = .ok (.if_icmp .ge 70, 3) := by decide +kernel
theorem dX7_skipBlanks_80 : decode cX7_skipBlanks 80 = .ok (.return_, 1) := by decide +kernel
theorem dX7_skipBlanks_13 : decode cX7_skipBlanks 13 = .ok (.aload_n 0, 1) := by decide +kernel
theorem dX7_skipBlanks_14 : decode cX7_skipBlanks 14 = .ok (.aload_n 0, 1) := by decide +kernel
theorem dX7_skipBlanks_15 : decode cX7_skipBlanks 15 = .ok (.getfield 22, 3) := by decide +kernel
theorem dX7_skipBlanks_18 : decode cX7_skipBlanks 18 = .ok (.invokevirtual 93, 3) := by decide +kernel
theorem dX7_skipBlanks_21 : decode cX7_skipBlanks 21 = .ok (.istore_n 2, 1) := by decide +kernel
theorem dX7_skipBlanks_22 : decode cX7_skipBlanks 22 = .ok (.iload_n 2, 1) := by decide +kernel
theorem dX7_skipBlanks_23 : decode cX7_skipBlanks 23 = .ok (.bipush 10, 2) := by decide +kernel
theorem dX7_skipBlanks_25 : decode cX7_skipBlanks 25 = .ok (.if_icmp .ne 8, 3) := by decide +kernel
theorem dX7_skipBlanks_33 : decode cX7_skipBlanks 33 = .ok (.iload_n 2, 1) := by decide +kernel
theorem dX7_skipBlanks_34 : decode cX7_skipBlanks 34 = .ok (.bipush 59, 2) := by decide +kernel
theorem dX7_skipBlanks_36 : decode cX7_skipBlanks 36 = .ok (.if_icmp .ne 8, 3) := by decide +kernel
theorem dX7_skipBlanks_44 : decode cX7_skipBlanks 44 = .ok (.iload_n 1, 1) := by decide +kernel
theorem dX7_skipBlanks_45 : decode cX7_skipBlanks 45 = .ok (.ifCond .ne 22, 3) := by decide +kernel
theorem dX7_skipBlanks_67 : decode cX7_skipBlanks 67 = .ok (.aload_n 0, 1) := by decide +kernel
theorem dX7_skipBlanks_68 : decode cX7_skipBlanks 68 = .ok (.dup, 1) := by decide +kernel
theorem dX7_skipBlanks_69 : decode cX7_skipBlanks 69 = .ok (.getfield 22, 3) := by decide +kernel
theorem dX7_skipBlanks_72 : decode cX7_skipBlanks 72 = .ok (.iconst 1, 1) := by decide +kernel
theorem dX7_skipBlanks_73 : decode cX7_skipBlanks 73 = .ok (.iadd, 1) := by decide +kernel
theorem dX7_skipBlanks_74 : decode cX7_skipBlanks 74 = .ok (.putfield 22, 3) := by decide +kernel
theorem dX7_skipBlanks_77 : decode cX7_skipBlanks 77 = .ok (.goto (-75), 3) := by decide +kernel
theorem dX7_skipBlanks_48 : decode cX7_skipBlanks 48 = .ok (.iload_n 2, 1) := by decide +kernel
theorem dX7_skipBlanks_49 : decode cX7_skipBlanks 49 = .ok (.bipush 9, 2) := by decide +kernel
theorem dX7_skipBlanks_51 : decode cX7_skipBlanks 51 = .ok (.if_icmp .eq 16, 3) := by decide +kernel
theorem dX7_skipBlanks_54 : decode cX7_skipBlanks 54 = .ok (.iload_n 2, 1) := by decide +kernel
theorem dX7_skipBlanks_55 : decode cX7_skipBlanks 55 = .ok (.bipush 13, 2) := by decide +kernel
theorem dX7_skipBlanks_57 : decode cX7_skipBlanks 57 = .ok (.if_icmp .eq 10, 3) := by decide +kernel
theorem dX7_skipBlanks_60 : decode cX7_skipBlanks 60 = .ok (.iload_n 2, 1) := by decide +kernel
theorem dX7_skipBlanks_61 : decode cX7_skipBlanks 61 = .ok (.bipush 32, 2) := by decide +kernel
theorem dX7_skipBlanks_63 : decode cX7_skipBlanks 63 = .ok (.if_icmp .eq 4, 3) := by decide +kernel
theorem dX7_skipBlanks_66 : decode cX7_skipBlanks 66 = .ok (.return_, 1) := by decide +kernel
theorem dX7_skipBlanks_39 : decode cX7_skipBlanks 39 = .ok (.iconst 1, 1) := by decide +kernel
theorem dX7_skipBlanks_40 : decode cX7_skipBlanks 40 = .ok (.istore_n 1, 1) := by decide +kernel
theorem dX7_skipBlanks_41 : decode cX7_skipBlanks 41 = .ok (.goto 26, 3) := by decide +kernel
theorem dX7_skipBlanks_28 : decode cX7_skipBlanks 28 = .ok (.iconst 0, 1) := by decide +kernel
theorem dX7_skipBlanks_29 : decode cX7_skipBlanks 29 = .ok (.istore_n 1, 1) := by decide +kernel
theorem dX7_skipBlanks_30 : decode cX7_skipBlanks 30 = .ok (.goto 37, 3) := by decide +kernel
def o_X7_skipBlanks : List Cond := [.fieldLink RX7 22 "SsaForge$Reader" "at" "I", .fieldLink RX7 19 "SsaForge$Reader" "length" "I", .methodLink RX7 93 yX7_byteAt, .instanceMethod yX7_byteAt, .selects RX7 yX7_byteAt yX7_byteAt, .initialized RX7]
def v_X7_skipBlanks : List Cond := .code yX7_skipBlanks cX7_skipBlanks 3 none :: (o_X7_skipBlanks ++ (wsX70 ++ (v_X7_byteAt ++ [])))
theorem mow_X7_skipBlanks : ∀ w ∈ o_X7_skipBlanks, w ∈ v_X7_skipBlanks := fun _ h => List.mem_cons_of_mem _ (List.mem_append_left _ h)
theorem mem_X7_skipBlanks_0 : ∀ w ∈ wsX70, w ∈ v_X7_skipBlanks := fun _ h => List.mem_cons_of_mem _ (List.mem_append_right _ (List.mem_append_left _ h))
theorem mem_X7_skipBlanks_1 : ∀ w ∈ v_X7_byteAt, w ∈ v_X7_skipBlanks := fun _ h => List.mem_cons_of_mem _ (List.mem_append_right _ (List.mem_append_right _ (List.mem_append_left _ h)))
set_option maxRecDepth 20000 in
theorem gw_X7_skipBlanks : v_X7_skipBlanks.all goodWord = true := by decide +kernel
set_option maxRecDepth 20000 in
theorem g_X7_skipBlanks_X7_byteAt : GoodIn v_X7_skipBlanks (wsV RX7 93 RX7 yX7_byteAt v_X7_byteAt) := goodIn_app (goodIn_sub (fun w h => mow_X7_skipBlanks w (by revert w h; decide +kernel)) (by decide +kernel)) (goodIn_sub mem_X7_skipBlanks_1 gw_X7_byteAt)
set_option maxHeartbeats 4000000 in
set_option maxRecDepth 100000 in
theorem c_X7_skipBlanks (l : Launch) (dC : Nat → ClassId) (dI : Nat → Nat → Nat) (h0 : Nat) (v12_0 : Value) (z12_length : Int) (z12_at : Int) (v12_4 : Value) (v12_5 : Value) (v12_6 : Value) (v12_7 : Value) (v12_8 : Value) (v12_9 : Value) (v12_10 : Value) (v12_11 : Value) (v12_12 : Value) (v12_13 : Value) (v12_14 : Value) (v12_15 : Value) (v12_16 : Value) (v12_17 : Value) (q_1201 : Nat) (cA_1201 : ClassId) (fa12_bytes : Nat → Int32) (hNz12_length : 0 ≤ z12_length ∧ z12_length ≤ 8192) (hNz12_at : 0 ≤ z12_at ∧ z12_at ≤ 8200) (hNat : z12_at ≤ 8194) (sz : Nat) : Met l yX7_skipBlanks v_X7_skipBlanks ({ frames := 1, cells := 0, slots := 0, locals := 21 }) (va_Pc [.ref h0] (fun U => U.heap.size = sz ∧ va_P (dC, dI) vwP [(h0, .inr (7, [v12_0, .ref q_1201, .int (zI (z12_length)), .int (zI (z12_at)), v12_4, v12_5, v12_6, v12_7, v12_8, v12_9, v12_10, v12_11, v12_12, v12_13, v12_14, v12_15, v12_16, v12_17])), (q_1201, .inl (cA_1201, 8192, .inl fa12_bytes))] U.heap ∧ va_K (dC, dI) vwP [(cA_1201, .byte)] U ∧ va_D (fun _ => True) [(h0, .inr (7, [v12_0, .ref q_1201, .int (zI (z12_length)), .int (zI (z12_at)), v12_4, v12_5, v12_6, v12_7, v12_8, v12_9, v12_10, v12_11, v12_12, v12_13, v12_14, v12_15, v12_16, v12_17])), (q_1201, .inl (cA_1201, 8192, .inl fa12_bytes))])) (va_Qv (fun _ : Unit => True) (fun (_ : Unit) (t : State) => ∃ (z0_9 : Int), ((0 ≤ z0_9 ∧ z0_9 ≤ 8200) ∧ (z12_at ≤ z0_9 ∧ (z0_9 ≤ z12_at ∨ z0_9 ≤ z12_length))) ∧ va_P (dC, dI) vwP [(h0, .inr (7, [v12_0, .ref q_1201, .int (zI (z12_length)), .int (zI (z0_9)), v12_4, v12_5, v12_6, v12_7, v12_8, v12_9, v12_10, v12_11, v12_12, v12_13, v12_14, v12_15, v12_16, v12_17])), (q_1201, .inl (cA_1201, 8192, .inl fa12_bytes))] t.heap ∧ va_K (dC, dI) vwP [(cA_1201, .byte)] t ∧ va_D (va_A [(h0, .inr (7, [v12_0, .ref q_1201, .int (zI (z12_length)), .int (zI (z12_at)), v12_4, v12_5, v12_6, v12_7, v12_8, v12_9, v12_10, v12_11, v12_12, v12_13, v12_14, v12_15, v12_16, v12_17])), (q_1201, .inl (cA_1201, 8192, .inl fa12_bytes))] sz) [(h0, .inr (7, [v12_0, .ref q_1201, .int (zI (z12_length)), .int (zI (z0_9)), v12_4, v12_5, v12_6, v12_7, v12_8, v12_9, v12_10, v12_11, v12_12, v12_13, v12_14, v12_15, v12_16, v12_17])), (q_1201, .inl (cA_1201, 8192, .inl fa12_bytes))]) (va_A [(h0, .inr (7, [v12_0, .ref q_1201, .int (zI (z12_length)), .int (zI (z12_at)), v12_4, v12_5, v12_6, v12_7, v12_8, v12_9, v12_10, v12_11, v12_12, v12_13, v12_14, v12_15, v12_16, v12_17])), (q_1201, .inl (cA_1201, 8192, .inl fa12_bytes))] sz)) 0 0 (va_A [(h0, .inr (7, [v12_0, .ref q_1201, .int (zI (z12_length)), .int (zI (z12_at)), v12_4, v12_5, v12_6, v12_7, v12_8, v12_9, v12_10, v12_11, v12_12, v12_13, v12_14, v12_15, v12_16, v12_17])), (q_1201, .inl (cA_1201, 8192, .inl fa12_bytes))] sz) := by
  refine Met.ofW (cc := cX7_skipBlanks) (maxL := 3) (ret := none) (by decide) rfl ?_
  intro p e s m args below meth c s₁ B hml hv
  obtain ⟨rfl, hsz, hP, hK, hD0⟩ := hv
  have hx := B.exec
  have hb := B.bytes
  have hr := B.returns
  have hts := atoms_spec (ws := v_X7_skipBlanks) B.pre
  have hown : s.vm.findClass RX7 = some m.cls := findClass_of_methodNamed B.named
  have hlocks := B.notSynchronized
  have ow : ∀ {k : Nat} {w : Cond}, o_X7_skipBlanks[k]? = some w → w.before ([.ref h0] : List Value).toArray s = true := fun h => hts _ (mow_X7_skipBlanks _ (List.mem_of_getElem? h))
  subst hsz
  have hD := hD0.self (sz := s.heap.size)
  generalize hAe : va_A [(h0, .inr (7, [v12_0, .ref q_1201, .int (zI (z12_length)), .int (zI (z12_at)), v12_4, v12_5, v12_6, v12_7, v12_8, v12_9, v12_10, v12_11, v12_12, v12_13, v12_14, v12_15, v12_16, v12_17])), (q_1201, .inl (cA_1201, 8192, .inl fa12_bytes))] s.heap.size = A at hD ⊢
  have hA : ∀ q : Nat, s.heap.size ≤ q → A q := fun q h => by rw [← hAe]; exact Or.inr h
  have hS : va_S A s.heap s.heap [] := va_S.rf
  have hP : va_P (dC, dI) vwP [(h0, .inr (7, [v12_0, .ref q_1201, .int (zI (z12_length)), .int (zI (z12_at)), v12_4, v12_5, v12_6, v12_7, v12_8, v12_9, v12_10, v12_11, v12_12, v12_13, v12_14, v12_15, v12_16, v12_17])), (q_1201, .inl (cA_1201, 8192, .inl fa12_bytes))] s.heap := hP
  have hl := lv_entry ([.ref h0]) (n := 3) (Nat.le_of_ble_eq_true rfl)
  rw [lg_entry_eq]
  generalize (lg_sl ([.ref h0]) ++ List.replicate (3 - (lg_sl ([.ref h0])).length) Slot.unset).toArray = ls at hl ⊢
  have hl : lv_has ls 3 [(0, .ref h0)] := hl
  obtain ⟨H, hH⟩ : ∃ H, H = s.heap := ⟨_, rfl⟩
  rw [← hH] at hP
  have hS : va_S A s.heap H [] := by rw [hH]; exact hS
  rw [← hH]
  refine zW_cap (fun Q hQ => ?_)
  refine lv_iconst (v := 0) hx hb dX7_skipBlanks_0 (by decide) ?_
  refine lv_istore_n (lv' := [(1, .int 0), (0, .ref h0)]) hx hb dX7_skipBlanks_1 rfl hl (by decide) rfl (fun ls hl => ?_)
  have key2 : ∀ n2 : Nat, ∀ (d2_1 : Int) (e2_0_3 : Int) (ls : Array Slot) (H : Heap) (locs : List Loc), (0 ≤ d2_1 ∧ d2_1 ≤ 1) → (0 ≤ e2_0_3 ∧ e2_0_3 ≤ 8200) → (z12_at ≤ e2_0_3 ∧ (e2_0_3 ≤ z12_at ∨ e2_0_3 ≤ z12_length)) → ((z12_length - e2_0_3 : Int).toNat) < n2 → lv_has ls 3 [(0, .ref h0), (1, .int (zI (d2_1)))] → va_P (dC, dI) vwP [(h0, .inr (7, [v12_0, .ref q_1201, .int (zI (z12_length)), .int (zI (e2_0_3)), v12_4, v12_5, v12_6, v12_7, v12_8, v12_9, v12_10, v12_11, v12_12, v12_13, v12_14, v12_15, v12_16, v12_17])), (q_1201, .inl (cA_1201, 8192, .inl fa12_bytes))] H → va_D A [(h0, .inr (7, [v12_0, .ref q_1201, .int (zI (z12_length)), .int (zI (e2_0_3)), v12_4, v12_5, v12_6, v12_7, v12_8, v12_9, v12_10, v12_11, v12_12, v12_13, v12_14, v12_15, v12_16, v12_17])), (q_1201, .inl (cA_1201, 8192, .inl fa12_bytes))] → va_S A s.heap H locs → W p l e (headSpec v_X7_skipBlanks ({ frames := 1, cells := 0, slots := 0, locals := 21 })).room s m ([.ref h0] : List Value).toArray below meth c H locs 0 0 Q (F0 m 2 ls []) := by
    intro n2
    induction n2 with
    | zero => intro d2_1 e2_0_3 ls H locs jd2_1 je2_0_3 jA hm2; exact absurd hm2 (by omega)
    | succ n2 ih2 =>
      intro d2_1 e2_0_3 ls H locs jd2_1 je2_0_3 jA hm2 hl hP hD hS
      refine lv_aload_n hx hb dX7_skipBlanks_2 rfl (lv_at hl 0 rfl) ?_
      refine va_get (D := (dC, dI)) (ci := 7) (v := .int (zI (e2_0_3))) (C := RX7) (T := TX7) (N := 18) hx hb hts mem_X7_skipBlanks_0 hown hK hP 0 rfl rfl 3 (by decide) (ow (k := 0) rfl) (fun _ h9 => h9) rfl dX7_skipBlanks_3 ?_
      refine lv_aload_n hx hb dX7_skipBlanks_6 rfl (lv_at hl 0 rfl) ?_
      refine va_get (D := (dC, dI)) (ci := 7) (v := .int (zI (z12_length))) (C := RX7) (T := TX7) (N := 18) hx hb hts mem_X7_skipBlanks_0 hown hK hP 0 rfl rfl 2 (by decide) (ow (k := 1) rfl) (fun _ h9 => h9) rfl dX7_skipBlanks_7 ?_
      refine lv_icmp_ge (tgt := 80) hx hb dX7_skipBlanks_10 (by decide) (fun b10 => ?_) (fun b10 => ?_)
      · have yb10 : (z12_length : Int) ≤ (e2_0_3 : Int) := (zI_le (a := z12_length) (b := e2_0_3) (by omega) (by omega) (by omega) (by omega)).mp b10
        subst hQ
        refine W.widen (k := 0) (n := 0) (Nat.le_of_ble_eq_true rfl) (Nat.le_of_ble_eq_true rfl) ?_
        exact W.vret hx hb hr (fun t ht hW => ⟨⟨(), rfl, trivial, e2_0_3, ⟨(by omega), (by omega)⟩, by rw [ht]; exact hP, va_K.moved hW.alike hK, hD⟩, hS.F ht⟩) hS.2.2 dX7_skipBlanks_80
      · have yb10 : ¬ (z12_length : Int) ≤ (e2_0_3 : Int) := fun q => b10 ((zI_le (a := z12_length) (b := e2_0_3) (by omega) (by omega) (by omega) (by omega)).mpr q)
        refine lv_aload_n hx hb dX7_skipBlanks_13 rfl (lv_at hl 0 rfl) ?_
        refine lv_aload_n hx hb dX7_skipBlanks_14 rfl (lv_at hl 0 rfl) ?_
        refine va_get (D := (dC, dI)) (ci := 7) (v := .int (zI (e2_0_3))) (C := RX7) (T := TX7) (N := 18) hx hb hts mem_X7_skipBlanks_0 hown hK hP 0 rfl rfl 3 (by decide) (ow (k := 0) rfl) (fun _ h9 => h9) rfl dX7_skipBlanks_15 ?_
        have hPc := hP.sub (ws' := [(h0, .inr (7, [v12_0, .ref q_1201, .int (zI (z12_length)), .int (zI (e2_0_3)), v12_4, v12_5, v12_6, v12_7, v12_8, v12_9, v12_10, v12_11, v12_12, v12_13, v12_14, v12_15, v12_16, v12_17])), (q_1201, .inl (cA_1201, 8192, .inl fa12_bytes))]) [0, 1] rfl
        have hDc := hD.sub (ws' := [(h0, .inr (7, [v12_0, .ref q_1201, .int (zI (z12_length)), .int (zI (e2_0_3)), v12_4, v12_5, v12_6, v12_7, v12_8, v12_9, v12_10, v12_11, v12_12, v12_13, v12_14, v12_15, v12_16, v12_17])), (q_1201, .inl (cA_1201, 8192, .inl fa12_bytes))]) [0, 1] (by decide) rfl
        have hKc := hK.sub (tys' := [(cA_1201, .byte)]) [0] rfl
        have hFc := va_free (wc := [(h0, .inr (7, [v12_0, .ref q_1201, .int (zI (z12_length)), .int (zI (e2_0_3)), v12_4, v12_5, v12_6, v12_7, v12_8, v12_9, v12_10, v12_11, v12_12, v12_13, v12_14, v12_15, v12_16, v12_17])), (q_1201, .inl (cA_1201, 8192, .inl fa12_bytes))]) hD hS hA [0, 1] rfl
        refine va_calli (va_runV (As := [.int (zI (e2_0_3))]) (rest := []) ⟨hx, hb, hml, hown, hts⟩ (c_X7_byteAt l dC dI h0 v12_0 z12_length (.int (zI (e2_0_3))) v12_4 v12_5 v12_6 v12_7 v12_8 v12_9 v12_10 v12_11 v12_12 v12_13 v12_14 v12_15 v12_16 v12_17 q_1201 cA_1201 fa12_bytes e2_0_3 (by omega) (by omega) H.size) (cwV 1 hts g_X7_skipBlanks_X7_byteAt rfl rfl rfl (by decide +kernel) ⟨(Nat.le_of_ble_eq_true rfl), (Nat.le_of_ble_eq_true rfl)⟩) ⟨fun a U g mk q => by obtain ⟨q0, q1, qP, qK, qD⟩ := q; exact ⟨q0, q1, qP, va_K.moved (u := U) (U := U.calling g mk a) (Vm.Alike.refl U.vm) qK, qD⟩, va_recv hKc hPc (ci := 7) (q0 := 0) rfl rfl, fun U hU hW => ⟨rfl, by rw [hU], by rw [hU]; exact hPc, va_K.moved hW.alike hKc, hDc.weaken (fun _ _ _ _ => trivial)⟩⟩ rfl rfl hl.1 rfl (lv_room (Nat.le_of_ble_eq_true rfl)) dX7_skipBlanks_18 ⟨(Nat.le_of_ble_eq_true rfl), (Nat.le_of_ble_eq_true rfl)⟩) hS (fun q _ h => hFc q h) hFc (fun r_2001 u t H1 locs ht hvm hw hB hz1 hk1 hS => ?_)
        obtain ⟨hP1, hK1, hD1⟩ := hB
        rw [ht] at hP1
        have hK1 := va_K.moved hvm.symm hK1
        obtain ⟨hP, hD⟩ := va_join (wr := []) (w1 := [(h0, .inr (7, [v12_0, .ref q_1201, .int (zI (z12_length)), .int (zI (e2_0_3)), v12_4, v12_5, v12_6, v12_7, v12_8, v12_9, v12_10, v12_11, v12_12, v12_13, v12_14, v12_15, v12_16, v12_17])), (q_1201, .inl (cA_1201, 8192, .inl fa12_bytes))]) hP hD [0, 1] [] rfl rfl (by decide) (by decide) hk1 hFc hP1 hD1
        have hK := (hK.sub (tys' := []) [] rfl).app hK1
        generalize H1 = H at hP hS ⊢
        have hP : va_P (dC, dI) vwP [(h0, .inr (7, [v12_0, .ref q_1201, .int (zI (z12_length)), .int (zI (e2_0_3)), v12_4, v12_5, v12_6, v12_7, v12_8, v12_9, v12_10, v12_11, v12_12, v12_13, v12_14, v12_15, v12_16, v12_17])), (q_1201, .inl (cA_1201, 8192, .inl fa12_bytes))] H := hP
        have hD : va_D A [(h0, .inr (7, [v12_0, .ref q_1201, .int (zI (z12_length)), .int (zI (e2_0_3)), v12_4, v12_5, v12_6, v12_7, v12_8, v12_9, v12_10, v12_11, v12_12, v12_13, v12_14, v12_15, v12_16, v12_17])), (q_1201, .inl (cA_1201, 8192, .inl fa12_bytes))] := hD
        have hK : va_K (dC, dI) vwP [(cA_1201, .byte)] s := hK
        refine W.widen (k := 0) (n := 0) (Nat.le_of_ble_eq_true rfl) (Nat.le_of_ble_eq_true rfl) ?_
        obtain rfl : r_2001 = (zI (btF fa12_bytes z12_length (e2_0_3))) := hw
        have := btF_rng fa12_bytes z12_length (e2_0_3)
        refine lv_istore_n (lv' := [(2, .int (zI (btF fa12_bytes z12_length (e2_0_3)))), (0, .ref h0), (1, .int (zI (d2_1)))]) hx hb dX7_skipBlanks_21 rfl hl (by decide) rfl (fun ls hl => ?_)
        refine lv_iload_n hx hb dX7_skipBlanks_22 rfl (lv_at hl 0 rfl) ?_
        refine lv_bipush (v := 10) hx hb dX7_skipBlanks_23 (by decide) ?_
        refine lv_icmp_ne (tgt := 33) hx hb dX7_skipBlanks_25 (by decide) (fun b25 => ?_) (fun b25 => ?_)
        · have yb25 : ¬ (btF fa12_bytes z12_length (e2_0_3) : Int) = (10 : Int) := fun q => b25 ((zI_eq (a := btF fa12_bytes z12_length (e2_0_3)) (b := 10) (by omega) (by omega) (by omega) (by omega)).mpr q)
          refine lv_iload_n hx hb dX7_skipBlanks_33 rfl (lv_at hl 0 rfl) ?_
          refine lv_bipush (v := 59) hx hb dX7_skipBlanks_34 (by decide) ?_
          refine lv_icmp_ne (tgt := 44) hx hb dX7_skipBlanks_36 (by decide) (fun b36 => ?_) (fun b36 => ?_)
          · have yb36 : ¬ (btF fa12_bytes z12_length (e2_0_3) : Int) = (59 : Int) := fun q => b36 ((zI_eq (a := btF fa12_bytes z12_length (e2_0_3)) (b := 59) (by omega) (by omega) (by omega) (by omega)).mpr q)
            refine lv_iload_n hx hb dX7_skipBlanks_44 rfl (lv_at hl 2 rfl) ?_
            refine lv_if_ne (tgt := 67) hx hb dX7_skipBlanks_45 (by decide) (fun b45 => ?_) (fun b45 => ?_)
            · have yb45 : ¬ (d2_1 : Int) = (0 : Int) := fun q => b45 ((zI_eq (a := d2_1) (b := 0) (by omega) (by omega) (by omega) (by omega)).mpr q)
              refine lv_aload_n hx hb dX7_skipBlanks_67 rfl (lv_at hl 1 rfl) ?_
              refine lv_dup hx hb dX7_skipBlanks_68 rfl ?_
              refine va_get (D := (dC, dI)) (ci := 7) (v := .int (zI (e2_0_3))) (C := RX7) (T := TX7) (N := 18) hx hb hts mem_X7_skipBlanks_0 hown hK hP 0 rfl rfl 3 (by decide) (ow (k := 0) rfl) (fun _ h9 => h9) rfl dX7_skipBlanks_69 ?_
              refine lv_iconst (v := 1) hx hb dX7_skipBlanks_72 (by decide) ?_
              refine lv_iadd hx hb dX7_skipBlanks_73 ?_
              refine lv_topi (fun z ez => ?_)
              obtain rfl : z = zI (e2_0_3 + 1) := ez.trans (zI_add (e2_0_3) (1))
              refine va_put (D := (dC, dI)) (ci := 7) (v := .int (zI (e2_0_3 + 1))) (ty := .int) (C := RX7) (T := TX7) (N := 18) hx hb hts mem_X7_skipBlanks_0 tyX7 tyX7_ok nmX7 hown hK hP hD hS 0 rfl rfl 3 (by decide) (ow (k := 0) rfl) (fun _ h9 => h9) rfl (by decide +kernel) rfl rfl (Nat.le_of_ble_eq_true rfl) dX7_skipBlanks_74 (fun H locs hP hD hS => ?_)
              have hP : va_P (dC, dI) vwP [(h0, .inr (7, [v12_0, .ref q_1201, .int (zI (z12_length)), .int (zI (e2_0_3 + 1)), v12_4, v12_5, v12_6, v12_7, v12_8, v12_9, v12_10, v12_11, v12_12, v12_13, v12_14, v12_15, v12_16, v12_17])), (q_1201, .inl (cA_1201, 8192, .inl fa12_bytes))] H := hP
              have hD : va_D A [(h0, .inr (7, [v12_0, .ref q_1201, .int (zI (z12_length)), .int (zI (e2_0_3 + 1)), v12_4, v12_5, v12_6, v12_7, v12_8, v12_9, v12_10, v12_11, v12_12, v12_13, v12_14, v12_15, v12_16, v12_17])), (q_1201, .inl (cA_1201, 8192, .inl fa12_bytes))] := hD
              obtain ⟨z_2002, ez_2002⟩ : ∃ z9 : Int, z9 = e2_0_3 + 1 := ⟨_, rfl⟩
              rw [← ez_2002] at hP hD
              have hP : va_P (dC, dI) vwP [(h0, .inr (7, [v12_0, .ref q_1201, .int (zI (z12_length)), .int (zI (z_2002)), v12_4, v12_5, v12_6, v12_7, v12_8, v12_9, v12_10, v12_11, v12_12, v12_13, v12_14, v12_15, v12_16, v12_17])), (q_1201, .inl (cA_1201, 8192, .inl fa12_bytes))] H := hP
              have hD : va_D A [(h0, .inr (7, [v12_0, .ref q_1201, .int (zI (z12_length)), .int (zI (z_2002)), v12_4, v12_5, v12_6, v12_7, v12_8, v12_9, v12_10, v12_11, v12_12, v12_13, v12_14, v12_15, v12_16, v12_17])), (q_1201, .inl (cA_1201, 8192, .inl fa12_bytes))] := hD
              refine lv_goto (tgt := 2) hx hb dX7_skipBlanks_77 (by decide) ?_
              exact ih2 d2_1 z_2002 ls H _ (by omega) (by omega) (by omega) (by omega) (lv_sub hl [1, 2] rfl) hP hD hS
            · have yb45 : (d2_1 : Int) = (0 : Int) := (zI_eq (a := d2_1) (b := 0) (by omega) (by omega) (by omega) (by omega)).mp b45
              refine lv_iload_n hx hb dX7_skipBlanks_48 rfl (lv_at hl 0 rfl) ?_
              refine lv_bipush (v := 9) hx hb dX7_skipBlanks_49 (by decide) ?_
              refine lv_icmp_eq (tgt := 67) hx hb dX7_skipBlanks_51 (by decide) (fun b51 => ?_) (fun b51 => ?_)
              · have yb51 : (btF fa12_bytes z12_length (e2_0_3) : Int) = (9 : Int) := (zI_eq (a := btF fa12_bytes z12_length (e2_0_3)) (b := 9) (by omega) (by omega) (by omega) (by omega)).mp b51
                refine lv_aload_n hx hb dX7_skipBlanks_67 rfl (lv_at hl 1 rfl) ?_
                refine lv_dup hx hb dX7_skipBlanks_68 rfl ?_
                refine va_get (D := (dC, dI)) (ci := 7) (v := .int (zI (e2_0_3))) (C := RX7) (T := TX7) (N := 18) hx hb hts mem_X7_skipBlanks_0 hown hK hP 0 rfl rfl 3 (by decide) (ow (k := 0) rfl) (fun _ h9 => h9) rfl dX7_skipBlanks_69 ?_
                refine lv_iconst (v := 1) hx hb dX7_skipBlanks_72 (by decide) ?_
                refine lv_iadd hx hb dX7_skipBlanks_73 ?_
                refine lv_topi (fun z ez => ?_)
                obtain rfl : z = zI (e2_0_3 + 1) := ez.trans (zI_add (e2_0_3) (1))
                refine va_put (D := (dC, dI)) (ci := 7) (v := .int (zI (e2_0_3 + 1))) (ty := .int) (C := RX7) (T := TX7) (N := 18) hx hb hts mem_X7_skipBlanks_0 tyX7 tyX7_ok nmX7 hown hK hP hD hS 0 rfl rfl 3 (by decide) (ow (k := 0) rfl) (fun _ h9 => h9) rfl (by decide +kernel) rfl rfl (Nat.le_of_ble_eq_true rfl) dX7_skipBlanks_74 (fun H locs hP hD hS => ?_)
                have hP : va_P (dC, dI) vwP [(h0, .inr (7, [v12_0, .ref q_1201, .int (zI (z12_length)), .int (zI (e2_0_3 + 1)), v12_4, v12_5, v12_6, v12_7, v12_8, v12_9, v12_10, v12_11, v12_12, v12_13, v12_14, v12_15, v12_16, v12_17])), (q_1201, .inl (cA_1201, 8192, .inl fa12_bytes))] H := hP
                have hD : va_D A [(h0, .inr (7, [v12_0, .ref q_1201, .int (zI (z12_length)), .int (zI (e2_0_3 + 1)), v12_4, v12_5, v12_6, v12_7, v12_8, v12_9, v12_10, v12_11, v12_12, v12_13, v12_14, v12_15, v12_16, v12_17])), (q_1201, .inl (cA_1201, 8192, .inl fa12_bytes))] := hD
                obtain ⟨z_2003, ez_2003⟩ : ∃ z9 : Int, z9 = e2_0_3 + 1 := ⟨_, rfl⟩
                rw [← ez_2003] at hP hD
                have hP : va_P (dC, dI) vwP [(h0, .inr (7, [v12_0, .ref q_1201, .int (zI (z12_length)), .int (zI (z_2003)), v12_4, v12_5, v12_6, v12_7, v12_8, v12_9, v12_10, v12_11, v12_12, v12_13, v12_14, v12_15, v12_16, v12_17])), (q_1201, .inl (cA_1201, 8192, .inl fa12_bytes))] H := hP
                have hD : va_D A [(h0, .inr (7, [v12_0, .ref q_1201, .int (zI (z12_length)), .int (zI (z_2003)), v12_4, v12_5, v12_6, v12_7, v12_8, v12_9, v12_10, v12_11, v12_12, v12_13, v12_14, v12_15, v12_16, v12_17])), (q_1201, .inl (cA_1201, 8192, .inl fa12_bytes))] := hD
                refine lv_goto (tgt := 2) hx hb dX7_skipBlanks_77 (by decide) ?_
                exact ih2 d2_1 z_2003 ls H _ (by omega) (by omega) (by omega) (by omega) (lv_sub hl [1, 2] rfl) hP hD hS
              · have yb51 : ¬ (btF fa12_bytes z12_length (e2_0_3) : Int) = (9 : Int) := fun q => b51 ((zI_eq (a := btF fa12_bytes z12_length (e2_0_3)) (b := 9) (by omega) (by omega) (by omega) (by omega)).mpr q)
                refine lv_iload_n hx hb dX7_skipBlanks_54 rfl (lv_at hl 0 rfl) ?_
                refine lv_bipush (v := 13) hx hb dX7_skipBlanks_55 (by decide) ?_
                refine lv_icmp_eq (tgt := 67) hx hb dX7_skipBlanks_57 (by decide) (fun b57 => ?_) (fun b57 => ?_)
                · have yb57 : (btF fa12_bytes z12_length (e2_0_3) : Int) = (13 : Int) := (zI_eq (a := btF fa12_bytes z12_length (e2_0_3)) (b := 13) (by omega) (by omega) (by omega) (by omega)).mp b57
                  refine lv_aload_n hx hb dX7_skipBlanks_67 rfl (lv_at hl 1 rfl) ?_
                  refine lv_dup hx hb dX7_skipBlanks_68 rfl ?_
                  refine va_get (D := (dC, dI)) (ci := 7) (v := .int (zI (e2_0_3))) (C := RX7) (T := TX7) (N := 18) hx hb hts mem_X7_skipBlanks_0 hown hK hP 0 rfl rfl 3 (by decide) (ow (k := 0) rfl) (fun _ h9 => h9) rfl dX7_skipBlanks_69 ?_
                  refine lv_iconst (v := 1) hx hb dX7_skipBlanks_72 (by decide) ?_
                  refine lv_iadd hx hb dX7_skipBlanks_73 ?_
                  refine lv_topi (fun z ez => ?_)
                  obtain rfl : z = zI (e2_0_3 + 1) := ez.trans (zI_add (e2_0_3) (1))
                  refine va_put (D := (dC, dI)) (ci := 7) (v := .int (zI (e2_0_3 + 1))) (ty := .int) (C := RX7) (T := TX7) (N := 18) hx hb hts mem_X7_skipBlanks_0 tyX7 tyX7_ok nmX7 hown hK hP hD hS 0 rfl rfl 3 (by decide) (ow (k := 0) rfl) (fun _ h9 => h9) rfl (by decide +kernel) rfl rfl (Nat.le_of_ble_eq_true rfl) dX7_skipBlanks_74 (fun H locs hP hD hS => ?_)
                  have hP : va_P (dC, dI) vwP [(h0, .inr (7, [v12_0, .ref q_1201, .int (zI (z12_length)), .int (zI (e2_0_3 + 1)), v12_4, v12_5, v12_6, v12_7, v12_8, v12_9, v12_10, v12_11, v12_12, v12_13, v12_14, v12_15, v12_16, v12_17])), (q_1201, .inl (cA_1201, 8192, .inl fa12_bytes))] H := hP
                  have hD : va_D A [(h0, .inr (7, [v12_0, .ref q_1201, .int (zI (z12_length)), .int (zI (e2_0_3 + 1)), v12_4, v12_5, v12_6, v12_7, v12_8, v12_9, v12_10, v12_11, v12_12, v12_13, v12_14, v12_15, v12_16, v12_17])), (q_1201, .inl (cA_1201, 8192, .inl fa12_bytes))] := hD
                  obtain ⟨z_2004, ez_2004⟩ : ∃ z9 : Int, z9 = e2_0_3 + 1 := ⟨_, rfl⟩
                  rw [← ez_2004] at hP hD
                  have hP : va_P (dC, dI) vwP [(h0, .inr (7, [v12_0, .ref q_1201, .int (zI (z12_length)), .int (zI (z_2004)), v12_4, v12_5, v12_6, v12_7, v12_8, v12_9, v12_10, v12_11, v12_12, v12_13, v12_14, v12_15, v12_16, v12_17])), (q_1201, .inl (cA_1201, 8192, .inl fa12_bytes))] H := hP
                  have hD : va_D A [(h0, .inr (7, [v12_0, .ref q_1201, .int (zI (z12_length)), .int (zI (z_2004)), v12_4, v12_5, v12_6, v12_7, v12_8, v12_9, v12_10, v12_11, v12_12, v12_13, v12_14, v12_15, v12_16, v12_17])), (q_1201, .inl (cA_1201, 8192, .inl fa12_bytes))] := hD
                  refine lv_goto (tgt := 2) hx hb dX7_skipBlanks_77 (by decide) ?_
                  exact ih2 d2_1 z_2004 ls H _ (by omega) (by omega) (by omega) (by omega) (lv_sub hl [1, 2] rfl) hP hD hS
                · have yb57 : ¬ (btF fa12_bytes z12_length (e2_0_3) : Int) = (13 : Int) := fun q => b57 ((zI_eq (a := btF fa12_bytes z12_length (e2_0_3)) (b := 13) (by omega) (by omega) (by omega) (by omega)).mpr q)
                  refine lv_iload_n hx hb dX7_skipBlanks_60 rfl (lv_at hl 0 rfl) ?_
                  refine lv_bipush (v := 32) hx hb dX7_skipBlanks_61 (by decide) ?_
                  refine lv_icmp_eq (tgt := 67) hx hb dX7_skipBlanks_63 (by decide) (fun b63 => ?_) (fun b63 => ?_)
                  · have yb63 : (btF fa12_bytes z12_length (e2_0_3) : Int) = (32 : Int) := (zI_eq (a := btF fa12_bytes z12_length (e2_0_3)) (b := 32) (by omega) (by omega) (by omega) (by omega)).mp b63
                    refine lv_aload_n hx hb dX7_skipBlanks_67 rfl (lv_at hl 1 rfl) ?_
                    refine lv_dup hx hb dX7_skipBlanks_68 rfl ?_
                    refine va_get (D := (dC, dI)) (ci := 7) (v := .int (zI (e2_0_3))) (C := RX7) (T := TX7) (N := 18) hx hb hts mem_X7_skipBlanks_0 hown hK hP 0 rfl rfl 3 (by decide) (ow (k := 0) rfl) (fun _ h9 => h9) rfl dX7_skipBlanks_69 ?_
                    refine lv_iconst (v := 1) hx hb dX7_skipBlanks_72 (by decide) ?_
                    refine lv_iadd hx hb dX7_skipBlanks_73 ?_
                    refine lv_topi (fun z ez => ?_)
                    obtain rfl : z = zI (e2_0_3 + 1) := ez.trans (zI_add (e2_0_3) (1))
                    refine va_put (D := (dC, dI)) (ci := 7) (v := .int (zI (e2_0_3 + 1))) (ty := .int) (C := RX7) (T := TX7) (N := 18) hx hb hts mem_X7_skipBlanks_0 tyX7 tyX7_ok nmX7 hown hK hP hD hS 0 rfl rfl 3 (by decide) (ow (k := 0) rfl) (fun _ h9 => h9) rfl (by decide +kernel) rfl rfl (Nat.le_of_ble_eq_true rfl) dX7_skipBlanks_74 (fun H locs hP hD hS => ?_)
                    have hP : va_P (dC, dI) vwP [(h0, .inr (7, [v12_0, .ref q_1201, .int (zI (z12_length)), .int (zI (e2_0_3 + 1)), v12_4, v12_5, v12_6, v12_7, v12_8, v12_9, v12_10, v12_11, v12_12, v12_13, v12_14, v12_15, v12_16, v12_17])), (q_1201, .inl (cA_1201, 8192, .inl fa12_bytes))] H := hP
                    have hD : va_D A [(h0, .inr (7, [v12_0, .ref q_1201, .int (zI (z12_length)), .int (zI (e2_0_3 + 1)), v12_4, v12_5, v12_6, v12_7, v12_8, v12_9, v12_10, v12_11, v12_12, v12_13, v12_14, v12_15, v12_16, v12_17])), (q_1201, .inl (cA_1201, 8192, .inl fa12_bytes))] := hD
                    obtain ⟨z_2005, ez_2005⟩ : ∃ z9 : Int, z9 = e2_0_3 + 1 := ⟨_, rfl⟩
                    rw [← ez_2005] at hP hD
                    have hP : va_P (dC, dI) vwP [(h0, .inr (7, [v12_0, .ref q_1201, .int (zI (z12_length)), .int (zI (z_2005)), v12_4, v12_5, v12_6, v12_7, v12_8, v12_9, v12_10, v12_11, v12_12, v12_13, v12_14, v12_15, v12_16, v12_17])), (q_1201, .inl (cA_1201, 8192, .inl fa12_bytes))] H := hP
                    have hD : va_D A [(h0, .inr (7, [v12_0, .ref q_1201, .int (zI (z12_length)), .int (zI (z_2005)), v12_4, v12_5, v12_6, v12_7, v12_8, v12_9, v12_10, v12_11, v12_12, v12_13, v12_14, v12_15, v12_16, v12_17])), (q_1201, .inl (cA_1201, 8192, .inl fa12_bytes))] := hD
                    refine lv_goto (tgt := 2) hx hb dX7_skipBlanks_77 (by decide) ?_
                    exact ih2 d2_1 z_2005 ls H _ (by omega) (by omega) (by omega) (by omega) (lv_sub hl [1, 2] rfl) hP hD hS
                  · have yb63 : ¬ (btF fa12_bytes z12_length (e2_0_3) : Int) = (32 : Int) := fun q => b63 ((zI_eq (a := btF fa12_bytes z12_length (e2_0_3)) (b := 32) (by omega) (by omega) (by omega) (by omega)).mpr q)
                    subst hQ
                    refine W.widen (k := 0) (n := 0) (Nat.le_of_ble_eq_true rfl) (Nat.le_of_ble_eq_true rfl) ?_
                    exact W.vret hx hb hr (fun t ht hW => ⟨⟨(), rfl, trivial, e2_0_3, ⟨(by omega), (by omega)⟩, by rw [ht]; exact hP, va_K.moved hW.alike hK, hD⟩, hS.F ht⟩) hS.2.2 dX7_skipBlanks_66
          · have yb36 : (btF fa12_bytes z12_length (e2_0_3) : Int) = (59 : Int) := (zI_eq (a := btF fa12_bytes z12_length (e2_0_3)) (b := 59) (by omega) (by omega) (by omega) (by omega)).mp b36
            refine lv_iconst (v := 1) hx hb dX7_skipBlanks_39 (by decide) ?_
            refine lv_istore_n (lv' := [(1, .int 1), (2, .int (zI (btF fa12_bytes z12_length (e2_0_3)))), (0, .ref h0)]) hx hb dX7_skipBlanks_40 rfl hl (by decide) rfl (fun ls hl => ?_)
            refine lv_goto (tgt := 67) hx hb dX7_skipBlanks_41 (by decide) ?_
            refine lv_aload_n hx hb dX7_skipBlanks_67 rfl (lv_at hl 2 rfl) ?_
            refine lv_dup hx hb dX7_skipBlanks_68 rfl ?_
            refine va_get (D := (dC, dI)) (ci := 7) (v := .int (zI (e2_0_3))) (C := RX7) (T := TX7) (N := 18) hx hb hts mem_X7_skipBlanks_0 hown hK hP 0 rfl rfl 3 (by decide) (ow (k := 0) rfl) (fun _ h9 => h9) rfl dX7_skipBlanks_69 ?_
            refine lv_iconst (v := 1) hx hb dX7_skipBlanks_72 (by decide) ?_
            refine lv_iadd hx hb dX7_skipBlanks_73 ?_
            refine lv_topi (fun z ez => ?_)
            obtain rfl : z = zI (e2_0_3 + 1) := ez.trans (zI_add (e2_0_3) (1))
            refine va_put (D := (dC, dI)) (ci := 7) (v := .int (zI (e2_0_3 + 1))) (ty := .int) (C := RX7) (T := TX7) (N := 18) hx hb hts mem_X7_skipBlanks_0 tyX7 tyX7_ok nmX7 hown hK hP hD hS 0 rfl rfl 3 (by decide) (ow (k := 0) rfl) (fun _ h9 => h9) rfl (by decide +kernel) rfl rfl (Nat.le_of_ble_eq_true rfl) dX7_skipBlanks_74 (fun H locs hP hD hS => ?_)
            have hP : va_P (dC, dI) vwP [(h0, .inr (7, [v12_0, .ref q_1201, .int (zI (z12_length)), .int (zI (e2_0_3 + 1)), v12_4, v12_5, v12_6, v12_7, v12_8, v12_9, v12_10, v12_11, v12_12, v12_13, v12_14, v12_15, v12_16, v12_17])), (q_1201, .inl (cA_1201, 8192, .inl fa12_bytes))] H := hP
            have hD : va_D A [(h0, .inr (7, [v12_0, .ref q_1201, .int (zI (z12_length)), .int (zI (e2_0_3 + 1)), v12_4, v12_5, v12_6, v12_7, v12_8, v12_9, v12_10, v12_11, v12_12, v12_13, v12_14, v12_15, v12_16, v12_17])), (q_1201, .inl (cA_1201, 8192, .inl fa12_bytes))] := hD
            obtain ⟨z_2006, ez_2006⟩ : ∃ z9 : Int, z9 = e2_0_3 + 1 := ⟨_, rfl⟩
            rw [← ez_2006] at hP hD
            have hP : va_P (dC, dI) vwP [(h0, .inr (7, [v12_0, .ref q_1201, .int (zI (z12_length)), .int (zI (z_2006)), v12_4, v12_5, v12_6, v12_7, v12_8, v12_9, v12_10, v12_11, v12_12, v12_13, v12_14, v12_15, v12_16, v12_17])), (q_1201, .inl (cA_1201, 8192, .inl fa12_bytes))] H := hP
            have hD : va_D A [(h0, .inr (7, [v12_0, .ref q_1201, .int (zI (z12_length)), .int (zI (z_2006)), v12_4, v12_5, v12_6, v12_7, v12_8, v12_9, v12_10, v12_11, v12_12, v12_13, v12_14, v12_15, v12_16, v12_17])), (q_1201, .inl (cA_1201, 8192, .inl fa12_bytes))] := hD
            refine lv_goto (tgt := 2) hx hb dX7_skipBlanks_77 (by decide) ?_
            exact ih2 1 z_2006 ls H _ (by omega) (by omega) (by omega) (by omega) (lv_sub hl [2, 0] rfl) hP hD hS
        · have yb25 : (btF fa12_bytes z12_length (e2_0_3) : Int) = (10 : Int) := (zI_eq (a := btF fa12_bytes z12_length (e2_0_3)) (b := 10) (by omega) (by omega) (by omega) (by omega)).mp b25
          refine lv_iconst (v := 0) hx hb dX7_skipBlanks_28 (by decide) ?_
          refine lv_istore_n (lv' := [(1, .int 0), (2, .int (zI (btF fa12_bytes z12_length (e2_0_3)))), (0, .ref h0)]) hx hb dX7_skipBlanks_29 rfl hl (by decide) rfl (fun ls hl => ?_)
          refine lv_goto (tgt := 67) hx hb dX7_skipBlanks_30 (by decide) ?_
          refine lv_aload_n hx hb dX7_skipBlanks_67 rfl (lv_at hl 2 rfl) ?_
          refine lv_dup hx hb dX7_skipBlanks_68 rfl ?_
          refine va_get (D := (dC, dI)) (ci := 7) (v := .int (zI (e2_0_3))) (C := RX7) (T := TX7) (N := 18) hx hb hts mem_X7_skipBlanks_0 hown hK hP 0 rfl rfl 3 (by decide) (ow (k := 0) rfl) (fun _ h9 => h9) rfl dX7_skipBlanks_69 ?_
          refine lv_iconst (v := 1) hx hb dX7_skipBlanks_72 (by decide) ?_
          refine lv_iadd hx hb dX7_skipBlanks_73 ?_
          refine lv_topi (fun z ez => ?_)
          obtain rfl : z = zI (e2_0_3 + 1) := ez.trans (zI_add (e2_0_3) (1))
          refine va_put (D := (dC, dI)) (ci := 7) (v := .int (zI (e2_0_3 + 1))) (ty := .int) (C := RX7) (T := TX7) (N := 18) hx hb hts mem_X7_skipBlanks_0 tyX7 tyX7_ok nmX7 hown hK hP hD hS 0 rfl rfl 3 (by decide) (ow (k := 0) rfl) (fun _ h9 => h9) rfl (by decide +kernel) rfl rfl (Nat.le_of_ble_eq_true rfl) dX7_skipBlanks_74 (fun H locs hP hD hS => ?_)
          have hP : va_P (dC, dI) vwP [(h0, .inr (7, [v12_0, .ref q_1201, .int (zI (z12_length)), .int (zI (e2_0_3 + 1)), v12_4, v12_5, v12_6, v12_7, v12_8, v12_9, v12_10, v12_11, v12_12, v12_13, v12_14, v12_15, v12_16, v12_17])), (q_1201, .inl (cA_1201, 8192, .inl fa12_bytes))] H := hP
          have hD : va_D A [(h0, .inr (7, [v12_0, .ref q_1201, .int (zI (z12_length)), .int (zI (e2_0_3 + 1)), v12_4, v12_5, v12_6, v12_7, v12_8, v12_9, v12_10, v12_11, v12_12, v12_13, v12_14, v12_15, v12_16, v12_17])), (q_1201, .inl (cA_1201, 8192, .inl fa12_bytes))] := hD
          obtain ⟨z_2007, ez_2007⟩ : ∃ z9 : Int, z9 = e2_0_3 + 1 := ⟨_, rfl⟩
          rw [← ez_2007] at hP hD
          have hP : va_P (dC, dI) vwP [(h0, .inr (7, [v12_0, .ref q_1201, .int (zI (z12_length)), .int (zI (z_2007)), v12_4, v12_5, v12_6, v12_7, v12_8, v12_9, v12_10, v12_11, v12_12, v12_13, v12_14, v12_15, v12_16, v12_17])), (q_1201, .inl (cA_1201, 8192, .inl fa12_bytes))] H := hP
          have hD : va_D A [(h0, .inr (7, [v12_0, .ref q_1201, .int (zI (z12_length)), .int (zI (z_2007)), v12_4, v12_5, v12_6, v12_7, v12_8, v12_9, v12_10, v12_11, v12_12, v12_13, v12_14, v12_15, v12_16, v12_17])), (q_1201, .inl (cA_1201, 8192, .inl fa12_bytes))] := hD
          refine lv_goto (tgt := 2) hx hb dX7_skipBlanks_77 (by decide) ?_
          exact ih2 0 z_2007 ls H _ (by omega) (by omega) (by omega) (by omega) (lv_sub hl [2, 0] rfl) hP hD hS
  exact key2 ((z12_length - z12_at : Int).toNat + 1) 0 z12_at ls H _ (by omega) (by omega) (by omega) (by omega) (lv_sub hl [1, 0] rfl) hP hD hS
theorem dX7_digits_0 : decode cX7_digits 0 = .ok (.lconst 0, 1) := by decide +kernel
theorem dX7_digits_1 : decode cX7_digits 1 = .ok (.lstore_n 1, 1) := by decide +kernel
theorem dX7_digits_2 : decode cX7_digits 2 = .ok (.aload_n 0, 1) := by decide +kernel
theorem dX7_digits_3 : decode cX7_digits 3 = .ok (.getfield 22, 3) := by decide +kernel
theorem dX7_digits_6 : decode cX7_digits 6 = .ok (.aload_n 0, 1) := by decide +kernel
theorem dX7_digits_7 : decode cX7_digits 7 = .ok (.getfield 19, 3) := by decide +kernel
theorem dX7_digits_10 : decode cX7_digits 10 = .ok (.if_icmp .ge 52, 3) := by decide +kernel
theorem dX7_digits_62 : decode cX7_digits 62 = .ok (.lload_n 1, 1) := by decide +kernel
theorem dX7_digits_63 : decode cX7_digits 63 = .ok (.lreturn, 1) := by decide +kernel
theorem dX7_digits_13 : decode cX7_digits 13 = .ok (.aload_n 0, 1) := by decide +kernel
theorem dX7_digits_14 : decode cX7_digits 14 = .ok (.aload_n 0, 1) := by decide +kernel
theorem dX7_digits_15 : decode cX7_digits 15 = .ok (.getfield 22, 3) := by decide +kernel
theorem dX7_digits_18 : decode cX7_digits 18 = .ok (.invokevirtual 107, 3) := by decide +kernel
theorem dX7_digits_21 : decode cX7_digits 21 = .ok (.ifCond .eq 41, 3) := by decide +kernel
theorem dX7_digits_24 : decode cX7_digits 24 = .ok (.lload_n 1, 1) := by decide +kernel
theorem dX7_digits_25 : decode cX7_digits 25 = .ok (.ldc2_w 152, 3) := by decide +kernel
theorem dX7_digits_28 : decode cX7_digits 28 = .ok (.lmul, 1) := by decide +kernel
theorem dX7_digits_29 : decode cX7_digits 29 = .ok (.aload_n 0, 1) := by decide +kernel
theorem dX7_digits_30 : decode cX7_digits 30 = .ok (.aload_n 0, 1) := by decide +kernel
theorem dX7_digits_31 : decode cX7_digits 31 = .ok (.getfield 22, 3) := by decide +kernel
theorem dX7_digits_34 : decode cX7_digits 34 = .ok (.invokevirtual 93, 3) := by decide +kernel
theorem dX7_digits_37 : decode cX7_digits 37 = .ok (.bipush 48, 2) := by decide +kernel
theorem dX7_digits_39 : decode cX7_digits 39 = .ok (.isub, 1) := by decide +kernel
theorem dX7_digits_40 : decode cX7_digits 40 = .ok (.i2l, 1) := by decide +kernel
theorem dX7_digits_41 : decode cX7_digits 41 = .ok (.ladd, 1) := by decide +kernel
theorem dX7_digits_42 : decode cX7_digits 42 = .ok (.ldc2_w 154, 3) := by decide +kernel
theorem dX7_digits_45 : decode cX7_digits 45 = .ok (.invokestatic 156, 3) := by decide +kernel
theorem dX7_digits_48 : decode cX7_digits 48 = .ok (.lstore_n 1, 1) := by decide +kernel
theorem dX7_digits_49 : decode cX7_digits 49 = .ok (.aload_n 0, 1) := by decide +kernel
theorem dX7_digits_50 : decode cX7_digits 50 = .ok (.dup, 1) := by decide +kernel
theorem dX7_digits_51 : decode cX7_digits 51 = .ok (.getfield 22, 3) := by decide +kernel
theorem dX7_digits_54 : decode cX7_digits 54 = .ok (.iconst 1, 1) := by decide +kernel
theorem dX7_digits_55 : decode cX7_digits 55 = .ok (.iadd, 1) := by decide +kernel
theorem dX7_digits_56 : decode cX7_digits 56 = .ok (.putfield 22, 3) := by decide +kernel
theorem dX7_digits_59 : decode cX7_digits 59 = .ok (.goto (-57), 3) := by decide +kernel
def o_X7_digits : List Cond := [.fieldLink RX7 22 "SsaForge$Reader" "at" "I", .fieldLink RX7 19 "SsaForge$Reader" "length" "I", .methodLink RX7 107 yX7_digitAt, .instanceMethod yX7_digitAt, .selects RX7 yX7_digitAt yX7_digitAt, .initialized RX7, .constantLong RX7 152 (10), .methodLink RX7 93 yX7_byteAt, .instanceMethod yX7_byteAt, .selects RX7 yX7_byteAt yX7_byteAt, .constantLong RX7 154 (4294967296), .methodLink RX7 156 Lib.MathLoose.min_long.x, .static Lib.MathLoose.min_long.x, .initialized "java/lang/Math", .code Lib.MathLoose.min_long.x Lib.MathLoose.min_long.code 4 (some .long)]
def v_X7_digits : List Cond := .code yX7_digits cX7_digits 3 (some .long) :: (o_X7_digits ++ (wsX70 ++ (v_X7_digitAt ++ (v_X7_byteAt ++ []))))
theorem mow_X7_digits : ∀ w ∈ o_X7_digits, w ∈ v_X7_digits := fun _ h => List.mem_cons_of_mem _ (List.mem_append_left _ h)
theorem mem_X7_digits_0 : ∀ w ∈ wsX70, w ∈ v_X7_digits := fun _ h => List.mem_cons_of_mem _ (List.mem_append_right _ (List.mem_append_left _ h))
theorem mem_X7_digits_1 : ∀ w ∈ v_X7_digitAt, w ∈ v_X7_digits := fun _ h => List.mem_cons_of_mem _ (List.mem_append_right _ (List.mem_append_right _ (List.mem_append_left _ h)))
theorem mem_X7_digits_2 : ∀ w ∈ v_X7_byteAt, w ∈ v_X7_digits := fun _ h => List.mem_cons_of_mem _ (List.mem_append_right _ (List.mem_append_right _ (List.mem_append_right _ (List.mem_append_left _ h))))
set_option maxRecDepth 20000 in
theorem gw_X7_digits : v_X7_digits.all goodWord = true := by decide +kernel
set_option maxRecDepth 20000 in
theorem g_X7_digits_X7_digitAt : GoodIn v_X7_digits (wsV RX7 107 RX7 yX7_digitAt v_X7_digitAt) := goodIn_app (goodIn_sub (fun w h => mow_X7_digits w (by revert w h; decide +kernel)) (by decide +kernel)) (goodIn_sub mem_X7_digits_1 gw_X7_digitAt)
set_option maxRecDepth 20000 in
theorem g_X7_digits_X7_byteAt : GoodIn v_X7_digits (wsV RX7 93 RX7 yX7_byteAt v_X7_byteAt) := goodIn_app (goodIn_sub (fun w h => mow_X7_digits w (by revert w h; decide +kernel)) (by decide +kernel)) (goodIn_sub mem_X7_digits_2 gw_X7_byteAt)
set_option maxHeartbeats 4000000 in
set_option maxRecDepth 100000 in
theorem c_X7_digits (l : Launch) (dC : Nat → ClassId) (dI : Nat → Nat → Nat) (h0 : Nat) (v12_0 : Value) (z12_length : Int) (z12_at : Int) (v12_4 : Value) (v12_5 : Value) (v12_6 : Value) (v12_7 : Value) (v12_8 : Value) (v12_9 : Value) (v12_10 : Value) (v12_11 : Value) (v12_12 : Value) (v12_13 : Value) (v12_14 : Value) (v12_15 : Value) (v12_16 : Value) (v12_17 : Value) (q_1201 : Nat) (cA_1201 : ClassId) (fa12_bytes : Nat → Int32) (hNz12_length : 0 ≤ z12_length ∧ z12_length ≤ 8192) (hNz12_at : 0 ≤ z12_at ∧ z12_at ≤ 8200) (hNat : z12_at ≤ 8194) (sz : Nat) : Met l yX7_digits v_X7_digits ({ frames := 2, cells := 0, slots := 0, locals := 43 }) (va_Pc [.ref h0] (fun U => U.heap.size = sz ∧ va_P (dC, dI) vwP [(h0, .inr (7, [v12_0, .ref q_1201, .int (zI (z12_length)), .int (zI (z12_at)), v12_4, v12_5, v12_6, v12_7, v12_8, v12_9, v12_10, v12_11, v12_12, v12_13, v12_14, v12_15, v12_16, v12_17])), (q_1201, .inl (cA_1201, 8192, .inl fa12_bytes))] U.heap ∧ va_K (dC, dI) vwP [(cA_1201, .byte)] U ∧ va_D (fun _ => True) [(h0, .inr (7, [v12_0, .ref q_1201, .int (zI (z12_length)), .int (zI (z12_at)), v12_4, v12_5, v12_6, v12_7, v12_8, v12_9, v12_10, v12_11, v12_12, v12_13, v12_14, v12_15, v12_16, v12_17])), (q_1201, .inl (cA_1201, 8192, .inl fa12_bytes))])) (va_Ql (fun (r : Int64) (_ : Unit) => ∃ z : Int, r = lI z ∧ (0 ≤ z ∧ z ≤ 4294967296)) (fun (_ : Unit) (t : State) => ∃ (z0_9 : Int), ((0 ≤ z0_9 ∧ z0_9 ≤ 8200) ∧ (z12_at ≤ z0_9 ∧ (z0_9 ≤ z12_at ∨ z0_9 ≤ z12_length))) ∧ va_P (dC, dI) vwP [(h0, .inr (7, [v12_0, .ref q_1201, .int (zI (z12_length)), .int (zI (z0_9)), v12_4, v12_5, v12_6, v12_7, v12_8, v12_9, v12_10, v12_11, v12_12, v12_13, v12_14, v12_15, v12_16, v12_17])), (q_1201, .inl (cA_1201, 8192, .inl fa12_bytes))] t.heap ∧ va_K (dC, dI) vwP [(cA_1201, .byte)] t ∧ va_D (va_A [(h0, .inr (7, [v12_0, .ref q_1201, .int (zI (z12_length)), .int (zI (z12_at)), v12_4, v12_5, v12_6, v12_7, v12_8, v12_9, v12_10, v12_11, v12_12, v12_13, v12_14, v12_15, v12_16, v12_17])), (q_1201, .inl (cA_1201, 8192, .inl fa12_bytes))] sz) [(h0, .inr (7, [v12_0, .ref q_1201, .int (zI (z12_length)), .int (zI (z0_9)), v12_4, v12_5, v12_6, v12_7, v12_8, v12_9, v12_10, v12_11, v12_12, v12_13, v12_14, v12_15, v12_16, v12_17])), (q_1201, .inl (cA_1201, 8192, .inl fa12_bytes))]) (va_A [(h0, .inr (7, [v12_0, .ref q_1201, .int (zI (z12_length)), .int (zI (z12_at)), v12_4, v12_5, v12_6, v12_7, v12_8, v12_9, v12_10, v12_11, v12_12, v12_13, v12_14, v12_15, v12_16, v12_17])), (q_1201, .inl (cA_1201, 8192, .inl fa12_bytes))] sz)) 0 0 (va_A [(h0, .inr (7, [v12_0, .ref q_1201, .int (zI (z12_length)), .int (zI (z12_at)), v12_4, v12_5, v12_6, v12_7, v12_8, v12_9, v12_10, v12_11, v12_12, v12_13, v12_14, v12_15, v12_16, v12_17])), (q_1201, .inl (cA_1201, 8192, .inl fa12_bytes))] sz) := by
  refine Met.ofW (cc := cX7_digits) (maxL := 3) (ret := (some .long)) (by decide) rfl ?_
  intro p e s m args below meth c s₁ B hml hv
  obtain ⟨rfl, hsz, hP, hK, hD0⟩ := hv
  have hx := B.exec
  have hb := B.bytes
  have hr := B.returns
  have hts := atoms_spec (ws := v_X7_digits) B.pre
  have hown : s.vm.findClass RX7 = some m.cls := findClass_of_methodNamed B.named
  have hlocks := B.notSynchronized
  have ow : ∀ {k : Nat} {w : Cond}, o_X7_digits[k]? = some w → w.before ([.ref h0] : List Value).toArray s = true := fun h => hts _ (mow_X7_digits _ (List.mem_of_getElem? h))
  subst hsz
  have hD := hD0.self (sz := s.heap.size)
  generalize hAe : va_A [(h0, .inr (7, [v12_0, .ref q_1201, .int (zI (z12_length)), .int (zI (z12_at)), v12_4, v12_5, v12_6, v12_7, v12_8, v12_9, v12_10, v12_11, v12_12, v12_13, v12_14, v12_15, v12_16, v12_17])), (q_1201, .inl (cA_1201, 8192, .inl fa12_bytes))] s.heap.size = A at hD ⊢
  have hA : ∀ q : Nat, s.heap.size ≤ q → A q := fun q h => by rw [← hAe]; exact Or.inr h
  have hS : va_S A s.heap s.heap [] := va_S.rf
  have hP : va_P (dC, dI) vwP [(h0, .inr (7, [v12_0, .ref q_1201, .int (zI (z12_length)), .int (zI (z12_at)), v12_4, v12_5, v12_6, v12_7, v12_8, v12_9, v12_10, v12_11, v12_12, v12_13, v12_14, v12_15, v12_16, v12_17])), (q_1201, .inl (cA_1201, 8192, .inl fa12_bytes))] s.heap := hP
  have hl := lv_entry ([.ref h0]) (n := 3) (Nat.le_of_ble_eq_true rfl)
  rw [lg_entry_eq]
  generalize (lg_sl ([.ref h0]) ++ List.replicate (3 - (lg_sl ([.ref h0])).length) Slot.unset).toArray = ls at hl ⊢
  have hl : lv_has ls 3 [(0, .ref h0)] := hl
  obtain ⟨H, hH⟩ : ∃ H, H = s.heap := ⟨_, rfl⟩
  rw [← hH] at hP
  have hS : va_S A s.heap H [] := by rw [hH]; exact hS
  rw [← hH]
  refine zW_cap (fun Q hQ => ?_)
  refine lv_lconst (v := lI (0)) hx hb dX7_digits_0 (by decide) ?_
  refine lv_lstore_n (lv' := [(1, .long (lI (0))), (0, .ref h0)]) hx hb dX7_digits_1 rfl hl (by decide) rfl (fun ls hl => ?_)
  have key2 : ∀ n2 : Nat, ∀ (d2_1 : Int) (e2_0_3 : Int) (ls : Array Slot) (H : Heap) (locs : List Loc), (0 ≤ d2_1 ∧ d2_1 ≤ 4294967296) → (0 ≤ e2_0_3 ∧ e2_0_3 ≤ 8200) → (z12_at ≤ e2_0_3 ∧ (e2_0_3 ≤ z12_at ∨ e2_0_3 ≤ z12_length)) → ((z12_length - e2_0_3 : Int).toNat) < n2 → lv_has ls 3 [(0, .ref h0), (1, .long (lI (d2_1)))] → va_P (dC, dI) vwP [(h0, .inr (7, [v12_0, .ref q_1201, .int (zI (z12_length)), .int (zI (e2_0_3)), v12_4, v12_5, v12_6, v12_7, v12_8, v12_9, v12_10, v12_11, v12_12, v12_13, v12_14, v12_15, v12_16, v12_17])), (q_1201, .inl (cA_1201, 8192, .inl fa12_bytes))] H → va_D A [(h0, .inr (7, [v12_0, .ref q_1201, .int (zI (z12_length)), .int (zI (e2_0_3)), v12_4, v12_5, v12_6, v12_7, v12_8, v12_9, v12_10, v12_11, v12_12, v12_13, v12_14, v12_15, v12_16, v12_17])), (q_1201, .inl (cA_1201, 8192, .inl fa12_bytes))] → va_S A s.heap H locs → W p l e (headSpec v_X7_digits ({ frames := 2, cells := 0, slots := 0, locals := 43 })).room s m ([.ref h0] : List Value).toArray below meth c H locs 0 0 Q (F0 m 2 ls []) := by
    intro n2
    induction n2 with
    | zero => intro d2_1 e2_0_3 ls H locs jd2_1 je2_0_3 jA hm2; exact absurd hm2 (by omega)
    | succ n2 ih2 =>
      intro d2_1 e2_0_3 ls H locs jd2_1 je2_0_3 jA hm2 hl hP hD hS
      refine lv_aload_n hx hb dX7_digits_2 rfl (lv_at hl 0 rfl) ?_
      refine va_get (D := (dC, dI)) (ci := 7) (v := .int (zI (e2_0_3))) (C := RX7) (T := TX7) (N := 18) hx hb hts mem_X7_digits_0 hown hK hP 0 rfl rfl 3 (by decide) (ow (k := 0) rfl) (fun _ h9 => h9) rfl dX7_digits_3 ?_
      refine lv_aload_n hx hb dX7_digits_6 rfl (lv_at hl 0 rfl) ?_
      refine va_get (D := (dC, dI)) (ci := 7) (v := .int (zI (z12_length))) (C := RX7) (T := TX7) (N := 18) hx hb hts mem_X7_digits_0 hown hK hP 0 rfl rfl 2 (by decide) (ow (k := 1) rfl) (fun _ h9 => h9) rfl dX7_digits_7 ?_
      refine lv_icmp_ge (tgt := 62) hx hb dX7_digits_10 (by decide) (fun b10 => ?_) (fun b10 => ?_)
      · have yb10 : (z12_length : Int) ≤ (e2_0_3 : Int) := (zI_le (a := z12_length) (b := e2_0_3) (by omega) (by omega) (by omega) (by omega)).mp b10
        refine lv_lload_n hx hb dX7_digits_62 rfl (lv_at hl 1 rfl) ?_
        subst hQ
        refine W.widen (k := 0) (n := 0) (Nat.le_of_ble_eq_true rfl) (Nat.le_of_ble_eq_true rfl) ?_
        exact W.lret (v := (lI (d2_1))) hx hb hr (fun t ht hW => ⟨⟨(lI (d2_1)), (), rfl, ⟨d2_1, rfl, by omega⟩, e2_0_3, ⟨(by omega), (by omega)⟩, by rw [ht]; exact hP, va_K.moved hW.alike hK, hD⟩, hS.F ht⟩) hS.2.2 dX7_digits_63
      · have yb10 : ¬ (z12_length : Int) ≤ (e2_0_3 : Int) := fun q => b10 ((zI_le (a := z12_length) (b := e2_0_3) (by omega) (by omega) (by omega) (by omega)).mpr q)
        refine lv_aload_n hx hb dX7_digits_13 rfl (lv_at hl 0 rfl) ?_
        refine lv_aload_n hx hb dX7_digits_14 rfl (lv_at hl 0 rfl) ?_
        refine va_get (D := (dC, dI)) (ci := 7) (v := .int (zI (e2_0_3))) (C := RX7) (T := TX7) (N := 18) hx hb hts mem_X7_digits_0 hown hK hP 0 rfl rfl 3 (by decide) (ow (k := 0) rfl) (fun _ h9 => h9) rfl dX7_digits_15 ?_
        have hPc := hP.sub (ws' := [(h0, .inr (7, [v12_0, .ref q_1201, .int (zI (z12_length)), .int (zI (e2_0_3)), v12_4, v12_5, v12_6, v12_7, v12_8, v12_9, v12_10, v12_11, v12_12, v12_13, v12_14, v12_15, v12_16, v12_17])), (q_1201, .inl (cA_1201, 8192, .inl fa12_bytes))]) [0, 1] rfl
        have hDc := hD.sub (ws' := [(h0, .inr (7, [v12_0, .ref q_1201, .int (zI (z12_length)), .int (zI (e2_0_3)), v12_4, v12_5, v12_6, v12_7, v12_8, v12_9, v12_10, v12_11, v12_12, v12_13, v12_14, v12_15, v12_16, v12_17])), (q_1201, .inl (cA_1201, 8192, .inl fa12_bytes))]) [0, 1] (by decide) rfl
        have hKc := hK.sub (tys' := [(cA_1201, .byte)]) [0] rfl
        have hFc := va_free (wc := [(h0, .inr (7, [v12_0, .ref q_1201, .int (zI (z12_length)), .int (zI (e2_0_3)), v12_4, v12_5, v12_6, v12_7, v12_8, v12_9, v12_10, v12_11, v12_12, v12_13, v12_14, v12_15, v12_16, v12_17])), (q_1201, .inl (cA_1201, 8192, .inl fa12_bytes))]) hD hS hA [0, 1] rfl
        refine va_calli (va_runV (As := [.int (zI (e2_0_3))]) (rest := []) ⟨hx, hb, hml, hown, hts⟩ (c_X7_digitAt l dC dI h0 v12_0 z12_length (.int (zI (e2_0_3))) v12_4 v12_5 v12_6 v12_7 v12_8 v12_9 v12_10 v12_11 v12_12 v12_13 v12_14 v12_15 v12_16 v12_17 q_1201 cA_1201 fa12_bytes e2_0_3 (by omega) (by omega) H.size) (cwV 1 hts g_X7_digits_X7_digitAt rfl rfl rfl (by decide +kernel) ⟨(Nat.le_of_ble_eq_true rfl), (Nat.le_of_ble_eq_true rfl)⟩) ⟨fun a U g mk q => by obtain ⟨q0, q1, qP, qK, qD⟩ := q; exact ⟨q0, q1, qP, va_K.moved (u := U) (U := U.calling g mk a) (Vm.Alike.refl U.vm) qK, qD⟩, va_recv hKc hPc (ci := 7) (q0 := 0) rfl rfl, fun U hU hW => ⟨rfl, by rw [hU], by rw [hU]; exact hPc, va_K.moved hW.alike hKc, hDc.weaken (fun _ _ _ _ => trivial)⟩⟩ rfl rfl hl.1 rfl (lv_room (Nat.le_of_ble_eq_true rfl)) dX7_digits_18 ⟨(Nat.le_of_ble_eq_true rfl), (Nat.le_of_ble_eq_true rfl)⟩) hS (fun q _ h => hFc q h) hFc (fun r_2001 u t H1 locs ht hvm hw hB hz1 hk1 hS => ?_)
        obtain ⟨hP1, hK1, hD1⟩ := hB
        rw [ht] at hP1
        have hK1 := va_K.moved hvm.symm hK1
        obtain ⟨hP, hD⟩ := va_join (wr := []) (w1 := [(h0, .inr (7, [v12_0, .ref q_1201, .int (zI (z12_length)), .int (zI (e2_0_3)), v12_4, v12_5, v12_6, v12_7, v12_8, v12_9, v12_10, v12_11, v12_12, v12_13, v12_14, v12_15, v12_16, v12_17])), (q_1201, .inl (cA_1201, 8192, .inl fa12_bytes))]) hP hD [0, 1] [] rfl rfl (by decide) (by decide) hk1 hFc hP1 hD1
        have hK := (hK.sub (tys' := []) [] rfl).app hK1
        generalize H1 = H at hP hS ⊢
        have hP : va_P (dC, dI) vwP [(h0, .inr (7, [v12_0, .ref q_1201, .int (zI (z12_length)), .int (zI (e2_0_3)), v12_4, v12_5, v12_6, v12_7, v12_8, v12_9, v12_10, v12_11, v12_12, v12_13, v12_14, v12_15, v12_16, v12_17])), (q_1201, .inl (cA_1201, 8192, .inl fa12_bytes))] H := hP
        have hD : va_D A [(h0, .inr (7, [v12_0, .ref q_1201, .int (zI (z12_length)), .int (zI (e2_0_3)), v12_4, v12_5, v12_6, v12_7, v12_8, v12_9, v12_10, v12_11, v12_12, v12_13, v12_14, v12_15, v12_16, v12_17])), (q_1201, .inl (cA_1201, 8192, .inl fa12_bytes))] := hD
        have hK : va_K (dC, dI) vwP [(cA_1201, .byte)] s := hK
        refine W.widen (k := 0) (n := 0) (Nat.le_of_ble_eq_true rfl) (Nat.le_of_ble_eq_true rfl) ?_
        obtain rfl : r_2001 = (zI (dgF fa12_bytes z12_length (e2_0_3))) := hw
        have := dgF_spec fa12_bytes z12_length (e2_0_3)
        have := btF_rng fa12_bytes z12_length (e2_0_3)
        refine lv_if_eq (tgt := 62) hx hb dX7_digits_21 (by decide) (fun b21 => ?_) (fun b21 => ?_)
        · have yb21 : (dgF fa12_bytes z12_length (e2_0_3) : Int) = (0 : Int) := (zI_eq (a := dgF fa12_bytes z12_length (e2_0_3)) (b := 0) (by omega) (by omega) (by omega) (by omega)).mp b21
          refine lv_lload_n hx hb dX7_digits_62 rfl (lv_at hl 1 rfl) ?_
          subst hQ
          refine W.widen (k := 0) (n := 0) (Nat.le_of_ble_eq_true rfl) (Nat.le_of_ble_eq_true rfl) ?_
          exact W.lret (v := (lI (d2_1))) hx hb hr (fun t ht hW => ⟨⟨(lI (d2_1)), (), rfl, ⟨d2_1, rfl, by omega⟩, e2_0_3, ⟨(by omega), (by omega)⟩, by rw [ht]; exact hP, va_K.moved hW.alike hK, hD⟩, hS.F ht⟩) hS.2.2 dX7_digits_63
        · have yb21 : ¬ (dgF fa12_bytes z12_length (e2_0_3) : Int) = (0 : Int) := fun q => b21 ((zI_eq (a := dgF fa12_bytes z12_length (e2_0_3)) (b := 0) (by omega) (by omega) (by omega) (by omega)).mpr q)
          refine lv_lload_n hx hb dX7_digits_24 rfl (lv_at hl 1 rfl) ?_
          refine lv_ldc2 (v := 10) hx hb hown (ow (k := 6) rfl) dX7_digits_25 ?_
          refine lv_topl (fun z ez => ?_)
          obtain rfl : z = lI (10) := ez
          refine lv_lmul hx hb dX7_digits_28 ?_
          refine lv_topl (fun z ez => ?_)
          obtain rfl : z = lI (d2_1 * 10) := ez.trans (lI_mul (d2_1) (10))
          refine lv_aload_n hx hb dX7_digits_29 rfl (lv_at hl 0 rfl) ?_
          refine lv_aload_n hx hb dX7_digits_30 rfl (lv_at hl 0 rfl) ?_
          refine va_get (D := (dC, dI)) (ci := 7) (v := .int (zI (e2_0_3))) (C := RX7) (T := TX7) (N := 18) hx hb hts mem_X7_digits_0 hown hK hP 0 rfl rfl 3 (by decide) (ow (k := 0) rfl) (fun _ h9 => h9) rfl dX7_digits_31 ?_
          have hPc := hP.sub (ws' := [(h0, .inr (7, [v12_0, .ref q_1201, .int (zI (z12_length)), .int (zI (e2_0_3)), v12_4, v12_5, v12_6, v12_7, v12_8, v12_9, v12_10, v12_11, v12_12, v12_13, v12_14, v12_15, v12_16, v12_17])), (q_1201, .inl (cA_1201, 8192, .inl fa12_bytes))]) [0, 1] rfl
          have hDc := hD.sub (ws' := [(h0, .inr (7, [v12_0, .ref q_1201, .int (zI (z12_length)), .int (zI (e2_0_3)), v12_4, v12_5, v12_6, v12_7, v12_8, v12_9, v12_10, v12_11, v12_12, v12_13, v12_14, v12_15, v12_16, v12_17])), (q_1201, .inl (cA_1201, 8192, .inl fa12_bytes))]) [0, 1] (by decide) rfl
          have hKc := hK.sub (tys' := [(cA_1201, .byte)]) [0] rfl
          have hFc := va_free (wc := [(h0, .inr (7, [v12_0, .ref q_1201, .int (zI (z12_length)), .int (zI (e2_0_3)), v12_4, v12_5, v12_6, v12_7, v12_8, v12_9, v12_10, v12_11, v12_12, v12_13, v12_14, v12_15, v12_16, v12_17])), (q_1201, .inl (cA_1201, 8192, .inl fa12_bytes))]) hD hS hA [0, 1] rfl
          refine va_calli (va_runV (As := [.int (zI (e2_0_3))]) (rest := [.long (lI (d2_1 * 10))]) ⟨hx, hb, hml, hown, hts⟩ (c_X7_byteAt l dC dI h0 v12_0 z12_length (.int (zI (e2_0_3))) v12_4 v12_5 v12_6 v12_7 v12_8 v12_9 v12_10 v12_11 v12_12 v12_13 v12_14 v12_15 v12_16 v12_17 q_1201 cA_1201 fa12_bytes e2_0_3 (by omega) (by omega) H.size) (cwV 1 hts g_X7_digits_X7_byteAt rfl rfl rfl (by decide +kernel) ⟨(Nat.le_of_ble_eq_true rfl), (Nat.le_of_ble_eq_true rfl)⟩) ⟨fun a U g mk q => by obtain ⟨q0, q1, qP, qK, qD⟩ := q; exact ⟨q0, q1, qP, va_K.moved (u := U) (U := U.calling g mk a) (Vm.Alike.refl U.vm) qK, qD⟩, va_recv hKc hPc (ci := 7) (q0 := 0) rfl rfl, fun U hU hW => ⟨rfl, by rw [hU], by rw [hU]; exact hPc, va_K.moved hW.alike hKc, hDc.weaken (fun _ _ _ _ => trivial)⟩⟩ rfl rfl hl.1 rfl (lv_room (Nat.le_of_ble_eq_true rfl)) dX7_digits_34 ⟨(Nat.le_of_ble_eq_true rfl), (Nat.le_of_ble_eq_true rfl)⟩) hS (fun q _ h => hFc q h) hFc (fun r_2002 u t H1 locs ht hvm hw hB hz1 hk1 hS => ?_)
          obtain ⟨hP1, hK1, hD1⟩ := hB
          rw [ht] at hP1
          have hK1 := va_K.moved hvm.symm hK1
          obtain ⟨hP, hD⟩ := va_join (wr := []) (w1 := [(h0, .inr (7, [v12_0, .ref q_1201, .int (zI (z12_length)), .int (zI (e2_0_3)), v12_4, v12_5, v12_6, v12_7, v12_8, v12_9, v12_10, v12_11, v12_12, v12_13, v12_14, v12_15, v12_16, v12_17])), (q_1201, .inl (cA_1201, 8192, .inl fa12_bytes))]) hP hD [0, 1] [] rfl rfl (by decide) (by decide) hk1 hFc hP1 hD1
          have hK := (hK.sub (tys' := []) [] rfl).app hK1
          generalize H1 = H at hP hS ⊢
          have hP : va_P (dC, dI) vwP [(h0, .inr (7, [v12_0, .ref q_1201, .int (zI (z12_length)), .int (zI (e2_0_3)), v12_4, v12_5, v12_6, v12_7, v12_8, v12_9, v12_10, v12_11, v12_12, v12_13, v12_14, v12_15, v12_16, v12_17])), (q_1201, .inl (cA_1201, 8192, .inl fa12_bytes))] H := hP
          have hD : va_D A [(h0, .inr (7, [v12_0, .ref q_1201, .int (zI (z12_length)), .int (zI (e2_0_3)), v12_4, v12_5, v12_6, v12_7, v12_8, v12_9, v12_10, v12_11, v12_12, v12_13, v12_14, v12_15, v12_16, v12_17])), (q_1201, .inl (cA_1201, 8192, .inl fa12_bytes))] := hD
          have hK : va_K (dC, dI) vwP [(cA_1201, .byte)] s := hK
          refine W.widen (k := 0) (n := 0) (Nat.le_of_ble_eq_true rfl) (Nat.le_of_ble_eq_true rfl) ?_
          obtain rfl : r_2002 = (zI (btF fa12_bytes z12_length (e2_0_3))) := hw
          have := btF_rng fa12_bytes z12_length (e2_0_3)
          refine lv_bipush (v := 48) hx hb dX7_digits_37 (by decide) ?_
          refine lv_isub hx hb dX7_digits_39 ?_
          refine lv_topi (fun z ez => ?_)
          obtain rfl : z = zI ((btF fa12_bytes z12_length (e2_0_3)) - 48) := ez.trans (zI_sub (btF fa12_bytes z12_length (e2_0_3)) (48))
          refine lv_i2l (v := lI ((btF fa12_bytes z12_length (e2_0_3)) - 48)) hx hb dX7_digits_40 (zI_l (a := (btF fa12_bytes z12_length (e2_0_3)) - 48) (by omega) (by omega)) ?_
          refine lv_ladd hx hb dX7_digits_41 ?_
          refine lv_topl (fun z ez => ?_)
          obtain rfl : z = lI ((d2_1 * 10) + ((btF fa12_bytes z12_length (e2_0_3)) - 48)) := ez.trans (lI_add (d2_1 * 10) ((btF fa12_bytes z12_length (e2_0_3)) - 48))
          refine lv_ldc2 (v := 4294967296) hx hb hown (ow (k := 10) rfl) dX7_digits_42 ?_
          refine lv_topl (fun z ez => ?_)
          obtain rfl : z = lI (4294967296) := ez
          refine va_mmin_long hx hb (hml.trans hl.1.symm) hown (ow (k := 11) rfl) (ow (k := 12) rfl) (ow (k := 13) rfl) (ow (k := 14) rfl) (Nat.le_of_ble_eq_true rfl) (Nat.le_of_ble_eq_true rfl) (Nat.le_of_ble_eq_true rfl) (Nat.le_of_ble_eq_true rfl) dX7_digits_45 ?_
          refine lv_topl (fun z9 ez => ?_)
          obtain ⟨z_2003, rfl, hzz_2003⟩ := lI_min (a := (d2_1 * 10) + ((btF fa12_bytes z12_length (e2_0_3)) - 48)) (b := 4294967296) (by omega) (by omega) (by omega) (by omega) ez
          refine lv_lstore_n (lv' := [(1, .long (lI (z_2003))), (0, .ref h0)]) hx hb dX7_digits_48 rfl hl (by decide) rfl (fun ls hl => ?_)
          refine lv_aload_n hx hb dX7_digits_49 rfl (lv_at hl 1 rfl) ?_
          refine lv_dup hx hb dX7_digits_50 rfl ?_
          refine va_get (D := (dC, dI)) (ci := 7) (v := .int (zI (e2_0_3))) (C := RX7) (T := TX7) (N := 18) hx hb hts mem_X7_digits_0 hown hK hP 0 rfl rfl 3 (by decide) (ow (k := 0) rfl) (fun _ h9 => h9) rfl dX7_digits_51 ?_
          refine lv_iconst (v := 1) hx hb dX7_digits_54 (by decide) ?_
          refine lv_iadd hx hb dX7_digits_55 ?_
          refine lv_topi (fun z ez => ?_)
          obtain rfl : z = zI (e2_0_3 + 1) := ez.trans (zI_add (e2_0_3) (1))
          refine va_put (D := (dC, dI)) (ci := 7) (v := .int (zI (e2_0_3 + 1))) (ty := .int) (C := RX7) (T := TX7) (N := 18) hx hb hts mem_X7_digits_0 tyX7 tyX7_ok nmX7 hown hK hP hD hS 0 rfl rfl 3 (by decide) (ow (k := 0) rfl) (fun _ h9 => h9) rfl (by decide +kernel) rfl rfl (Nat.le_of_ble_eq_true rfl) dX7_digits_56 (fun H locs hP hD hS => ?_)
          have hP : va_P (dC, dI) vwP [(h0, .inr (7, [v12_0, .ref q_1201, .int (zI (z12_length)), .int (zI (e2_0_3 + 1)), v12_4, v12_5, v12_6, v12_7, v12_8, v12_9, v12_10, v12_11, v12_12, v12_13, v12_14, v12_15, v12_16, v12_17])), (q_1201, .inl (cA_1201, 8192, .inl fa12_bytes))] H := hP
          have hD : va_D A [(h0, .inr (7, [v12_0, .ref q_1201, .int (zI (z12_length)), .int (zI (e2_0_3 + 1)), v12_4, v12_5, v12_6, v12_7, v12_8, v12_9, v12_10, v12_11, v12_12, v12_13, v12_14, v12_15, v12_16, v12_17])), (q_1201, .inl (cA_1201, 8192, .inl fa12_bytes))] := hD
          obtain ⟨z_2004, ez_2004⟩ : ∃ z9 : Int, z9 = e2_0_3 + 1 := ⟨_, rfl⟩
          rw [← ez_2004] at hP hD
          have hP : va_P (dC, dI) vwP [(h0, .inr (7, [v12_0, .ref q_1201, .int (zI (z12_length)), .int (zI (z_2004)), v12_4, v12_5, v12_6, v12_7, v12_8, v12_9, v12_10, v12_11, v12_12, v12_13, v12_14, v12_15, v12_16, v12_17])), (q_1201, .inl (cA_1201, 8192, .inl fa12_bytes))] H := hP
          have hD : va_D A [(h0, .inr (7, [v12_0, .ref q_1201, .int (zI (z12_length)), .int (zI (z_2004)), v12_4, v12_5, v12_6, v12_7, v12_8, v12_9, v12_10, v12_11, v12_12, v12_13, v12_14, v12_15, v12_16, v12_17])), (q_1201, .inl (cA_1201, 8192, .inl fa12_bytes))] := hD
          refine lv_goto (tgt := 2) hx hb dX7_digits_59 (by decide) ?_
          exact ih2 z_2003 z_2004 ls H _ (by omega) (by omega) (by omega) (by omega) (lv_sub hl [1, 0] rfl) hP hD hS
  exact key2 ((z12_length - z12_at : Int).toNat + 1) 0 z12_at ls H _ (by omega) (by omega) (by omega) (by omega) (lv_sub hl [1, 0] rfl) hP hD hS
theorem dX7_spells_0 : decode cX7_spells 0 = .ok (.aload_n 0, 1) := by decide +kernel
theorem dX7_spells_1 : decode cX7_spells 1 = .ok (.getfield 22, 3) := by decide +kernel
theorem dX7_spells_4 : decode cX7_spells 4 = .ok (.aload_n 0, 1) := by decide +kernel
theorem dX7_spells_5 : decode cX7_spells 5 = .ok (.getfield 28, 3) := by decide +kernel
theorem dX7_spells_8 : decode cX7_spells 8 = .ok (.isub, 1) := by decide +kernel
theorem dX7_spells_9 : decode cX7_spells 9 = .ok (.aload_n 1, 1) := by decide +kernel
theorem dX7_spells_10 : decode cX7_spells 10 = .ok (.invokevirtual 144, 3) := by decide +kernel
theorem dX7_spells_13 : decode cX7_spells 13 = .ok (.if_icmp .eq 5, 3) := by decide +kernel
theorem dX7_spells_18 : decode cX7_spells 18 = .ok (.iconst 0, 1) := by decide +kernel
theorem dX7_spells_19 : decode cX7_spells 19 = .ok (.istore_n 2, 1) := by decide +kernel
theorem dX7_spells_20 : decode cX7_spells 20 = .ok (.iload_n 2, 1) := by decide +kernel
theorem dX7_spells_21 : decode cX7_spells 21 = .ok (.aload_n 1, 1) := by decide +kernel
theorem dX7_spells_22 : decode cX7_spells 22 = .ok (.invokevirtual 144, 3) := by decide +kernel
theorem dX7_spells_25 : decode cX7_spells 25 = .ok (.if_icmp .ge 29, 3) := by decide +kernel
theorem dX7_spells_54 : decode cX7_spells 54 = .ok (.iconst 1, 1) := by decide +kernel
theorem dX7_spells_55 : decode cX7_spells 55 = .ok (.ireturn, 1) := by decide +kernel
theorem dX7_spells_28 : decode cX7_spells 28 = .ok (.aload_n 0, 1) := by decide +kernel
theorem dX7_spells_29 : decode cX7_spells 29 = .ok (.aload_n 0, 1) := by decide +kernel
theorem dX7_spells_30 : decode cX7_spells 30 = .ok (.getfield 28, 3) := by decide +kernel
theorem dX7_spells_33 : decode cX7_spells 33 = .ok (.iload_n 2, 1) := by decide +kernel
theorem dX7_spells_34 : decode cX7_spells 34 = .ok (.iadd, 1) := by decide +kernel
theorem dX7_spells_35 : decode cX7_spells 35 = .ok (.invokevirtual 93, 3) := by decide +kernel
theorem dX7_spells_38 : decode cX7_spells 38 = .ok (.aload_n 1, 1) := by decide +kernel
theorem dX7_spells_39 : decode cX7_spells 39 = .ok (.iload_n 2, 1) := by decide +kernel
theorem dX7_spells_40 : decode cX7_spells 40 = .ok (.invokevirtual 148, 3) := by decide +kernel
theorem dX7_spells_43 : decode cX7_spells 43 = .ok (.if_icmp .eq 5, 3) := by decide +kernel
theorem dX7_spells_48 : decode cX7_spells 48 = .ok (.iinc 2 1, 3) := by decide +kernel
theorem dX7_spells_51 : decode cX7_spells 51 = .ok (.goto (-31), 3) := by decide +kernel
theorem dX7_spells_46 : decode cX7_spells 46 = .ok (.iconst 0, 1) := by decide +kernel
theorem dX7_spells_47 : decode cX7_spells 47 = .ok (.ireturn, 1) := by decide +kernel
theorem dX7_spells_16 : decode cX7_spells 16 = .ok (.iconst 0, 1) := by decide +kernel
theorem dX7_spells_17 : decode cX7_spells 17 = .ok (.ireturn, 1) := by decide +kernel
def o_X7_spells : List Cond := [.fieldLink RX7 22 "SsaForge$Reader" "at" "I", .fieldLink RX7 28 "SsaForge$Reader" "place" "I", .methodLink RX7 144 yJ0_length_8abf5, .instanceMethod yJ0_length_8abf5, .selects RJ0 yJ0_length_8abf5 yJ0_length_8abf5, .initialized RJ0, .methodLink RX7 93 yX7_byteAt, .instanceMethod yX7_byteAt, .selects RX7 yX7_byteAt yX7_byteAt, .initialized RX7, .methodLink RX7 148 yJ0_charAt_5068e, .instanceMethod yJ0_charAt_5068e, .selects RJ0 yJ0_charAt_5068e yJ0_charAt_5068e]
def v_X7_spells : List Cond := .code yX7_spells cX7_spells 3 (some .boolean) :: (o_X7_spells ++ (wsX70 ++ (v_J0_length ++ (v_X7_byteAt ++ (v_J0_charAt ++ [])))))
theorem mow_X7_spells : ∀ w ∈ o_X7_spells, w ∈ v_X7_spells := fun _ h => List.mem_cons_of_mem _ (List.mem_append_left _ h)
theorem mem_X7_spells_0 : ∀ w ∈ wsX70, w ∈ v_X7_spells := fun _ h => List.mem_cons_of_mem _ (List.mem_append_right _ (List.mem_append_left _ h))
theorem mem_X7_spells_1 : ∀ w ∈ v_J0_length, w ∈ v_X7_spells := fun _ h => List.mem_cons_of_mem _ (List.mem_append_right _ (List.mem_append_right _ (List.mem_append_left _ h)))
theorem mem_X7_spells_2 : ∀ w ∈ v_X7_byteAt, w ∈ v_X7_spells := fun _ h => List.mem_cons_of_mem _ (List.mem_append_right _ (List.mem_append_right _ (List.mem_append_right _ (List.mem_append_left _ h))))
theorem mem_X7_spells_3 : ∀ w ∈ v_J0_charAt, w ∈ v_X7_spells := fun _ h => List.mem_cons_of_mem _ (List.mem_append_right _ (List.mem_append_right _ (List.mem_append_right _ (List.mem_append_right _ (List.mem_append_left _ h)))))
set_option maxRecDepth 20000 in
theorem gw_X7_spells : v_X7_spells.all goodWord = true := by decide +kernel
set_option maxRecDepth 20000 in
theorem g_X7_spells_J0_length : GoodIn v_X7_spells (wsV RX7 144 RJ0 yJ0_length_8abf5 v_J0_length) := goodIn_app (goodIn_sub (fun w h => mow_X7_spells w (by revert w h; decide +kernel)) (by decide +kernel)) (goodIn_sub mem_X7_spells_1 gw_J0_length)
set_option maxRecDepth 20000 in
theorem g_X7_spells_X7_byteAt : GoodIn v_X7_spells (wsV RX7 93 RX7 yX7_byteAt v_X7_byteAt) := goodIn_app (goodIn_sub (fun w h => mow_X7_spells w (by revert w h; decide +kernel)) (by decide +kernel)) (goodIn_sub mem_X7_spells_2 gw_X7_byteAt)
set_option maxRecDepth 20000 in
theorem g_X7_spells_J0_charAt : GoodIn v_X7_spells (wsV RX7 148 RJ0 yJ0_charAt_5068e v_J0_charAt) := goodIn_app (goodIn_sub (fun w h => mow_X7_spells w (by revert w h; decide +kernel)) (by decide +kernel)) (goodIn_sub mem_X7_spells_3 gw_J0_charAt)
set_option maxHeartbeats 4000000 in
set_option maxRecDepth 100000 in
theorem c_X7_spells (l : Launch) (dC : Nat → ClassId) (dI : Nat → Nat → Nat) (h0 : Nat) (v12_0 : Value) (z12_length : Int) (z12_at : Int) (v12_4 : Value) (z12_place : Int) (v12_6 : Value) (v12_7 : Value) (v12_8 : Value) (v12_9 : Value) (v12_10 : Value) (v12_11 : Value) (v12_12 : Value) (v12_13 : Value) (v12_14 : Value) (v12_15 : Value) (v12_16 : Value) (v12_17 : Value) (q_1201 : Nat) (cA_1201 : ClassId) (fa12_bytes : Nat → Int32) (tx : Nat) (tv : Nat) (tn : Nat) (tf : Nat → Int32) (hNz12_length : 0 ≤ z12_length ∧ z12_length ≤ 8192) (hNz12_at : 0 ≤ z12_at ∧ z12_at ≤ 8200) (hNz12_place : 0 ≤ z12_place ∧ z12_place ≤ 8200) (hNat : z12_at ≤ 8194) (hNtn : tn ≤ 100) (hNpl : z12_place ≤ 8194) (sz : Nat) (sx_fm : Nat) : Met l yX7_spells v_X7_spells ({ frames := 4, cells := 0, slots := 0, locals := 85 }) (va_Pc [.ref h0, .ref tx] (fun U => U.heap.size = sz ∧ va_P (dC, dI) vwP [(h0, .inr (7, [v12_0, .ref q_1201, .int (zI (z12_length)), .int (zI (z12_at)), v12_4, .int (zI (z12_place)), v12_6, v12_7, v12_8, v12_9, v12_10, v12_11, v12_12, v12_13, v12_14, v12_15, v12_16, v12_17])), (q_1201, .inl (cA_1201, 8192, .inl fa12_bytes))] U.heap ∧ va_K (dC, dI) vwP [(cA_1201, .byte)] U ∧ va_D (fun _ => True) [(h0, .inr (7, [v12_0, .ref q_1201, .int (zI (z12_length)), .int (zI (z12_at)), v12_4, .int (zI (z12_place)), v12_6, v12_7, v12_8, v12_9, v12_10, v12_11, v12_12, v12_13, v12_14, v12_15, v12_16, v12_17])), (q_1201, .inl (cA_1201, 8192, .inl fa12_bytes))] ∧ vs_S tx tv tn tf (va_A [(h0, .inr (7, [v12_0, .ref q_1201, .int (zI (z12_length)), .int (zI (z12_at)), v12_4, .int (zI (z12_place)), v12_6, v12_7, v12_8, v12_9, v12_10, v12_11, v12_12, v12_13, v12_14, v12_15, v12_16, v12_17])), (q_1201, .inl (cA_1201, 8192, .inl fa12_bytes))] sz) U U.heap ∧ va_Z "java/lang/String" "COMPACT_STRINGS" "Z" (.int 1) (va_A [(h0, .inr (7, [v12_0, .ref q_1201, .int (zI (z12_length)), .int (zI (z12_at)), v12_4, .int (zI (z12_place)), v12_6, v12_7, v12_8, v12_9, v12_10, v12_11, v12_12, v12_13, v12_14, v12_15, v12_16, v12_17])), (q_1201, .inl (cA_1201, 8192, .inl fa12_bytes))] sz) U U.heap ∧ va_Z "jdk/internal/util/Preconditions" "SIOOBE_FORMATTER" "Ljava/util/function/BiFunction;" (.ref sx_fm) (va_A [(h0, .inr (7, [v12_0, .ref q_1201, .int (zI (z12_length)), .int (zI (z12_at)), v12_4, .int (zI (z12_place)), v12_6, v12_7, v12_8, v12_9, v12_10, v12_11, v12_12, v12_13, v12_14, v12_15, v12_16, v12_17])), (q_1201, .inl (cA_1201, 8192, .inl fa12_bytes))] sz) U U.heap)) (va_Qi (fun (r : Int32) (_ : Unit) => ∃ z : Int, r = zI z ∧ (0 ≤ z ∧ z ≤ 1)) (fun (_ : Unit) (t : State) => va_P (dC, dI) vwP [(h0, .inr (7, [v12_0, .ref q_1201, .int (zI (z12_length)), .int (zI (z12_at)), v12_4, .int (zI (z12_place)), v12_6, v12_7, v12_8, v12_9, v12_10, v12_11, v12_12, v12_13, v12_14, v12_15, v12_16, v12_17])), (q_1201, .inl (cA_1201, 8192, .inl fa12_bytes))] t.heap ∧ va_K (dC, dI) vwP [(cA_1201, .byte)] t ∧ va_D (va_A [(h0, .inr (7, [v12_0, .ref q_1201, .int (zI (z12_length)), .int (zI (z12_at)), v12_4, .int (zI (z12_place)), v12_6, v12_7, v12_8, v12_9, v12_10, v12_11, v12_12, v12_13, v12_14, v12_15, v12_16, v12_17])), (q_1201, .inl (cA_1201, 8192, .inl fa12_bytes))] sz) [(h0, .inr (7, [v12_0, .ref q_1201, .int (zI (z12_length)), .int (zI (z12_at)), v12_4, .int (zI (z12_place)), v12_6, v12_7, v12_8, v12_9, v12_10, v12_11, v12_12, v12_13, v12_14, v12_15, v12_16, v12_17])), (q_1201, .inl (cA_1201, 8192, .inl fa12_bytes))]) (va_A [(h0, .inr (7, [v12_0, .ref q_1201, .int (zI (z12_length)), .int (zI (z12_at)), v12_4, .int (zI (z12_place)), v12_6, v12_7, v12_8, v12_9, v12_10, v12_11, v12_12, v12_13, v12_14, v12_15, v12_16, v12_17])), (q_1201, .inl (cA_1201, 8192, .inl fa12_bytes))] sz)) 0 0 (va_A [(h0, .inr (7, [v12_0, .ref q_1201, .int (zI (z12_length)), .int (zI (z12_at)), v12_4, .int (zI (z12_place)), v12_6, v12_7, v12_8, v12_9, v12_10, v12_11, v12_12, v12_13, v12_14, v12_15, v12_16, v12_17])), (q_1201, .inl (cA_1201, 8192, .inl fa12_bytes))] sz) := by
  refine Met.ofW (cc := cX7_spells) (maxL := 3) (ret := (some .boolean)) (by decide) rfl ?_
  intro p e s m args below meth c s₁ B hml hv
  obtain ⟨rfl, hsz, hP, hK, hD0, hp0, hp1, hp2⟩ := hv
  have hx := B.exec
  have hb := B.bytes
  have hr := B.returns
  have hts := atoms_spec (ws := v_X7_spells) B.pre
  have hown : s.vm.findClass RX7 = some m.cls := findClass_of_methodNamed B.named
  have hlocks := B.notSynchronized
  have ow : ∀ {k : Nat} {w : Cond}, o_X7_spells[k]? = some w → w.before ([.ref h0, .ref tx] : List Value).toArray s = true := fun h => hts _ (mow_X7_spells _ (List.mem_of_getElem? h))
  subst hsz
  have hD := hD0.self (sz := s.heap.size)
  generalize hAe : va_A [(h0, .inr (7, [v12_0, .ref q_1201, .int (zI (z12_length)), .int (zI (z12_at)), v12_4, .int (zI (z12_place)), v12_6, v12_7, v12_8, v12_9, v12_10, v12_11, v12_12, v12_13, v12_14, v12_15, v12_16, v12_17])), (q_1201, .inl (cA_1201, 8192, .inl fa12_bytes))] s.heap.size = A at hD hp0 hp1 hp2 ⊢
  have hA : ∀ q : Nat, s.heap.size ≤ q → A q := fun q h => by rw [← hAe]; exact Or.inr h
  have hS : va_S A s.heap s.heap [] := va_S.rf
  have hP : va_P (dC, dI) vwP [(h0, .inr (7, [v12_0, .ref q_1201, .int (zI (z12_length)), .int (zI (z12_at)), v12_4, .int (zI (z12_place)), v12_6, v12_7, v12_8, v12_9, v12_10, v12_11, v12_12, v12_13, v12_14, v12_15, v12_16, v12_17])), (q_1201, .inl (cA_1201, 8192, .inl fa12_bytes))] s.heap := hP
  have hl := lv_entry ([.ref h0, .ref tx]) (n := 3) (Nat.le_of_ble_eq_true rfl)
  rw [lg_entry_eq]
  generalize (lg_sl ([.ref h0, .ref tx]) ++ List.replicate (3 - (lg_sl ([.ref h0, .ref tx])).length) Slot.unset).toArray = ls at hl ⊢
  have hl : lv_has ls 3 [(0, .ref h0), (1, .ref tx)] := hl
  obtain ⟨H, hH⟩ : ∃ H, H = s.heap := ⟨_, rfl⟩
  rw [← hH] at hP
  have hS : va_S A s.heap H [] := by rw [hH]; exact hS
  rw [← hH]
  refine zW_cap (fun Q hQ => ?_)
  refine lv_aload_n hx hb dX7_spells_0 rfl (lv_at hl 0 rfl) ?_
  refine va_get (D := (dC, dI)) (ci := 7) (v := .int (zI (z12_at))) (C := RX7) (T := TX7) (N := 18) hx hb hts mem_X7_spells_0 hown hK hP 0 rfl rfl 3 (by decide) (ow (k := 0) rfl) (fun _ h9 => h9) rfl dX7_spells_1 ?_
  refine lv_aload_n hx hb dX7_spells_4 rfl (lv_at hl 0 rfl) ?_
  refine va_get (D := (dC, dI)) (ci := 7) (v := .int (zI (z12_place))) (C := RX7) (T := TX7) (N := 18) hx hb hts mem_X7_spells_0 hown hK hP 0 rfl rfl 5 (by decide) (ow (k := 1) rfl) (fun _ h9 => h9) rfl dX7_spells_5 ?_
  refine lv_isub hx hb dX7_spells_8 ?_
  refine lv_topi (fun z ez => ?_)
  obtain rfl : z = zI (z12_at - z12_place) := ez.trans (zI_sub (z12_at) (z12_place))
  refine lv_aload_n hx hb dX7_spells_9 rfl (lv_at hl 1 rfl) ?_
  have hPc := hP.sub (ws' := []) [] rfl
  have hDc := hD.sub (ws' := []) [] (by decide) rfl
  have hKc := hK.sub (tys' := []) [] rfl
  have hFc := va_free (wc := []) hD hS hA [] rfl
  refine va_calli (va_runV (As := []) (rest := [.int (zI (z12_at - z12_place))]) ⟨hx, hb, hml, hown, hts⟩ (c_J0_length l dC dI tx tv tn tf (by omega) H.size) (cwV 0 hts g_X7_spells_J0_length rfl rfl rfl (by decide +kernel) ⟨(Nat.le_of_ble_eq_true rfl), (Nat.le_of_ble_eq_true rfl)⟩) ⟨fun a U g mk q => by obtain ⟨q0, q1, qP, qK, qD, e0, e1⟩ := q; exact ⟨q0, q1, qP, va_K.moved (u := U) (U := U.calling g mk a) (Vm.Alike.refl U.vm) qK, qD, vs_S.moved (u := U) (U := U.calling g mk a) (Vm.Alike.refl U.vm) e0, va_Z.moved (u := U) (U := U.calling g mk a) (Vm.Alike.refl U.vm) e1⟩, vs_S.recv hp0 hS, fun U hU hW => ⟨rfl, by rw [hU], by rw [hU]; exact hPc, va_K.moved hW.alike hKc, hDc.weaken (fun _ _ _ _ => trivial), by rw [hU]; exact vs_S.narrow (vs_S.moved hW.alike (vs_S.kept hp0 hS.2.1)) hFc, by rw [hU]; exact va_Z.narrow (va_Z.moved hW.alike (va_Z.kept hp1 hS.2.1)) hFc⟩⟩ rfl rfl hl.1 rfl (lv_room (Nat.le_of_ble_eq_true rfl)) dX7_spells_10 ⟨(Nat.le_of_ble_eq_true rfl), (Nat.le_of_ble_eq_true rfl)⟩) hS (fun q _ h => hFc q h) hFc (fun r_2001 u t H1 locs ht hvm hw hB hz1 hk1 hS => ?_)
  obtain ⟨hP1, hK1, hD1⟩ := hB
  rw [ht] at hP1
  have hK1 := va_K.moved hvm.symm hK1
  obtain ⟨hP, hD⟩ := va_join (wr := [(h0, .inr (7, [v12_0, .ref q_1201, .int (zI (z12_length)), .int (zI (z12_at)), v12_4, .int (zI (z12_place)), v12_6, v12_7, v12_8, v12_9, v12_10, v12_11, v12_12, v12_13, v12_14, v12_15, v12_16, v12_17])), (q_1201, .inl (cA_1201, 8192, .inl fa12_bytes))]) (w1 := []) hP hD [] [0, 1] rfl rfl (by decide) (by decide) hk1 hFc hP1 hD1
  have hK := (hK.sub (tys' := [(cA_1201, .byte)]) [0] rfl).app hK1
  generalize H1 = H at hP hS ⊢
  have hP : va_P (dC, dI) vwP [(h0, .inr (7, [v12_0, .ref q_1201, .int (zI (z12_length)), .int (zI (z12_at)), v12_4, .int (zI (z12_place)), v12_6, v12_7, v12_8, v12_9, v12_10, v12_11, v12_12, v12_13, v12_14, v12_15, v12_16, v12_17])), (q_1201, .inl (cA_1201, 8192, .inl fa12_bytes))] H := hP
  have hD : va_D A [(h0, .inr (7, [v12_0, .ref q_1201, .int (zI (z12_length)), .int (zI (z12_at)), v12_4, .int (zI (z12_place)), v12_6, v12_7, v12_8, v12_9, v12_10, v12_11, v12_12, v12_13, v12_14, v12_15, v12_16, v12_17])), (q_1201, .inl (cA_1201, 8192, .inl fa12_bytes))] := hD
  have hK : va_K (dC, dI) vwP [(cA_1201, .byte)] s := hK
  refine W.widen (k := 0) (n := 0) (Nat.le_of_ble_eq_true rfl) (Nat.le_of_ble_eq_true rfl) ?_
  obtain rfl : r_2001 = (zI ((tn : Int))) := hw
  refine lv_icmp_eq (tgt := 18) hx hb dX7_spells_13 (by decide) (fun b13 => ?_) (fun b13 => ?_)
  · have yb13 : (z12_at - z12_place : Int) = ((tn : Int) : Int) := (zI_eq (a := z12_at - z12_place) (b := (tn : Int)) (by omega) (by omega) (by omega) (by omega)).mp b13
    refine lv_iconst (v := 0) hx hb dX7_spells_18 (by decide) ?_
    refine lv_istore_n (lv' := [(2, .int 0), (0, .ref h0), (1, .ref tx)]) hx hb dX7_spells_19 rfl hl (by decide) rfl (fun ls hl => ?_)
    have key20 : ∀ n20 : Nat, ∀ (d20_2 : Int) (ls : Array Slot) (H : Heap) (locs : List Loc), (0 ≤ d20_2 ∧ d20_2 ≤ (tn : Int)) → ((((tn : Int)) - (d20_2) : Int).toNat) < n20 → lv_has ls 3 [(0, .ref h0), (1, .ref tx), (2, .int (zI (d20_2)))] → va_P (dC, dI) vwP [(h0, .inr (7, [v12_0, .ref q_1201, .int (zI (z12_length)), .int (zI (z12_at)), v12_4, .int (zI (z12_place)), v12_6, v12_7, v12_8, v12_9, v12_10, v12_11, v12_12, v12_13, v12_14, v12_15, v12_16, v12_17])), (q_1201, .inl (cA_1201, 8192, .inl fa12_bytes))] H → va_D A [(h0, .inr (7, [v12_0, .ref q_1201, .int (zI (z12_length)), .int (zI (z12_at)), v12_4, .int (zI (z12_place)), v12_6, v12_7, v12_8, v12_9, v12_10, v12_11, v12_12, v12_13, v12_14, v12_15, v12_16, v12_17])), (q_1201, .inl (cA_1201, 8192, .inl fa12_bytes))] → va_S A s.heap H locs → W p l e (headSpec v_X7_spells ({ frames := 4, cells := 0, slots := 0, locals := 85 })).room s m ([.ref h0, .ref tx] : List Value).toArray below meth c H locs 0 0 Q (F0 m 20 ls []) := by
      intro n20
      induction n20 with
      | zero => intro d20_2 ls H locs jd20_2 hm20; exact absurd hm20 (by omega)
      | succ n20 ih20 =>
        intro d20_2 ls H locs jd20_2 hm20 hl hP hD hS
        refine lv_iload_n hx hb dX7_spells_20 rfl (lv_at hl 2 rfl) ?_
        refine lv_aload_n hx hb dX7_spells_21 rfl (lv_at hl 1 rfl) ?_
        have hPc := hP.sub (ws' := []) [] rfl
        have hDc := hD.sub (ws' := []) [] (by decide) rfl
        have hKc := hK.sub (tys' := []) [] rfl
        have hFc := va_free (wc := []) hD hS hA [] rfl
        refine va_calli (va_runV (As := []) (rest := [.int (zI (d20_2))]) ⟨hx, hb, hml, hown, hts⟩ (c_J0_length l dC dI tx tv tn tf (by omega) H.size) (cwV 0 hts g_X7_spells_J0_length rfl rfl rfl (by decide +kernel) ⟨(Nat.le_of_ble_eq_true rfl), (Nat.le_of_ble_eq_true rfl)⟩) ⟨fun a U g mk q => by obtain ⟨q0, q1, qP, qK, qD, e0, e1⟩ := q; exact ⟨q0, q1, qP, va_K.moved (u := U) (U := U.calling g mk a) (Vm.Alike.refl U.vm) qK, qD, vs_S.moved (u := U) (U := U.calling g mk a) (Vm.Alike.refl U.vm) e0, va_Z.moved (u := U) (U := U.calling g mk a) (Vm.Alike.refl U.vm) e1⟩, vs_S.recv hp0 hS, fun U hU hW => ⟨rfl, by rw [hU], by rw [hU]; exact hPc, va_K.moved hW.alike hKc, hDc.weaken (fun _ _ _ _ => trivial), by rw [hU]; exact vs_S.narrow (vs_S.moved hW.alike (vs_S.kept hp0 hS.2.1)) hFc, by rw [hU]; exact va_Z.narrow (va_Z.moved hW.alike (va_Z.kept hp1 hS.2.1)) hFc⟩⟩ rfl rfl hl.1 rfl (lv_room (Nat.le_of_ble_eq_true rfl)) dX7_spells_22 ⟨(Nat.le_of_ble_eq_true rfl), (Nat.le_of_ble_eq_true rfl)⟩) hS (fun q _ h => hFc q h) hFc (fun r_2002 u t H1 locs ht hvm hw hB hz1 hk1 hS => ?_)
        obtain ⟨hP1, hK1, hD1⟩ := hB
        rw [ht] at hP1
        have hK1 := va_K.moved hvm.symm hK1
        obtain ⟨hP, hD⟩ := va_join (wr := [(h0, .inr (7, [v12_0, .ref q_1201, .int (zI (z12_length)), .int (zI (z12_at)), v12_4, .int (zI (z12_place)), v12_6, v12_7, v12_8, v12_9, v12_10, v12_11, v12_12, v12_13, v12_14, v12_15, v12_16, v12_17])), (q_1201, .inl (cA_1201, 8192, .inl fa12_bytes))]) (w1 := []) hP hD [] [0, 1] rfl rfl (by decide) (by decide) hk1 hFc hP1 hD1
        have hK := (hK.sub (tys' := [(cA_1201, .byte)]) [0] rfl).app hK1
        generalize H1 = H at hP hS ⊢
        have hP : va_P (dC, dI) vwP [(h0, .inr (7, [v12_0, .ref q_1201, .int (zI (z12_length)), .int (zI (z12_at)), v12_4, .int (zI (z12_place)), v12_6, v12_7, v12_8, v12_9, v12_10, v12_11, v12_12, v12_13, v12_14, v12_15, v12_16, v12_17])), (q_1201, .inl (cA_1201, 8192, .inl fa12_bytes))] H := hP
        have hD : va_D A [(h0, .inr (7, [v12_0, .ref q_1201, .int (zI (z12_length)), .int (zI (z12_at)), v12_4, .int (zI (z12_place)), v12_6, v12_7, v12_8, v12_9, v12_10, v12_11, v12_12, v12_13, v12_14, v12_15, v12_16, v12_17])), (q_1201, .inl (cA_1201, 8192, .inl fa12_bytes))] := hD
        have hK : va_K (dC, dI) vwP [(cA_1201, .byte)] s := hK
        refine W.widen (k := 0) (n := 0) (Nat.le_of_ble_eq_true rfl) (Nat.le_of_ble_eq_true rfl) ?_
        obtain rfl : r_2002 = (zI ((tn : Int))) := hw
        refine lv_icmp_ge (tgt := 54) hx hb dX7_spells_25 (by decide) (fun b25 => ?_) (fun b25 => ?_)
        · have yb25 : ((tn : Int) : Int) ≤ (d20_2 : Int) := (zI_le (a := (tn : Int)) (b := d20_2) (by omega) (by omega) (by omega) (by omega)).mp b25
          refine lv_iconst (v := 1) hx hb dX7_spells_54 (by decide) ?_
          subst hQ
          refine W.widen (k := 0) (n := 0) (Nat.le_of_ble_eq_true rfl) (Nat.le_of_ble_eq_true rfl) ?_
          exact W.zret (v := 1) hx hb hr (by decide) (fun t ht hW => ⟨⟨1, (), rfl, ⟨1, rfl, by omega⟩, by rw [ht]; exact hP, va_K.moved hW.alike hK, hD⟩, hS.F ht⟩) hS.2.2 dX7_spells_55
        · have yb25 : ¬ ((tn : Int) : Int) ≤ (d20_2 : Int) := fun q => b25 ((zI_le (a := (tn : Int)) (b := d20_2) (by omega) (by omega) (by omega) (by omega)).mpr q)
          refine lv_aload_n hx hb dX7_spells_28 rfl (lv_at hl 0 rfl) ?_
          refine lv_aload_n hx hb dX7_spells_29 rfl (lv_at hl 0 rfl) ?_
          refine va_get (D := (dC, dI)) (ci := 7) (v := .int (zI (z12_place))) (C := RX7) (T := TX7) (N := 18) hx hb hts mem_X7_spells_0 hown hK hP 0 rfl rfl 5 (by decide) (ow (k := 1) rfl) (fun _ h9 => h9) rfl dX7_spells_30 ?_
          refine lv_iload_n hx hb dX7_spells_33 rfl (lv_at hl 2 rfl) ?_
          refine lv_iadd hx hb dX7_spells_34 ?_
          refine lv_topi (fun z ez => ?_)
          obtain rfl : z = zI (z12_place + d20_2) := ez.trans (zI_add (z12_place) (d20_2))
          have hPc := hP.sub (ws' := [(h0, .inr (7, [v12_0, .ref q_1201, .int (zI (z12_length)), .int (zI (z12_at)), v12_4, .int (zI (z12_place)), v12_6, v12_7, v12_8, v12_9, v12_10, v12_11, v12_12, v12_13, v12_14, v12_15, v12_16, v12_17])), (q_1201, .inl (cA_1201, 8192, .inl fa12_bytes))]) [0, 1] rfl
          have hDc := hD.sub (ws' := [(h0, .inr (7, [v12_0, .ref q_1201, .int (zI (z12_length)), .int (zI (z12_at)), v12_4, .int (zI (z12_place)), v12_6, v12_7, v12_8, v12_9, v12_10, v12_11, v12_12, v12_13, v12_14, v12_15, v12_16, v12_17])), (q_1201, .inl (cA_1201, 8192, .inl fa12_bytes))]) [0, 1] (by decide) rfl
          have hKc := hK.sub (tys' := [(cA_1201, .byte)]) [0] rfl
          have hFc := va_free (wc := [(h0, .inr (7, [v12_0, .ref q_1201, .int (zI (z12_length)), .int (zI (z12_at)), v12_4, .int (zI (z12_place)), v12_6, v12_7, v12_8, v12_9, v12_10, v12_11, v12_12, v12_13, v12_14, v12_15, v12_16, v12_17])), (q_1201, .inl (cA_1201, 8192, .inl fa12_bytes))]) hD hS hA [0, 1] rfl
          refine va_calli (va_runV (As := [.int (zI (z12_place + d20_2))]) (rest := []) ⟨hx, hb, hml, hown, hts⟩ (c_X7_byteAt l dC dI h0 v12_0 z12_length (.int (zI (z12_at))) v12_4 (.int (zI (z12_place))) v12_6 v12_7 v12_8 v12_9 v12_10 v12_11 v12_12 v12_13 v12_14 v12_15 v12_16 v12_17 q_1201 cA_1201 fa12_bytes (z12_place + d20_2) (by omega) (by omega) H.size) (cwV 1 hts g_X7_spells_X7_byteAt rfl rfl rfl (by decide +kernel) ⟨(Nat.le_of_ble_eq_true rfl), (Nat.le_of_ble_eq_true rfl)⟩) ⟨fun a U g mk q => by obtain ⟨q0, q1, qP, qK, qD⟩ := q; exact ⟨q0, q1, qP, va_K.moved (u := U) (U := U.calling g mk a) (Vm.Alike.refl U.vm) qK, qD⟩, va_recv hKc hPc (ci := 7) (q0 := 0) rfl rfl, fun U hU hW => ⟨rfl, by rw [hU], by rw [hU]; exact hPc, va_K.moved hW.alike hKc, hDc.weaken (fun _ _ _ _ => trivial)⟩⟩ rfl rfl hl.1 rfl (lv_room (Nat.le_of_ble_eq_true rfl)) dX7_spells_35 ⟨(Nat.le_of_ble_eq_true rfl), (Nat.le_of_ble_eq_true rfl)⟩) hS (fun q _ h => hFc q h) hFc (fun r_2003 u t H1 locs ht hvm hw hB hz1 hk1 hS => ?_)
          obtain ⟨hP1, hK1, hD1⟩ := hB
          rw [ht] at hP1
          have hK1 := va_K.moved hvm.symm hK1
          obtain ⟨hP, hD⟩ := va_join (wr := []) (w1 := [(h0, .inr (7, [v12_0, .ref q_1201, .int (zI (z12_length)), .int (zI (z12_at)), v12_4, .int (zI (z12_place)), v12_6, v12_7, v12_8, v12_9, v12_10, v12_11, v12_12, v12_13, v12_14, v12_15, v12_16, v12_17])), (q_1201, .inl (cA_1201, 8192, .inl fa12_bytes))]) hP hD [0, 1] [] rfl rfl (by decide) (by decide) hk1 hFc hP1 hD1
          have hK := (hK.sub (tys' := []) [] rfl).app hK1
          generalize H1 = H at hP hS ⊢
          have hP : va_P (dC, dI) vwP [(h0, .inr (7, [v12_0, .ref q_1201, .int (zI (z12_length)), .int (zI (z12_at)), v12_4, .int (zI (z12_place)), v12_6, v12_7, v12_8, v12_9, v12_10, v12_11, v12_12, v12_13, v12_14, v12_15, v12_16, v12_17])), (q_1201, .inl (cA_1201, 8192, .inl fa12_bytes))] H := hP
          have hD : va_D A [(h0, .inr (7, [v12_0, .ref q_1201, .int (zI (z12_length)), .int (zI (z12_at)), v12_4, .int (zI (z12_place)), v12_6, v12_7, v12_8, v12_9, v12_10, v12_11, v12_12, v12_13, v12_14, v12_15, v12_16, v12_17])), (q_1201, .inl (cA_1201, 8192, .inl fa12_bytes))] := hD
          have hK : va_K (dC, dI) vwP [(cA_1201, .byte)] s := hK
          refine W.widen (k := 0) (n := 0) (Nat.le_of_ble_eq_true rfl) (Nat.le_of_ble_eq_true rfl) ?_
          obtain rfl : r_2003 = (zI (btF fa12_bytes z12_length (z12_place + d20_2))) := hw
          have := btF_rng fa12_bytes z12_length (z12_place + d20_2)
          refine lv_aload_n hx hb dX7_spells_38 rfl (lv_at hl 1 rfl) ?_
          refine lv_iload_n hx hb dX7_spells_39 rfl (lv_at hl 2 rfl) ?_
          have hPc := hP.sub (ws' := []) [] rfl
          have hDc := hD.sub (ws' := []) [] (by decide) rfl
          have hKc := hK.sub (tys' := []) [] rfl
          have hFc := va_free (wc := []) hD hS hA [] rfl
          refine va_calli (va_runV (As := [.int (zI (d20_2))]) (rest := [.int (zI (btF fa12_bytes z12_length (z12_place + d20_2)))]) ⟨hx, hb, hml, hown, hts⟩ (c_J0_charAt l dC dI tx tv tn tf d20_2 (by omega) (by omega) H.size sx_fm) (cwV 1 hts g_X7_spells_J0_charAt rfl rfl rfl (by decide +kernel) ⟨(Nat.le_of_ble_eq_true rfl), (Nat.le_of_ble_eq_true rfl)⟩) ⟨fun a U g mk q => by obtain ⟨q0, q1, qP, qK, qD, e0, e1, e2⟩ := q; exact ⟨q0, q1, qP, va_K.moved (u := U) (U := U.calling g mk a) (Vm.Alike.refl U.vm) qK, qD, vs_S.moved (u := U) (U := U.calling g mk a) (Vm.Alike.refl U.vm) e0, va_Z.moved (u := U) (U := U.calling g mk a) (Vm.Alike.refl U.vm) e1, va_Z.moved (u := U) (U := U.calling g mk a) (Vm.Alike.refl U.vm) e2⟩, vs_S.recv hp0 hS, fun U hU hW => ⟨rfl, by rw [hU], by rw [hU]; exact hPc, va_K.moved hW.alike hKc, hDc.weaken (fun _ _ _ _ => trivial), by rw [hU]; exact vs_S.narrow (vs_S.moved hW.alike (vs_S.kept hp0 hS.2.1)) hFc, by rw [hU]; exact va_Z.narrow (va_Z.moved hW.alike (va_Z.kept hp1 hS.2.1)) hFc, by rw [hU]; exact va_Z.narrow (va_Z.moved hW.alike (va_Z.kept hp2 hS.2.1)) hFc⟩⟩ rfl rfl hl.1 rfl (lv_room (Nat.le_of_ble_eq_true rfl)) dX7_spells_40 ⟨(Nat.le_of_ble_eq_true rfl), (Nat.le_of_ble_eq_true rfl)⟩) hS (fun q _ h => hFc q h) hFc (fun r_2004 u t H1 locs ht hvm hw hB hz1 hk1 hS => ?_)
          obtain ⟨hP1, hK1, hD1⟩ := hB
          rw [ht] at hP1
          have hK1 := va_K.moved hvm.symm hK1
          obtain ⟨hP, hD⟩ := va_join (wr := [(h0, .inr (7, [v12_0, .ref q_1201, .int (zI (z12_length)), .int (zI (z12_at)), v12_4, .int (zI (z12_place)), v12_6, v12_7, v12_8, v12_9, v12_10, v12_11, v12_12, v12_13, v12_14, v12_15, v12_16, v12_17])), (q_1201, .inl (cA_1201, 8192, .inl fa12_bytes))]) (w1 := []) hP hD [] [0, 1] rfl rfl (by decide) (by decide) hk1 hFc hP1 hD1
          have hK := (hK.sub (tys' := [(cA_1201, .byte)]) [0] rfl).app hK1
          generalize H1 = H at hP hS ⊢
          have hP : va_P (dC, dI) vwP [(h0, .inr (7, [v12_0, .ref q_1201, .int (zI (z12_length)), .int (zI (z12_at)), v12_4, .int (zI (z12_place)), v12_6, v12_7, v12_8, v12_9, v12_10, v12_11, v12_12, v12_13, v12_14, v12_15, v12_16, v12_17])), (q_1201, .inl (cA_1201, 8192, .inl fa12_bytes))] H := hP
          have hD : va_D A [(h0, .inr (7, [v12_0, .ref q_1201, .int (zI (z12_length)), .int (zI (z12_at)), v12_4, .int (zI (z12_place)), v12_6, v12_7, v12_8, v12_9, v12_10, v12_11, v12_12, v12_13, v12_14, v12_15, v12_16, v12_17])), (q_1201, .inl (cA_1201, 8192, .inl fa12_bytes))] := hD
          have hK : va_K (dC, dI) vwP [(cA_1201, .byte)] s := hK
          refine W.widen (k := 0) (n := 0) (Nat.le_of_ble_eq_true rfl) (Nat.le_of_ble_eq_true rfl) ?_
          have hw_2005 := hw
          obtain ⟨z_2006, rfl, hzz_2006⟩ := hw_2005
          refine lv_icmp_eq (tgt := 48) hx hb dX7_spells_43 (by decide) (fun b43 => ?_) (fun b43 => ?_)
          · have yb43 : (btF fa12_bytes z12_length (z12_place + d20_2) : Int) = (z_2006 : Int) := (zI_eq (a := btF fa12_bytes z12_length (z12_place + d20_2)) (b := z_2006) (by omega) (by omega) (by omega) (by omega)).mp b43
            refine lv_iinc (v := zI (d20_2 + 1)) (lv' := [(2, .int (zI (d20_2 + 1))), (0, .ref h0), (1, .ref tx)]) hx hb dX7_spells_48 hl (k := 2) rfl (zI_add (d20_2) (1)) (by decide) rfl (fun ls hl => ?_)
            refine lv_goto (tgt := 20) hx hb dX7_spells_51 (by decide) ?_
            exact ih20 (d20_2 + 1) ls H _ (by omega) (by omega) (lv_sub hl [1, 2, 0] rfl) hP hD hS
          · have yb43 : ¬ (btF fa12_bytes z12_length (z12_place + d20_2) : Int) = (z_2006 : Int) := fun q => b43 ((zI_eq (a := btF fa12_bytes z12_length (z12_place + d20_2)) (b := z_2006) (by omega) (by omega) (by omega) (by omega)).mpr q)
            refine lv_iconst (v := 0) hx hb dX7_spells_46 (by decide) ?_
            subst hQ
            refine W.widen (k := 0) (n := 0) (Nat.le_of_ble_eq_true rfl) (Nat.le_of_ble_eq_true rfl) ?_
            exact W.zret (v := 0) hx hb hr (by decide) (fun t ht hW => ⟨⟨0, (), rfl, ⟨0, rfl, by omega⟩, by rw [ht]; exact hP, va_K.moved hW.alike hK, hD⟩, hS.F ht⟩) hS.2.2 dX7_spells_47
    exact key20 ((((tn : Int)) - (0) : Int).toNat + 1) 0 ls H _ (by omega) (by omega) (lv_sub hl [1, 2, 0] rfl) hP hD hS
  · have yb13 : ¬ (z12_at - z12_place : Int) = ((tn : Int) : Int) := fun q => b13 ((zI_eq (a := z12_at - z12_place) (b := (tn : Int)) (by omega) (by omega) (by omega) (by omega)).mpr q)
    refine lv_iconst (v := 0) hx hb dX7_spells_16 (by decide) ?_
    subst hQ
    refine W.widen (k := 0) (n := 0) (Nat.le_of_ble_eq_true rfl) (Nat.le_of_ble_eq_true rfl) ?_
    exact W.zret (v := 0) hx hb hr (by decide) (fun t ht hW => ⟨⟨0, (), rfl, ⟨0, rfl, by omega⟩, by rw [ht]; exact hP, va_K.moved hW.alike hK, hD⟩, hS.F ht⟩) hS.2.2 dX7_spells_17
theorem dX7_wordKind_0 : decode cX7_wordKind 0 = .ok (.aload_n 0, 1) := by decide +kernel
theorem dX7_wordKind_1 : decode cX7_wordKind 1 = .ok (.ldc 128, 2) := by decide +kernel
theorem dX7_wordKind_3 : decode cX7_wordKind 3 = .ok (.invokevirtual 130, 3) := by decide +kernel
theorem dX7_wordKind_6 : decode cX7_wordKind 6 = .ok (.ifCond .eq 5, 3) := by decide +kernel
theorem dX7_wordKind_11 : decode cX7_wordKind 11 = .ok (.aload_n 0, 1) := by decide +kernel
theorem dX7_wordKind_12 : decode cX7_wordKind 12 = .ok (.ldc 134, 2) := by decide +kernel
theorem dX7_wordKind_14 : decode cX7_wordKind 14 = .ok (.invokevirtual 130, 3) := by decide +kernel
theorem dX7_wordKind_17 : decode cX7_wordKind 17 = .ok (.ifCond .eq 6, 3) := by decide +kernel
theorem dX7_wordKind_23 : decode cX7_wordKind 23 = .ok (.aload_n 0, 1) := by decide +kernel
theorem dX7_wordKind_24 : decode cX7_wordKind 24 = .ok (.ldc 136, 2) := by decide +kernel
theorem dX7_wordKind_26 : decode cX7_wordKind 26 = .ok (.invokevirtual 130, 3) := by decide +kernel
theorem dX7_wordKind_29 : decode cX7_wordKind 29 = .ok (.ifCond .eq 6, 3) := by decide +kernel
theorem dX7_wordKind_35 : decode cX7_wordKind 35 = .ok (.aload_n 0, 1) := by decide +kernel
theorem dX7_wordKind_36 : decode cX7_wordKind 36 = .ok (.ldc 138, 2) := by decide +kernel
theorem dX7_wordKind_38 : decode cX7_wordKind 38 = .ok (.invokevirtual 130, 3) := by decide +kernel
theorem dX7_wordKind_41 : decode cX7_wordKind 41 = .ok (.ifCond .eq 6, 3) := by decide +kernel
theorem dX7_wordKind_47 : decode cX7_wordKind 47 = .ok (.aload_n 0, 1) := by decide +kernel
theorem dX7_wordKind_48 : decode cX7_wordKind 48 = .ok (.ldc 140, 2) := by decide +kernel
theorem dX7_wordKind_50 : decode cX7_wordKind 50 = .ok (.invokevirtual 130, 3) := by decide +kernel
theorem dX7_wordKind_53 : decode cX7_wordKind 53 = .ok (.ifCond .eq 6, 3) := by decide +kernel
theorem dX7_wordKind_59 : decode cX7_wordKind 59 = .ok (.aload_n 0, 1) := by decide +kernel
theorem dX7_wordKind_60 : decode cX7_wordKind 60 = .ok (.ldc 142, 2) := by decide +kernel
theorem dX7_wordKind_62 : decode cX7_wordKind 62 = .ok (.invokevirtual 130, 3) := by decide +kernel
theorem dX7_wordKind_65 : decode cX7_wordKind 65 = .ok (.ifCond .eq 8, 3) := by decide +kernel
theorem dX7_wordKind_73 : decode cX7_wordKind 73 = .ok (.iconst 0, 1) := by decide +kernel
theorem dX7_wordKind_74 : decode cX7_wordKind 74 = .ok (.ireturn, 1) := by decide +kernel
theorem dX7_wordKind_68 : decode cX7_wordKind 68 = .ok (.bipush 13, 2) := by decide +kernel
theorem dX7_wordKind_70 : decode cX7_wordKind 70 = .ok (.goto 4, 3) := by decide +kernel
theorem dX7_wordKind_56 : decode cX7_wordKind 56 = .ok (.bipush 9, 2) := by decide +kernel
theorem dX7_wordKind_58 : decode cX7_wordKind 58 = .ok (.ireturn, 1) := by decide +kernel
theorem dX7_wordKind_44 : decode cX7_wordKind 44 = .ok (.bipush 8, 2) := by decide +kernel
theorem dX7_wordKind_46 : decode cX7_wordKind 46 = .ok (.ireturn, 1) := by decide +kernel
theorem dX7_wordKind_32 : decode cX7_wordKind 32 = .ok (.bipush 7, 2) := by decide +kernel
theorem dX7_wordKind_34 : decode cX7_wordKind 34 = .ok (.ireturn, 1) := by decide +kernel
theorem dX7_wordKind_20 : decode cX7_wordKind 20 = .ok (.bipush 6, 2) := by decide +kernel
theorem dX7_wordKind_22 : decode cX7_wordKind 22 = .ok (.ireturn, 1) := by decide +kernel
theorem dX7_wordKind_9 : decode cX7_wordKind 9 = .ok (.iconst 5, 1) := by decide +kernel
theorem dX7_wordKind_10 : decode cX7_wordKind 10 = .ok (.ireturn, 1) := by decide +kernel
def o_X7_wordKind : List Cond := [.methodLink RX7 130 yX7_spells, .instanceMethod yX7_spells, .selects RX7 yX7_spells yX7_spells, .initialized RX7]
def v_X7_wordKind : List Cond := .code yX7_wordKind cX7_wordKind 1 (some .int) :: (o_X7_wordKind ++ (v_X7_spells ++ []))
theorem mow_X7_wordKind : ∀ w ∈ o_X7_wordKind, w ∈ v_X7_wordKind := fun _ h => List.mem_cons_of_mem _ (List.mem_append_left _ h)
theorem mem_X7_wordKind_0 : ∀ w ∈ v_X7_spells, w ∈ v_X7_wordKind := fun _ h => List.mem_cons_of_mem _ (List.mem_append_right _ (List.mem_append_left _ h))
set_option maxRecDepth 20000 in
theorem gw_X7_wordKind : v_X7_wordKind.all goodWord = true := by decide +kernel
set_option maxRecDepth 20000 in
theorem g_X7_wordKind_X7_spells : GoodIn v_X7_wordKind (wsV RX7 130 RX7 yX7_spells v_X7_spells) := goodIn_app (goodIn_sub (fun w h => mow_X7_wordKind w (by revert w h; decide +kernel)) (by decide +kernel)) (goodIn_sub mem_X7_wordKind_0 gw_X7_spells)
set_option maxHeartbeats 4000000 in
set_option maxRecDepth 100000 in
theorem c_X7_wordKind (l : Launch) (dC : Nat → ClassId) (dI : Nat → Nat → Nat) (h0 : Nat) (v12_0 : Value) (z12_length : Int) (z12_at : Int) (v12_4 : Value) (z12_place : Int) (v12_6 : Value) (v12_7 : Value) (v12_8 : Value) (v12_9 : Value) (v12_10 : Value) (v12_11 : Value) (v12_12 : Value) (v12_13 : Value) (v12_14 : Value) (v12_15 : Value) (v12_16 : Value) (v12_17 : Value) (q_1201 : Nat) (cA_1201 : ClassId) (fa12_bytes : Nat → Int32) (hNz12_length : 0 ≤ z12_length ∧ z12_length ≤ 8192) (hNz12_at : 0 ≤ z12_at ∧ z12_at ≤ 8200) (hNz12_place : 0 ≤ z12_place ∧ z12_place ≤ 8200) (hNat : z12_at ≤ 8194) (hNpl : z12_place ≤ 8194) (sz : Nat) (sa_RX7_128 : Nat) (sv_RX7_128 : Nat) (sx_fm : Nat) (sa_RX7_134 : Nat) (sv_RX7_134 : Nat) (sa_RX7_136 : Nat) (sv_RX7_136 : Nat) (sa_RX7_138 : Nat) (sv_RX7_138 : Nat) (sa_RX7_140 : Nat) (sv_RX7_140 : Nat) (sa_RX7_142 : Nat) (sv_RX7_142 : Nat) : Met l yX7_wordKind v_X7_wordKind ({ frames := 5, cells := 0, slots := 0, locals := 107 }) (va_Pc [.ref h0] (fun U => U.heap.size = sz ∧ va_P (dC, dI) vwP [(h0, .inr (7, [v12_0, .ref q_1201, .int (zI (z12_length)), .int (zI (z12_at)), v12_4, .int (zI (z12_place)), v12_6, v12_7, v12_8, v12_9, v12_10, v12_11, v12_12, v12_13, v12_14, v12_15, v12_16, v12_17])), (q_1201, .inl (cA_1201, 8192, .inl fa12_bytes))] U.heap ∧ va_K (dC, dI) vwP [(cA_1201, .byte)] U ∧ va_D (fun _ => True) [(h0, .inr (7, [v12_0, .ref q_1201, .int (zI (z12_length)), .int (zI (z12_at)), v12_4, .int (zI (z12_place)), v12_6, v12_7, v12_8, v12_9, v12_10, v12_11, v12_12, v12_13, v12_14, v12_15, v12_16, v12_17])), (q_1201, .inl (cA_1201, 8192, .inl fa12_bytes))] ∧ vk_R RX7 128 "in" sa_RX7_128 U ∧ vs_S sa_RX7_128 sv_RX7_128 2 (fun j : Nat => ([105, 110] : List Int32).getD j 0) (va_A [(h0, .inr (7, [v12_0, .ref q_1201, .int (zI (z12_length)), .int (zI (z12_at)), v12_4, .int (zI (z12_place)), v12_6, v12_7, v12_8, v12_9, v12_10, v12_11, v12_12, v12_13, v12_14, v12_15, v12_16, v12_17])), (q_1201, .inl (cA_1201, 8192, .inl fa12_bytes))] sz) U U.heap ∧ va_Z "java/lang/String" "COMPACT_STRINGS" "Z" (.int 1) (va_A [(h0, .inr (7, [v12_0, .ref q_1201, .int (zI (z12_length)), .int (zI (z12_at)), v12_4, .int (zI (z12_place)), v12_6, v12_7, v12_8, v12_9, v12_10, v12_11, v12_12, v12_13, v12_14, v12_15, v12_16, v12_17])), (q_1201, .inl (cA_1201, 8192, .inl fa12_bytes))] sz) U U.heap ∧ va_Z "jdk/internal/util/Preconditions" "SIOOBE_FORMATTER" "Ljava/util/function/BiFunction;" (.ref sx_fm) (va_A [(h0, .inr (7, [v12_0, .ref q_1201, .int (zI (z12_length)), .int (zI (z12_at)), v12_4, .int (zI (z12_place)), v12_6, v12_7, v12_8, v12_9, v12_10, v12_11, v12_12, v12_13, v12_14, v12_15, v12_16, v12_17])), (q_1201, .inl (cA_1201, 8192, .inl fa12_bytes))] sz) U U.heap ∧ vk_R RX7 134 "show" sa_RX7_134 U ∧ vs_S sa_RX7_134 sv_RX7_134 4 (fun j : Nat => ([115, 104, 111, 119] : List Int32).getD j 0) (va_A [(h0, .inr (7, [v12_0, .ref q_1201, .int (zI (z12_length)), .int (zI (z12_at)), v12_4, .int (zI (z12_place)), v12_6, v12_7, v12_8, v12_9, v12_10, v12_11, v12_12, v12_13, v12_14, v12_15, v12_16, v12_17])), (q_1201, .inl (cA_1201, 8192, .inl fa12_bytes))] sz) U U.heap ∧ vk_R RX7 136 "if" sa_RX7_136 U ∧ vs_S sa_RX7_136 sv_RX7_136 2 (fun j : Nat => ([105, 102] : List Int32).getD j 0) (va_A [(h0, .inr (7, [v12_0, .ref q_1201, .int (zI (z12_length)), .int (zI (z12_at)), v12_4, .int (zI (z12_place)), v12_6, v12_7, v12_8, v12_9, v12_10, v12_11, v12_12, v12_13, v12_14, v12_15, v12_16, v12_17])), (q_1201, .inl (cA_1201, 8192, .inl fa12_bytes))] sz) U U.heap ∧ vk_R RX7 138 "jump" sa_RX7_138 U ∧ vs_S sa_RX7_138 sv_RX7_138 4 (fun j : Nat => ([106, 117, 109, 112] : List Int32).getD j 0) (va_A [(h0, .inr (7, [v12_0, .ref q_1201, .int (zI (z12_length)), .int (zI (z12_at)), v12_4, .int (zI (z12_place)), v12_6, v12_7, v12_8, v12_9, v12_10, v12_11, v12_12, v12_13, v12_14, v12_15, v12_16, v12_17])), (q_1201, .inl (cA_1201, 8192, .inl fa12_bytes))] sz) U U.heap ∧ vk_R RX7 140 "ret" sa_RX7_140 U ∧ vs_S sa_RX7_140 sv_RX7_140 3 (fun j : Nat => ([114, 101, 116] : List Int32).getD j 0) (va_A [(h0, .inr (7, [v12_0, .ref q_1201, .int (zI (z12_length)), .int (zI (z12_at)), v12_4, .int (zI (z12_place)), v12_6, v12_7, v12_8, v12_9, v12_10, v12_11, v12_12, v12_13, v12_14, v12_15, v12_16, v12_17])), (q_1201, .inl (cA_1201, 8192, .inl fa12_bytes))] sz) U U.heap ∧ vk_R RX7 142 "phi" sa_RX7_142 U ∧ vs_S sa_RX7_142 sv_RX7_142 3 (fun j : Nat => ([112, 104, 105] : List Int32).getD j 0) (va_A [(h0, .inr (7, [v12_0, .ref q_1201, .int (zI (z12_length)), .int (zI (z12_at)), v12_4, .int (zI (z12_place)), v12_6, v12_7, v12_8, v12_9, v12_10, v12_11, v12_12, v12_13, v12_14, v12_15, v12_16, v12_17])), (q_1201, .inl (cA_1201, 8192, .inl fa12_bytes))] sz) U U.heap)) (va_Qi (fun (r : Int32) (_ : Unit) => ∃ z : Int, r = zI z ∧ ((0 ≤ z ∧ z ≤ 13) ∧ (¬ z = 2 ∧ ¬ z = 4 ∧ ¬ z = 12))) (fun (_ : Unit) (t : State) => va_P (dC, dI) vwP [(h0, .inr (7, [v12_0, .ref q_1201, .int (zI (z12_length)), .int (zI (z12_at)), v12_4, .int (zI (z12_place)), v12_6, v12_7, v12_8, v12_9, v12_10, v12_11, v12_12, v12_13, v12_14, v12_15, v12_16, v12_17])), (q_1201, .inl (cA_1201, 8192, .inl fa12_bytes))] t.heap ∧ va_K (dC, dI) vwP [(cA_1201, .byte)] t ∧ va_D (va_A [(h0, .inr (7, [v12_0, .ref q_1201, .int (zI (z12_length)), .int (zI (z12_at)), v12_4, .int (zI (z12_place)), v12_6, v12_7, v12_8, v12_9, v12_10, v12_11, v12_12, v12_13, v12_14, v12_15, v12_16, v12_17])), (q_1201, .inl (cA_1201, 8192, .inl fa12_bytes))] sz) [(h0, .inr (7, [v12_0, .ref q_1201, .int (zI (z12_length)), .int (zI (z12_at)), v12_4, .int (zI (z12_place)), v12_6, v12_7, v12_8, v12_9, v12_10, v12_11, v12_12, v12_13, v12_14, v12_15, v12_16, v12_17])), (q_1201, .inl (cA_1201, 8192, .inl fa12_bytes))]) (va_A [(h0, .inr (7, [v12_0, .ref q_1201, .int (zI (z12_length)), .int (zI (z12_at)), v12_4, .int (zI (z12_place)), v12_6, v12_7, v12_8, v12_9, v12_10, v12_11, v12_12, v12_13, v12_14, v12_15, v12_16, v12_17])), (q_1201, .inl (cA_1201, 8192, .inl fa12_bytes))] sz)) 0 0 (va_A [(h0, .inr (7, [v12_0, .ref q_1201, .int (zI (z12_length)), .int (zI (z12_at)), v12_4, .int (zI (z12_place)), v12_6, v12_7, v12_8, v12_9, v12_10, v12_11, v12_12, v12_13, v12_14, v12_15, v12_16, v12_17])), (q_1201, .inl (cA_1201, 8192, .inl fa12_bytes))] sz) := by
  refine Met.ofW (cc := cX7_wordKind) (maxL := 1) (ret := (some .int)) (by decide) rfl ?_
  intro p e s m args below meth c s₁ B hml hv
  obtain ⟨rfl, hsz, hP, hK, hD0, hp0, hp1, hp2, hp3, hp4, hp5, hp6, hp7, hp8, hp9, hp10, hp11, hp12, hp13⟩ := hv
  have hx := B.exec
  have hb := B.bytes
  have hr := B.returns
  have hts := atoms_spec (ws := v_X7_wordKind) B.pre
  have hown : s.vm.findClass RX7 = some m.cls := findClass_of_methodNamed B.named
  have hlocks := B.notSynchronized
  have ow : ∀ {k : Nat} {w : Cond}, o_X7_wordKind[k]? = some w → w.before ([.ref h0] : List Value).toArray s = true := fun h => hts _ (mow_X7_wordKind _ (List.mem_of_getElem? h))
  subst hsz
  have hD := hD0.self (sz := s.heap.size)
  generalize hAe : va_A [(h0, .inr (7, [v12_0, .ref q_1201, .int (zI (z12_length)), .int (zI (z12_at)), v12_4, .int (zI (z12_place)), v12_6, v12_7, v12_8, v12_9, v12_10, v12_11, v12_12, v12_13, v12_14, v12_15, v12_16, v12_17])), (q_1201, .inl (cA_1201, 8192, .inl fa12_bytes))] s.heap.size = A at hD hp1 hp2 hp3 hp5 hp7 hp9 hp11 hp13 ⊢
  have hA : ∀ q : Nat, s.heap.size ≤ q → A q := fun q h => by rw [← hAe]; exact Or.inr h
  have hS : va_S A s.heap s.heap [] := va_S.rf
  have hP : va_P (dC, dI) vwP [(h0, .inr (7, [v12_0, .ref q_1201, .int (zI (z12_length)), .int (zI (z12_at)), v12_4, .int (zI (z12_place)), v12_6, v12_7, v12_8, v12_9, v12_10, v12_11, v12_12, v12_13, v12_14, v12_15, v12_16, v12_17])), (q_1201, .inl (cA_1201, 8192, .inl fa12_bytes))] s.heap := hP
  have hl := lv_entry ([.ref h0]) (n := 1) (Nat.le_of_ble_eq_true rfl)
  rw [lg_entry_eq]
  generalize (lg_sl ([.ref h0]) ++ List.replicate (1 - (lg_sl ([.ref h0])).length) Slot.unset).toArray = ls at hl ⊢
  have hl : lv_has ls 1 [(0, .ref h0)] := hl
  obtain ⟨H, hH⟩ : ∃ H, H = s.heap := ⟨_, rfl⟩
  rw [← hH] at hP
  have hS : va_S A s.heap H [] := by rw [hH]; exact hS
  rw [← hH]
  refine zW_cap (fun Q hQ => ?_)
  refine lv_aload_n hx hb dX7_wordKind_0 rfl (lv_at hl 0 rfl) ?_
  refine va_ldcS hx hb hown hp0 dX7_wordKind_1 ?_
  have hPc := hP.sub (ws' := [(h0, .inr (7, [v12_0, .ref q_1201, .int (zI (z12_length)), .int (zI (z12_at)), v12_4, .int (zI (z12_place)), v12_6, v12_7, v12_8, v12_9, v12_10, v12_11, v12_12, v12_13, v12_14, v12_15, v12_16, v12_17])), (q_1201, .inl (cA_1201, 8192, .inl fa12_bytes))]) [0, 1] rfl
  have hDc := hD.sub (ws' := [(h0, .inr (7, [v12_0, .ref q_1201, .int (zI (z12_length)), .int (zI (z12_at)), v12_4, .int (zI (z12_place)), v12_6, v12_7, v12_8, v12_9, v12_10, v12_11, v12_12, v12_13, v12_14, v12_15, v12_16, v12_17])), (q_1201, .inl (cA_1201, 8192, .inl fa12_bytes))]) [0, 1] (by decide) rfl
  have hKc := hK.sub (tys' := [(cA_1201, .byte)]) [0] rfl
  have hFc := va_free (wc := [(h0, .inr (7, [v12_0, .ref q_1201, .int (zI (z12_length)), .int (zI (z12_at)), v12_4, .int (zI (z12_place)), v12_6, v12_7, v12_8, v12_9, v12_10, v12_11, v12_12, v12_13, v12_14, v12_15, v12_16, v12_17])), (q_1201, .inl (cA_1201, 8192, .inl fa12_bytes))]) hD hS hA [0, 1] rfl
  refine va_calli (va_runV (As := [.ref sa_RX7_128]) (rest := []) ⟨hx, hb, hml, hown, hts⟩ (c_X7_spells l dC dI h0 v12_0 z12_length z12_at v12_4 z12_place v12_6 v12_7 v12_8 v12_9 v12_10 v12_11 v12_12 v12_13 v12_14 v12_15 v12_16 v12_17 q_1201 cA_1201 fa12_bytes sa_RX7_128 sv_RX7_128 2 ((fun j : Nat => ([105, 110] : List Int32).getD j 0)) (by omega) (by omega) (by omega) (by omega) (by omega) (by omega) H.size sx_fm) (cwV 1 hts g_X7_wordKind_X7_spells rfl rfl rfl (by decide +kernel) ⟨(Nat.le_of_ble_eq_true rfl), (Nat.le_of_ble_eq_true rfl)⟩) ⟨fun a U g mk q => by obtain ⟨q0, q1, qP, qK, qD, e0, e1, e2⟩ := q; exact ⟨q0, q1, qP, va_K.moved (u := U) (U := U.calling g mk a) (Vm.Alike.refl U.vm) qK, qD, vs_S.moved (u := U) (U := U.calling g mk a) (Vm.Alike.refl U.vm) e0, va_Z.moved (u := U) (U := U.calling g mk a) (Vm.Alike.refl U.vm) e1, va_Z.moved (u := U) (U := U.calling g mk a) (Vm.Alike.refl U.vm) e2⟩, va_recv hKc hPc (ci := 7) (q0 := 0) rfl rfl, fun U hU hW => ⟨rfl, by rw [hU], by rw [hU]; exact hPc, va_K.moved hW.alike hKc, hDc.weaken (fun _ _ _ _ => trivial), by rw [hU]; exact vs_S.narrow (vs_S.moved hW.alike (vs_S.kept hp1 hS.2.1)) hFc, by rw [hU]; exact va_Z.narrow (va_Z.moved hW.alike (va_Z.kept hp2 hS.2.1)) hFc, by rw [hU]; exact va_Z.narrow (va_Z.moved hW.alike (va_Z.kept hp3 hS.2.1)) hFc⟩⟩ rfl rfl hl.1 rfl (lv_room (Nat.le_of_ble_eq_true rfl)) dX7_wordKind_3 ⟨(Nat.le_of_ble_eq_true rfl), (Nat.le_of_ble_eq_true rfl)⟩) hS (fun q _ h => hFc q h) hFc (fun r_2001 u t H1 locs ht hvm hw hB hz1 hk1 hS => ?_)
  obtain ⟨hP1, hK1, hD1⟩ := hB
  rw [ht] at hP1
  have hK1 := va_K.moved hvm.symm hK1
  obtain ⟨hP, hD⟩ := va_join (wr := []) (w1 := [(h0, .inr (7, [v12_0, .ref q_1201, .int (zI (z12_length)), .int (zI (z12_at)), v12_4, .int (zI (z12_place)), v12_6, v12_7, v12_8, v12_9, v12_10, v12_11, v12_12, v12_13, v12_14, v12_15, v12_16, v12_17])), (q_1201, .inl (cA_1201, 8192, .inl fa12_bytes))]) hP hD [0, 1] [] rfl rfl (by decide) (by decide) hk1 hFc hP1 hD1
  have hK := (hK.sub (tys' := []) [] rfl).app hK1
  generalize H1 = H at hP hS ⊢
  have hP : va_P (dC, dI) vwP [(h0, .inr (7, [v12_0, .ref q_1201, .int (zI (z12_length)), .int (zI (z12_at)), v12_4, .int (zI (z12_place)), v12_6, v12_7, v12_8, v12_9, v12_10, v12_11, v12_12, v12_13, v12_14, v12_15, v12_16, v12_17])), (q_1201, .inl (cA_1201, 8192, .inl fa12_bytes))] H := hP
  have hD : va_D A [(h0, .inr (7, [v12_0, .ref q_1201, .int (zI (z12_length)), .int (zI (z12_at)), v12_4, .int (zI (z12_place)), v12_6, v12_7, v12_8, v12_9, v12_10, v12_11, v12_12, v12_13, v12_14, v12_15, v12_16, v12_17])), (q_1201, .inl (cA_1201, 8192, .inl fa12_bytes))] := hD
  have hK : va_K (dC, dI) vwP [(cA_1201, .byte)] s := hK
  refine W.widen (k := 0) (n := 0) (Nat.le_of_ble_eq_true rfl) (Nat.le_of_ble_eq_true rfl) ?_
  have hw_2002 := hw
  obtain ⟨z_2003, rfl, hzz_2003⟩ := hw_2002
  refine lv_if_eq (tgt := 11) hx hb dX7_wordKind_6 (by decide) (fun b6 => ?_) (fun b6 => ?_)
  · have yb6 : (z_2003 : Int) = (0 : Int) := (zI_eq (a := z_2003) (b := 0) (by omega) (by omega) (by omega) (by omega)).mp b6
    refine lv_aload_n hx hb dX7_wordKind_11 rfl (lv_at hl 0 rfl) ?_
    refine va_ldcS hx hb hown hp4 dX7_wordKind_12 ?_
    have hPc := hP.sub (ws' := [(h0, .inr (7, [v12_0, .ref q_1201, .int (zI (z12_length)), .int (zI (z12_at)), v12_4, .int (zI (z12_place)), v12_6, v12_7, v12_8, v12_9, v12_10, v12_11, v12_12, v12_13, v12_14, v12_15, v12_16, v12_17])), (q_1201, .inl (cA_1201, 8192, .inl fa12_bytes))]) [0, 1] rfl
    have hDc := hD.sub (ws' := [(h0, .inr (7, [v12_0, .ref q_1201, .int (zI (z12_length)), .int (zI (z12_at)), v12_4, .int (zI (z12_place)), v12_6, v12_7, v12_8, v12_9, v12_10, v12_11, v12_12, v12_13, v12_14, v12_15, v12_16, v12_17])), (q_1201, .inl (cA_1201, 8192, .inl fa12_bytes))]) [0, 1] (by decide) rfl
    have hKc := hK.sub (tys' := [(cA_1201, .byte)]) [0] rfl
    have hFc := va_free (wc := [(h0, .inr (7, [v12_0, .ref q_1201, .int (zI (z12_length)), .int (zI (z12_at)), v12_4, .int (zI (z12_place)), v12_6, v12_7, v12_8, v12_9, v12_10, v12_11, v12_12, v12_13, v12_14, v12_15, v12_16, v12_17])), (q_1201, .inl (cA_1201, 8192, .inl fa12_bytes))]) hD hS hA [0, 1] rfl
    refine va_calli (va_runV (As := [.ref sa_RX7_134]) (rest := []) ⟨hx, hb, hml, hown, hts⟩ (c_X7_spells l dC dI h0 v12_0 z12_length z12_at v12_4 z12_place v12_6 v12_7 v12_8 v12_9 v12_10 v12_11 v12_12 v12_13 v12_14 v12_15 v12_16 v12_17 q_1201 cA_1201 fa12_bytes sa_RX7_134 sv_RX7_134 4 ((fun j : Nat => ([115, 104, 111, 119] : List Int32).getD j 0)) (by omega) (by omega) (by omega) (by omega) (by omega) (by omega) H.size sx_fm) (cwV 1 hts g_X7_wordKind_X7_spells rfl rfl rfl (by decide +kernel) ⟨(Nat.le_of_ble_eq_true rfl), (Nat.le_of_ble_eq_true rfl)⟩) ⟨fun a U g mk q => by obtain ⟨q0, q1, qP, qK, qD, e0, e1, e2⟩ := q; exact ⟨q0, q1, qP, va_K.moved (u := U) (U := U.calling g mk a) (Vm.Alike.refl U.vm) qK, qD, vs_S.moved (u := U) (U := U.calling g mk a) (Vm.Alike.refl U.vm) e0, va_Z.moved (u := U) (U := U.calling g mk a) (Vm.Alike.refl U.vm) e1, va_Z.moved (u := U) (U := U.calling g mk a) (Vm.Alike.refl U.vm) e2⟩, va_recv hKc hPc (ci := 7) (q0 := 0) rfl rfl, fun U hU hW => ⟨rfl, by rw [hU], by rw [hU]; exact hPc, va_K.moved hW.alike hKc, hDc.weaken (fun _ _ _ _ => trivial), by rw [hU]; exact vs_S.narrow (vs_S.moved hW.alike (vs_S.kept hp5 hS.2.1)) hFc, by rw [hU]; exact va_Z.narrow (va_Z.moved hW.alike (va_Z.kept hp2 hS.2.1)) hFc, by rw [hU]; exact va_Z.narrow (va_Z.moved hW.alike (va_Z.kept hp3 hS.2.1)) hFc⟩⟩ rfl rfl hl.1 rfl (lv_room (Nat.le_of_ble_eq_true rfl)) dX7_wordKind_14 ⟨(Nat.le_of_ble_eq_true rfl), (Nat.le_of_ble_eq_true rfl)⟩) hS (fun q _ h => hFc q h) hFc (fun r_2004 u t H1 locs ht hvm hw hB hz1 hk1 hS => ?_)
    obtain ⟨hP1, hK1, hD1⟩ := hB
    rw [ht] at hP1
    have hK1 := va_K.moved hvm.symm hK1
    obtain ⟨hP, hD⟩ := va_join (wr := []) (w1 := [(h0, .inr (7, [v12_0, .ref q_1201, .int (zI (z12_length)), .int (zI (z12_at)), v12_4, .int (zI (z12_place)), v12_6, v12_7, v12_8, v12_9, v12_10, v12_11, v12_12, v12_13, v12_14, v12_15, v12_16, v12_17])), (q_1201, .inl (cA_1201, 8192, .inl fa12_bytes))]) hP hD [0, 1] [] rfl rfl (by decide) (by decide) hk1 hFc hP1 hD1
    have hK := (hK.sub (tys' := []) [] rfl).app hK1
    generalize H1 = H at hP hS ⊢
    have hP : va_P (dC, dI) vwP [(h0, .inr (7, [v12_0, .ref q_1201, .int (zI (z12_length)), .int (zI (z12_at)), v12_4, .int (zI (z12_place)), v12_6, v12_7, v12_8, v12_9, v12_10, v12_11, v12_12, v12_13, v12_14, v12_15, v12_16, v12_17])), (q_1201, .inl (cA_1201, 8192, .inl fa12_bytes))] H := hP
    have hD : va_D A [(h0, .inr (7, [v12_0, .ref q_1201, .int (zI (z12_length)), .int (zI (z12_at)), v12_4, .int (zI (z12_place)), v12_6, v12_7, v12_8, v12_9, v12_10, v12_11, v12_12, v12_13, v12_14, v12_15, v12_16, v12_17])), (q_1201, .inl (cA_1201, 8192, .inl fa12_bytes))] := hD
    have hK : va_K (dC, dI) vwP [(cA_1201, .byte)] s := hK
    refine W.widen (k := 0) (n := 0) (Nat.le_of_ble_eq_true rfl) (Nat.le_of_ble_eq_true rfl) ?_
    have hw_2005 := hw
    obtain ⟨z_2006, rfl, hzz_2006⟩ := hw_2005
    refine lv_if_eq (tgt := 23) hx hb dX7_wordKind_17 (by decide) (fun b17 => ?_) (fun b17 => ?_)
    · have yb17 : (z_2006 : Int) = (0 : Int) := (zI_eq (a := z_2006) (b := 0) (by omega) (by omega) (by omega) (by omega)).mp b17
      refine lv_aload_n hx hb dX7_wordKind_23 rfl (lv_at hl 0 rfl) ?_
      refine va_ldcS hx hb hown hp6 dX7_wordKind_24 ?_
      have hPc := hP.sub (ws' := [(h0, .inr (7, [v12_0, .ref q_1201, .int (zI (z12_length)), .int (zI (z12_at)), v12_4, .int (zI (z12_place)), v12_6, v12_7, v12_8, v12_9, v12_10, v12_11, v12_12, v12_13, v12_14, v12_15, v12_16, v12_17])), (q_1201, .inl (cA_1201, 8192, .inl fa12_bytes))]) [0, 1] rfl
      have hDc := hD.sub (ws' := [(h0, .inr (7, [v12_0, .ref q_1201, .int (zI (z12_length)), .int (zI (z12_at)), v12_4, .int (zI (z12_place)), v12_6, v12_7, v12_8, v12_9, v12_10, v12_11, v12_12, v12_13, v12_14, v12_15, v12_16, v12_17])), (q_1201, .inl (cA_1201, 8192, .inl fa12_bytes))]) [0, 1] (by decide) rfl
      have hKc := hK.sub (tys' := [(cA_1201, .byte)]) [0] rfl
      have hFc := va_free (wc := [(h0, .inr (7, [v12_0, .ref q_1201, .int (zI (z12_length)), .int (zI (z12_at)), v12_4, .int (zI (z12_place)), v12_6, v12_7, v12_8, v12_9, v12_10, v12_11, v12_12, v12_13, v12_14, v12_15, v12_16, v12_17])), (q_1201, .inl (cA_1201, 8192, .inl fa12_bytes))]) hD hS hA [0, 1] rfl
      refine va_calli (va_runV (As := [.ref sa_RX7_136]) (rest := []) ⟨hx, hb, hml, hown, hts⟩ (c_X7_spells l dC dI h0 v12_0 z12_length z12_at v12_4 z12_place v12_6 v12_7 v12_8 v12_9 v12_10 v12_11 v12_12 v12_13 v12_14 v12_15 v12_16 v12_17 q_1201 cA_1201 fa12_bytes sa_RX7_136 sv_RX7_136 2 ((fun j : Nat => ([105, 102] : List Int32).getD j 0)) (by omega) (by omega) (by omega) (by omega) (by omega) (by omega) H.size sx_fm) (cwV 1 hts g_X7_wordKind_X7_spells rfl rfl rfl (by decide +kernel) ⟨(Nat.le_of_ble_eq_true rfl), (Nat.le_of_ble_eq_true rfl)⟩) ⟨fun a U g mk q => by obtain ⟨q0, q1, qP, qK, qD, e0, e1, e2⟩ := q; exact ⟨q0, q1, qP, va_K.moved (u := U) (U := U.calling g mk a) (Vm.Alike.refl U.vm) qK, qD, vs_S.moved (u := U) (U := U.calling g mk a) (Vm.Alike.refl U.vm) e0, va_Z.moved (u := U) (U := U.calling g mk a) (Vm.Alike.refl U.vm) e1, va_Z.moved (u := U) (U := U.calling g mk a) (Vm.Alike.refl U.vm) e2⟩, va_recv hKc hPc (ci := 7) (q0 := 0) rfl rfl, fun U hU hW => ⟨rfl, by rw [hU], by rw [hU]; exact hPc, va_K.moved hW.alike hKc, hDc.weaken (fun _ _ _ _ => trivial), by rw [hU]; exact vs_S.narrow (vs_S.moved hW.alike (vs_S.kept hp7 hS.2.1)) hFc, by rw [hU]; exact va_Z.narrow (va_Z.moved hW.alike (va_Z.kept hp2 hS.2.1)) hFc, by rw [hU]; exact va_Z.narrow (va_Z.moved hW.alike (va_Z.kept hp3 hS.2.1)) hFc⟩⟩ rfl rfl hl.1 rfl (lv_room (Nat.le_of_ble_eq_true rfl)) dX7_wordKind_26 ⟨(Nat.le_of_ble_eq_true rfl), (Nat.le_of_ble_eq_true rfl)⟩) hS (fun q _ h => hFc q h) hFc (fun r_2007 u t H1 locs ht hvm hw hB hz1 hk1 hS => ?_)
      obtain ⟨hP1, hK1, hD1⟩ := hB
      rw [ht] at hP1
      have hK1 := va_K.moved hvm.symm hK1
      obtain ⟨hP, hD⟩ := va_join (wr := []) (w1 := [(h0, .inr (7, [v12_0, .ref q_1201, .int (zI (z12_length)), .int (zI (z12_at)), v12_4, .int (zI (z12_place)), v12_6, v12_7, v12_8, v12_9, v12_10, v12_11, v12_12, v12_13, v12_14, v12_15, v12_16, v12_17])), (q_1201, .inl (cA_1201, 8192, .inl fa12_bytes))]) hP hD [0, 1] [] rfl rfl (by decide) (by decide) hk1 hFc hP1 hD1
      have hK := (hK.sub (tys' := []) [] rfl).app hK1
      generalize H1 = H at hP hS ⊢
      have hP : va_P (dC, dI) vwP [(h0, .inr (7, [v12_0, .ref q_1201, .int (zI (z12_length)), .int (zI (z12_at)), v12_4, .int (zI (z12_place)), v12_6, v12_7, v12_8, v12_9, v12_10, v12_11, v12_12, v12_13, v12_14, v12_15, v12_16, v12_17])), (q_1201, .inl (cA_1201, 8192, .inl fa12_bytes))] H := hP
      have hD : va_D A [(h0, .inr (7, [v12_0, .ref q_1201, .int (zI (z12_length)), .int (zI (z12_at)), v12_4, .int (zI (z12_place)), v12_6, v12_7, v12_8, v12_9, v12_10, v12_11, v12_12, v12_13, v12_14, v12_15, v12_16, v12_17])), (q_1201, .inl (cA_1201, 8192, .inl fa12_bytes))] := hD
      have hK : va_K (dC, dI) vwP [(cA_1201, .byte)] s := hK
      refine W.widen (k := 0) (n := 0) (Nat.le_of_ble_eq_true rfl) (Nat.le_of_ble_eq_true rfl) ?_
      have hw_2008 := hw
      obtain ⟨z_2009, rfl, hzz_2009⟩ := hw_2008
      refine lv_if_eq (tgt := 35) hx hb dX7_wordKind_29 (by decide) (fun b29 => ?_) (fun b29 => ?_)
      · have yb29 : (z_2009 : Int) = (0 : Int) := (zI_eq (a := z_2009) (b := 0) (by omega) (by omega) (by omega) (by omega)).mp b29
        refine lv_aload_n hx hb dX7_wordKind_35 rfl (lv_at hl 0 rfl) ?_
        refine va_ldcS hx hb hown hp8 dX7_wordKind_36 ?_
        have hPc := hP.sub (ws' := [(h0, .inr (7, [v12_0, .ref q_1201, .int (zI (z12_length)), .int (zI (z12_at)), v12_4, .int (zI (z12_place)), v12_6, v12_7, v12_8, v12_9, v12_10, v12_11, v12_12, v12_13, v12_14, v12_15, v12_16, v12_17])), (q_1201, .inl (cA_1201, 8192, .inl fa12_bytes))]) [0, 1] rfl
        have hDc := hD.sub (ws' := [(h0, .inr (7, [v12_0, .ref q_1201, .int (zI (z12_length)), .int (zI (z12_at)), v12_4, .int (zI (z12_place)), v12_6, v12_7, v12_8, v12_9, v12_10, v12_11, v12_12, v12_13, v12_14, v12_15, v12_16, v12_17])), (q_1201, .inl (cA_1201, 8192, .inl fa12_bytes))]) [0, 1] (by decide) rfl
        have hKc := hK.sub (tys' := [(cA_1201, .byte)]) [0] rfl
        have hFc := va_free (wc := [(h0, .inr (7, [v12_0, .ref q_1201, .int (zI (z12_length)), .int (zI (z12_at)), v12_4, .int (zI (z12_place)), v12_6, v12_7, v12_8, v12_9, v12_10, v12_11, v12_12, v12_13, v12_14, v12_15, v12_16, v12_17])), (q_1201, .inl (cA_1201, 8192, .inl fa12_bytes))]) hD hS hA [0, 1] rfl
        refine va_calli (va_runV (As := [.ref sa_RX7_138]) (rest := []) ⟨hx, hb, hml, hown, hts⟩ (c_X7_spells l dC dI h0 v12_0 z12_length z12_at v12_4 z12_place v12_6 v12_7 v12_8 v12_9 v12_10 v12_11 v12_12 v12_13 v12_14 v12_15 v12_16 v12_17 q_1201 cA_1201 fa12_bytes sa_RX7_138 sv_RX7_138 4 ((fun j : Nat => ([106, 117, 109, 112] : List Int32).getD j 0)) (by omega) (by omega) (by omega) (by omega) (by omega) (by omega) H.size sx_fm) (cwV 1 hts g_X7_wordKind_X7_spells rfl rfl rfl (by decide +kernel) ⟨(Nat.le_of_ble_eq_true rfl), (Nat.le_of_ble_eq_true rfl)⟩) ⟨fun a U g mk q => by obtain ⟨q0, q1, qP, qK, qD, e0, e1, e2⟩ := q; exact ⟨q0, q1, qP, va_K.moved (u := U) (U := U.calling g mk a) (Vm.Alike.refl U.vm) qK, qD, vs_S.moved (u := U) (U := U.calling g mk a) (Vm.Alike.refl U.vm) e0, va_Z.moved (u := U) (U := U.calling g mk a) (Vm.Alike.refl U.vm) e1, va_Z.moved (u := U) (U := U.calling g mk a) (Vm.Alike.refl U.vm) e2⟩, va_recv hKc hPc (ci := 7) (q0 := 0) rfl rfl, fun U hU hW => ⟨rfl, by rw [hU], by rw [hU]; exact hPc, va_K.moved hW.alike hKc, hDc.weaken (fun _ _ _ _ => trivial), by rw [hU]; exact vs_S.narrow (vs_S.moved hW.alike (vs_S.kept hp9 hS.2.1)) hFc, by rw [hU]; exact va_Z.narrow (va_Z.moved hW.alike (va_Z.kept hp2 hS.2.1)) hFc, by rw [hU]; exact va_Z.narrow (va_Z.moved hW.alike (va_Z.kept hp3 hS.2.1)) hFc⟩⟩ rfl rfl hl.1 rfl (lv_room (Nat.le_of_ble_eq_true rfl)) dX7_wordKind_38 ⟨(Nat.le_of_ble_eq_true rfl), (Nat.le_of_ble_eq_true rfl)⟩) hS (fun q _ h => hFc q h) hFc (fun r_2010 u t H1 locs ht hvm hw hB hz1 hk1 hS => ?_)
        obtain ⟨hP1, hK1, hD1⟩ := hB
        rw [ht] at hP1
        have hK1 := va_K.moved hvm.symm hK1
        obtain ⟨hP, hD⟩ := va_join (wr := []) (w1 := [(h0, .inr (7, [v12_0, .ref q_1201, .int (zI (z12_length)), .int (zI (z12_at)), v12_4, .int (zI (z12_place)), v12_6, v12_7, v12_8, v12_9, v12_10, v12_11, v12_12, v12_13, v12_14, v12_15, v12_16, v12_17])), (q_1201, .inl (cA_1201, 8192, .inl fa12_bytes))]) hP hD [0, 1] [] rfl rfl (by decide) (by decide) hk1 hFc hP1 hD1
        have hK := (hK.sub (tys' := []) [] rfl).app hK1
        generalize H1 = H at hP hS ⊢
        have hP : va_P (dC, dI) vwP [(h0, .inr (7, [v12_0, .ref q_1201, .int (zI (z12_length)), .int (zI (z12_at)), v12_4, .int (zI (z12_place)), v12_6, v12_7, v12_8, v12_9, v12_10, v12_11, v12_12, v12_13, v12_14, v12_15, v12_16, v12_17])), (q_1201, .inl (cA_1201, 8192, .inl fa12_bytes))] H := hP
        have hD : va_D A [(h0, .inr (7, [v12_0, .ref q_1201, .int (zI (z12_length)), .int (zI (z12_at)), v12_4, .int (zI (z12_place)), v12_6, v12_7, v12_8, v12_9, v12_10, v12_11, v12_12, v12_13, v12_14, v12_15, v12_16, v12_17])), (q_1201, .inl (cA_1201, 8192, .inl fa12_bytes))] := hD
        have hK : va_K (dC, dI) vwP [(cA_1201, .byte)] s := hK
        refine W.widen (k := 0) (n := 0) (Nat.le_of_ble_eq_true rfl) (Nat.le_of_ble_eq_true rfl) ?_
        have hw_2011 := hw
        obtain ⟨z_2012, rfl, hzz_2012⟩ := hw_2011
        refine lv_if_eq (tgt := 47) hx hb dX7_wordKind_41 (by decide) (fun b41 => ?_) (fun b41 => ?_)
        · have yb41 : (z_2012 : Int) = (0 : Int) := (zI_eq (a := z_2012) (b := 0) (by omega) (by omega) (by omega) (by omega)).mp b41
          refine lv_aload_n hx hb dX7_wordKind_47 rfl (lv_at hl 0 rfl) ?_
          refine va_ldcS hx hb hown hp10 dX7_wordKind_48 ?_
          have hPc := hP.sub (ws' := [(h0, .inr (7, [v12_0, .ref q_1201, .int (zI (z12_length)), .int (zI (z12_at)), v12_4, .int (zI (z12_place)), v12_6, v12_7, v12_8, v12_9, v12_10, v12_11, v12_12, v12_13, v12_14, v12_15, v12_16, v12_17])), (q_1201, .inl (cA_1201, 8192, .inl fa12_bytes))]) [0, 1] rfl
          have hDc := hD.sub (ws' := [(h0, .inr (7, [v12_0, .ref q_1201, .int (zI (z12_length)), .int (zI (z12_at)), v12_4, .int (zI (z12_place)), v12_6, v12_7, v12_8, v12_9, v12_10, v12_11, v12_12, v12_13, v12_14, v12_15, v12_16, v12_17])), (q_1201, .inl (cA_1201, 8192, .inl fa12_bytes))]) [0, 1] (by decide) rfl
          have hKc := hK.sub (tys' := [(cA_1201, .byte)]) [0] rfl
          have hFc := va_free (wc := [(h0, .inr (7, [v12_0, .ref q_1201, .int (zI (z12_length)), .int (zI (z12_at)), v12_4, .int (zI (z12_place)), v12_6, v12_7, v12_8, v12_9, v12_10, v12_11, v12_12, v12_13, v12_14, v12_15, v12_16, v12_17])), (q_1201, .inl (cA_1201, 8192, .inl fa12_bytes))]) hD hS hA [0, 1] rfl
          refine va_calli (va_runV (As := [.ref sa_RX7_140]) (rest := []) ⟨hx, hb, hml, hown, hts⟩ (c_X7_spells l dC dI h0 v12_0 z12_length z12_at v12_4 z12_place v12_6 v12_7 v12_8 v12_9 v12_10 v12_11 v12_12 v12_13 v12_14 v12_15 v12_16 v12_17 q_1201 cA_1201 fa12_bytes sa_RX7_140 sv_RX7_140 3 ((fun j : Nat => ([114, 101, 116] : List Int32).getD j 0)) (by omega) (by omega) (by omega) (by omega) (by omega) (by omega) H.size sx_fm) (cwV 1 hts g_X7_wordKind_X7_spells rfl rfl rfl (by decide +kernel) ⟨(Nat.le_of_ble_eq_true rfl), (Nat.le_of_ble_eq_true rfl)⟩) ⟨fun a U g mk q => by obtain ⟨q0, q1, qP, qK, qD, e0, e1, e2⟩ := q; exact ⟨q0, q1, qP, va_K.moved (u := U) (U := U.calling g mk a) (Vm.Alike.refl U.vm) qK, qD, vs_S.moved (u := U) (U := U.calling g mk a) (Vm.Alike.refl U.vm) e0, va_Z.moved (u := U) (U := U.calling g mk a) (Vm.Alike.refl U.vm) e1, va_Z.moved (u := U) (U := U.calling g mk a) (Vm.Alike.refl U.vm) e2⟩, va_recv hKc hPc (ci := 7) (q0 := 0) rfl rfl, fun U hU hW => ⟨rfl, by rw [hU], by rw [hU]; exact hPc, va_K.moved hW.alike hKc, hDc.weaken (fun _ _ _ _ => trivial), by rw [hU]; exact vs_S.narrow (vs_S.moved hW.alike (vs_S.kept hp11 hS.2.1)) hFc, by rw [hU]; exact va_Z.narrow (va_Z.moved hW.alike (va_Z.kept hp2 hS.2.1)) hFc, by rw [hU]; exact va_Z.narrow (va_Z.moved hW.alike (va_Z.kept hp3 hS.2.1)) hFc⟩⟩ rfl rfl hl.1 rfl (lv_room (Nat.le_of_ble_eq_true rfl)) dX7_wordKind_50 ⟨(Nat.le_of_ble_eq_true rfl), (Nat.le_of_ble_eq_true rfl)⟩) hS (fun q _ h => hFc q h) hFc (fun r_2013 u t H1 locs ht hvm hw hB hz1 hk1 hS => ?_)
          obtain ⟨hP1, hK1, hD1⟩ := hB
          rw [ht] at hP1
          have hK1 := va_K.moved hvm.symm hK1
          obtain ⟨hP, hD⟩ := va_join (wr := []) (w1 := [(h0, .inr (7, [v12_0, .ref q_1201, .int (zI (z12_length)), .int (zI (z12_at)), v12_4, .int (zI (z12_place)), v12_6, v12_7, v12_8, v12_9, v12_10, v12_11, v12_12, v12_13, v12_14, v12_15, v12_16, v12_17])), (q_1201, .inl (cA_1201, 8192, .inl fa12_bytes))]) hP hD [0, 1] [] rfl rfl (by decide) (by decide) hk1 hFc hP1 hD1
          have hK := (hK.sub (tys' := []) [] rfl).app hK1
          generalize H1 = H at hP hS ⊢
          have hP : va_P (dC, dI) vwP [(h0, .inr (7, [v12_0, .ref q_1201, .int (zI (z12_length)), .int (zI (z12_at)), v12_4, .int (zI (z12_place)), v12_6, v12_7, v12_8, v12_9, v12_10, v12_11, v12_12, v12_13, v12_14, v12_15, v12_16, v12_17])), (q_1201, .inl (cA_1201, 8192, .inl fa12_bytes))] H := hP
          have hD : va_D A [(h0, .inr (7, [v12_0, .ref q_1201, .int (zI (z12_length)), .int (zI (z12_at)), v12_4, .int (zI (z12_place)), v12_6, v12_7, v12_8, v12_9, v12_10, v12_11, v12_12, v12_13, v12_14, v12_15, v12_16, v12_17])), (q_1201, .inl (cA_1201, 8192, .inl fa12_bytes))] := hD
          have hK : va_K (dC, dI) vwP [(cA_1201, .byte)] s := hK
          refine W.widen (k := 0) (n := 0) (Nat.le_of_ble_eq_true rfl) (Nat.le_of_ble_eq_true rfl) ?_
          have hw_2014 := hw
          obtain ⟨z_2015, rfl, hzz_2015⟩ := hw_2014
          refine lv_if_eq (tgt := 59) hx hb dX7_wordKind_53 (by decide) (fun b53 => ?_) (fun b53 => ?_)
          · have yb53 : (z_2015 : Int) = (0 : Int) := (zI_eq (a := z_2015) (b := 0) (by omega) (by omega) (by omega) (by omega)).mp b53
            refine lv_aload_n hx hb dX7_wordKind_59 rfl (lv_at hl 0 rfl) ?_
            refine va_ldcS hx hb hown hp12 dX7_wordKind_60 ?_
            have hPc := hP.sub (ws' := [(h0, .inr (7, [v12_0, .ref q_1201, .int (zI (z12_length)), .int (zI (z12_at)), v12_4, .int (zI (z12_place)), v12_6, v12_7, v12_8, v12_9, v12_10, v12_11, v12_12, v12_13, v12_14, v12_15, v12_16, v12_17])), (q_1201, .inl (cA_1201, 8192, .inl fa12_bytes))]) [0, 1] rfl
            have hDc := hD.sub (ws' := [(h0, .inr (7, [v12_0, .ref q_1201, .int (zI (z12_length)), .int (zI (z12_at)), v12_4, .int (zI (z12_place)), v12_6, v12_7, v12_8, v12_9, v12_10, v12_11, v12_12, v12_13, v12_14, v12_15, v12_16, v12_17])), (q_1201, .inl (cA_1201, 8192, .inl fa12_bytes))]) [0, 1] (by decide) rfl
            have hKc := hK.sub (tys' := [(cA_1201, .byte)]) [0] rfl
            have hFc := va_free (wc := [(h0, .inr (7, [v12_0, .ref q_1201, .int (zI (z12_length)), .int (zI (z12_at)), v12_4, .int (zI (z12_place)), v12_6, v12_7, v12_8, v12_9, v12_10, v12_11, v12_12, v12_13, v12_14, v12_15, v12_16, v12_17])), (q_1201, .inl (cA_1201, 8192, .inl fa12_bytes))]) hD hS hA [0, 1] rfl
            refine va_calli (va_runV (As := [.ref sa_RX7_142]) (rest := []) ⟨hx, hb, hml, hown, hts⟩ (c_X7_spells l dC dI h0 v12_0 z12_length z12_at v12_4 z12_place v12_6 v12_7 v12_8 v12_9 v12_10 v12_11 v12_12 v12_13 v12_14 v12_15 v12_16 v12_17 q_1201 cA_1201 fa12_bytes sa_RX7_142 sv_RX7_142 3 ((fun j : Nat => ([112, 104, 105] : List Int32).getD j 0)) (by omega) (by omega) (by omega) (by omega) (by omega) (by omega) H.size sx_fm) (cwV 1 hts g_X7_wordKind_X7_spells rfl rfl rfl (by decide +kernel) ⟨(Nat.le_of_ble_eq_true rfl), (Nat.le_of_ble_eq_true rfl)⟩) ⟨fun a U g mk q => by obtain ⟨q0, q1, qP, qK, qD, e0, e1, e2⟩ := q; exact ⟨q0, q1, qP, va_K.moved (u := U) (U := U.calling g mk a) (Vm.Alike.refl U.vm) qK, qD, vs_S.moved (u := U) (U := U.calling g mk a) (Vm.Alike.refl U.vm) e0, va_Z.moved (u := U) (U := U.calling g mk a) (Vm.Alike.refl U.vm) e1, va_Z.moved (u := U) (U := U.calling g mk a) (Vm.Alike.refl U.vm) e2⟩, va_recv hKc hPc (ci := 7) (q0 := 0) rfl rfl, fun U hU hW => ⟨rfl, by rw [hU], by rw [hU]; exact hPc, va_K.moved hW.alike hKc, hDc.weaken (fun _ _ _ _ => trivial), by rw [hU]; exact vs_S.narrow (vs_S.moved hW.alike (vs_S.kept hp13 hS.2.1)) hFc, by rw [hU]; exact va_Z.narrow (va_Z.moved hW.alike (va_Z.kept hp2 hS.2.1)) hFc, by rw [hU]; exact va_Z.narrow (va_Z.moved hW.alike (va_Z.kept hp3 hS.2.1)) hFc⟩⟩ rfl rfl hl.1 rfl (lv_room (Nat.le_of_ble_eq_true rfl)) dX7_wordKind_62 ⟨(Nat.le_of_ble_eq_true rfl), (Nat.le_of_ble_eq_true rfl)⟩) hS (fun q _ h => hFc q h) hFc (fun r_2016 u t H1 locs ht hvm hw hB hz1 hk1 hS => ?_)
            obtain ⟨hP1, hK1, hD1⟩ := hB
            rw [ht] at hP1
            have hK1 := va_K.moved hvm.symm hK1
            obtain ⟨hP, hD⟩ := va_join (wr := []) (w1 := [(h0, .inr (7, [v12_0, .ref q_1201, .int (zI (z12_length)), .int (zI (z12_at)), v12_4, .int (zI (z12_place)), v12_6, v12_7, v12_8, v12_9, v12_10, v12_11, v12_12, v12_13, v12_14, v12_15, v12_16, v12_17])), (q_1201, .inl (cA_1201, 8192, .inl fa12_bytes))]) hP hD [0, 1] [] rfl rfl (by decide) (by decide) hk1 hFc hP1 hD1
            have hK := (hK.sub (tys' := []) [] rfl).app hK1
            generalize H1 = H at hP hS ⊢
            have hP : va_P (dC, dI) vwP [(h0, .inr (7, [v12_0, .ref q_1201, .int (zI (z12_length)), .int (zI (z12_at)), v12_4, .int (zI (z12_place)), v12_6, v12_7, v12_8, v12_9, v12_10, v12_11, v12_12, v12_13, v12_14, v12_15, v12_16, v12_17])), (q_1201, .inl (cA_1201, 8192, .inl fa12_bytes))] H := hP
            have hD : va_D A [(h0, .inr (7, [v12_0, .ref q_1201, .int (zI (z12_length)), .int (zI (z12_at)), v12_4, .int (zI (z12_place)), v12_6, v12_7, v12_8, v12_9, v12_10, v12_11, v12_12, v12_13, v12_14, v12_15, v12_16, v12_17])), (q_1201, .inl (cA_1201, 8192, .inl fa12_bytes))] := hD
            have hK : va_K (dC, dI) vwP [(cA_1201, .byte)] s := hK
            refine W.widen (k := 0) (n := 0) (Nat.le_of_ble_eq_true rfl) (Nat.le_of_ble_eq_true rfl) ?_
            have hw_2017 := hw
            obtain ⟨z_2018, rfl, hzz_2018⟩ := hw_2017
            refine lv_if_eq (tgt := 73) hx hb dX7_wordKind_65 (by decide) (fun b65 => ?_) (fun b65 => ?_)
            · have yb65 : (z_2018 : Int) = (0 : Int) := (zI_eq (a := z_2018) (b := 0) (by omega) (by omega) (by omega) (by omega)).mp b65
              refine lv_iconst (v := 0) hx hb dX7_wordKind_73 (by decide) ?_
              subst hQ
              refine W.widen (k := 0) (n := 0) (Nat.le_of_ble_eq_true rfl) (Nat.le_of_ble_eq_true rfl) ?_
              exact W.iret (v := 0) hx hb hr (fun t ht hW => ⟨⟨0, (), rfl, ⟨0, rfl, (by omega)⟩, by rw [ht]; exact hP, va_K.moved hW.alike hK, hD⟩, hS.F ht⟩) hS.2.2 dX7_wordKind_74
            · have yb65 : ¬ (z_2018 : Int) = (0 : Int) := fun q => b65 ((zI_eq (a := z_2018) (b := 0) (by omega) (by omega) (by omega) (by omega)).mpr q)
              refine lv_bipush (v := 13) hx hb dX7_wordKind_68 (by decide) ?_
              refine lv_goto (tgt := 74) hx hb dX7_wordKind_70 (by decide) ?_
              subst hQ
              refine W.widen (k := 0) (n := 0) (Nat.le_of_ble_eq_true rfl) (Nat.le_of_ble_eq_true rfl) ?_
              exact W.iret (v := 13) hx hb hr (fun t ht hW => ⟨⟨13, (), rfl, ⟨13, rfl, (by omega)⟩, by rw [ht]; exact hP, va_K.moved hW.alike hK, hD⟩, hS.F ht⟩) hS.2.2 dX7_wordKind_74
          · have yb53 : ¬ (z_2015 : Int) = (0 : Int) := fun q => b53 ((zI_eq (a := z_2015) (b := 0) (by omega) (by omega) (by omega) (by omega)).mpr q)
            refine lv_bipush (v := 9) hx hb dX7_wordKind_56 (by decide) ?_
            subst hQ
            refine W.widen (k := 0) (n := 0) (Nat.le_of_ble_eq_true rfl) (Nat.le_of_ble_eq_true rfl) ?_
            exact W.iret (v := 9) hx hb hr (fun t ht hW => ⟨⟨9, (), rfl, ⟨9, rfl, (by omega)⟩, by rw [ht]; exact hP, va_K.moved hW.alike hK, hD⟩, hS.F ht⟩) hS.2.2 dX7_wordKind_58
        · have yb41 : ¬ (z_2012 : Int) = (0 : Int) := fun q => b41 ((zI_eq (a := z_2012) (b := 0) (by omega) (by omega) (by omega) (by omega)).mpr q)
          refine lv_bipush (v := 8) hx hb dX7_wordKind_44 (by decide) ?_
          subst hQ
          refine W.widen (k := 0) (n := 0) (Nat.le_of_ble_eq_true rfl) (Nat.le_of_ble_eq_true rfl) ?_
          exact W.iret (v := 8) hx hb hr (fun t ht hW => ⟨⟨8, (), rfl, ⟨8, rfl, (by omega)⟩, by rw [ht]; exact hP, va_K.moved hW.alike hK, hD⟩, hS.F ht⟩) hS.2.2 dX7_wordKind_46
      · have yb29 : ¬ (z_2009 : Int) = (0 : Int) := fun q => b29 ((zI_eq (a := z_2009) (b := 0) (by omega) (by omega) (by omega) (by omega)).mpr q)
        refine lv_bipush (v := 7) hx hb dX7_wordKind_32 (by decide) ?_
        subst hQ
        refine W.widen (k := 0) (n := 0) (Nat.le_of_ble_eq_true rfl) (Nat.le_of_ble_eq_true rfl) ?_
        exact W.iret (v := 7) hx hb hr (fun t ht hW => ⟨⟨7, (), rfl, ⟨7, rfl, (by omega)⟩, by rw [ht]; exact hP, va_K.moved hW.alike hK, hD⟩, hS.F ht⟩) hS.2.2 dX7_wordKind_34
    · have yb17 : ¬ (z_2006 : Int) = (0 : Int) := fun q => b17 ((zI_eq (a := z_2006) (b := 0) (by omega) (by omega) (by omega) (by omega)).mpr q)
      refine lv_bipush (v := 6) hx hb dX7_wordKind_20 (by decide) ?_
      subst hQ
      refine W.widen (k := 0) (n := 0) (Nat.le_of_ble_eq_true rfl) (Nat.le_of_ble_eq_true rfl) ?_
      exact W.iret (v := 6) hx hb hr (fun t ht hW => ⟨⟨6, (), rfl, ⟨6, rfl, (by omega)⟩, by rw [ht]; exact hP, va_K.moved hW.alike hK, hD⟩, hS.F ht⟩) hS.2.2 dX7_wordKind_22
  · have yb6 : ¬ (z_2003 : Int) = (0 : Int) := fun q => b6 ((zI_eq (a := z_2003) (b := 0) (by omega) (by omega) (by omega) (by omega)).mpr q)
    refine lv_iconst (v := 5) hx hb dX7_wordKind_9 (by decide) ?_
    subst hQ
    refine W.widen (k := 0) (n := 0) (Nat.le_of_ble_eq_true rfl) (Nat.le_of_ble_eq_true rfl) ?_
    exact W.iret (v := 5) hx hb hr (fun t ht hW => ⟨⟨5, (), rfl, ⟨5, rfl, (by omega)⟩, by rw [ht]; exact hP, va_K.moved hW.alike hK, hD⟩, hS.F ht⟩) hS.2.2 dX7_wordKind_10
theorem dX7_scanNamed_0 : decode cX7_scanNamed 0 = .ok (.aload_n 0, 1) := by decide +kernel
theorem dX7_scanNamed_1 : decode cX7_scanNamed 1 = .ok (.invokevirtual 124, 3) := by decide +kernel
theorem dX7_scanNamed_4 : decode cX7_scanNamed 4 = .ok (.lstore_n 3, 1) := by decide +kernel
theorem dX7_scanNamed_5 : decode cX7_scanNamed 5 = .ok (.aload_n 0, 1) := by decide +kernel
theorem dX7_scanNamed_6 : decode cX7_scanNamed 6 = .ok (.lload_n 3, 1) := by decide +kernel
theorem dX7_scanNamed_7 : decode cX7_scanNamed 7 = .ok (.iload_n 2, 1) := by decide +kernel
theorem dX7_scanNamed_8 : decode cX7_scanNamed 8 = .ok (.i2l, 1) := by decide +kernel
theorem dX7_scanNamed_9 : decode cX7_scanNamed 9 = .ok (.lcmp, 1) := by decide +kernel
theorem dX7_scanNamed_10 : decode cX7_scanNamed 10 = .ok (.ifCond .ge 8, 3) := by decide +kernel
theorem dX7_scanNamed_18 : decode cX7_scanNamed 18 = .ok (.iconst 0, 1) := by decide +kernel
theorem dX7_scanNamed_19 : decode cX7_scanNamed 19 = .ok (.putfield 31, 3) := by decide +kernel
theorem dX7_scanNamed_22 : decode cX7_scanNamed 22 = .ok (.aload_n 0, 1) := by decide +kernel
theorem dX7_scanNamed_23 : decode cX7_scanNamed 23 = .ok (.lload_n 3, 1) := by decide +kernel
theorem dX7_scanNamed_24 : decode cX7_scanNamed 24 = .ok (.iload_n 2, 1) := by decide +kernel
theorem dX7_scanNamed_25 : decode cX7_scanNamed 25 = .ok (.i2l, 1) := by decide +kernel
theorem dX7_scanNamed_26 : decode cX7_scanNamed 26 = .ok (.lcmp, 1) := by decide +kernel
theorem dX7_scanNamed_27 : decode cX7_scanNamed 27 = .ok (.ifCond .ge 7, 3) := by decide +kernel
theorem dX7_scanNamed_34 : decode cX7_scanNamed 34 = .ok (.iconst 0, 1) := by decide +kernel
theorem dX7_scanNamed_35 : decode cX7_scanNamed 35 = .ok (.putfield 25, 3) := by decide +kernel
theorem dX7_scanNamed_38 : decode cX7_scanNamed 38 = .ok (.return_, 1) := by decide +kernel
theorem dX7_scanNamed_30 : decode cX7_scanNamed 30 = .ok (.iload_n 1, 1) := by decide +kernel
theorem dX7_scanNamed_31 : decode cX7_scanNamed 31 = .ok (.goto 4, 3) := by decide +kernel
theorem dX7_scanNamed_13 : decode cX7_scanNamed 13 = .ok (.lload_n 3, 1) := by decide +kernel
theorem dX7_scanNamed_14 : decode cX7_scanNamed 14 = .ok (.l2i, 1) := by decide +kernel
theorem dX7_scanNamed_15 : decode cX7_scanNamed 15 = .ok (.goto 4, 3) := by decide +kernel
def o_X7_scanNamed : List Cond := [.methodLink RX7 124 yX7_digits, .instanceMethod yX7_digits, .selects RX7 yX7_digits yX7_digits, .initialized RX7, .fieldLink RX7 31 "SsaForge$Reader" "value" "I", .fieldLink RX7 25 "SsaForge$Reader" "kind" "I"]
def v_X7_scanNamed : List Cond := .code yX7_scanNamed cX7_scanNamed 5 none :: (o_X7_scanNamed ++ (v_X7_digits ++ (wsX70 ++ [])))
theorem mow_X7_scanNamed : ∀ w ∈ o_X7_scanNamed, w ∈ v_X7_scanNamed := fun _ h => List.mem_cons_of_mem _ (List.mem_append_left _ h)
theorem mem_X7_scanNamed_0 : ∀ w ∈ v_X7_digits, w ∈ v_X7_scanNamed := fun _ h => List.mem_cons_of_mem _ (List.mem_append_right _ (List.mem_append_left _ h))
theorem mem_X7_scanNamed_1 : ∀ w ∈ wsX70, w ∈ v_X7_scanNamed := fun _ h => List.mem_cons_of_mem _ (List.mem_append_right _ (List.mem_append_right _ (List.mem_append_left _ h)))
set_option maxRecDepth 20000 in
theorem gw_X7_scanNamed : v_X7_scanNamed.all goodWord = true := by decide +kernel
set_option maxRecDepth 20000 in
theorem g_X7_scanNamed_X7_digits : GoodIn v_X7_scanNamed (wsV RX7 124 RX7 yX7_digits v_X7_digits) := goodIn_app (goodIn_sub (fun w h => mow_X7_scanNamed w (by revert w h; decide +kernel)) (by decide +kernel)) (goodIn_sub mem_X7_scanNamed_0 gw_X7_digits)
set_option maxHeartbeats 4000000 in
set_option maxRecDepth 100000 in
theorem c_X7_scanNamed (l : Launch) (dC : Nat → ClassId) (dI : Nat → Nat → Nat) (h0 : Nat) (v12_0 : Value) (z12_length : Int) (z12_at : Int) (z12_kind : Int) (v12_5 : Value) (z12_value : Int) (v12_7 : Value) (v12_8 : Value) (v12_9 : Value) (v12_10 : Value) (v12_11 : Value) (v12_12 : Value) (v12_13 : Value) (v12_14 : Value) (v12_15 : Value) (v12_16 : Value) (v12_17 : Value) (q_1201 : Nat) (cA_1201 : ClassId) (fa12_bytes : Nat → Int32) (nk : Int) (lm : Int) (hNz12_length : 0 ≤ z12_length ∧ z12_length ≤ 8192) (hNz12_at : 0 ≤ z12_at ∧ z12_at ≤ 8200) (hNz12_kind : 0 ≤ z12_kind ∧ z12_kind ≤ 13) (hNz12_value : -2147483648 ≤ z12_value ∧ z12_value ≤ 2147483647) (hNat : z12_at ≤ 8194) (hNk : (nk = 2 ∧ lm = 200) ∨ (nk = 4 ∧ lm = 60)) (sz : Nat) : Met l yX7_scanNamed v_X7_scanNamed ({ frames := 3, cells := 0, slots := 0, locals := 65 }) (va_Pc [.ref h0, .int (zI (nk)), .int (zI (lm))] (fun U => U.heap.size = sz ∧ va_P (dC, dI) vwP [(h0, .inr (7, [v12_0, .ref q_1201, .int (zI (z12_length)), .int (zI (z12_at)), .int (zI (z12_kind)), v12_5, .int (zI (z12_value)), v12_7, v12_8, v12_9, v12_10, v12_11, v12_12, v12_13, v12_14, v12_15, v12_16, v12_17])), (q_1201, .inl (cA_1201, 8192, .inl fa12_bytes))] U.heap ∧ va_K (dC, dI) vwP [(cA_1201, .byte)] U ∧ va_D (fun _ => True) [(h0, .inr (7, [v12_0, .ref q_1201, .int (zI (z12_length)), .int (zI (z12_at)), .int (zI (z12_kind)), v12_5, .int (zI (z12_value)), v12_7, v12_8, v12_9, v12_10, v12_11, v12_12, v12_13, v12_14, v12_15, v12_16, v12_17])), (q_1201, .inl (cA_1201, 8192, .inl fa12_bytes))])) (va_Qv (fun _ : Unit => True) (fun (_ : Unit) (t : State) => ∃ (z0_9 : Int) (z1_9 : Int) (z2_9 : Int), ((0 ≤ z0_9 ∧ z0_9 ≤ 8200) ∧ (0 ≤ z1_9 ∧ z1_9 ≤ 13) ∧ (-2147483648 ≤ z2_9 ∧ z2_9 ≤ 2147483647) ∧ (RKV z1_9 z2_9 ∧ (z0_9 ≤ z12_at ∨ z0_9 ≤ z12_length))) ∧ va_P (dC, dI) vwP [(h0, .inr (7, [v12_0, .ref q_1201, .int (zI (z12_length)), .int (zI (z0_9)), .int (zI (z1_9)), v12_5, .int (zI (z2_9)), v12_7, v12_8, v12_9, v12_10, v12_11, v12_12, v12_13, v12_14, v12_15, v12_16, v12_17])), (q_1201, .inl (cA_1201, 8192, .inl fa12_bytes))] t.heap ∧ va_K (dC, dI) vwP [(cA_1201, .byte)] t ∧ va_D (va_A [(h0, .inr (7, [v12_0, .ref q_1201, .int (zI (z12_length)), .int (zI (z12_at)), .int (zI (z12_kind)), v12_5, .int (zI (z12_value)), v12_7, v12_8, v12_9, v12_10, v12_11, v12_12, v12_13, v12_14, v12_15, v12_16, v12_17])), (q_1201, .inl (cA_1201, 8192, .inl fa12_bytes))] sz) [(h0, .inr (7, [v12_0, .ref q_1201, .int (zI (z12_length)), .int (zI (z0_9)), .int (zI (z1_9)), v12_5, .int (zI (z2_9)), v12_7, v12_8, v12_9, v12_10, v12_11, v12_12, v12_13, v12_14, v12_15, v12_16, v12_17])), (q_1201, .inl (cA_1201, 8192, .inl fa12_bytes))]) (va_A [(h0, .inr (7, [v12_0, .ref q_1201, .int (zI (z12_length)), .int (zI (z12_at)), .int (zI (z12_kind)), v12_5, .int (zI (z12_value)), v12_7, v12_8, v12_9, v12_10, v12_11, v12_12, v12_13, v12_14, v12_15, v12_16, v12_17])), (q_1201, .inl (cA_1201, 8192, .inl fa12_bytes))] sz)) 0 0 (va_A [(h0, .inr (7, [v12_0, .ref q_1201, .int (zI (z12_length)), .int (zI (z12_at)), .int (zI (z12_kind)), v12_5, .int (zI (z12_value)), v12_7, v12_8, v12_9, v12_10, v12_11, v12_12, v12_13, v12_14, v12_15, v12_16, v12_17])), (q_1201, .inl (cA_1201, 8192, .inl fa12_bytes))] sz) := by
  refine Met.ofW (cc := cX7_scanNamed) (maxL := 5) (ret := none) (by decide) rfl ?_
  intro p e s m args below meth c s₁ B hml hv
  obtain ⟨rfl, hsz, hP, hK, hD0⟩ := hv
  have hx := B.exec
  have hb := B.bytes
  have hr := B.returns
  have hts := atoms_spec (ws := v_X7_scanNamed) B.pre
  have hown : s.vm.findClass RX7 = some m.cls := findClass_of_methodNamed B.named
  have hlocks := B.notSynchronized
  have ow : ∀ {k : Nat} {w : Cond}, o_X7_scanNamed[k]? = some w → w.before ([.ref h0, .int (zI (nk)), .int (zI (lm))] : List Value).toArray s = true := fun h => hts _ (mow_X7_scanNamed _ (List.mem_of_getElem? h))
  subst hsz
  have hD := hD0.self (sz := s.heap.size)
  generalize hAe : va_A [(h0, .inr (7, [v12_0, .ref q_1201, .int (zI (z12_length)), .int (zI (z12_at)), .int (zI (z12_kind)), v12_5, .int (zI (z12_value)), v12_7, v12_8, v12_9, v12_10, v12_11, v12_12, v12_13, v12_14, v12_15, v12_16, v12_17])), (q_1201, .inl (cA_1201, 8192, .inl fa12_bytes))] s.heap.size = A at hD ⊢
  have hA : ∀ q : Nat, s.heap.size ≤ q → A q := fun q h => by rw [← hAe]; exact Or.inr h
  have hS : va_S A s.heap s.heap [] := va_S.rf
  have hP : va_P (dC, dI) vwP [(h0, .inr (7, [v12_0, .ref q_1201, .int (zI (z12_length)), .int (zI (z12_at)), .int (zI (z12_kind)), v12_5, .int (zI (z12_value)), v12_7, v12_8, v12_9, v12_10, v12_11, v12_12, v12_13, v12_14, v12_15, v12_16, v12_17])), (q_1201, .inl (cA_1201, 8192, .inl fa12_bytes))] s.heap := hP
  have hl := lv_entry ([.ref h0, .int (zI (nk)), .int (zI (lm))]) (n := 5) (Nat.le_of_ble_eq_true rfl)
  rw [lg_entry_eq]
  generalize (lg_sl ([.ref h0, .int (zI (nk)), .int (zI (lm))]) ++ List.replicate (5 - (lg_sl ([.ref h0, .int (zI (nk)), .int (zI (lm))])).length) Slot.unset).toArray = ls at hl ⊢
  have hl : lv_has ls 5 [(0, .ref h0), (1, .int (zI (nk))), (2, .int (zI (lm)))] := hl
  obtain ⟨H, hH⟩ : ∃ H, H = s.heap := ⟨_, rfl⟩
  rw [← hH] at hP
  have hS : va_S A s.heap H [] := by rw [hH]; exact hS
  rw [← hH]
  refine zW_cap (fun Q hQ => ?_)
  refine lv_aload_n hx hb dX7_scanNamed_0 rfl (lv_at hl 0 rfl) ?_
  have hPc := hP.sub (ws' := [(h0, .inr (7, [v12_0, .ref q_1201, .int (zI (z12_length)), .int (zI (z12_at)), .int (zI (z12_kind)), v12_5, .int (zI (z12_value)), v12_7, v12_8, v12_9, v12_10, v12_11, v12_12, v12_13, v12_14, v12_15, v12_16, v12_17])), (q_1201, .inl (cA_1201, 8192, .inl fa12_bytes))]) [0, 1] rfl
  have hDc := hD.sub (ws' := [(h0, .inr (7, [v12_0, .ref q_1201, .int (zI (z12_length)), .int (zI (z12_at)), .int (zI (z12_kind)), v12_5, .int (zI (z12_value)), v12_7, v12_8, v12_9, v12_10, v12_11, v12_12, v12_13, v12_14, v12_15, v12_16, v12_17])), (q_1201, .inl (cA_1201, 8192, .inl fa12_bytes))]) [0, 1] (by decide) rfl
  have hKc := hK.sub (tys' := [(cA_1201, .byte)]) [0] rfl
  have hFc := va_free (wc := [(h0, .inr (7, [v12_0, .ref q_1201, .int (zI (z12_length)), .int (zI (z12_at)), .int (zI (z12_kind)), v12_5, .int (zI (z12_value)), v12_7, v12_8, v12_9, v12_10, v12_11, v12_12, v12_13, v12_14, v12_15, v12_16, v12_17])), (q_1201, .inl (cA_1201, 8192, .inl fa12_bytes))]) hD hS hA [0, 1] rfl
  refine va_calll (va_runV (As := []) (rest := []) ⟨hx, hb, hml, hown, hts⟩ (c_X7_digits l dC dI h0 v12_0 z12_length z12_at (.int (zI (z12_kind))) v12_5 (.int (zI (z12_value))) v12_7 v12_8 v12_9 v12_10 v12_11 v12_12 v12_13 v12_14 v12_15 v12_16 v12_17 q_1201 cA_1201 fa12_bytes (by omega) (by omega) (by omega) H.size) (cwV 0 hts g_X7_scanNamed_X7_digits rfl rfl rfl (by decide +kernel) ⟨(Nat.le_of_ble_eq_true rfl), (Nat.le_of_ble_eq_true rfl)⟩) ⟨fun a U g mk q => by obtain ⟨q0, q1, qP, qK, qD⟩ := q; exact ⟨q0, q1, qP, va_K.moved (u := U) (U := U.calling g mk a) (Vm.Alike.refl U.vm) qK, qD⟩, va_recv hKc hPc (ci := 7) (q0 := 0) rfl rfl, fun U hU hW => ⟨rfl, by rw [hU], by rw [hU]; exact hPc, va_K.moved hW.alike hKc, hDc.weaken (fun _ _ _ _ => trivial)⟩⟩ rfl rfl hl.1 rfl (lv_room (Nat.le_of_ble_eq_true rfl)) dX7_scanNamed_1 ⟨(Nat.le_of_ble_eq_true rfl), (Nat.le_of_ble_eq_true rfl)⟩) hS (fun q _ h => hFc q h) hFc (fun r_2001 u t H1 locs ht hvm hw hB hz1 hk1 hS => ?_)
  obtain ⟨z0_2002, hxt_2002, hP1, hK1, hD1⟩ := hB
  rw [ht] at hP1
  have hK1 := va_K.moved hvm.symm hK1
  obtain ⟨hP, hD⟩ := va_join (wr := []) (w1 := [(h0, .inr (7, [v12_0, .ref q_1201, .int (zI (z12_length)), .int (zI (z0_2002)), .int (zI (z12_kind)), v12_5, .int (zI (z12_value)), v12_7, v12_8, v12_9, v12_10, v12_11, v12_12, v12_13, v12_14, v12_15, v12_16, v12_17])), (q_1201, .inl (cA_1201, 8192, .inl fa12_bytes))]) hP hD [0, 1] [] rfl rfl (by decide) (by decide) hk1 hFc hP1 hD1
  have hK := (hK.sub (tys' := []) [] rfl).app hK1
  generalize H1 = H at hP hS ⊢
  have hP : va_P (dC, dI) vwP [(h0, .inr (7, [v12_0, .ref q_1201, .int (zI (z12_length)), .int (zI (z0_2002)), .int (zI (z12_kind)), v12_5, .int (zI (z12_value)), v12_7, v12_8, v12_9, v12_10, v12_11, v12_12, v12_13, v12_14, v12_15, v12_16, v12_17])), (q_1201, .inl (cA_1201, 8192, .inl fa12_bytes))] H := hP
  have hD : va_D A [(h0, .inr (7, [v12_0, .ref q_1201, .int (zI (z12_length)), .int (zI (z0_2002)), .int (zI (z12_kind)), v12_5, .int (zI (z12_value)), v12_7, v12_8, v12_9, v12_10, v12_11, v12_12, v12_13, v12_14, v12_15, v12_16, v12_17])), (q_1201, .inl (cA_1201, 8192, .inl fa12_bytes))] := hD
  have hK : va_K (dC, dI) vwP [(cA_1201, .byte)] s := hK
  refine W.widen (k := 0) (n := 0) (Nat.le_of_ble_eq_true rfl) (Nat.le_of_ble_eq_true rfl) ?_
  have hw_2003 := hw
  obtain ⟨rk_2004, hu_2004⟩ := hxt_2002
  obtain ⟨z_2005, rfl, hzz_2005⟩ := hw_2003
  refine lv_lstore_n (lv' := [(3, .long (lI (z_2005))), (0, .ref h0), (1, .int (zI (nk))), (2, .int (zI (lm)))]) hx hb dX7_scanNamed_4 rfl hl (by decide) rfl (fun ls hl => ?_)
  refine lv_aload_n hx hb dX7_scanNamed_5 rfl (lv_at hl 1 rfl) ?_
  refine lv_lload_n hx hb dX7_scanNamed_6 rfl (lv_at hl 0 rfl) ?_
  refine lv_iload_n hx hb dX7_scanNamed_7 rfl (lv_at hl 3 rfl) ?_
  refine lv_i2l (v := lI (lm)) hx hb dX7_scanNamed_8 (zI_l (a := lm) (by omega) (by omega)) ?_
  refine W.lcmp hx hb dX7_scanNamed_9 ?_
  refine lv_if_ge (tgt := 18) hx hb dX7_scanNamed_10 (by decide) (fun b10 => ?_) (fun b10 => ?_)
  · have yb10 : (lm : Int) ≤ z_2005 := (lc_ge (a := z_2005) (b := lm) (by omega) (by omega) (by omega) (by omega)).mp b10
    refine lv_iconst (v := 0) hx hb dX7_scanNamed_18 (by decide) ?_
    refine va_put (D := (dC, dI)) (ci := 7) (v := .int 0) (ty := .int) (C := RX7) (T := TX7) (N := 18) hx hb hts mem_X7_scanNamed_1 tyX7 tyX7_ok nmX7 hown hK hP hD hS 0 rfl rfl 6 (by decide) (ow (k := 4) rfl) (fun _ h9 => h9) rfl (by decide +kernel) rfl rfl (Nat.le_of_ble_eq_true rfl) dX7_scanNamed_19 (fun H locs hP hD hS => ?_)
    have hP : va_P (dC, dI) vwP [(h0, .inr (7, [v12_0, .ref q_1201, .int (zI (z12_length)), .int (zI (z0_2002)), .int (zI (z12_kind)), v12_5, .int 0, v12_7, v12_8, v12_9, v12_10, v12_11, v12_12, v12_13, v12_14, v12_15, v12_16, v12_17])), (q_1201, .inl (cA_1201, 8192, .inl fa12_bytes))] H := hP
    have hD : va_D A [(h0, .inr (7, [v12_0, .ref q_1201, .int (zI (z12_length)), .int (zI (z0_2002)), .int (zI (z12_kind)), v12_5, .int 0, v12_7, v12_8, v12_9, v12_10, v12_11, v12_12, v12_13, v12_14, v12_15, v12_16, v12_17])), (q_1201, .inl (cA_1201, 8192, .inl fa12_bytes))] := hD
    refine lv_aload_n hx hb dX7_scanNamed_22 rfl (lv_at hl 1 rfl) ?_
    refine lv_lload_n hx hb dX7_scanNamed_23 rfl (lv_at hl 0 rfl) ?_
    refine lv_iload_n hx hb dX7_scanNamed_24 rfl (lv_at hl 3 rfl) ?_
    refine lv_i2l (v := lI (lm)) hx hb dX7_scanNamed_25 (zI_l (a := lm) (by omega) (by omega)) ?_
    refine W.lcmp hx hb dX7_scanNamed_26 ?_
    refine lv_if_ge (tgt := 34) hx hb dX7_scanNamed_27 (by decide) (fun b27 => ?_) (fun b27 => ?_)
    · have yb27 : (lm : Int) ≤ z_2005 := (lc_ge (a := z_2005) (b := lm) (by omega) (by omega) (by omega) (by omega)).mp b27
      refine lv_iconst (v := 0) hx hb dX7_scanNamed_34 (by decide) ?_
      refine va_put (D := (dC, dI)) (ci := 7) (v := .int 0) (ty := .int) (C := RX7) (T := TX7) (N := 18) hx hb hts mem_X7_scanNamed_1 tyX7 tyX7_ok nmX7 hown hK hP hD hS 0 rfl rfl 4 (by decide) (ow (k := 5) rfl) (fun _ h9 => h9) rfl (by decide +kernel) rfl rfl (Nat.le_of_ble_eq_true rfl) dX7_scanNamed_35 (fun H locs hP hD hS => ?_)
      have hP : va_P (dC, dI) vwP [(h0, .inr (7, [v12_0, .ref q_1201, .int (zI (z12_length)), .int (zI (z0_2002)), .int 0, v12_5, .int 0, v12_7, v12_8, v12_9, v12_10, v12_11, v12_12, v12_13, v12_14, v12_15, v12_16, v12_17])), (q_1201, .inl (cA_1201, 8192, .inl fa12_bytes))] H := hP
      have hD : va_D A [(h0, .inr (7, [v12_0, .ref q_1201, .int (zI (z12_length)), .int (zI (z0_2002)), .int 0, v12_5, .int 0, v12_7, v12_8, v12_9, v12_10, v12_11, v12_12, v12_13, v12_14, v12_15, v12_16, v12_17])), (q_1201, .inl (cA_1201, 8192, .inl fa12_bytes))] := hD
      subst hQ
      refine W.widen (k := 0) (n := 0) (Nat.le_of_ble_eq_true rfl) (Nat.le_of_ble_eq_true rfl) ?_
      exact W.vret hx hb hr (fun t ht hW => ⟨⟨(), rfl, trivial, z0_2002, 0, 0, ⟨(by omega), (by omega), (by omega), ⟨(by unfold RKV; omega), by omega⟩⟩, by rw [ht]; exact hP, va_K.moved hW.alike hK, hD⟩, hS.F ht⟩) hS.2.2 dX7_scanNamed_38
    · have yb27 : ¬ (lm : Int) ≤ z_2005 := fun q => b27 ((lc_ge (a := z_2005) (b := lm) (by omega) (by omega) (by omega) (by omega)).mpr q)
      refine lv_iload_n hx hb dX7_scanNamed_30 rfl (lv_at hl 2 rfl) ?_
      refine lv_goto (tgt := 35) hx hb dX7_scanNamed_31 (by decide) ?_
      refine va_put (D := (dC, dI)) (ci := 7) (v := .int (zI (nk))) (ty := .int) (C := RX7) (T := TX7) (N := 18) hx hb hts mem_X7_scanNamed_1 tyX7 tyX7_ok nmX7 hown hK hP hD hS 0 rfl rfl 4 (by decide) (ow (k := 5) rfl) (fun _ h9 => h9) rfl (by decide +kernel) rfl rfl (Nat.le_of_ble_eq_true rfl) dX7_scanNamed_35 (fun H locs hP hD hS => ?_)
      have hP : va_P (dC, dI) vwP [(h0, .inr (7, [v12_0, .ref q_1201, .int (zI (z12_length)), .int (zI (z0_2002)), .int (zI (nk)), v12_5, .int 0, v12_7, v12_8, v12_9, v12_10, v12_11, v12_12, v12_13, v12_14, v12_15, v12_16, v12_17])), (q_1201, .inl (cA_1201, 8192, .inl fa12_bytes))] H := hP
      have hD : va_D A [(h0, .inr (7, [v12_0, .ref q_1201, .int (zI (z12_length)), .int (zI (z0_2002)), .int (zI (nk)), v12_5, .int 0, v12_7, v12_8, v12_9, v12_10, v12_11, v12_12, v12_13, v12_14, v12_15, v12_16, v12_17])), (q_1201, .inl (cA_1201, 8192, .inl fa12_bytes))] := hD
      subst hQ
      refine W.widen (k := 0) (n := 0) (Nat.le_of_ble_eq_true rfl) (Nat.le_of_ble_eq_true rfl) ?_
      exact W.vret hx hb hr (fun t ht hW => ⟨⟨(), rfl, trivial, z0_2002, nk, 0, ⟨(by omega), (by omega), (by omega), ⟨(by unfold RKV; omega), by omega⟩⟩, by rw [ht]; exact hP, va_K.moved hW.alike hK, hD⟩, hS.F ht⟩) hS.2.2 dX7_scanNamed_38
  · have yb10 : ¬ (lm : Int) ≤ z_2005 := fun q => b10 ((lc_ge (a := z_2005) (b := lm) (by omega) (by omega) (by omega) (by omega)).mpr q)
    refine lv_lload_n hx hb dX7_scanNamed_13 rfl (lv_at hl 0 rfl) ?_
    refine lv_l2i (v := zI (z_2005)) hx hb dX7_scanNamed_14 (lI_i (z_2005)) ?_
    refine lv_goto (tgt := 19) hx hb dX7_scanNamed_15 (by decide) ?_
    refine va_put (D := (dC, dI)) (ci := 7) (v := .int (zI (z_2005))) (ty := .int) (C := RX7) (T := TX7) (N := 18) hx hb hts mem_X7_scanNamed_1 tyX7 tyX7_ok nmX7 hown hK hP hD hS 0 rfl rfl 6 (by decide) (ow (k := 4) rfl) (fun _ h9 => h9) rfl (by decide +kernel) rfl rfl (Nat.le_of_ble_eq_true rfl) dX7_scanNamed_19 (fun H locs hP hD hS => ?_)
    have hP : va_P (dC, dI) vwP [(h0, .inr (7, [v12_0, .ref q_1201, .int (zI (z12_length)), .int (zI (z0_2002)), .int (zI (z12_kind)), v12_5, .int (zI (z_2005)), v12_7, v12_8, v12_9, v12_10, v12_11, v12_12, v12_13, v12_14, v12_15, v12_16, v12_17])), (q_1201, .inl (cA_1201, 8192, .inl fa12_bytes))] H := hP
    have hD : va_D A [(h0, .inr (7, [v12_0, .ref q_1201, .int (zI (z12_length)), .int (zI (z0_2002)), .int (zI (z12_kind)), v12_5, .int (zI (z_2005)), v12_7, v12_8, v12_9, v12_10, v12_11, v12_12, v12_13, v12_14, v12_15, v12_16, v12_17])), (q_1201, .inl (cA_1201, 8192, .inl fa12_bytes))] := hD
    refine lv_aload_n hx hb dX7_scanNamed_22 rfl (lv_at hl 1 rfl) ?_
    refine lv_lload_n hx hb dX7_scanNamed_23 rfl (lv_at hl 0 rfl) ?_
    refine lv_iload_n hx hb dX7_scanNamed_24 rfl (lv_at hl 3 rfl) ?_
    refine lv_i2l (v := lI (lm)) hx hb dX7_scanNamed_25 (zI_l (a := lm) (by omega) (by omega)) ?_
    refine W.lcmp hx hb dX7_scanNamed_26 ?_
    refine lv_if_ge (tgt := 34) hx hb dX7_scanNamed_27 (by decide) (fun b27 => ?_) (fun b27 => ?_)
    · have yb27 : (lm : Int) ≤ z_2005 := (lc_ge (a := z_2005) (b := lm) (by omega) (by omega) (by omega) (by omega)).mp b27
      refine lv_iconst (v := 0) hx hb dX7_scanNamed_34 (by decide) ?_
      refine va_put (D := (dC, dI)) (ci := 7) (v := .int 0) (ty := .int) (C := RX7) (T := TX7) (N := 18) hx hb hts mem_X7_scanNamed_1 tyX7 tyX7_ok nmX7 hown hK hP hD hS 0 rfl rfl 4 (by decide) (ow (k := 5) rfl) (fun _ h9 => h9) rfl (by decide +kernel) rfl rfl (Nat.le_of_ble_eq_true rfl) dX7_scanNamed_35 (fun H locs hP hD hS => ?_)
      have hP : va_P (dC, dI) vwP [(h0, .inr (7, [v12_0, .ref q_1201, .int (zI (z12_length)), .int (zI (z0_2002)), .int 0, v12_5, .int (zI (z_2005)), v12_7, v12_8, v12_9, v12_10, v12_11, v12_12, v12_13, v12_14, v12_15, v12_16, v12_17])), (q_1201, .inl (cA_1201, 8192, .inl fa12_bytes))] H := hP
      have hD : va_D A [(h0, .inr (7, [v12_0, .ref q_1201, .int (zI (z12_length)), .int (zI (z0_2002)), .int 0, v12_5, .int (zI (z_2005)), v12_7, v12_8, v12_9, v12_10, v12_11, v12_12, v12_13, v12_14, v12_15, v12_16, v12_17])), (q_1201, .inl (cA_1201, 8192, .inl fa12_bytes))] := hD
      subst hQ
      refine W.widen (k := 0) (n := 0) (Nat.le_of_ble_eq_true rfl) (Nat.le_of_ble_eq_true rfl) ?_
      exact W.vret hx hb hr (fun t ht hW => ⟨⟨(), rfl, trivial, z0_2002, 0, z_2005, ⟨(by omega), (by omega), (by omega), ⟨(by unfold RKV; omega), by omega⟩⟩, by rw [ht]; exact hP, va_K.moved hW.alike hK, hD⟩, hS.F ht⟩) hS.2.2 dX7_scanNamed_38
    · have yb27 : ¬ (lm : Int) ≤ z_2005 := fun q => b27 ((lc_ge (a := z_2005) (b := lm) (by omega) (by omega) (by omega) (by omega)).mpr q)
      refine lv_iload_n hx hb dX7_scanNamed_30 rfl (lv_at hl 2 rfl) ?_
      refine lv_goto (tgt := 35) hx hb dX7_scanNamed_31 (by decide) ?_
      refine va_put (D := (dC, dI)) (ci := 7) (v := .int (zI (nk))) (ty := .int) (C := RX7) (T := TX7) (N := 18) hx hb hts mem_X7_scanNamed_1 tyX7 tyX7_ok nmX7 hown hK hP hD hS 0 rfl rfl 4 (by decide) (ow (k := 5) rfl) (fun _ h9 => h9) rfl (by decide +kernel) rfl rfl (Nat.le_of_ble_eq_true rfl) dX7_scanNamed_35 (fun H locs hP hD hS => ?_)
      have hP : va_P (dC, dI) vwP [(h0, .inr (7, [v12_0, .ref q_1201, .int (zI (z12_length)), .int (zI (z0_2002)), .int (zI (nk)), v12_5, .int (zI (z_2005)), v12_7, v12_8, v12_9, v12_10, v12_11, v12_12, v12_13, v12_14, v12_15, v12_16, v12_17])), (q_1201, .inl (cA_1201, 8192, .inl fa12_bytes))] H := hP
      have hD : va_D A [(h0, .inr (7, [v12_0, .ref q_1201, .int (zI (z12_length)), .int (zI (z0_2002)), .int (zI (nk)), v12_5, .int (zI (z_2005)), v12_7, v12_8, v12_9, v12_10, v12_11, v12_12, v12_13, v12_14, v12_15, v12_16, v12_17])), (q_1201, .inl (cA_1201, 8192, .inl fa12_bytes))] := hD
      subst hQ
      refine W.widen (k := 0) (n := 0) (Nat.le_of_ble_eq_true rfl) (Nat.le_of_ble_eq_true rfl) ?_
      exact W.vret hx hb hr (fun t ht hW => ⟨⟨(), rfl, trivial, z0_2002, nk, z_2005, ⟨(by omega), (by omega), (by omega), ⟨(by unfold RKV; omega), by omega⟩⟩, by rw [ht]; exact hP, va_K.moved hW.alike hK, hD⟩, hS.F ht⟩) hS.2.2 dX7_scanNamed_38
theorem dX7_scanWord_0 : decode cX7_scanWord 0 = .ok (.aload_n 0, 1) := by decide +kernel
theorem dX7_scanWord_1 : decode cX7_scanWord 1 = .ok (.getfield 22, 3) := by decide +kernel
theorem dX7_scanWord_4 : decode cX7_scanWord 4 = .ok (.aload_n 0, 1) := by decide +kernel
theorem dX7_scanWord_5 : decode cX7_scanWord 5 = .ok (.getfield 19, 3) := by decide +kernel
theorem dX7_scanWord_8 : decode cX7_scanWord 8 = .ok (.if_icmp .ge 39, 3) := by decide +kernel
theorem dX7_scanWord_47 : decode cX7_scanWord 47 = .ok (.aload_n 0, 1) := by decide +kernel
theorem dX7_scanWord_48 : decode cX7_scanWord 48 = .ok (.getfield 22, 3) := by decide +kernel
theorem dX7_scanWord_51 : decode cX7_scanWord 51 = .ok (.aload_n 0, 1) := by decide +kernel
theorem dX7_scanWord_52 : decode cX7_scanWord 52 = .ok (.getfield 28, 3) := by decide +kernel
theorem dX7_scanWord_55 : decode cX7_scanWord 55 = .ok (.iconst 1, 1) := by decide +kernel
theorem dX7_scanWord_56 : decode cX7_scanWord 56 = .ok (.iadd, 1) := by decide +kernel
theorem dX7_scanWord_57 : decode cX7_scanWord 57 = .ok (.if_icmp .ne 7, 3) := by decide +kernel
theorem dX7_scanWord_64 : decode cX7_scanWord 64 = .ok (.iconst 0, 1) := by decide +kernel
theorem dX7_scanWord_65 : decode cX7_scanWord 65 = .ok (.istore_n 1, 1) := by decide +kernel
theorem dX7_scanWord_66 : decode cX7_scanWord 66 = .ok (.iload_n 1, 1) := by decide +kernel
theorem dX7_scanWord_67 : decode cX7_scanWord 67 = .ok (.ifCond .eq 34, 3) := by decide +kernel
theorem dX7_scanWord_101 : decode cX7_scanWord 101 = .ok (.iload_n 1, 1) := by decide +kernel
theorem dX7_scanWord_102 : decode cX7_scanWord 102 = .ok (.ifCond .eq 33, 3) := by decide +kernel
theorem dX7_scanWord_135 : decode cX7_scanWord 135 = .ok (.aload_n 0, 1) := by decide +kernel
theorem dX7_scanWord_136 : decode cX7_scanWord 136 = .ok (.aload_n 0, 1) := by decide +kernel
theorem dX7_scanWord_137 : decode cX7_scanWord 137 = .ok (.invokevirtual 120, 3) := by decide +kernel
theorem dX7_scanWord_140 : decode cX7_scanWord 140 = .ok (.putfield 25, 3) := by decide +kernel
theorem dX7_scanWord_143 : decode cX7_scanWord 143 = .ok (.return_, 1) := by decide +kernel
theorem dX7_scanWord_60 : decode cX7_scanWord 60 = .ok (.iconst 1, 1) := by decide +kernel
theorem dX7_scanWord_61 : decode cX7_scanWord 61 = .ok (.goto 4, 3) := by decide +kernel
theorem dX7_scanWord_70 : decode cX7_scanWord 70 = .ok (.aload_n 0, 1) := by decide +kernel
theorem dX7_scanWord_71 : decode cX7_scanWord 71 = .ok (.getfield 31, 3) := by decide +kernel
theorem dX7_scanWord_74 : decode cX7_scanWord 74 = .ok (.bipush 118, 2) := by decide +kernel
theorem dX7_scanWord_76 : decode cX7_scanWord 76 = .ok (.if_icmp .ne 25, 3) := by decide +kernel
theorem dX7_scanWord_105 : decode cX7_scanWord 105 = .ok (.aload_n 0, 1) := by decide +kernel
theorem dX7_scanWord_106 : decode cX7_scanWord 106 = .ok (.getfield 31, 3) := by decide +kernel
theorem dX7_scanWord_109 : decode cX7_scanWord 109 = .ok (.bipush 98, 2) := by decide +kernel
theorem dX7_scanWord_111 : decode cX7_scanWord 111 = .ok (.if_icmp .ne 24, 3) := by decide +kernel
theorem dX7_scanWord_114 : decode cX7_scanWord 114 = .ok (.aload_n 0, 1) := by decide +kernel
theorem dX7_scanWord_115 : decode cX7_scanWord 115 = .ok (.aload_n 0, 1) := by decide +kernel
theorem dX7_scanWord_116 : decode cX7_scanWord 116 = .ok (.getfield 22, 3) := by decide +kernel
theorem dX7_scanWord_119 : decode cX7_scanWord 119 = .ok (.invokevirtual 107, 3) := by decide +kernel
theorem dX7_scanWord_122 : decode cX7_scanWord 122 = .ok (.ifCond .eq 13, 3) := by decide +kernel
theorem dX7_scanWord_125 : decode cX7_scanWord 125 = .ok (.aload_n 0, 1) := by decide +kernel
theorem dX7_scanWord_126 : decode cX7_scanWord 126 = .ok (.iconst 4, 1) := by decide +kernel
theorem dX7_scanWord_127 : decode cX7_scanWord 127 = .ok (.bipush 60, 2) := by decide +kernel
theorem dX7_scanWord_129 : decode cX7_scanWord 129 = .ok (.invokevirtual 116, 3) := by decide +kernel
theorem dX7_scanWord_132 : decode cX7_scanWord 132 = .ok (.goto 11, 3) := by decide +kernel
theorem dX7_scanWord_79 : decode cX7_scanWord 79 = .ok (.aload_n 0, 1) := by decide +kernel
theorem dX7_scanWord_80 : decode cX7_scanWord 80 = .ok (.aload_n 0, 1) := by decide +kernel
theorem dX7_scanWord_81 : decode cX7_scanWord 81 = .ok (.getfield 22, 3) := by decide +kernel
theorem dX7_scanWord_84 : decode cX7_scanWord 84 = .ok (.invokevirtual 107, 3) := by decide +kernel
theorem dX7_scanWord_87 : decode cX7_scanWord 87 = .ok (.ifCond .eq 14, 3) := by decide +kernel
theorem dX7_scanWord_90 : decode cX7_scanWord 90 = .ok (.aload_n 0, 1) := by decide +kernel
theorem dX7_scanWord_91 : decode cX7_scanWord 91 = .ok (.iconst 2, 1) := by decide +kernel
theorem dX7_scanWord_92 : decode cX7_scanWord 92 = .ok (.sipush 200, 3) := by decide +kernel
theorem dX7_scanWord_95 : decode cX7_scanWord 95 = .ok (.invokevirtual 116, 3) := by decide +kernel
theorem dX7_scanWord_98 : decode cX7_scanWord 98 = .ok (.goto 45, 3) := by decide +kernel
theorem dX7_scanWord_11 : decode cX7_scanWord 11 = .ok (.aload_n 0, 1) := by decide +kernel
theorem dX7_scanWord_12 : decode cX7_scanWord 12 = .ok (.aload_n 0, 1) := by decide +kernel
theorem dX7_scanWord_13 : decode cX7_scanWord 13 = .ok (.getfield 22, 3) := by decide +kernel
theorem dX7_scanWord_16 : decode cX7_scanWord 16 = .ok (.invokevirtual 100, 3) := by decide +kernel
theorem dX7_scanWord_19 : decode cX7_scanWord 19 = .ok (.ifCond .eq 28, 3) := by decide +kernel
theorem dX7_scanWord_22 : decode cX7_scanWord 22 = .ok (.aload_n 0, 1) := by decide +kernel
theorem dX7_scanWord_23 : decode cX7_scanWord 23 = .ok (.aload_n 0, 1) := by decide +kernel
theorem dX7_scanWord_24 : decode cX7_scanWord 24 = .ok (.aload_n 0, 1) := by decide +kernel
theorem dX7_scanWord_25 : decode cX7_scanWord 25 = .ok (.getfield 22, 3) := by decide +kernel
theorem dX7_scanWord_28 : decode cX7_scanWord 28 = .ok (.invokevirtual 93, 3) := by decide +kernel
theorem dX7_scanWord_31 : decode cX7_scanWord 31 = .ok (.putfield 31, 3) := by decide +kernel
theorem dX7_scanWord_34 : decode cX7_scanWord 34 = .ok (.aload_n 0, 1) := by decide +kernel
theorem dX7_scanWord_35 : decode cX7_scanWord 35 = .ok (.dup, 1) := by decide +kernel
theorem dX7_scanWord_36 : decode cX7_scanWord 36 = .ok (.getfield 22, 3) := by decide +kernel
theorem dX7_scanWord_39 : decode cX7_scanWord 39 = .ok (.iconst 1, 1) := by decide +kernel
theorem dX7_scanWord_40 : decode cX7_scanWord 40 = .ok (.iadd, 1) := by decide +kernel
theorem dX7_scanWord_41 : decode cX7_scanWord 41 = .ok (.putfield 22, 3) := by decide +kernel
theorem dX7_scanWord_44 : decode cX7_scanWord 44 = .ok (.goto (-44), 3) := by decide +kernel
def o_X7_scanWord : List Cond := [.fieldLink RX7 22 "SsaForge$Reader" "at" "I", .fieldLink RX7 19 "SsaForge$Reader" "length" "I", .fieldLink RX7 28 "SsaForge$Reader" "place" "I", .methodLink RX7 120 yX7_wordKind, .instanceMethod yX7_wordKind, .selects RX7 yX7_wordKind yX7_wordKind, .initialized RX7, .fieldLink RX7 25 "SsaForge$Reader" "kind" "I", .fieldLink RX7 31 "SsaForge$Reader" "value" "I", .methodLink RX7 107 yX7_digitAt, .instanceMethod yX7_digitAt, .selects RX7 yX7_digitAt yX7_digitAt, .methodLink RX7 116 yX7_scanNamed, .instanceMethod yX7_scanNamed, .selects RX7 yX7_scanNamed yX7_scanNamed, .methodLink RX7 100 yX7_letterAt, .instanceMethod yX7_letterAt, .selects RX7 yX7_letterAt yX7_letterAt, .methodLink RX7 93 yX7_byteAt, .instanceMethod yX7_byteAt, .selects RX7 yX7_byteAt yX7_byteAt]
def v_X7_scanWord : List Cond := .code yX7_scanWord cX7_scanWord 2 none :: (o_X7_scanWord ++ (wsX70 ++ (v_X7_wordKind ++ (v_X7_digitAt ++ (v_X7_scanNamed ++ (v_X7_letterAt ++ (v_X7_byteAt ++ [])))))))
theorem mow_X7_scanWord : ∀ w ∈ o_X7_scanWord, w ∈ v_X7_scanWord := fun _ h => List.mem_cons_of_mem _ (List.mem_append_left _ h)
theorem mem_X7_scanWord_0 : ∀ w ∈ wsX70, w ∈ v_X7_scanWord := fun _ h => List.mem_cons_of_mem _ (List.mem_append_right _ (List.mem_append_left _ h))
theorem mem_X7_scanWord_1 : ∀ w ∈ v_X7_wordKind, w ∈ v_X7_scanWord := fun _ h => List.mem_cons_of_mem _ (List.mem_append_right _ (List.mem_append_right _ (List.mem_append_left _ h)))
theorem mem_X7_scanWord_2 : ∀ w ∈ v_X7_digitAt, w ∈ v_X7_scanWord := fun _ h => List.mem_cons_of_mem _ (List.mem_append_right _ (List.mem_append_right _ (List.mem_append_right _ (List.mem_append_left _ h))))
theorem mem_X7_scanWord_3 : ∀ w ∈ v_X7_scanNamed, w ∈ v_X7_scanWord := fun _ h => List.mem_cons_of_mem _ (List.mem_append_right _ (List.mem_append_right _ (List.mem_append_right _ (List.mem_append_right _ (List.mem_append_left _ h)))))
theorem mem_X7_scanWord_4 : ∀ w ∈ v_X7_letterAt, w ∈ v_X7_scanWord := fun _ h => List.mem_cons_of_mem _ (List.mem_append_right _ (List.mem_append_right _ (List.mem_append_right _ (List.mem_append_right _ (List.mem_append_right _ (List.mem_append_left _ h))))))
theorem mem_X7_scanWord_5 : ∀ w ∈ v_X7_byteAt, w ∈ v_X7_scanWord := fun _ h => List.mem_cons_of_mem _ (List.mem_append_right _ (List.mem_append_right _ (List.mem_append_right _ (List.mem_append_right _ (List.mem_append_right _ (List.mem_append_right _ (List.mem_append_left _ h)))))))
set_option maxRecDepth 20000 in
theorem gw_X7_scanWord : v_X7_scanWord.all goodWord = true := by decide +kernel
set_option maxRecDepth 20000 in
theorem g_X7_scanWord_X7_wordKind : GoodIn v_X7_scanWord (wsV RX7 120 RX7 yX7_wordKind v_X7_wordKind) := goodIn_app (goodIn_sub (fun w h => mow_X7_scanWord w (by revert w h; decide +kernel)) (by decide +kernel)) (goodIn_sub mem_X7_scanWord_1 gw_X7_wordKind)
set_option maxRecDepth 20000 in
theorem g_X7_scanWord_X7_digitAt : GoodIn v_X7_scanWord (wsV RX7 107 RX7 yX7_digitAt v_X7_digitAt) := goodIn_app (goodIn_sub (fun w h => mow_X7_scanWord w (by revert w h; decide +kernel)) (by decide +kernel)) (goodIn_sub mem_X7_scanWord_2 gw_X7_digitAt)
set_option maxRecDepth 20000 in
theorem g_X7_scanWord_X7_scanNamed : GoodIn v_X7_scanWord (wsV RX7 116 RX7 yX7_scanNamed v_X7_scanNamed) := goodIn_app (goodIn_sub (fun w h => mow_X7_scanWord w (by revert w h; decide +kernel)) (by decide +kernel)) (goodIn_sub mem_X7_scanWord_3 gw_X7_scanNamed)
set_option maxRecDepth 20000 in
theorem g_X7_scanWord_X7_letterAt : GoodIn v_X7_scanWord (wsV RX7 100 RX7 yX7_letterAt v_X7_letterAt) := goodIn_app (goodIn_sub (fun w h => mow_X7_scanWord w (by revert w h; decide +kernel)) (by decide +kernel)) (goodIn_sub mem_X7_scanWord_4 gw_X7_letterAt)
set_option maxRecDepth 20000 in
theorem g_X7_scanWord_X7_byteAt : GoodIn v_X7_scanWord (wsV RX7 93 RX7 yX7_byteAt v_X7_byteAt) := goodIn_app (goodIn_sub (fun w h => mow_X7_scanWord w (by revert w h; decide +kernel)) (by decide +kernel)) (goodIn_sub mem_X7_scanWord_5 gw_X7_byteAt)
set_option maxHeartbeats 4000000 in
set_option maxRecDepth 100000 in
theorem c_X7_scanWord (l : Launch) (dC : Nat → ClassId) (dI : Nat → Nat → Nat) (h0 : Nat) (v12_0 : Value) (z12_length : Int) (z12_at : Int) (z12_kind : Int) (z12_place : Int) (z12_value : Int) (v12_7 : Value) (v12_8 : Value) (v12_9 : Value) (v12_10 : Value) (v12_11 : Value) (v12_12 : Value) (v12_13 : Value) (v12_14 : Value) (v12_15 : Value) (v12_16 : Value) (v12_17 : Value) (q_1201 : Nat) (cA_1201 : ClassId) (fa12_bytes : Nat → Int32) (hNz12_length : 0 ≤ z12_length ∧ z12_length ≤ 8192) (hNz12_at : 0 ≤ z12_at ∧ z12_at ≤ 8200) (hNz12_kind : 0 ≤ z12_kind ∧ z12_kind ≤ 13) (hNz12_place : 0 ≤ z12_place ∧ z12_place ≤ 8200) (hNz12_value : -2147483648 ≤ z12_value ∧ z12_value ≤ 2147483647) (hNat : z12_at ≤ 8194) (hNpl : z12_place ≤ 8194) (sz : Nat) (sa_RX7_128 : Nat) (sv_RX7_128 : Nat) (sx_fm : Nat) (sa_RX7_134 : Nat) (sv_RX7_134 : Nat) (sa_RX7_136 : Nat) (sv_RX7_136 : Nat) (sa_RX7_138 : Nat) (sv_RX7_138 : Nat) (sa_RX7_140 : Nat) (sv_RX7_140 : Nat) (sa_RX7_142 : Nat) (sv_RX7_142 : Nat) : Met l yX7_scanWord v_X7_scanWord ({ frames := 6, cells := 0, slots := 0, locals := 127 }) (va_Pc [.ref h0] (fun U => U.heap.size = sz ∧ va_P (dC, dI) vwP [(h0, .inr (7, [v12_0, .ref q_1201, .int (zI (z12_length)), .int (zI (z12_at)), .int (zI (z12_kind)), .int (zI (z12_place)), .int (zI (z12_value)), v12_7, v12_8, v12_9, v12_10, v12_11, v12_12, v12_13, v12_14, v12_15, v12_16, v12_17])), (q_1201, .inl (cA_1201, 8192, .inl fa12_bytes))] U.heap ∧ va_K (dC, dI) vwP [(cA_1201, .byte)] U ∧ va_D (fun _ => True) [(h0, .inr (7, [v12_0, .ref q_1201, .int (zI (z12_length)), .int (zI (z12_at)), .int (zI (z12_kind)), .int (zI (z12_place)), .int (zI (z12_value)), v12_7, v12_8, v12_9, v12_10, v12_11, v12_12, v12_13, v12_14, v12_15, v12_16, v12_17])), (q_1201, .inl (cA_1201, 8192, .inl fa12_bytes))] ∧ vk_R RX7 128 "in" sa_RX7_128 U ∧ vs_S sa_RX7_128 sv_RX7_128 2 (fun j : Nat => ([105, 110] : List Int32).getD j 0) (va_A [(h0, .inr (7, [v12_0, .ref q_1201, .int (zI (z12_length)), .int (zI (z12_at)), .int (zI (z12_kind)), .int (zI (z12_place)), .int (zI (z12_value)), v12_7, v12_8, v12_9, v12_10, v12_11, v12_12, v12_13, v12_14, v12_15, v12_16, v12_17])), (q_1201, .inl (cA_1201, 8192, .inl fa12_bytes))] sz) U U.heap ∧ va_Z "java/lang/String" "COMPACT_STRINGS" "Z" (.int 1) (va_A [(h0, .inr (7, [v12_0, .ref q_1201, .int (zI (z12_length)), .int (zI (z12_at)), .int (zI (z12_kind)), .int (zI (z12_place)), .int (zI (z12_value)), v12_7, v12_8, v12_9, v12_10, v12_11, v12_12, v12_13, v12_14, v12_15, v12_16, v12_17])), (q_1201, .inl (cA_1201, 8192, .inl fa12_bytes))] sz) U U.heap ∧ va_Z "jdk/internal/util/Preconditions" "SIOOBE_FORMATTER" "Ljava/util/function/BiFunction;" (.ref sx_fm) (va_A [(h0, .inr (7, [v12_0, .ref q_1201, .int (zI (z12_length)), .int (zI (z12_at)), .int (zI (z12_kind)), .int (zI (z12_place)), .int (zI (z12_value)), v12_7, v12_8, v12_9, v12_10, v12_11, v12_12, v12_13, v12_14, v12_15, v12_16, v12_17])), (q_1201, .inl (cA_1201, 8192, .inl fa12_bytes))] sz) U U.heap ∧ vk_R RX7 134 "show" sa_RX7_134 U ∧ vs_S sa_RX7_134 sv_RX7_134 4 (fun j : Nat => ([115, 104, 111, 119] : List Int32).getD j 0) (va_A [(h0, .inr (7, [v12_0, .ref q_1201, .int (zI (z12_length)), .int (zI (z12_at)), .int (zI (z12_kind)), .int (zI (z12_place)), .int (zI (z12_value)), v12_7, v12_8, v12_9, v12_10, v12_11, v12_12, v12_13, v12_14, v12_15, v12_16, v12_17])), (q_1201, .inl (cA_1201, 8192, .inl fa12_bytes))] sz) U U.heap ∧ vk_R RX7 136 "if" sa_RX7_136 U ∧ vs_S sa_RX7_136 sv_RX7_136 2 (fun j : Nat => ([105, 102] : List Int32).getD j 0) (va_A [(h0, .inr (7, [v12_0, .ref q_1201, .int (zI (z12_length)), .int (zI (z12_at)), .int (zI (z12_kind)), .int (zI (z12_place)), .int (zI (z12_value)), v12_7, v12_8, v12_9, v12_10, v12_11, v12_12, v12_13, v12_14, v12_15, v12_16, v12_17])), (q_1201, .inl (cA_1201, 8192, .inl fa12_bytes))] sz) U U.heap ∧ vk_R RX7 138 "jump" sa_RX7_138 U ∧ vs_S sa_RX7_138 sv_RX7_138 4 (fun j : Nat => ([106, 117, 109, 112] : List Int32).getD j 0) (va_A [(h0, .inr (7, [v12_0, .ref q_1201, .int (zI (z12_length)), .int (zI (z12_at)), .int (zI (z12_kind)), .int (zI (z12_place)), .int (zI (z12_value)), v12_7, v12_8, v12_9, v12_10, v12_11, v12_12, v12_13, v12_14, v12_15, v12_16, v12_17])), (q_1201, .inl (cA_1201, 8192, .inl fa12_bytes))] sz) U U.heap ∧ vk_R RX7 140 "ret" sa_RX7_140 U ∧ vs_S sa_RX7_140 sv_RX7_140 3 (fun j : Nat => ([114, 101, 116] : List Int32).getD j 0) (va_A [(h0, .inr (7, [v12_0, .ref q_1201, .int (zI (z12_length)), .int (zI (z12_at)), .int (zI (z12_kind)), .int (zI (z12_place)), .int (zI (z12_value)), v12_7, v12_8, v12_9, v12_10, v12_11, v12_12, v12_13, v12_14, v12_15, v12_16, v12_17])), (q_1201, .inl (cA_1201, 8192, .inl fa12_bytes))] sz) U U.heap ∧ vk_R RX7 142 "phi" sa_RX7_142 U ∧ vs_S sa_RX7_142 sv_RX7_142 3 (fun j : Nat => ([112, 104, 105] : List Int32).getD j 0) (va_A [(h0, .inr (7, [v12_0, .ref q_1201, .int (zI (z12_length)), .int (zI (z12_at)), .int (zI (z12_kind)), .int (zI (z12_place)), .int (zI (z12_value)), v12_7, v12_8, v12_9, v12_10, v12_11, v12_12, v12_13, v12_14, v12_15, v12_16, v12_17])), (q_1201, .inl (cA_1201, 8192, .inl fa12_bytes))] sz) U U.heap)) (va_Qv (fun _ : Unit => True) (fun (_ : Unit) (t : State) => ∃ (z0_9 : Int) (z1_9 : Int) (z2_9 : Int), ((0 ≤ z0_9 ∧ z0_9 ≤ 8200) ∧ (0 ≤ z1_9 ∧ z1_9 ≤ 13) ∧ (-2147483648 ≤ z2_9 ∧ z2_9 ≤ 2147483647) ∧ (RKV z1_9 z2_9 ∧ z0_9 ≤ 8194)) ∧ va_P (dC, dI) vwP [(h0, .inr (7, [v12_0, .ref q_1201, .int (zI (z12_length)), .int (zI (z0_9)), .int (zI (z1_9)), .int (zI (z12_place)), .int (zI (z2_9)), v12_7, v12_8, v12_9, v12_10, v12_11, v12_12, v12_13, v12_14, v12_15, v12_16, v12_17])), (q_1201, .inl (cA_1201, 8192, .inl fa12_bytes))] t.heap ∧ va_K (dC, dI) vwP [(cA_1201, .byte)] t ∧ va_D (va_A [(h0, .inr (7, [v12_0, .ref q_1201, .int (zI (z12_length)), .int (zI (z12_at)), .int (zI (z12_kind)), .int (zI (z12_place)), .int (zI (z12_value)), v12_7, v12_8, v12_9, v12_10, v12_11, v12_12, v12_13, v12_14, v12_15, v12_16, v12_17])), (q_1201, .inl (cA_1201, 8192, .inl fa12_bytes))] sz) [(h0, .inr (7, [v12_0, .ref q_1201, .int (zI (z12_length)), .int (zI (z0_9)), .int (zI (z1_9)), .int (zI (z12_place)), .int (zI (z2_9)), v12_7, v12_8, v12_9, v12_10, v12_11, v12_12, v12_13, v12_14, v12_15, v12_16, v12_17])), (q_1201, .inl (cA_1201, 8192, .inl fa12_bytes))]) (va_A [(h0, .inr (7, [v12_0, .ref q_1201, .int (zI (z12_length)), .int (zI (z12_at)), .int (zI (z12_kind)), .int (zI (z12_place)), .int (zI (z12_value)), v12_7, v12_8, v12_9, v12_10, v12_11, v12_12, v12_13, v12_14, v12_15, v12_16, v12_17])), (q_1201, .inl (cA_1201, 8192, .inl fa12_bytes))] sz)) 0 0 (va_A [(h0, .inr (7, [v12_0, .ref q_1201, .int (zI (z12_length)), .int (zI (z12_at)), .int (zI (z12_kind)), .int (zI (z12_place)), .int (zI (z12_value)), v12_7, v12_8, v12_9, v12_10, v12_11, v12_12, v12_13, v12_14, v12_15, v12_16, v12_17])), (q_1201, .inl (cA_1201, 8192, .inl fa12_bytes))] sz) := by
  refine Met.ofW (cc := cX7_scanWord) (maxL := 2) (ret := none) (by decide) rfl ?_
  intro p e s m args below meth c s₁ B hml hv
  obtain ⟨rfl, hsz, hP, hK, hD0, hp0, hp1, hp2, hp3, hp4, hp5, hp6, hp7, hp8, hp9, hp10, hp11, hp12, hp13⟩ := hv
  have hx := B.exec
  have hb := B.bytes
  have hr := B.returns
  have hts := atoms_spec (ws := v_X7_scanWord) B.pre
  have hown : s.vm.findClass RX7 = some m.cls := findClass_of_methodNamed B.named
  have hlocks := B.notSynchronized
  have ow : ∀ {k : Nat} {w : Cond}, o_X7_scanWord[k]? = some w → w.before ([.ref h0] : List Value).toArray s = true := fun h => hts _ (mow_X7_scanWord _ (List.mem_of_getElem? h))
  subst hsz
  have hD := hD0.self (sz := s.heap.size)
  generalize hAe : va_A [(h0, .inr (7, [v12_0, .ref q_1201, .int (zI (z12_length)), .int (zI (z12_at)), .int (zI (z12_kind)), .int (zI (z12_place)), .int (zI (z12_value)), v12_7, v12_8, v12_9, v12_10, v12_11, v12_12, v12_13, v12_14, v12_15, v12_16, v12_17])), (q_1201, .inl (cA_1201, 8192, .inl fa12_bytes))] s.heap.size = A at hD hp1 hp2 hp3 hp5 hp7 hp9 hp11 hp13 ⊢
  have hA : ∀ q : Nat, s.heap.size ≤ q → A q := fun q h => by rw [← hAe]; exact Or.inr h
  have hS : va_S A s.heap s.heap [] := va_S.rf
  have hP : va_P (dC, dI) vwP [(h0, .inr (7, [v12_0, .ref q_1201, .int (zI (z12_length)), .int (zI (z12_at)), .int (zI (z12_kind)), .int (zI (z12_place)), .int (zI (z12_value)), v12_7, v12_8, v12_9, v12_10, v12_11, v12_12, v12_13, v12_14, v12_15, v12_16, v12_17])), (q_1201, .inl (cA_1201, 8192, .inl fa12_bytes))] s.heap := hP
  have hl := lv_entry ([.ref h0]) (n := 2) (Nat.le_of_ble_eq_true rfl)
  rw [lg_entry_eq]
  generalize (lg_sl ([.ref h0]) ++ List.replicate (2 - (lg_sl ([.ref h0])).length) Slot.unset).toArray = ls at hl ⊢
  have hl : lv_has ls 2 [(0, .ref h0)] := hl
  obtain ⟨H, hH⟩ : ∃ H, H = s.heap := ⟨_, rfl⟩
  rw [← hH] at hP
  have hS : va_S A s.heap H [] := by rw [hH]; exact hS
  rw [← hH]
  refine zW_cap (fun Q hQ => ?_)
  have key0 : ∀ n0 : Nat, ∀ (e0_0_3 : Int) (e0_0_6 : Int) (ls : Array Slot) (H : Heap) (locs : List Loc), (0 ≤ e0_0_3 ∧ e0_0_3 ≤ 8200) → (-2147483648 ≤ e0_0_6 ∧ e0_0_6 ≤ 2147483647) → (z12_at ≤ e0_0_3 ∧ (e0_0_3 ≤ z12_at ∨ e0_0_3 ≤ z12_length)) → ((z12_length - e0_0_3 : Int).toNat) < n0 → lv_has ls 2 [(0, .ref h0)] → va_P (dC, dI) vwP [(h0, .inr (7, [v12_0, .ref q_1201, .int (zI (z12_length)), .int (zI (e0_0_3)), .int (zI (z12_kind)), .int (zI (z12_place)), .int (zI (e0_0_6)), v12_7, v12_8, v12_9, v12_10, v12_11, v12_12, v12_13, v12_14, v12_15, v12_16, v12_17])), (q_1201, .inl (cA_1201, 8192, .inl fa12_bytes))] H → va_D A [(h0, .inr (7, [v12_0, .ref q_1201, .int (zI (z12_length)), .int (zI (e0_0_3)), .int (zI (z12_kind)), .int (zI (z12_place)), .int (zI (e0_0_6)), v12_7, v12_8, v12_9, v12_10, v12_11, v12_12, v12_13, v12_14, v12_15, v12_16, v12_17])), (q_1201, .inl (cA_1201, 8192, .inl fa12_bytes))] → va_S A s.heap H locs → W p l e (headSpec v_X7_scanWord ({ frames := 6, cells := 0, slots := 0, locals := 127 })).room s m ([.ref h0] : List Value).toArray below meth c H locs 0 0 Q (F0 m 0 ls []) := by
    intro n0
    induction n0 with
    | zero => intro e0_0_3 e0_0_6 ls H locs je0_0_3 je0_0_6 jA hm0; exact absurd hm0 (by omega)
    | succ n0 ih0 =>
      intro e0_0_3 e0_0_6 ls H locs je0_0_3 je0_0_6 jA hm0 hl hP hD hS
      refine lv_aload_n hx hb dX7_scanWord_0 rfl (lv_at hl 0 rfl) ?_
      refine va_get (D := (dC, dI)) (ci := 7) (v := .int (zI (e0_0_3))) (C := RX7) (T := TX7) (N := 18) hx hb hts mem_X7_scanWord_0 hown hK hP 0 rfl rfl 3 (by decide) (ow (k := 0) rfl) (fun _ h9 => h9) rfl dX7_scanWord_1 ?_
      refine lv_aload_n hx hb dX7_scanWord_4 rfl (lv_at hl 0 rfl) ?_
      refine va_get (D := (dC, dI)) (ci := 7) (v := .int (zI (z12_length))) (C := RX7) (T := TX7) (N := 18) hx hb hts mem_X7_scanWord_0 hown hK hP 0 rfl rfl 2 (by decide) (ow (k := 1) rfl) (fun _ h9 => h9) rfl dX7_scanWord_5 ?_
      refine lv_icmp_ge (tgt := 47) hx hb dX7_scanWord_8 (by decide) (fun b8 => ?_) (fun b8 => ?_)
      · have yb8 : (z12_length : Int) ≤ (e0_0_3 : Int) := (zI_le (a := z12_length) (b := e0_0_3) (by omega) (by omega) (by omega) (by omega)).mp b8
        refine lv_aload_n hx hb dX7_scanWord_47 rfl (lv_at hl 0 rfl) ?_
        refine va_get (D := (dC, dI)) (ci := 7) (v := .int (zI (e0_0_3))) (C := RX7) (T := TX7) (N := 18) hx hb hts mem_X7_scanWord_0 hown hK hP 0 rfl rfl 3 (by decide) (ow (k := 0) rfl) (fun _ h9 => h9) rfl dX7_scanWord_48 ?_
        refine lv_aload_n hx hb dX7_scanWord_51 rfl (lv_at hl 0 rfl) ?_
        refine va_get (D := (dC, dI)) (ci := 7) (v := .int (zI (z12_place))) (C := RX7) (T := TX7) (N := 18) hx hb hts mem_X7_scanWord_0 hown hK hP 0 rfl rfl 5 (by decide) (ow (k := 2) rfl) (fun _ h9 => h9) rfl dX7_scanWord_52 ?_
        refine lv_iconst (v := 1) hx hb dX7_scanWord_55 (by decide) ?_
        refine lv_iadd hx hb dX7_scanWord_56 ?_
        refine lv_topi (fun z ez => ?_)
        obtain rfl : z = zI (z12_place + 1) := ez.trans (zI_add (z12_place) (1))
        refine lv_icmp_ne (tgt := 64) hx hb dX7_scanWord_57 (by decide) (fun b57 => ?_) (fun b57 => ?_)
        · have yb57 : ¬ (e0_0_3 : Int) = (z12_place + 1 : Int) := fun q => b57 ((zI_eq (a := e0_0_3) (b := z12_place + 1) (by omega) (by omega) (by omega) (by omega)).mpr q)
          refine lv_iconst (v := 0) hx hb dX7_scanWord_64 (by decide) ?_
          refine lv_istore_n (lv' := [(1, .int 0), (0, .ref h0)]) hx hb dX7_scanWord_65 rfl hl (by decide) rfl (fun ls hl => ?_)
          refine lv_iload_n hx hb dX7_scanWord_66 rfl (lv_at hl 0 rfl) ?_
          refine lv_if_eq (tgt := 101) hx hb dX7_scanWord_67 (by decide) (fun _ => ?_) (fun h9 => absurd h9 (by decide))
          refine lv_iload_n hx hb dX7_scanWord_101 rfl (lv_at hl 0 rfl) ?_
          refine lv_if_eq (tgt := 135) hx hb dX7_scanWord_102 (by decide) (fun _ => ?_) (fun h9 => absurd h9 (by decide))
          refine lv_aload_n hx hb dX7_scanWord_135 rfl (lv_at hl 1 rfl) ?_
          refine lv_aload_n hx hb dX7_scanWord_136 rfl (lv_at hl 1 rfl) ?_
          have hPc := hP.sub (ws' := [(h0, .inr (7, [v12_0, .ref q_1201, .int (zI (z12_length)), .int (zI (e0_0_3)), .int (zI (z12_kind)), .int (zI (z12_place)), .int (zI (e0_0_6)), v12_7, v12_8, v12_9, v12_10, v12_11, v12_12, v12_13, v12_14, v12_15, v12_16, v12_17])), (q_1201, .inl (cA_1201, 8192, .inl fa12_bytes))]) [0, 1] rfl
          have hDc := hD.sub (ws' := [(h0, .inr (7, [v12_0, .ref q_1201, .int (zI (z12_length)), .int (zI (e0_0_3)), .int (zI (z12_kind)), .int (zI (z12_place)), .int (zI (e0_0_6)), v12_7, v12_8, v12_9, v12_10, v12_11, v12_12, v12_13, v12_14, v12_15, v12_16, v12_17])), (q_1201, .inl (cA_1201, 8192, .inl fa12_bytes))]) [0, 1] (by decide) rfl
          have hKc := hK.sub (tys' := [(cA_1201, .byte)]) [0] rfl
          have hFc := va_free (wc := [(h0, .inr (7, [v12_0, .ref q_1201, .int (zI (z12_length)), .int (zI (e0_0_3)), .int (zI (z12_kind)), .int (zI (z12_place)), .int (zI (e0_0_6)), v12_7, v12_8, v12_9, v12_10, v12_11, v12_12, v12_13, v12_14, v12_15, v12_16, v12_17])), (q_1201, .inl (cA_1201, 8192, .inl fa12_bytes))]) hD hS hA [0, 1] rfl
          refine va_calli (va_runV (As := []) (rest := [.ref h0]) ⟨hx, hb, hml, hown, hts⟩ (c_X7_wordKind l dC dI h0 v12_0 z12_length e0_0_3 (.int (zI (z12_kind))) z12_place (.int (zI (e0_0_6))) v12_7 v12_8 v12_9 v12_10 v12_11 v12_12 v12_13 v12_14 v12_15 v12_16 v12_17 q_1201 cA_1201 fa12_bytes (by omega) (by omega) (by omega) (by omega) (by omega) H.size sa_RX7_128 sv_RX7_128 sx_fm sa_RX7_134 sv_RX7_134 sa_RX7_136 sv_RX7_136 sa_RX7_138 sv_RX7_138 sa_RX7_140 sv_RX7_140 sa_RX7_142 sv_RX7_142) (cwV 0 hts g_X7_scanWord_X7_wordKind rfl rfl rfl (by decide +kernel) ⟨(Nat.le_of_ble_eq_true rfl), (Nat.le_of_ble_eq_true rfl)⟩) ⟨fun a U g mk q => by obtain ⟨q0, q1, qP, qK, qD, e0, e1, e2, e3, e4, e5, e6, e7, e8, e9, e10, e11, e12, e13⟩ := q; exact ⟨q0, q1, qP, va_K.moved (u := U) (U := U.calling g mk a) (Vm.Alike.refl U.vm) qK, qD, vk_R.same (u := U) (U := U.calling g mk a) rfl e0, vs_S.moved (u := U) (U := U.calling g mk a) (Vm.Alike.refl U.vm) e1, va_Z.moved (u := U) (U := U.calling g mk a) (Vm.Alike.refl U.vm) e2, va_Z.moved (u := U) (U := U.calling g mk a) (Vm.Alike.refl U.vm) e3, vk_R.same (u := U) (U := U.calling g mk a) rfl e4, vs_S.moved (u := U) (U := U.calling g mk a) (Vm.Alike.refl U.vm) e5, vk_R.same (u := U) (U := U.calling g mk a) rfl e6, vs_S.moved (u := U) (U := U.calling g mk a) (Vm.Alike.refl U.vm) e7, vk_R.same (u := U) (U := U.calling g mk a) rfl e8, vs_S.moved (u := U) (U := U.calling g mk a) (Vm.Alike.refl U.vm) e9, vk_R.same (u := U) (U := U.calling g mk a) rfl e10, vs_S.moved (u := U) (U := U.calling g mk a) (Vm.Alike.refl U.vm) e11, vk_R.same (u := U) (U := U.calling g mk a) rfl e12, vs_S.moved (u := U) (U := U.calling g mk a) (Vm.Alike.refl U.vm) e13⟩, va_recv hKc hPc (ci := 7) (q0 := 0) rfl rfl, fun U hU hW => ⟨rfl, by rw [hU], by rw [hU]; exact hPc, va_K.moved hW.alike hKc, hDc.weaken (fun _ _ _ _ => trivial), vk_R.warm hW hp0, by rw [hU]; exact vs_S.narrow (vs_S.moved hW.alike (vs_S.kept hp1 hS.2.1)) hFc, by rw [hU]; exact va_Z.narrow (va_Z.moved hW.alike (va_Z.kept hp2 hS.2.1)) hFc, by rw [hU]; exact va_Z.narrow (va_Z.moved hW.alike (va_Z.kept hp3 hS.2.1)) hFc, vk_R.warm hW hp4, by rw [hU]; exact vs_S.narrow (vs_S.moved hW.alike (vs_S.kept hp5 hS.2.1)) hFc, vk_R.warm hW hp6, by rw [hU]; exact vs_S.narrow (vs_S.moved hW.alike (vs_S.kept hp7 hS.2.1)) hFc, vk_R.warm hW hp8, by rw [hU]; exact vs_S.narrow (vs_S.moved hW.alike (vs_S.kept hp9 hS.2.1)) hFc, vk_R.warm hW hp10, by rw [hU]; exact vs_S.narrow (vs_S.moved hW.alike (vs_S.kept hp11 hS.2.1)) hFc, vk_R.warm hW hp12, by rw [hU]; exact vs_S.narrow (vs_S.moved hW.alike (vs_S.kept hp13 hS.2.1)) hFc⟩⟩ rfl rfl hl.1 rfl (lv_room (Nat.le_of_ble_eq_true rfl)) dX7_scanWord_137 ⟨(Nat.le_of_ble_eq_true rfl), (Nat.le_of_ble_eq_true rfl)⟩) hS (fun q _ h => hFc q h) hFc (fun r_2001 u t H1 locs ht hvm hw hB hz1 hk1 hS => ?_)
          obtain ⟨hP1, hK1, hD1⟩ := hB
          rw [ht] at hP1
          have hK1 := va_K.moved hvm.symm hK1
          obtain ⟨hP, hD⟩ := va_join (wr := []) (w1 := [(h0, .inr (7, [v12_0, .ref q_1201, .int (zI (z12_length)), .int (zI (e0_0_3)), .int (zI (z12_kind)), .int (zI (z12_place)), .int (zI (e0_0_6)), v12_7, v12_8, v12_9, v12_10, v12_11, v12_12, v12_13, v12_14, v12_15, v12_16, v12_17])), (q_1201, .inl (cA_1201, 8192, .inl fa12_bytes))]) hP hD [0, 1] [] rfl rfl (by decide) (by decide) hk1 hFc hP1 hD1
          have hK := (hK.sub (tys' := []) [] rfl).app hK1
          generalize H1 = H at hP hS ⊢
          have hP : va_P (dC, dI) vwP [(h0, .inr (7, [v12_0, .ref q_1201, .int (zI (z12_length)), .int (zI (e0_0_3)), .int (zI (z12_kind)), .int (zI (z12_place)), .int (zI (e0_0_6)), v12_7, v12_8, v12_9, v12_10, v12_11, v12_12, v12_13, v12_14, v12_15, v12_16, v12_17])), (q_1201, .inl (cA_1201, 8192, .inl fa12_bytes))] H := hP
          have hD : va_D A [(h0, .inr (7, [v12_0, .ref q_1201, .int (zI (z12_length)), .int (zI (e0_0_3)), .int (zI (z12_kind)), .int (zI (z12_place)), .int (zI (e0_0_6)), v12_7, v12_8, v12_9, v12_10, v12_11, v12_12, v12_13, v12_14, v12_15, v12_16, v12_17])), (q_1201, .inl (cA_1201, 8192, .inl fa12_bytes))] := hD
          have hK : va_K (dC, dI) vwP [(cA_1201, .byte)] s := hK
          refine W.widen (k := 0) (n := 0) (Nat.le_of_ble_eq_true rfl) (Nat.le_of_ble_eq_true rfl) ?_
          have hw_2002 := hw
          obtain ⟨z_2003, rfl, hzz_2003⟩ := hw_2002
          refine va_put (D := (dC, dI)) (ci := 7) (v := .int (zI (z_2003))) (ty := .int) (C := RX7) (T := TX7) (N := 18) hx hb hts mem_X7_scanWord_0 tyX7 tyX7_ok nmX7 hown hK hP hD hS 0 rfl rfl 4 (by decide) (ow (k := 7) rfl) (fun _ h9 => h9) rfl (by decide +kernel) rfl rfl (Nat.le_of_ble_eq_true rfl) dX7_scanWord_140 (fun H locs hP hD hS => ?_)
          have hP : va_P (dC, dI) vwP [(h0, .inr (7, [v12_0, .ref q_1201, .int (zI (z12_length)), .int (zI (e0_0_3)), .int (zI (z_2003)), .int (zI (z12_place)), .int (zI (e0_0_6)), v12_7, v12_8, v12_9, v12_10, v12_11, v12_12, v12_13, v12_14, v12_15, v12_16, v12_17])), (q_1201, .inl (cA_1201, 8192, .inl fa12_bytes))] H := hP
          have hD : va_D A [(h0, .inr (7, [v12_0, .ref q_1201, .int (zI (z12_length)), .int (zI (e0_0_3)), .int (zI (z_2003)), .int (zI (z12_place)), .int (zI (e0_0_6)), v12_7, v12_8, v12_9, v12_10, v12_11, v12_12, v12_13, v12_14, v12_15, v12_16, v12_17])), (q_1201, .inl (cA_1201, 8192, .inl fa12_bytes))] := hD
          subst hQ
          refine W.widen (k := 0) (n := 0) (Nat.le_of_ble_eq_true rfl) (Nat.le_of_ble_eq_true rfl) ?_
          exact W.vret hx hb hr (fun t ht hW => ⟨⟨(), rfl, trivial, e0_0_3, z_2003, e0_0_6, ⟨(by omega), (by omega), (by omega), ⟨(by first | exact hu_2075.1 | (unfold RKV; omega)), by omega⟩⟩, by rw [ht]; exact hP, va_K.moved hW.alike hK, hD⟩, hS.F ht⟩) hS.2.2 dX7_scanWord_143
        · have yb57 : (e0_0_3 : Int) = (z12_place + 1 : Int) := (zI_eq (a := e0_0_3) (b := z12_place + 1) (by omega) (by omega) (by omega) (by omega)).mp b57
          refine lv_iconst (v := 1) hx hb dX7_scanWord_60 (by decide) ?_
          refine lv_goto (tgt := 65) hx hb dX7_scanWord_61 (by decide) ?_
          refine lv_istore_n (lv' := [(1, .int 1), (0, .ref h0)]) hx hb dX7_scanWord_65 rfl hl (by decide) rfl (fun ls hl => ?_)
          refine lv_iload_n hx hb dX7_scanWord_66 rfl (lv_at hl 0 rfl) ?_
          refine lv_if_eq (tgt := 101) hx hb dX7_scanWord_67 (by decide) (fun h9 => absurd h9 (by decide)) (fun _ => ?_)
          refine lv_aload_n hx hb dX7_scanWord_70 rfl (lv_at hl 1 rfl) ?_
          refine va_get (D := (dC, dI)) (ci := 7) (v := .int (zI (e0_0_6))) (C := RX7) (T := TX7) (N := 18) hx hb hts mem_X7_scanWord_0 hown hK hP 0 rfl rfl 6 (by decide) (ow (k := 8) rfl) (fun _ h9 => h9) rfl dX7_scanWord_71 ?_
          refine lv_bipush (v := 118) hx hb dX7_scanWord_74 (by decide) ?_
          refine lv_icmp_ne (tgt := 101) hx hb dX7_scanWord_76 (by decide) (fun b76 => ?_) (fun b76 => ?_)
          · have yb76 : ¬ (e0_0_6 : Int) = (118 : Int) := fun q => b76 ((zI_eq (a := e0_0_6) (b := 118) (by omega) (by omega) (by omega) (by omega)).mpr q)
            refine lv_iload_n hx hb dX7_scanWord_101 rfl (lv_at hl 0 rfl) ?_
            refine lv_if_eq (tgt := 135) hx hb dX7_scanWord_102 (by decide) (fun h9 => absurd h9 (by decide)) (fun _ => ?_)
            refine lv_aload_n hx hb dX7_scanWord_105 rfl (lv_at hl 1 rfl) ?_
            refine va_get (D := (dC, dI)) (ci := 7) (v := .int (zI (e0_0_6))) (C := RX7) (T := TX7) (N := 18) hx hb hts mem_X7_scanWord_0 hown hK hP 0 rfl rfl 6 (by decide) (ow (k := 8) rfl) (fun _ h9 => h9) rfl dX7_scanWord_106 ?_
            refine lv_bipush (v := 98) hx hb dX7_scanWord_109 (by decide) ?_
            refine lv_icmp_ne (tgt := 135) hx hb dX7_scanWord_111 (by decide) (fun b111 => ?_) (fun b111 => ?_)
            · have yb111 : ¬ (e0_0_6 : Int) = (98 : Int) := fun q => b111 ((zI_eq (a := e0_0_6) (b := 98) (by omega) (by omega) (by omega) (by omega)).mpr q)
              refine lv_aload_n hx hb dX7_scanWord_135 rfl (lv_at hl 1 rfl) ?_
              refine lv_aload_n hx hb dX7_scanWord_136 rfl (lv_at hl 1 rfl) ?_
              have hPc := hP.sub (ws' := [(h0, .inr (7, [v12_0, .ref q_1201, .int (zI (z12_length)), .int (zI (e0_0_3)), .int (zI (z12_kind)), .int (zI (z12_place)), .int (zI (e0_0_6)), v12_7, v12_8, v12_9, v12_10, v12_11, v12_12, v12_13, v12_14, v12_15, v12_16, v12_17])), (q_1201, .inl (cA_1201, 8192, .inl fa12_bytes))]) [0, 1] rfl
              have hDc := hD.sub (ws' := [(h0, .inr (7, [v12_0, .ref q_1201, .int (zI (z12_length)), .int (zI (e0_0_3)), .int (zI (z12_kind)), .int (zI (z12_place)), .int (zI (e0_0_6)), v12_7, v12_8, v12_9, v12_10, v12_11, v12_12, v12_13, v12_14, v12_15, v12_16, v12_17])), (q_1201, .inl (cA_1201, 8192, .inl fa12_bytes))]) [0, 1] (by decide) rfl
              have hKc := hK.sub (tys' := [(cA_1201, .byte)]) [0] rfl
              have hFc := va_free (wc := [(h0, .inr (7, [v12_0, .ref q_1201, .int (zI (z12_length)), .int (zI (e0_0_3)), .int (zI (z12_kind)), .int (zI (z12_place)), .int (zI (e0_0_6)), v12_7, v12_8, v12_9, v12_10, v12_11, v12_12, v12_13, v12_14, v12_15, v12_16, v12_17])), (q_1201, .inl (cA_1201, 8192, .inl fa12_bytes))]) hD hS hA [0, 1] rfl
              refine va_calli (va_runV (As := []) (rest := [.ref h0]) ⟨hx, hb, hml, hown, hts⟩ (c_X7_wordKind l dC dI h0 v12_0 z12_length e0_0_3 (.int (zI (z12_kind))) z12_place (.int (zI (e0_0_6))) v12_7 v12_8 v12_9 v12_10 v12_11 v12_12 v12_13 v12_14 v12_15 v12_16 v12_17 q_1201 cA_1201 fa12_bytes (by omega) (by omega) (by omega) (by omega) (by omega) H.size sa_RX7_128 sv_RX7_128 sx_fm sa_RX7_134 sv_RX7_134 sa_RX7_136 sv_RX7_136 sa_RX7_138 sv_RX7_138 sa_RX7_140 sv_RX7_140 sa_RX7_142 sv_RX7_142) (cwV 0 hts g_X7_scanWord_X7_wordKind rfl rfl rfl (by decide +kernel) ⟨(Nat.le_of_ble_eq_true rfl), (Nat.le_of_ble_eq_true rfl)⟩) ⟨fun a U g mk q => by obtain ⟨q0, q1, qP, qK, qD, e0, e1, e2, e3, e4, e5, e6, e7, e8, e9, e10, e11, e12, e13⟩ := q; exact ⟨q0, q1, qP, va_K.moved (u := U) (U := U.calling g mk a) (Vm.Alike.refl U.vm) qK, qD, vk_R.same (u := U) (U := U.calling g mk a) rfl e0, vs_S.moved (u := U) (U := U.calling g mk a) (Vm.Alike.refl U.vm) e1, va_Z.moved (u := U) (U := U.calling g mk a) (Vm.Alike.refl U.vm) e2, va_Z.moved (u := U) (U := U.calling g mk a) (Vm.Alike.refl U.vm) e3, vk_R.same (u := U) (U := U.calling g mk a) rfl e4, vs_S.moved (u := U) (U := U.calling g mk a) (Vm.Alike.refl U.vm) e5, vk_R.same (u := U) (U := U.calling g mk a) rfl e6, vs_S.moved (u := U) (U := U.calling g mk a) (Vm.Alike.refl U.vm) e7, vk_R.same (u := U) (U := U.calling g mk a) rfl e8, vs_S.moved (u := U) (U := U.calling g mk a) (Vm.Alike.refl U.vm) e9, vk_R.same (u := U) (U := U.calling g mk a) rfl e10, vs_S.moved (u := U) (U := U.calling g mk a) (Vm.Alike.refl U.vm) e11, vk_R.same (u := U) (U := U.calling g mk a) rfl e12, vs_S.moved (u := U) (U := U.calling g mk a) (Vm.Alike.refl U.vm) e13⟩, va_recv hKc hPc (ci := 7) (q0 := 0) rfl rfl, fun U hU hW => ⟨rfl, by rw [hU], by rw [hU]; exact hPc, va_K.moved hW.alike hKc, hDc.weaken (fun _ _ _ _ => trivial), vk_R.warm hW hp0, by rw [hU]; exact vs_S.narrow (vs_S.moved hW.alike (vs_S.kept hp1 hS.2.1)) hFc, by rw [hU]; exact va_Z.narrow (va_Z.moved hW.alike (va_Z.kept hp2 hS.2.1)) hFc, by rw [hU]; exact va_Z.narrow (va_Z.moved hW.alike (va_Z.kept hp3 hS.2.1)) hFc, vk_R.warm hW hp4, by rw [hU]; exact vs_S.narrow (vs_S.moved hW.alike (vs_S.kept hp5 hS.2.1)) hFc, vk_R.warm hW hp6, by rw [hU]; exact vs_S.narrow (vs_S.moved hW.alike (vs_S.kept hp7 hS.2.1)) hFc, vk_R.warm hW hp8, by rw [hU]; exact vs_S.narrow (vs_S.moved hW.alike (vs_S.kept hp9 hS.2.1)) hFc, vk_R.warm hW hp10, by rw [hU]; exact vs_S.narrow (vs_S.moved hW.alike (vs_S.kept hp11 hS.2.1)) hFc, vk_R.warm hW hp12, by rw [hU]; exact vs_S.narrow (vs_S.moved hW.alike (vs_S.kept hp13 hS.2.1)) hFc⟩⟩ rfl rfl hl.1 rfl (lv_room (Nat.le_of_ble_eq_true rfl)) dX7_scanWord_137 ⟨(Nat.le_of_ble_eq_true rfl), (Nat.le_of_ble_eq_true rfl)⟩) hS (fun q _ h => hFc q h) hFc (fun r_2004 u t H1 locs ht hvm hw hB hz1 hk1 hS => ?_)
              obtain ⟨hP1, hK1, hD1⟩ := hB
              rw [ht] at hP1
              have hK1 := va_K.moved hvm.symm hK1
              obtain ⟨hP, hD⟩ := va_join (wr := []) (w1 := [(h0, .inr (7, [v12_0, .ref q_1201, .int (zI (z12_length)), .int (zI (e0_0_3)), .int (zI (z12_kind)), .int (zI (z12_place)), .int (zI (e0_0_6)), v12_7, v12_8, v12_9, v12_10, v12_11, v12_12, v12_13, v12_14, v12_15, v12_16, v12_17])), (q_1201, .inl (cA_1201, 8192, .inl fa12_bytes))]) hP hD [0, 1] [] rfl rfl (by decide) (by decide) hk1 hFc hP1 hD1
              have hK := (hK.sub (tys' := []) [] rfl).app hK1
              generalize H1 = H at hP hS ⊢
              have hP : va_P (dC, dI) vwP [(h0, .inr (7, [v12_0, .ref q_1201, .int (zI (z12_length)), .int (zI (e0_0_3)), .int (zI (z12_kind)), .int (zI (z12_place)), .int (zI (e0_0_6)), v12_7, v12_8, v12_9, v12_10, v12_11, v12_12, v12_13, v12_14, v12_15, v12_16, v12_17])), (q_1201, .inl (cA_1201, 8192, .inl fa12_bytes))] H := hP
              have hD : va_D A [(h0, .inr (7, [v12_0, .ref q_1201, .int (zI (z12_length)), .int (zI (e0_0_3)), .int (zI (z12_kind)), .int (zI (z12_place)), .int (zI (e0_0_6)), v12_7, v12_8, v12_9, v12_10, v12_11, v12_12, v12_13, v12_14, v12_15, v12_16, v12_17])), (q_1201, .inl (cA_1201, 8192, .inl fa12_bytes))] := hD
              have hK : va_K (dC, dI) vwP [(cA_1201, .byte)] s := hK
              refine W.widen (k := 0) (n := 0) (Nat.le_of_ble_eq_true rfl) (Nat.le_of_ble_eq_true rfl) ?_
              have hw_2005 := hw
              obtain ⟨z_2006, rfl, hzz_2006⟩ := hw_2005
              refine va_put (D := (dC, dI)) (ci := 7) (v := .int (zI (z_2006))) (ty := .int) (C := RX7) (T := TX7) (N := 18) hx hb hts mem_X7_scanWord_0 tyX7 tyX7_ok nmX7 hown hK hP hD hS 0 rfl rfl 4 (by decide) (ow (k := 7) rfl) (fun _ h9 => h9) rfl (by decide +kernel) rfl rfl (Nat.le_of_ble_eq_true rfl) dX7_scanWord_140 (fun H locs hP hD hS => ?_)
              have hP : va_P (dC, dI) vwP [(h0, .inr (7, [v12_0, .ref q_1201, .int (zI (z12_length)), .int (zI (e0_0_3)), .int (zI (z_2006)), .int (zI (z12_place)), .int (zI (e0_0_6)), v12_7, v12_8, v12_9, v12_10, v12_11, v12_12, v12_13, v12_14, v12_15, v12_16, v12_17])), (q_1201, .inl (cA_1201, 8192, .inl fa12_bytes))] H := hP
              have hD : va_D A [(h0, .inr (7, [v12_0, .ref q_1201, .int (zI (z12_length)), .int (zI (e0_0_3)), .int (zI (z_2006)), .int (zI (z12_place)), .int (zI (e0_0_6)), v12_7, v12_8, v12_9, v12_10, v12_11, v12_12, v12_13, v12_14, v12_15, v12_16, v12_17])), (q_1201, .inl (cA_1201, 8192, .inl fa12_bytes))] := hD
              subst hQ
              refine W.widen (k := 0) (n := 0) (Nat.le_of_ble_eq_true rfl) (Nat.le_of_ble_eq_true rfl) ?_
              exact W.vret hx hb hr (fun t ht hW => ⟨⟨(), rfl, trivial, e0_0_3, z_2006, e0_0_6, ⟨(by omega), (by omega), (by omega), ⟨(by first | exact hu_2075.1 | (unfold RKV; omega)), by omega⟩⟩, by rw [ht]; exact hP, va_K.moved hW.alike hK, hD⟩, hS.F ht⟩) hS.2.2 dX7_scanWord_143
            · have yb111 : (e0_0_6 : Int) = (98 : Int) := (zI_eq (a := e0_0_6) (b := 98) (by omega) (by omega) (by omega) (by omega)).mp b111
              refine lv_aload_n hx hb dX7_scanWord_114 rfl (lv_at hl 1 rfl) ?_
              refine lv_aload_n hx hb dX7_scanWord_115 rfl (lv_at hl 1 rfl) ?_
              refine va_get (D := (dC, dI)) (ci := 7) (v := .int (zI (e0_0_3))) (C := RX7) (T := TX7) (N := 18) hx hb hts mem_X7_scanWord_0 hown hK hP 0 rfl rfl 3 (by decide) (ow (k := 0) rfl) (fun _ h9 => h9) rfl dX7_scanWord_116 ?_
              have hPc := hP.sub (ws' := [(h0, .inr (7, [v12_0, .ref q_1201, .int (zI (z12_length)), .int (zI (e0_0_3)), .int (zI (z12_kind)), .int (zI (z12_place)), .int (zI (e0_0_6)), v12_7, v12_8, v12_9, v12_10, v12_11, v12_12, v12_13, v12_14, v12_15, v12_16, v12_17])), (q_1201, .inl (cA_1201, 8192, .inl fa12_bytes))]) [0, 1] rfl
              have hDc := hD.sub (ws' := [(h0, .inr (7, [v12_0, .ref q_1201, .int (zI (z12_length)), .int (zI (e0_0_3)), .int (zI (z12_kind)), .int (zI (z12_place)), .int (zI (e0_0_6)), v12_7, v12_8, v12_9, v12_10, v12_11, v12_12, v12_13, v12_14, v12_15, v12_16, v12_17])), (q_1201, .inl (cA_1201, 8192, .inl fa12_bytes))]) [0, 1] (by decide) rfl
              have hKc := hK.sub (tys' := [(cA_1201, .byte)]) [0] rfl
              have hFc := va_free (wc := [(h0, .inr (7, [v12_0, .ref q_1201, .int (zI (z12_length)), .int (zI (e0_0_3)), .int (zI (z12_kind)), .int (zI (z12_place)), .int (zI (e0_0_6)), v12_7, v12_8, v12_9, v12_10, v12_11, v12_12, v12_13, v12_14, v12_15, v12_16, v12_17])), (q_1201, .inl (cA_1201, 8192, .inl fa12_bytes))]) hD hS hA [0, 1] rfl
              refine va_calli (va_runV (As := [.int (zI (e0_0_3))]) (rest := []) ⟨hx, hb, hml, hown, hts⟩ (c_X7_digitAt l dC dI h0 v12_0 z12_length (.int (zI (e0_0_3))) (.int (zI (z12_kind))) (.int (zI (z12_place))) (.int (zI (e0_0_6))) v12_7 v12_8 v12_9 v12_10 v12_11 v12_12 v12_13 v12_14 v12_15 v12_16 v12_17 q_1201 cA_1201 fa12_bytes e0_0_3 (by omega) (by omega) H.size) (cwV 1 hts g_X7_scanWord_X7_digitAt rfl rfl rfl (by decide +kernel) ⟨(Nat.le_of_ble_eq_true rfl), (Nat.le_of_ble_eq_true rfl)⟩) ⟨fun a U g mk q => by obtain ⟨q0, q1, qP, qK, qD⟩ := q; exact ⟨q0, q1, qP, va_K.moved (u := U) (U := U.calling g mk a) (Vm.Alike.refl U.vm) qK, qD⟩, va_recv hKc hPc (ci := 7) (q0 := 0) rfl rfl, fun U hU hW => ⟨rfl, by rw [hU], by rw [hU]; exact hPc, va_K.moved hW.alike hKc, hDc.weaken (fun _ _ _ _ => trivial)⟩⟩ rfl rfl hl.1 rfl (lv_room (Nat.le_of_ble_eq_true rfl)) dX7_scanWord_119 ⟨(Nat.le_of_ble_eq_true rfl), (Nat.le_of_ble_eq_true rfl)⟩) hS (fun q _ h => hFc q h) hFc (fun r_2007 u t H1 locs ht hvm hw hB hz1 hk1 hS => ?_)
              obtain ⟨hP1, hK1, hD1⟩ := hB
              rw [ht] at hP1
              have hK1 := va_K.moved hvm.symm hK1
              obtain ⟨hP, hD⟩ := va_join (wr := []) (w1 := [(h0, .inr (7, [v12_0, .ref q_1201, .int (zI (z12_length)), .int (zI (e0_0_3)), .int (zI (z12_kind)), .int (zI (z12_place)), .int (zI (e0_0_6)), v12_7, v12_8, v12_9, v12_10, v12_11, v12_12, v12_13, v12_14, v12_15, v12_16, v12_17])), (q_1201, .inl (cA_1201, 8192, .inl fa12_bytes))]) hP hD [0, 1] [] rfl rfl (by decide) (by decide) hk1 hFc hP1 hD1
              have hK := (hK.sub (tys' := []) [] rfl).app hK1
              generalize H1 = H at hP hS ⊢
              have hP : va_P (dC, dI) vwP [(h0, .inr (7, [v12_0, .ref q_1201, .int (zI (z12_length)), .int (zI (e0_0_3)), .int (zI (z12_kind)), .int (zI (z12_place)), .int (zI (e0_0_6)), v12_7, v12_8, v12_9, v12_10, v12_11, v12_12, v12_13, v12_14, v12_15, v12_16, v12_17])), (q_1201, .inl (cA_1201, 8192, .inl fa12_bytes))] H := hP
              have hD : va_D A [(h0, .inr (7, [v12_0, .ref q_1201, .int (zI (z12_length)), .int (zI (e0_0_3)), .int (zI (z12_kind)), .int (zI (z12_place)), .int (zI (e0_0_6)), v12_7, v12_8, v12_9, v12_10, v12_11, v12_12, v12_13, v12_14, v12_15, v12_16, v12_17])), (q_1201, .inl (cA_1201, 8192, .inl fa12_bytes))] := hD
              have hK : va_K (dC, dI) vwP [(cA_1201, .byte)] s := hK
              refine W.widen (k := 0) (n := 0) (Nat.le_of_ble_eq_true rfl) (Nat.le_of_ble_eq_true rfl) ?_
              obtain rfl : r_2007 = (zI (dgF fa12_bytes z12_length (e0_0_3))) := hw
              have := dgF_spec fa12_bytes z12_length (e0_0_3)
              have := btF_rng fa12_bytes z12_length (e0_0_3)
              refine lv_if_eq (tgt := 135) hx hb dX7_scanWord_122 (by decide) (fun b122 => ?_) (fun b122 => ?_)
              · have yb122 : (dgF fa12_bytes z12_length (e0_0_3) : Int) = (0 : Int) := (zI_eq (a := dgF fa12_bytes z12_length (e0_0_3)) (b := 0) (by omega) (by omega) (by omega) (by omega)).mp b122
                refine lv_aload_n hx hb dX7_scanWord_135 rfl (lv_at hl 1 rfl) ?_
                refine lv_aload_n hx hb dX7_scanWord_136 rfl (lv_at hl 1 rfl) ?_
                have hPc := hP.sub (ws' := [(h0, .inr (7, [v12_0, .ref q_1201, .int (zI (z12_length)), .int (zI (e0_0_3)), .int (zI (z12_kind)), .int (zI (z12_place)), .int (zI (e0_0_6)), v12_7, v12_8, v12_9, v12_10, v12_11, v12_12, v12_13, v12_14, v12_15, v12_16, v12_17])), (q_1201, .inl (cA_1201, 8192, .inl fa12_bytes))]) [0, 1] rfl
                have hDc := hD.sub (ws' := [(h0, .inr (7, [v12_0, .ref q_1201, .int (zI (z12_length)), .int (zI (e0_0_3)), .int (zI (z12_kind)), .int (zI (z12_place)), .int (zI (e0_0_6)), v12_7, v12_8, v12_9, v12_10, v12_11, v12_12, v12_13, v12_14, v12_15, v12_16, v12_17])), (q_1201, .inl (cA_1201, 8192, .inl fa12_bytes))]) [0, 1] (by decide) rfl
                have hKc := hK.sub (tys' := [(cA_1201, .byte)]) [0] rfl
                have hFc := va_free (wc := [(h0, .inr (7, [v12_0, .ref q_1201, .int (zI (z12_length)), .int (zI (e0_0_3)), .int (zI (z12_kind)), .int (zI (z12_place)), .int (zI (e0_0_6)), v12_7, v12_8, v12_9, v12_10, v12_11, v12_12, v12_13, v12_14, v12_15, v12_16, v12_17])), (q_1201, .inl (cA_1201, 8192, .inl fa12_bytes))]) hD hS hA [0, 1] rfl
                refine va_calli (va_runV (As := []) (rest := [.ref h0]) ⟨hx, hb, hml, hown, hts⟩ (c_X7_wordKind l dC dI h0 v12_0 z12_length e0_0_3 (.int (zI (z12_kind))) z12_place (.int (zI (e0_0_6))) v12_7 v12_8 v12_9 v12_10 v12_11 v12_12 v12_13 v12_14 v12_15 v12_16 v12_17 q_1201 cA_1201 fa12_bytes (by omega) (by omega) (by omega) (by omega) (by omega) H.size sa_RX7_128 sv_RX7_128 sx_fm sa_RX7_134 sv_RX7_134 sa_RX7_136 sv_RX7_136 sa_RX7_138 sv_RX7_138 sa_RX7_140 sv_RX7_140 sa_RX7_142 sv_RX7_142) (cwV 0 hts g_X7_scanWord_X7_wordKind rfl rfl rfl (by decide +kernel) ⟨(Nat.le_of_ble_eq_true rfl), (Nat.le_of_ble_eq_true rfl)⟩) ⟨fun a U g mk q => by obtain ⟨q0, q1, qP, qK, qD, e0, e1, e2, e3, e4, e5, e6, e7, e8, e9, e10, e11, e12, e13⟩ := q; exact ⟨q0, q1, qP, va_K.moved (u := U) (U := U.calling g mk a) (Vm.Alike.refl U.vm) qK, qD, vk_R.same (u := U) (U := U.calling g mk a) rfl e0, vs_S.moved (u := U) (U := U.calling g mk a) (Vm.Alike.refl U.vm) e1, va_Z.moved (u := U) (U := U.calling g mk a) (Vm.Alike.refl U.vm) e2, va_Z.moved (u := U) (U := U.calling g mk a) (Vm.Alike.refl U.vm) e3, vk_R.same (u := U) (U := U.calling g mk a) rfl e4, vs_S.moved (u := U) (U := U.calling g mk a) (Vm.Alike.refl U.vm) e5, vk_R.same (u := U) (U := U.calling g mk a) rfl e6, vs_S.moved (u := U) (U := U.calling g mk a) (Vm.Alike.refl U.vm) e7, vk_R.same (u := U) (U := U.calling g mk a) rfl e8, vs_S.moved (u := U) (U := U.calling g mk a) (Vm.Alike.refl U.vm) e9, vk_R.same (u := U) (U := U.calling g mk a) rfl e10, vs_S.moved (u := U) (U := U.calling g mk a) (Vm.Alike.refl U.vm) e11, vk_R.same (u := U) (U := U.calling g mk a) rfl e12, vs_S.moved (u := U) (U := U.calling g mk a) (Vm.Alike.refl U.vm) e13⟩, va_recv hKc hPc (ci := 7) (q0 := 0) rfl rfl, fun U hU hW => ⟨rfl, by rw [hU], by rw [hU]; exact hPc, va_K.moved hW.alike hKc, hDc.weaken (fun _ _ _ _ => trivial), vk_R.warm hW hp0, by rw [hU]; exact vs_S.narrow (vs_S.moved hW.alike (vs_S.kept hp1 hS.2.1)) hFc, by rw [hU]; exact va_Z.narrow (va_Z.moved hW.alike (va_Z.kept hp2 hS.2.1)) hFc, by rw [hU]; exact va_Z.narrow (va_Z.moved hW.alike (va_Z.kept hp3 hS.2.1)) hFc, vk_R.warm hW hp4, by rw [hU]; exact vs_S.narrow (vs_S.moved hW.alike (vs_S.kept hp5 hS.2.1)) hFc, vk_R.warm hW hp6, by rw [hU]; exact vs_S.narrow (vs_S.moved hW.alike (vs_S.kept hp7 hS.2.1)) hFc, vk_R.warm hW hp8, by rw [hU]; exact vs_S.narrow (vs_S.moved hW.alike (vs_S.kept hp9 hS.2.1)) hFc, vk_R.warm hW hp10, by rw [hU]; exact vs_S.narrow (vs_S.moved hW.alike (vs_S.kept hp11 hS.2.1)) hFc, vk_R.warm hW hp12, by rw [hU]; exact vs_S.narrow (vs_S.moved hW.alike (vs_S.kept hp13 hS.2.1)) hFc⟩⟩ rfl rfl hl.1 rfl (lv_room (Nat.le_of_ble_eq_true rfl)) dX7_scanWord_137 ⟨(Nat.le_of_ble_eq_true rfl), (Nat.le_of_ble_eq_true rfl)⟩) hS (fun q _ h => hFc q h) hFc (fun r_2008 u t H1 locs ht hvm hw hB hz1 hk1 hS => ?_)
                obtain ⟨hP1, hK1, hD1⟩ := hB
                rw [ht] at hP1
                have hK1 := va_K.moved hvm.symm hK1
                obtain ⟨hP, hD⟩ := va_join (wr := []) (w1 := [(h0, .inr (7, [v12_0, .ref q_1201, .int (zI (z12_length)), .int (zI (e0_0_3)), .int (zI (z12_kind)), .int (zI (z12_place)), .int (zI (e0_0_6)), v12_7, v12_8, v12_9, v12_10, v12_11, v12_12, v12_13, v12_14, v12_15, v12_16, v12_17])), (q_1201, .inl (cA_1201, 8192, .inl fa12_bytes))]) hP hD [0, 1] [] rfl rfl (by decide) (by decide) hk1 hFc hP1 hD1
                have hK := (hK.sub (tys' := []) [] rfl).app hK1
                generalize H1 = H at hP hS ⊢
                have hP : va_P (dC, dI) vwP [(h0, .inr (7, [v12_0, .ref q_1201, .int (zI (z12_length)), .int (zI (e0_0_3)), .int (zI (z12_kind)), .int (zI (z12_place)), .int (zI (e0_0_6)), v12_7, v12_8, v12_9, v12_10, v12_11, v12_12, v12_13, v12_14, v12_15, v12_16, v12_17])), (q_1201, .inl (cA_1201, 8192, .inl fa12_bytes))] H := hP
                have hD : va_D A [(h0, .inr (7, [v12_0, .ref q_1201, .int (zI (z12_length)), .int (zI (e0_0_3)), .int (zI (z12_kind)), .int (zI (z12_place)), .int (zI (e0_0_6)), v12_7, v12_8, v12_9, v12_10, v12_11, v12_12, v12_13, v12_14, v12_15, v12_16, v12_17])), (q_1201, .inl (cA_1201, 8192, .inl fa12_bytes))] := hD
                have hK : va_K (dC, dI) vwP [(cA_1201, .byte)] s := hK
                refine W.widen (k := 0) (n := 0) (Nat.le_of_ble_eq_true rfl) (Nat.le_of_ble_eq_true rfl) ?_
                have hw_2009 := hw
                obtain ⟨z_2010, rfl, hzz_2010⟩ := hw_2009
                refine va_put (D := (dC, dI)) (ci := 7) (v := .int (zI (z_2010))) (ty := .int) (C := RX7) (T := TX7) (N := 18) hx hb hts mem_X7_scanWord_0 tyX7 tyX7_ok nmX7 hown hK hP hD hS 0 rfl rfl 4 (by decide) (ow (k := 7) rfl) (fun _ h9 => h9) rfl (by decide +kernel) rfl rfl (Nat.le_of_ble_eq_true rfl) dX7_scanWord_140 (fun H locs hP hD hS => ?_)
                have hP : va_P (dC, dI) vwP [(h0, .inr (7, [v12_0, .ref q_1201, .int (zI (z12_length)), .int (zI (e0_0_3)), .int (zI (z_2010)), .int (zI (z12_place)), .int (zI (e0_0_6)), v12_7, v12_8, v12_9, v12_10, v12_11, v12_12, v12_13, v12_14, v12_15, v12_16, v12_17])), (q_1201, .inl (cA_1201, 8192, .inl fa12_bytes))] H := hP
                have hD : va_D A [(h0, .inr (7, [v12_0, .ref q_1201, .int (zI (z12_length)), .int (zI (e0_0_3)), .int (zI (z_2010)), .int (zI (z12_place)), .int (zI (e0_0_6)), v12_7, v12_8, v12_9, v12_10, v12_11, v12_12, v12_13, v12_14, v12_15, v12_16, v12_17])), (q_1201, .inl (cA_1201, 8192, .inl fa12_bytes))] := hD
                subst hQ
                refine W.widen (k := 0) (n := 0) (Nat.le_of_ble_eq_true rfl) (Nat.le_of_ble_eq_true rfl) ?_
                exact W.vret hx hb hr (fun t ht hW => ⟨⟨(), rfl, trivial, e0_0_3, z_2010, e0_0_6, ⟨(by omega), (by omega), (by omega), ⟨(by first | exact hu_2075.1 | (unfold RKV; omega)), by omega⟩⟩, by rw [ht]; exact hP, va_K.moved hW.alike hK, hD⟩, hS.F ht⟩) hS.2.2 dX7_scanWord_143
              · have yb122 : ¬ (dgF fa12_bytes z12_length (e0_0_3) : Int) = (0 : Int) := fun q => b122 ((zI_eq (a := dgF fa12_bytes z12_length (e0_0_3)) (b := 0) (by omega) (by omega) (by omega) (by omega)).mpr q)
                refine lv_aload_n hx hb dX7_scanWord_125 rfl (lv_at hl 1 rfl) ?_
                refine lv_iconst (v := 4) hx hb dX7_scanWord_126 (by decide) ?_
                refine lv_bipush (v := 60) hx hb dX7_scanWord_127 (by decide) ?_
                have hPc := hP.sub (ws' := [(h0, .inr (7, [v12_0, .ref q_1201, .int (zI (z12_length)), .int (zI (e0_0_3)), .int (zI (z12_kind)), .int (zI (z12_place)), .int (zI (e0_0_6)), v12_7, v12_8, v12_9, v12_10, v12_11, v12_12, v12_13, v12_14, v12_15, v12_16, v12_17])), (q_1201, .inl (cA_1201, 8192, .inl fa12_bytes))]) [0, 1] rfl
                have hDc := hD.sub (ws' := [(h0, .inr (7, [v12_0, .ref q_1201, .int (zI (z12_length)), .int (zI (e0_0_3)), .int (zI (z12_kind)), .int (zI (z12_place)), .int (zI (e0_0_6)), v12_7, v12_8, v12_9, v12_10, v12_11, v12_12, v12_13, v12_14, v12_15, v12_16, v12_17])), (q_1201, .inl (cA_1201, 8192, .inl fa12_bytes))]) [0, 1] (by decide) rfl
                have hKc := hK.sub (tys' := [(cA_1201, .byte)]) [0] rfl
                have hFc := va_free (wc := [(h0, .inr (7, [v12_0, .ref q_1201, .int (zI (z12_length)), .int (zI (e0_0_3)), .int (zI (z12_kind)), .int (zI (z12_place)), .int (zI (e0_0_6)), v12_7, v12_8, v12_9, v12_10, v12_11, v12_12, v12_13, v12_14, v12_15, v12_16, v12_17])), (q_1201, .inl (cA_1201, 8192, .inl fa12_bytes))]) hD hS hA [0, 1] rfl
                refine va_callv (va_runV (As := [.int 4, .int 60]) (rest := []) ⟨hx, hb, hml, hown, hts⟩ (c_X7_scanNamed l dC dI h0 v12_0 z12_length e0_0_3 z12_kind (.int (zI (z12_place))) e0_0_6 v12_7 v12_8 v12_9 v12_10 v12_11 v12_12 v12_13 v12_14 v12_15 v12_16 v12_17 q_1201 cA_1201 fa12_bytes 4 60 (by omega) (by omega) (by omega) (by omega) (by omega) (by omega) H.size) (cwV 2 hts g_X7_scanWord_X7_scanNamed rfl rfl rfl (by decide +kernel) ⟨(Nat.le_of_ble_eq_true rfl), (Nat.le_of_ble_eq_true rfl)⟩) ⟨fun a U g mk q => by obtain ⟨q0, q1, qP, qK, qD⟩ := q; exact ⟨q0, q1, qP, va_K.moved (u := U) (U := U.calling g mk a) (Vm.Alike.refl U.vm) qK, qD⟩, va_recv hKc hPc (ci := 7) (q0 := 0) rfl rfl, fun U hU hW => ⟨rfl, by rw [hU], by rw [hU]; exact hPc, va_K.moved hW.alike hKc, hDc.weaken (fun _ _ _ _ => trivial)⟩⟩ rfl rfl hl.1 rfl (lv_room (Nat.le_of_ble_eq_true rfl)) dX7_scanWord_129 ⟨(Nat.le_of_ble_eq_true rfl), (Nat.le_of_ble_eq_true rfl)⟩) hS (fun q _ h => hFc q h) hFc (fun  u t H1 locs ht hvm hw hB hz1 hk1 hS => ?_)
                obtain ⟨z0_2011, z1_2012, z2_2013, hxt_2013, hP1, hK1, hD1⟩ := hB
                rw [ht] at hP1
                have hK1 := va_K.moved hvm.symm hK1
                obtain ⟨hP, hD⟩ := va_join (wr := []) (w1 := [(h0, .inr (7, [v12_0, .ref q_1201, .int (zI (z12_length)), .int (zI (z0_2011)), .int (zI (z1_2012)), .int (zI (z12_place)), .int (zI (z2_2013)), v12_7, v12_8, v12_9, v12_10, v12_11, v12_12, v12_13, v12_14, v12_15, v12_16, v12_17])), (q_1201, .inl (cA_1201, 8192, .inl fa12_bytes))]) hP hD [0, 1] [] rfl rfl (by decide) (by decide) hk1 hFc hP1 hD1
                have hK := (hK.sub (tys' := []) [] rfl).app hK1
                generalize H1 = H at hP hS ⊢
                have hP : va_P (dC, dI) vwP [(h0, .inr (7, [v12_0, .ref q_1201, .int (zI (z12_length)), .int (zI (z0_2011)), .int (zI (z1_2012)), .int (zI (z12_place)), .int (zI (z2_2013)), v12_7, v12_8, v12_9, v12_10, v12_11, v12_12, v12_13, v12_14, v12_15, v12_16, v12_17])), (q_1201, .inl (cA_1201, 8192, .inl fa12_bytes))] H := hP
                have hD : va_D A [(h0, .inr (7, [v12_0, .ref q_1201, .int (zI (z12_length)), .int (zI (z0_2011)), .int (zI (z1_2012)), .int (zI (z12_place)), .int (zI (z2_2013)), v12_7, v12_8, v12_9, v12_10, v12_11, v12_12, v12_13, v12_14, v12_15, v12_16, v12_17])), (q_1201, .inl (cA_1201, 8192, .inl fa12_bytes))] := hD
                have hK : va_K (dC, dI) vwP [(cA_1201, .byte)] s := hK
                refine W.widen (k := 0) (n := 0) (Nat.le_of_ble_eq_true rfl) (Nat.le_of_ble_eq_true rfl) ?_
                obtain ⟨rk_2014, rk_2015, rk_2016, hu_2016⟩ := hxt_2013
                refine lv_goto (tgt := 143) hx hb dX7_scanWord_132 (by decide) ?_
                subst hQ
                refine W.widen (k := 0) (n := 0) (Nat.le_of_ble_eq_true rfl) (Nat.le_of_ble_eq_true rfl) ?_
                exact W.vret hx hb hr (fun t ht hW => ⟨⟨(), rfl, trivial, z0_2011, z1_2012, z2_2013, ⟨(by omega), (by omega), (by omega), ⟨(by first | exact hu_2016.1 | (unfold RKV; omega)), by omega⟩⟩, by rw [ht]; exact hP, va_K.moved hW.alike hK, hD⟩, hS.F ht⟩) hS.2.2 dX7_scanWord_143
          · have yb76 : (e0_0_6 : Int) = (118 : Int) := (zI_eq (a := e0_0_6) (b := 118) (by omega) (by omega) (by omega) (by omega)).mp b76
            refine lv_aload_n hx hb dX7_scanWord_79 rfl (lv_at hl 1 rfl) ?_
            refine lv_aload_n hx hb dX7_scanWord_80 rfl (lv_at hl 1 rfl) ?_
            refine va_get (D := (dC, dI)) (ci := 7) (v := .int (zI (e0_0_3))) (C := RX7) (T := TX7) (N := 18) hx hb hts mem_X7_scanWord_0 hown hK hP 0 rfl rfl 3 (by decide) (ow (k := 0) rfl) (fun _ h9 => h9) rfl dX7_scanWord_81 ?_
            have hPc := hP.sub (ws' := [(h0, .inr (7, [v12_0, .ref q_1201, .int (zI (z12_length)), .int (zI (e0_0_3)), .int (zI (z12_kind)), .int (zI (z12_place)), .int (zI (e0_0_6)), v12_7, v12_8, v12_9, v12_10, v12_11, v12_12, v12_13, v12_14, v12_15, v12_16, v12_17])), (q_1201, .inl (cA_1201, 8192, .inl fa12_bytes))]) [0, 1] rfl
            have hDc := hD.sub (ws' := [(h0, .inr (7, [v12_0, .ref q_1201, .int (zI (z12_length)), .int (zI (e0_0_3)), .int (zI (z12_kind)), .int (zI (z12_place)), .int (zI (e0_0_6)), v12_7, v12_8, v12_9, v12_10, v12_11, v12_12, v12_13, v12_14, v12_15, v12_16, v12_17])), (q_1201, .inl (cA_1201, 8192, .inl fa12_bytes))]) [0, 1] (by decide) rfl
            have hKc := hK.sub (tys' := [(cA_1201, .byte)]) [0] rfl
            have hFc := va_free (wc := [(h0, .inr (7, [v12_0, .ref q_1201, .int (zI (z12_length)), .int (zI (e0_0_3)), .int (zI (z12_kind)), .int (zI (z12_place)), .int (zI (e0_0_6)), v12_7, v12_8, v12_9, v12_10, v12_11, v12_12, v12_13, v12_14, v12_15, v12_16, v12_17])), (q_1201, .inl (cA_1201, 8192, .inl fa12_bytes))]) hD hS hA [0, 1] rfl
            refine va_calli (va_runV (As := [.int (zI (e0_0_3))]) (rest := []) ⟨hx, hb, hml, hown, hts⟩ (c_X7_digitAt l dC dI h0 v12_0 z12_length (.int (zI (e0_0_3))) (.int (zI (z12_kind))) (.int (zI (z12_place))) (.int (zI (e0_0_6))) v12_7 v12_8 v12_9 v12_10 v12_11 v12_12 v12_13 v12_14 v12_15 v12_16 v12_17 q_1201 cA_1201 fa12_bytes e0_0_3 (by omega) (by omega) H.size) (cwV 1 hts g_X7_scanWord_X7_digitAt rfl rfl rfl (by decide +kernel) ⟨(Nat.le_of_ble_eq_true rfl), (Nat.le_of_ble_eq_true rfl)⟩) ⟨fun a U g mk q => by obtain ⟨q0, q1, qP, qK, qD⟩ := q; exact ⟨q0, q1, qP, va_K.moved (u := U) (U := U.calling g mk a) (Vm.Alike.refl U.vm) qK, qD⟩, va_recv hKc hPc (ci := 7) (q0 := 0) rfl rfl, fun U hU hW => ⟨rfl, by rw [hU], by rw [hU]; exact hPc, va_K.moved hW.alike hKc, hDc.weaken (fun _ _ _ _ => trivial)⟩⟩ rfl rfl hl.1 rfl (lv_room (Nat.le_of_ble_eq_true rfl)) dX7_scanWord_84 ⟨(Nat.le_of_ble_eq_true rfl), (Nat.le_of_ble_eq_true rfl)⟩) hS (fun q _ h => hFc q h) hFc (fun r_2017 u t H1 locs ht hvm hw hB hz1 hk1 hS => ?_)
            obtain ⟨hP1, hK1, hD1⟩ := hB
            rw [ht] at hP1
            have hK1 := va_K.moved hvm.symm hK1
            obtain ⟨hP, hD⟩ := va_join (wr := []) (w1 := [(h0, .inr (7, [v12_0, .ref q_1201, .int (zI (z12_length)), .int (zI (e0_0_3)), .int (zI (z12_kind)), .int (zI (z12_place)), .int (zI (e0_0_6)), v12_7, v12_8, v12_9, v12_10, v12_11, v12_12, v12_13, v12_14, v12_15, v12_16, v12_17])), (q_1201, .inl (cA_1201, 8192, .inl fa12_bytes))]) hP hD [0, 1] [] rfl rfl (by decide) (by decide) hk1 hFc hP1 hD1
            have hK := (hK.sub (tys' := []) [] rfl).app hK1
            generalize H1 = H at hP hS ⊢
            have hP : va_P (dC, dI) vwP [(h0, .inr (7, [v12_0, .ref q_1201, .int (zI (z12_length)), .int (zI (e0_0_3)), .int (zI (z12_kind)), .int (zI (z12_place)), .int (zI (e0_0_6)), v12_7, v12_8, v12_9, v12_10, v12_11, v12_12, v12_13, v12_14, v12_15, v12_16, v12_17])), (q_1201, .inl (cA_1201, 8192, .inl fa12_bytes))] H := hP
            have hD : va_D A [(h0, .inr (7, [v12_0, .ref q_1201, .int (zI (z12_length)), .int (zI (e0_0_3)), .int (zI (z12_kind)), .int (zI (z12_place)), .int (zI (e0_0_6)), v12_7, v12_8, v12_9, v12_10, v12_11, v12_12, v12_13, v12_14, v12_15, v12_16, v12_17])), (q_1201, .inl (cA_1201, 8192, .inl fa12_bytes))] := hD
            have hK : va_K (dC, dI) vwP [(cA_1201, .byte)] s := hK
            refine W.widen (k := 0) (n := 0) (Nat.le_of_ble_eq_true rfl) (Nat.le_of_ble_eq_true rfl) ?_
            obtain rfl : r_2017 = (zI (dgF fa12_bytes z12_length (e0_0_3))) := hw
            have := dgF_spec fa12_bytes z12_length (e0_0_3)
            have := btF_rng fa12_bytes z12_length (e0_0_3)
            refine lv_if_eq (tgt := 101) hx hb dX7_scanWord_87 (by decide) (fun b87 => ?_) (fun b87 => ?_)
            · have yb87 : (dgF fa12_bytes z12_length (e0_0_3) : Int) = (0 : Int) := (zI_eq (a := dgF fa12_bytes z12_length (e0_0_3)) (b := 0) (by omega) (by omega) (by omega) (by omega)).mp b87
              refine lv_iload_n hx hb dX7_scanWord_101 rfl (lv_at hl 0 rfl) ?_
              refine lv_if_eq (tgt := 135) hx hb dX7_scanWord_102 (by decide) (fun h9 => absurd h9 (by decide)) (fun _ => ?_)
              refine lv_aload_n hx hb dX7_scanWord_105 rfl (lv_at hl 1 rfl) ?_
              refine va_get (D := (dC, dI)) (ci := 7) (v := .int (zI (e0_0_6))) (C := RX7) (T := TX7) (N := 18) hx hb hts mem_X7_scanWord_0 hown hK hP 0 rfl rfl 6 (by decide) (ow (k := 8) rfl) (fun _ h9 => h9) rfl dX7_scanWord_106 ?_
              refine lv_bipush (v := 98) hx hb dX7_scanWord_109 (by decide) ?_
              refine lv_icmp_ne (tgt := 135) hx hb dX7_scanWord_111 (by decide) (fun b111 => ?_) (fun b111 => ?_)
              · have yb111 : ¬ (e0_0_6 : Int) = (98 : Int) := fun q => b111 ((zI_eq (a := e0_0_6) (b := 98) (by omega) (by omega) (by omega) (by omega)).mpr q)
                refine lv_aload_n hx hb dX7_scanWord_135 rfl (lv_at hl 1 rfl) ?_
                refine lv_aload_n hx hb dX7_scanWord_136 rfl (lv_at hl 1 rfl) ?_
                have hPc := hP.sub (ws' := [(h0, .inr (7, [v12_0, .ref q_1201, .int (zI (z12_length)), .int (zI (e0_0_3)), .int (zI (z12_kind)), .int (zI (z12_place)), .int (zI (e0_0_6)), v12_7, v12_8, v12_9, v12_10, v12_11, v12_12, v12_13, v12_14, v12_15, v12_16, v12_17])), (q_1201, .inl (cA_1201, 8192, .inl fa12_bytes))]) [0, 1] rfl
                have hDc := hD.sub (ws' := [(h0, .inr (7, [v12_0, .ref q_1201, .int (zI (z12_length)), .int (zI (e0_0_3)), .int (zI (z12_kind)), .int (zI (z12_place)), .int (zI (e0_0_6)), v12_7, v12_8, v12_9, v12_10, v12_11, v12_12, v12_13, v12_14, v12_15, v12_16, v12_17])), (q_1201, .inl (cA_1201, 8192, .inl fa12_bytes))]) [0, 1] (by decide) rfl
                have hKc := hK.sub (tys' := [(cA_1201, .byte)]) [0] rfl
                have hFc := va_free (wc := [(h0, .inr (7, [v12_0, .ref q_1201, .int (zI (z12_length)), .int (zI (e0_0_3)), .int (zI (z12_kind)), .int (zI (z12_place)), .int (zI (e0_0_6)), v12_7, v12_8, v12_9, v12_10, v12_11, v12_12, v12_13, v12_14, v12_15, v12_16, v12_17])), (q_1201, .inl (cA_1201, 8192, .inl fa12_bytes))]) hD hS hA [0, 1] rfl
                refine va_calli (va_runV (As := []) (rest := [.ref h0]) ⟨hx, hb, hml, hown, hts⟩ (c_X7_wordKind l dC dI h0 v12_0 z12_length e0_0_3 (.int (zI (z12_kind))) z12_place (.int (zI (e0_0_6))) v12_7 v12_8 v12_9 v12_10 v12_11 v12_12 v12_13 v12_14 v12_15 v12_16 v12_17 q_1201 cA_1201 fa12_bytes (by omega) (by omega) (by omega) (by omega) (by omega) H.size sa_RX7_128 sv_RX7_128 sx_fm sa_RX7_134 sv_RX7_134 sa_RX7_136 sv_RX7_136 sa_RX7_138 sv_RX7_138 sa_RX7_140 sv_RX7_140 sa_RX7_142 sv_RX7_142) (cwV 0 hts g_X7_scanWord_X7_wordKind rfl rfl rfl (by decide +kernel) ⟨(Nat.le_of_ble_eq_true rfl), (Nat.le_of_ble_eq_true rfl)⟩) ⟨fun a U g mk q => by obtain ⟨q0, q1, qP, qK, qD, e0, e1, e2, e3, e4, e5, e6, e7, e8, e9, e10, e11, e12, e13⟩ := q; exact ⟨q0, q1, qP, va_K.moved (u := U) (U := U.calling g mk a) (Vm.Alike.refl U.vm) qK, qD, vk_R.same (u := U) (U := U.calling g mk a) rfl e0, vs_S.moved (u := U) (U := U.calling g mk a) (Vm.Alike.refl U.vm) e1, va_Z.moved (u := U) (U := U.calling g mk a) (Vm.Alike.refl U.vm) e2, va_Z.moved (u := U) (U := U.calling g mk a) (Vm.Alike.refl U.vm) e3, vk_R.same (u := U) (U := U.calling g mk a) rfl e4, vs_S.moved (u := U) (U := U.calling g mk a) (Vm.Alike.refl U.vm) e5, vk_R.same (u := U) (U := U.calling g mk a) rfl e6, vs_S.moved (u := U) (U := U.calling g mk a) (Vm.Alike.refl U.vm) e7, vk_R.same (u := U) (U := U.calling g mk a) rfl e8, vs_S.moved (u := U) (U := U.calling g mk a) (Vm.Alike.refl U.vm) e9, vk_R.same (u := U) (U := U.calling g mk a) rfl e10, vs_S.moved (u := U) (U := U.calling g mk a) (Vm.Alike.refl U.vm) e11, vk_R.same (u := U) (U := U.calling g mk a) rfl e12, vs_S.moved (u := U) (U := U.calling g mk a) (Vm.Alike.refl U.vm) e13⟩, va_recv hKc hPc (ci := 7) (q0 := 0) rfl rfl, fun U hU hW => ⟨rfl, by rw [hU], by rw [hU]; exact hPc, va_K.moved hW.alike hKc, hDc.weaken (fun _ _ _ _ => trivial), vk_R.warm hW hp0, by rw [hU]; exact vs_S.narrow (vs_S.moved hW.alike (vs_S.kept hp1 hS.2.1)) hFc, by rw [hU]; exact va_Z.narrow (va_Z.moved hW.alike (va_Z.kept hp2 hS.2.1)) hFc, by rw [hU]; exact va_Z.narrow (va_Z.moved hW.alike (va_Z.kept hp3 hS.2.1)) hFc, vk_R.warm hW hp4, by rw [hU]; exact vs_S.narrow (vs_S.moved hW.alike (vs_S.kept hp5 hS.2.1)) hFc, vk_R.warm hW hp6, by rw [hU]; exact vs_S.narrow (vs_S.moved hW.alike (vs_S.kept hp7 hS.2.1)) hFc, vk_R.warm hW hp8, by rw [hU]; exact vs_S.narrow (vs_S.moved hW.alike (vs_S.kept hp9 hS.2.1)) hFc, vk_R.warm hW hp10, by rw [hU]; exact vs_S.narrow (vs_S.moved hW.alike (vs_S.kept hp11 hS.2.1)) hFc, vk_R.warm hW hp12, by rw [hU]; exact vs_S.narrow (vs_S.moved hW.alike (vs_S.kept hp13 hS.2.1)) hFc⟩⟩ rfl rfl hl.1 rfl (lv_room (Nat.le_of_ble_eq_true rfl)) dX7_scanWord_137 ⟨(Nat.le_of_ble_eq_true rfl), (Nat.le_of_ble_eq_true rfl)⟩) hS (fun q _ h => hFc q h) hFc (fun r_2018 u t H1 locs ht hvm hw hB hz1 hk1 hS => ?_)
                obtain ⟨hP1, hK1, hD1⟩ := hB
                rw [ht] at hP1
                have hK1 := va_K.moved hvm.symm hK1
                obtain ⟨hP, hD⟩ := va_join (wr := []) (w1 := [(h0, .inr (7, [v12_0, .ref q_1201, .int (zI (z12_length)), .int (zI (e0_0_3)), .int (zI (z12_kind)), .int (zI (z12_place)), .int (zI (e0_0_6)), v12_7, v12_8, v12_9, v12_10, v12_11, v12_12, v12_13, v12_14, v12_15, v12_16, v12_17])), (q_1201, .inl (cA_1201, 8192, .inl fa12_bytes))]) hP hD [0, 1] [] rfl rfl (by decide) (by decide) hk1 hFc hP1 hD1
                have hK := (hK.sub (tys' := []) [] rfl).app hK1
                generalize H1 = H at hP hS ⊢
                have hP : va_P (dC, dI) vwP [(h0, .inr (7, [v12_0, .ref q_1201, .int (zI (z12_length)), .int (zI (e0_0_3)), .int (zI (z12_kind)), .int (zI (z12_place)), .int (zI (e0_0_6)), v12_7, v12_8, v12_9, v12_10, v12_11, v12_12, v12_13, v12_14, v12_15, v12_16, v12_17])), (q_1201, .inl (cA_1201, 8192, .inl fa12_bytes))] H := hP
                have hD : va_D A [(h0, .inr (7, [v12_0, .ref q_1201, .int (zI (z12_length)), .int (zI (e0_0_3)), .int (zI (z12_kind)), .int (zI (z12_place)), .int (zI (e0_0_6)), v12_7, v12_8, v12_9, v12_10, v12_11, v12_12, v12_13, v12_14, v12_15, v12_16, v12_17])), (q_1201, .inl (cA_1201, 8192, .inl fa12_bytes))] := hD
                have hK : va_K (dC, dI) vwP [(cA_1201, .byte)] s := hK
                refine W.widen (k := 0) (n := 0) (Nat.le_of_ble_eq_true rfl) (Nat.le_of_ble_eq_true rfl) ?_
                have hw_2019 := hw
                obtain ⟨z_2020, rfl, hzz_2020⟩ := hw_2019
                refine va_put (D := (dC, dI)) (ci := 7) (v := .int (zI (z_2020))) (ty := .int) (C := RX7) (T := TX7) (N := 18) hx hb hts mem_X7_scanWord_0 tyX7 tyX7_ok nmX7 hown hK hP hD hS 0 rfl rfl 4 (by decide) (ow (k := 7) rfl) (fun _ h9 => h9) rfl (by decide +kernel) rfl rfl (Nat.le_of_ble_eq_true rfl) dX7_scanWord_140 (fun H locs hP hD hS => ?_)
                have hP : va_P (dC, dI) vwP [(h0, .inr (7, [v12_0, .ref q_1201, .int (zI (z12_length)), .int (zI (e0_0_3)), .int (zI (z_2020)), .int (zI (z12_place)), .int (zI (e0_0_6)), v12_7, v12_8, v12_9, v12_10, v12_11, v12_12, v12_13, v12_14, v12_15, v12_16, v12_17])), (q_1201, .inl (cA_1201, 8192, .inl fa12_bytes))] H := hP
                have hD : va_D A [(h0, .inr (7, [v12_0, .ref q_1201, .int (zI (z12_length)), .int (zI (e0_0_3)), .int (zI (z_2020)), .int (zI (z12_place)), .int (zI (e0_0_6)), v12_7, v12_8, v12_9, v12_10, v12_11, v12_12, v12_13, v12_14, v12_15, v12_16, v12_17])), (q_1201, .inl (cA_1201, 8192, .inl fa12_bytes))] := hD
                subst hQ
                refine W.widen (k := 0) (n := 0) (Nat.le_of_ble_eq_true rfl) (Nat.le_of_ble_eq_true rfl) ?_
                exact W.vret hx hb hr (fun t ht hW => ⟨⟨(), rfl, trivial, e0_0_3, z_2020, e0_0_6, ⟨(by omega), (by omega), (by omega), ⟨(by first | exact hu_2016.1 | (unfold RKV; omega)), by omega⟩⟩, by rw [ht]; exact hP, va_K.moved hW.alike hK, hD⟩, hS.F ht⟩) hS.2.2 dX7_scanWord_143
              · have yb111 : (e0_0_6 : Int) = (98 : Int) := (zI_eq (a := e0_0_6) (b := 98) (by omega) (by omega) (by omega) (by omega)).mp b111
                refine lv_aload_n hx hb dX7_scanWord_114 rfl (lv_at hl 1 rfl) ?_
                refine lv_aload_n hx hb dX7_scanWord_115 rfl (lv_at hl 1 rfl) ?_
                refine va_get (D := (dC, dI)) (ci := 7) (v := .int (zI (e0_0_3))) (C := RX7) (T := TX7) (N := 18) hx hb hts mem_X7_scanWord_0 hown hK hP 0 rfl rfl 3 (by decide) (ow (k := 0) rfl) (fun _ h9 => h9) rfl dX7_scanWord_116 ?_
                have hPc := hP.sub (ws' := [(h0, .inr (7, [v12_0, .ref q_1201, .int (zI (z12_length)), .int (zI (e0_0_3)), .int (zI (z12_kind)), .int (zI (z12_place)), .int (zI (e0_0_6)), v12_7, v12_8, v12_9, v12_10, v12_11, v12_12, v12_13, v12_14, v12_15, v12_16, v12_17])), (q_1201, .inl (cA_1201, 8192, .inl fa12_bytes))]) [0, 1] rfl
                have hDc := hD.sub (ws' := [(h0, .inr (7, [v12_0, .ref q_1201, .int (zI (z12_length)), .int (zI (e0_0_3)), .int (zI (z12_kind)), .int (zI (z12_place)), .int (zI (e0_0_6)), v12_7, v12_8, v12_9, v12_10, v12_11, v12_12, v12_13, v12_14, v12_15, v12_16, v12_17])), (q_1201, .inl (cA_1201, 8192, .inl fa12_bytes))]) [0, 1] (by decide) rfl
                have hKc := hK.sub (tys' := [(cA_1201, .byte)]) [0] rfl
                have hFc := va_free (wc := [(h0, .inr (7, [v12_0, .ref q_1201, .int (zI (z12_length)), .int (zI (e0_0_3)), .int (zI (z12_kind)), .int (zI (z12_place)), .int (zI (e0_0_6)), v12_7, v12_8, v12_9, v12_10, v12_11, v12_12, v12_13, v12_14, v12_15, v12_16, v12_17])), (q_1201, .inl (cA_1201, 8192, .inl fa12_bytes))]) hD hS hA [0, 1] rfl
                refine va_calli (va_runV (As := [.int (zI (e0_0_3))]) (rest := []) ⟨hx, hb, hml, hown, hts⟩ (c_X7_digitAt l dC dI h0 v12_0 z12_length (.int (zI (e0_0_3))) (.int (zI (z12_kind))) (.int (zI (z12_place))) (.int (zI (e0_0_6))) v12_7 v12_8 v12_9 v12_10 v12_11 v12_12 v12_13 v12_14 v12_15 v12_16 v12_17 q_1201 cA_1201 fa12_bytes e0_0_3 (by omega) (by omega) H.size) (cwV 1 hts g_X7_scanWord_X7_digitAt rfl rfl rfl (by decide +kernel) ⟨(Nat.le_of_ble_eq_true rfl), (Nat.le_of_ble_eq_true rfl)⟩) ⟨fun a U g mk q => by obtain ⟨q0, q1, qP, qK, qD⟩ := q; exact ⟨q0, q1, qP, va_K.moved (u := U) (U := U.calling g mk a) (Vm.Alike.refl U.vm) qK, qD⟩, va_recv hKc hPc (ci := 7) (q0 := 0) rfl rfl, fun U hU hW => ⟨rfl, by rw [hU], by rw [hU]; exact hPc, va_K.moved hW.alike hKc, hDc.weaken (fun _ _ _ _ => trivial)⟩⟩ rfl rfl hl.1 rfl (lv_room (Nat.le_of_ble_eq_true rfl)) dX7_scanWord_119 ⟨(Nat.le_of_ble_eq_true rfl), (Nat.le_of_ble_eq_true rfl)⟩) hS (fun q _ h => hFc q h) hFc (fun r_2021 u t H1 locs ht hvm hw hB hz1 hk1 hS => ?_)
                obtain ⟨hP1, hK1, hD1⟩ := hB
                rw [ht] at hP1
                have hK1 := va_K.moved hvm.symm hK1
                obtain ⟨hP, hD⟩ := va_join (wr := []) (w1 := [(h0, .inr (7, [v12_0, .ref q_1201, .int (zI (z12_length)), .int (zI (e0_0_3)), .int (zI (z12_kind)), .int (zI (z12_place)), .int (zI (e0_0_6)), v12_7, v12_8, v12_9, v12_10, v12_11, v12_12, v12_13, v12_14, v12_15, v12_16, v12_17])), (q_1201, .inl (cA_1201, 8192, .inl fa12_bytes))]) hP hD [0, 1] [] rfl rfl (by decide) (by decide) hk1 hFc hP1 hD1
                have hK := (hK.sub (tys' := []) [] rfl).app hK1
                generalize H1 = H at hP hS ⊢
                have hP : va_P (dC, dI) vwP [(h0, .inr (7, [v12_0, .ref q_1201, .int (zI (z12_length)), .int (zI (e0_0_3)), .int (zI (z12_kind)), .int (zI (z12_place)), .int (zI (e0_0_6)), v12_7, v12_8, v12_9, v12_10, v12_11, v12_12, v12_13, v12_14, v12_15, v12_16, v12_17])), (q_1201, .inl (cA_1201, 8192, .inl fa12_bytes))] H := hP
                have hD : va_D A [(h0, .inr (7, [v12_0, .ref q_1201, .int (zI (z12_length)), .int (zI (e0_0_3)), .int (zI (z12_kind)), .int (zI (z12_place)), .int (zI (e0_0_6)), v12_7, v12_8, v12_9, v12_10, v12_11, v12_12, v12_13, v12_14, v12_15, v12_16, v12_17])), (q_1201, .inl (cA_1201, 8192, .inl fa12_bytes))] := hD
                have hK : va_K (dC, dI) vwP [(cA_1201, .byte)] s := hK
                refine W.widen (k := 0) (n := 0) (Nat.le_of_ble_eq_true rfl) (Nat.le_of_ble_eq_true rfl) ?_
                obtain rfl : r_2021 = (zI (dgF fa12_bytes z12_length (e0_0_3))) := hw
                have := dgF_spec fa12_bytes z12_length (e0_0_3)
                have := btF_rng fa12_bytes z12_length (e0_0_3)
                refine lv_if_eq (tgt := 135) hx hb dX7_scanWord_122 (by decide) (fun b122 => ?_) (fun b122 => ?_)
                · have yb122 : (dgF fa12_bytes z12_length (e0_0_3) : Int) = (0 : Int) := (zI_eq (a := dgF fa12_bytes z12_length (e0_0_3)) (b := 0) (by omega) (by omega) (by omega) (by omega)).mp b122
                  refine lv_aload_n hx hb dX7_scanWord_135 rfl (lv_at hl 1 rfl) ?_
                  refine lv_aload_n hx hb dX7_scanWord_136 rfl (lv_at hl 1 rfl) ?_
                  have hPc := hP.sub (ws' := [(h0, .inr (7, [v12_0, .ref q_1201, .int (zI (z12_length)), .int (zI (e0_0_3)), .int (zI (z12_kind)), .int (zI (z12_place)), .int (zI (e0_0_6)), v12_7, v12_8, v12_9, v12_10, v12_11, v12_12, v12_13, v12_14, v12_15, v12_16, v12_17])), (q_1201, .inl (cA_1201, 8192, .inl fa12_bytes))]) [0, 1] rfl
                  have hDc := hD.sub (ws' := [(h0, .inr (7, [v12_0, .ref q_1201, .int (zI (z12_length)), .int (zI (e0_0_3)), .int (zI (z12_kind)), .int (zI (z12_place)), .int (zI (e0_0_6)), v12_7, v12_8, v12_9, v12_10, v12_11, v12_12, v12_13, v12_14, v12_15, v12_16, v12_17])), (q_1201, .inl (cA_1201, 8192, .inl fa12_bytes))]) [0, 1] (by decide) rfl
                  have hKc := hK.sub (tys' := [(cA_1201, .byte)]) [0] rfl
                  have hFc := va_free (wc := [(h0, .inr (7, [v12_0, .ref q_1201, .int (zI (z12_length)), .int (zI (e0_0_3)), .int (zI (z12_kind)), .int (zI (z12_place)), .int (zI (e0_0_6)), v12_7, v12_8, v12_9, v12_10, v12_11, v12_12, v12_13, v12_14, v12_15, v12_16, v12_17])), (q_1201, .inl (cA_1201, 8192, .inl fa12_bytes))]) hD hS hA [0, 1] rfl
                  refine va_calli (va_runV (As := []) (rest := [.ref h0]) ⟨hx, hb, hml, hown, hts⟩ (c_X7_wordKind l dC dI h0 v12_0 z12_length e0_0_3 (.int (zI (z12_kind))) z12_place (.int (zI (e0_0_6))) v12_7 v12_8 v12_9 v12_10 v12_11 v12_12 v12_13 v12_14 v12_15 v12_16 v12_17 q_1201 cA_1201 fa12_bytes (by omega) (by omega) (by omega) (by omega) (by omega) H.size sa_RX7_128 sv_RX7_128 sx_fm sa_RX7_134 sv_RX7_134 sa_RX7_136 sv_RX7_136 sa_RX7_138 sv_RX7_138 sa_RX7_140 sv_RX7_140 sa_RX7_142 sv_RX7_142) (cwV 0 hts g_X7_scanWord_X7_wordKind rfl rfl rfl (by decide +kernel) ⟨(Nat.le_of_ble_eq_true rfl), (Nat.le_of_ble_eq_true rfl)⟩) ⟨fun a U g mk q => by obtain ⟨q0, q1, qP, qK, qD, e0, e1, e2, e3, e4, e5, e6, e7, e8, e9, e10, e11, e12, e13⟩ := q; exact ⟨q0, q1, qP, va_K.moved (u := U) (U := U.calling g mk a) (Vm.Alike.refl U.vm) qK, qD, vk_R.same (u := U) (U := U.calling g mk a) rfl e0, vs_S.moved (u := U) (U := U.calling g mk a) (Vm.Alike.refl U.vm) e1, va_Z.moved (u := U) (U := U.calling g mk a) (Vm.Alike.refl U.vm) e2, va_Z.moved (u := U) (U := U.calling g mk a) (Vm.Alike.refl U.vm) e3, vk_R.same (u := U) (U := U.calling g mk a) rfl e4, vs_S.moved (u := U) (U := U.calling g mk a) (Vm.Alike.refl U.vm) e5, vk_R.same (u := U) (U := U.calling g mk a) rfl e6, vs_S.moved (u := U) (U := U.calling g mk a) (Vm.Alike.refl U.vm) e7, vk_R.same (u := U) (U := U.calling g mk a) rfl e8, vs_S.moved (u := U) (U := U.calling g mk a) (Vm.Alike.refl U.vm) e9, vk_R.same (u := U) (U := U.calling g mk a) rfl e10, vs_S.moved (u := U) (U := U.calling g mk a) (Vm.Alike.refl U.vm) e11, vk_R.same (u := U) (U := U.calling g mk a) rfl e12, vs_S.moved (u := U) (U := U.calling g mk a) (Vm.Alike.refl U.vm) e13⟩, va_recv hKc hPc (ci := 7) (q0 := 0) rfl rfl, fun U hU hW => ⟨rfl, by rw [hU], by rw [hU]; exact hPc, va_K.moved hW.alike hKc, hDc.weaken (fun _ _ _ _ => trivial), vk_R.warm hW hp0, by rw [hU]; exact vs_S.narrow (vs_S.moved hW.alike (vs_S.kept hp1 hS.2.1)) hFc, by rw [hU]; exact va_Z.narrow (va_Z.moved hW.alike (va_Z.kept hp2 hS.2.1)) hFc, by rw [hU]; exact va_Z.narrow (va_Z.moved hW.alike (va_Z.kept hp3 hS.2.1)) hFc, vk_R.warm hW hp4, by rw [hU]; exact vs_S.narrow (vs_S.moved hW.alike (vs_S.kept hp5 hS.2.1)) hFc, vk_R.warm hW hp6, by rw [hU]; exact vs_S.narrow (vs_S.moved hW.alike (vs_S.kept hp7 hS.2.1)) hFc, vk_R.warm hW hp8, by rw [hU]; exact vs_S.narrow (vs_S.moved hW.alike (vs_S.kept hp9 hS.2.1)) hFc, vk_R.warm hW hp10, by rw [hU]; exact vs_S.narrow (vs_S.moved hW.alike (vs_S.kept hp11 hS.2.1)) hFc, vk_R.warm hW hp12, by rw [hU]; exact vs_S.narrow (vs_S.moved hW.alike (vs_S.kept hp13 hS.2.1)) hFc⟩⟩ rfl rfl hl.1 rfl (lv_room (Nat.le_of_ble_eq_true rfl)) dX7_scanWord_137 ⟨(Nat.le_of_ble_eq_true rfl), (Nat.le_of_ble_eq_true rfl)⟩) hS (fun q _ h => hFc q h) hFc (fun r_2022 u t H1 locs ht hvm hw hB hz1 hk1 hS => ?_)
                  obtain ⟨hP1, hK1, hD1⟩ := hB
                  rw [ht] at hP1
                  have hK1 := va_K.moved hvm.symm hK1
                  obtain ⟨hP, hD⟩ := va_join (wr := []) (w1 := [(h0, .inr (7, [v12_0, .ref q_1201, .int (zI (z12_length)), .int (zI (e0_0_3)), .int (zI (z12_kind)), .int (zI (z12_place)), .int (zI (e0_0_6)), v12_7, v12_8, v12_9, v12_10, v12_11, v12_12, v12_13, v12_14, v12_15, v12_16, v12_17])), (q_1201, .inl (cA_1201, 8192, .inl fa12_bytes))]) hP hD [0, 1] [] rfl rfl (by decide) (by decide) hk1 hFc hP1 hD1
                  have hK := (hK.sub (tys' := []) [] rfl).app hK1
                  generalize H1 = H at hP hS ⊢
                  have hP : va_P (dC, dI) vwP [(h0, .inr (7, [v12_0, .ref q_1201, .int (zI (z12_length)), .int (zI (e0_0_3)), .int (zI (z12_kind)), .int (zI (z12_place)), .int (zI (e0_0_6)), v12_7, v12_8, v12_9, v12_10, v12_11, v12_12, v12_13, v12_14, v12_15, v12_16, v12_17])), (q_1201, .inl (cA_1201, 8192, .inl fa12_bytes))] H := hP
                  have hD : va_D A [(h0, .inr (7, [v12_0, .ref q_1201, .int (zI (z12_length)), .int (zI (e0_0_3)), .int (zI (z12_kind)), .int (zI (z12_place)), .int (zI (e0_0_6)), v12_7, v12_8, v12_9, v12_10, v12_11, v12_12, v12_13, v12_14, v12_15, v12_16, v12_17])), (q_1201, .inl (cA_1201, 8192, .inl fa12_bytes))] := hD
                  have hK : va_K (dC, dI) vwP [(cA_1201, .byte)] s := hK
                  refine W.widen (k := 0) (n := 0) (Nat.le_of_ble_eq_true rfl) (Nat.le_of_ble_eq_true rfl) ?_
                  have hw_2023 := hw
                  obtain ⟨z_2024, rfl, hzz_2024⟩ := hw_2023
                  refine va_put (D := (dC, dI)) (ci := 7) (v := .int (zI (z_2024))) (ty := .int) (C := RX7) (T := TX7) (N := 18) hx hb hts mem_X7_scanWord_0 tyX7 tyX7_ok nmX7 hown hK hP hD hS 0 rfl rfl 4 (by decide) (ow (k := 7) rfl) (fun _ h9 => h9) rfl (by decide +kernel) rfl rfl (Nat.le_of_ble_eq_true rfl) dX7_scanWord_140 (fun H locs hP hD hS => ?_)
                  have hP : va_P (dC, dI) vwP [(h0, .inr (7, [v12_0, .ref q_1201, .int (zI (z12_length)), .int (zI (e0_0_3)), .int (zI (z_2024)), .int (zI (z12_place)), .int (zI (e0_0_6)), v12_7, v12_8, v12_9, v12_10, v12_11, v12_12, v12_13, v12_14, v12_15, v12_16, v12_17])), (q_1201, .inl (cA_1201, 8192, .inl fa12_bytes))] H := hP
                  have hD : va_D A [(h0, .inr (7, [v12_0, .ref q_1201, .int (zI (z12_length)), .int (zI (e0_0_3)), .int (zI (z_2024)), .int (zI (z12_place)), .int (zI (e0_0_6)), v12_7, v12_8, v12_9, v12_10, v12_11, v12_12, v12_13, v12_14, v12_15, v12_16, v12_17])), (q_1201, .inl (cA_1201, 8192, .inl fa12_bytes))] := hD
                  subst hQ
                  refine W.widen (k := 0) (n := 0) (Nat.le_of_ble_eq_true rfl) (Nat.le_of_ble_eq_true rfl) ?_
                  exact W.vret hx hb hr (fun t ht hW => ⟨⟨(), rfl, trivial, e0_0_3, z_2024, e0_0_6, ⟨(by omega), (by omega), (by omega), ⟨(by first | exact hu_2016.1 | (unfold RKV; omega)), by omega⟩⟩, by rw [ht]; exact hP, va_K.moved hW.alike hK, hD⟩, hS.F ht⟩) hS.2.2 dX7_scanWord_143
                · have yb122 : ¬ (dgF fa12_bytes z12_length (e0_0_3) : Int) = (0 : Int) := fun q => b122 ((zI_eq (a := dgF fa12_bytes z12_length (e0_0_3)) (b := 0) (by omega) (by omega) (by omega) (by omega)).mpr q)
                  refine lv_aload_n hx hb dX7_scanWord_125 rfl (lv_at hl 1 rfl) ?_
                  refine lv_iconst (v := 4) hx hb dX7_scanWord_126 (by decide) ?_
                  refine lv_bipush (v := 60) hx hb dX7_scanWord_127 (by decide) ?_
                  have hPc := hP.sub (ws' := [(h0, .inr (7, [v12_0, .ref q_1201, .int (zI (z12_length)), .int (zI (e0_0_3)), .int (zI (z12_kind)), .int (zI (z12_place)), .int (zI (e0_0_6)), v12_7, v12_8, v12_9, v12_10, v12_11, v12_12, v12_13, v12_14, v12_15, v12_16, v12_17])), (q_1201, .inl (cA_1201, 8192, .inl fa12_bytes))]) [0, 1] rfl
                  have hDc := hD.sub (ws' := [(h0, .inr (7, [v12_0, .ref q_1201, .int (zI (z12_length)), .int (zI (e0_0_3)), .int (zI (z12_kind)), .int (zI (z12_place)), .int (zI (e0_0_6)), v12_7, v12_8, v12_9, v12_10, v12_11, v12_12, v12_13, v12_14, v12_15, v12_16, v12_17])), (q_1201, .inl (cA_1201, 8192, .inl fa12_bytes))]) [0, 1] (by decide) rfl
                  have hKc := hK.sub (tys' := [(cA_1201, .byte)]) [0] rfl
                  have hFc := va_free (wc := [(h0, .inr (7, [v12_0, .ref q_1201, .int (zI (z12_length)), .int (zI (e0_0_3)), .int (zI (z12_kind)), .int (zI (z12_place)), .int (zI (e0_0_6)), v12_7, v12_8, v12_9, v12_10, v12_11, v12_12, v12_13, v12_14, v12_15, v12_16, v12_17])), (q_1201, .inl (cA_1201, 8192, .inl fa12_bytes))]) hD hS hA [0, 1] rfl
                  refine va_callv (va_runV (As := [.int 4, .int 60]) (rest := []) ⟨hx, hb, hml, hown, hts⟩ (c_X7_scanNamed l dC dI h0 v12_0 z12_length e0_0_3 z12_kind (.int (zI (z12_place))) e0_0_6 v12_7 v12_8 v12_9 v12_10 v12_11 v12_12 v12_13 v12_14 v12_15 v12_16 v12_17 q_1201 cA_1201 fa12_bytes 4 60 (by omega) (by omega) (by omega) (by omega) (by omega) (by omega) H.size) (cwV 2 hts g_X7_scanWord_X7_scanNamed rfl rfl rfl (by decide +kernel) ⟨(Nat.le_of_ble_eq_true rfl), (Nat.le_of_ble_eq_true rfl)⟩) ⟨fun a U g mk q => by obtain ⟨q0, q1, qP, qK, qD⟩ := q; exact ⟨q0, q1, qP, va_K.moved (u := U) (U := U.calling g mk a) (Vm.Alike.refl U.vm) qK, qD⟩, va_recv hKc hPc (ci := 7) (q0 := 0) rfl rfl, fun U hU hW => ⟨rfl, by rw [hU], by rw [hU]; exact hPc, va_K.moved hW.alike hKc, hDc.weaken (fun _ _ _ _ => trivial)⟩⟩ rfl rfl hl.1 rfl (lv_room (Nat.le_of_ble_eq_true rfl)) dX7_scanWord_129 ⟨(Nat.le_of_ble_eq_true rfl), (Nat.le_of_ble_eq_true rfl)⟩) hS (fun q _ h => hFc q h) hFc (fun  u t H1 locs ht hvm hw hB hz1 hk1 hS => ?_)
                  obtain ⟨z0_2025, z1_2026, z2_2027, hxt_2027, hP1, hK1, hD1⟩ := hB
                  rw [ht] at hP1
                  have hK1 := va_K.moved hvm.symm hK1
                  obtain ⟨hP, hD⟩ := va_join (wr := []) (w1 := [(h0, .inr (7, [v12_0, .ref q_1201, .int (zI (z12_length)), .int (zI (z0_2025)), .int (zI (z1_2026)), .int (zI (z12_place)), .int (zI (z2_2027)), v12_7, v12_8, v12_9, v12_10, v12_11, v12_12, v12_13, v12_14, v12_15, v12_16, v12_17])), (q_1201, .inl (cA_1201, 8192, .inl fa12_bytes))]) hP hD [0, 1] [] rfl rfl (by decide) (by decide) hk1 hFc hP1 hD1
                  have hK := (hK.sub (tys' := []) [] rfl).app hK1
                  generalize H1 = H at hP hS ⊢
                  have hP : va_P (dC, dI) vwP [(h0, .inr (7, [v12_0, .ref q_1201, .int (zI (z12_length)), .int (zI (z0_2025)), .int (zI (z1_2026)), .int (zI (z12_place)), .int (zI (z2_2027)), v12_7, v12_8, v12_9, v12_10, v12_11, v12_12, v12_13, v12_14, v12_15, v12_16, v12_17])), (q_1201, .inl (cA_1201, 8192, .inl fa12_bytes))] H := hP
                  have hD : va_D A [(h0, .inr (7, [v12_0, .ref q_1201, .int (zI (z12_length)), .int (zI (z0_2025)), .int (zI (z1_2026)), .int (zI (z12_place)), .int (zI (z2_2027)), v12_7, v12_8, v12_9, v12_10, v12_11, v12_12, v12_13, v12_14, v12_15, v12_16, v12_17])), (q_1201, .inl (cA_1201, 8192, .inl fa12_bytes))] := hD
                  have hK : va_K (dC, dI) vwP [(cA_1201, .byte)] s := hK
                  refine W.widen (k := 0) (n := 0) (Nat.le_of_ble_eq_true rfl) (Nat.le_of_ble_eq_true rfl) ?_
                  obtain ⟨rk_2028, rk_2029, rk_2030, hu_2030⟩ := hxt_2027
                  refine lv_goto (tgt := 143) hx hb dX7_scanWord_132 (by decide) ?_
                  subst hQ
                  refine W.widen (k := 0) (n := 0) (Nat.le_of_ble_eq_true rfl) (Nat.le_of_ble_eq_true rfl) ?_
                  exact W.vret hx hb hr (fun t ht hW => ⟨⟨(), rfl, trivial, z0_2025, z1_2026, z2_2027, ⟨(by omega), (by omega), (by omega), ⟨(by first | exact hu_2030.1 | (unfold RKV; omega)), by omega⟩⟩, by rw [ht]; exact hP, va_K.moved hW.alike hK, hD⟩, hS.F ht⟩) hS.2.2 dX7_scanWord_143
            · have yb87 : ¬ (dgF fa12_bytes z12_length (e0_0_3) : Int) = (0 : Int) := fun q => b87 ((zI_eq (a := dgF fa12_bytes z12_length (e0_0_3)) (b := 0) (by omega) (by omega) (by omega) (by omega)).mpr q)
              refine lv_aload_n hx hb dX7_scanWord_90 rfl (lv_at hl 1 rfl) ?_
              refine lv_iconst (v := 2) hx hb dX7_scanWord_91 (by decide) ?_
              refine lv_sipush (v := 200) hx hb dX7_scanWord_92 (by decide) ?_
              have hPc := hP.sub (ws' := [(h0, .inr (7, [v12_0, .ref q_1201, .int (zI (z12_length)), .int (zI (e0_0_3)), .int (zI (z12_kind)), .int (zI (z12_place)), .int (zI (e0_0_6)), v12_7, v12_8, v12_9, v12_10, v12_11, v12_12, v12_13, v12_14, v12_15, v12_16, v12_17])), (q_1201, .inl (cA_1201, 8192, .inl fa12_bytes))]) [0, 1] rfl
              have hDc := hD.sub (ws' := [(h0, .inr (7, [v12_0, .ref q_1201, .int (zI (z12_length)), .int (zI (e0_0_3)), .int (zI (z12_kind)), .int (zI (z12_place)), .int (zI (e0_0_6)), v12_7, v12_8, v12_9, v12_10, v12_11, v12_12, v12_13, v12_14, v12_15, v12_16, v12_17])), (q_1201, .inl (cA_1201, 8192, .inl fa12_bytes))]) [0, 1] (by decide) rfl
              have hKc := hK.sub (tys' := [(cA_1201, .byte)]) [0] rfl
              have hFc := va_free (wc := [(h0, .inr (7, [v12_0, .ref q_1201, .int (zI (z12_length)), .int (zI (e0_0_3)), .int (zI (z12_kind)), .int (zI (z12_place)), .int (zI (e0_0_6)), v12_7, v12_8, v12_9, v12_10, v12_11, v12_12, v12_13, v12_14, v12_15, v12_16, v12_17])), (q_1201, .inl (cA_1201, 8192, .inl fa12_bytes))]) hD hS hA [0, 1] rfl
              refine va_callv (va_runV (As := [.int 2, .int 200]) (rest := []) ⟨hx, hb, hml, hown, hts⟩ (c_X7_scanNamed l dC dI h0 v12_0 z12_length e0_0_3 z12_kind (.int (zI (z12_place))) e0_0_6 v12_7 v12_8 v12_9 v12_10 v12_11 v12_12 v12_13 v12_14 v12_15 v12_16 v12_17 q_1201 cA_1201 fa12_bytes 2 200 (by omega) (by omega) (by omega) (by omega) (by omega) (by omega) H.size) (cwV 2 hts g_X7_scanWord_X7_scanNamed rfl rfl rfl (by decide +kernel) ⟨(Nat.le_of_ble_eq_true rfl), (Nat.le_of_ble_eq_true rfl)⟩) ⟨fun a U g mk q => by obtain ⟨q0, q1, qP, qK, qD⟩ := q; exact ⟨q0, q1, qP, va_K.moved (u := U) (U := U.calling g mk a) (Vm.Alike.refl U.vm) qK, qD⟩, va_recv hKc hPc (ci := 7) (q0 := 0) rfl rfl, fun U hU hW => ⟨rfl, by rw [hU], by rw [hU]; exact hPc, va_K.moved hW.alike hKc, hDc.weaken (fun _ _ _ _ => trivial)⟩⟩ rfl rfl hl.1 rfl (lv_room (Nat.le_of_ble_eq_true rfl)) dX7_scanWord_95 ⟨(Nat.le_of_ble_eq_true rfl), (Nat.le_of_ble_eq_true rfl)⟩) hS (fun q _ h => hFc q h) hFc (fun  u t H1 locs ht hvm hw hB hz1 hk1 hS => ?_)
              obtain ⟨z0_2031, z1_2032, z2_2033, hxt_2033, hP1, hK1, hD1⟩ := hB
              rw [ht] at hP1
              have hK1 := va_K.moved hvm.symm hK1
              obtain ⟨hP, hD⟩ := va_join (wr := []) (w1 := [(h0, .inr (7, [v12_0, .ref q_1201, .int (zI (z12_length)), .int (zI (z0_2031)), .int (zI (z1_2032)), .int (zI (z12_place)), .int (zI (z2_2033)), v12_7, v12_8, v12_9, v12_10, v12_11, v12_12, v12_13, v12_14, v12_15, v12_16, v12_17])), (q_1201, .inl (cA_1201, 8192, .inl fa12_bytes))]) hP hD [0, 1] [] rfl rfl (by decide) (by decide) hk1 hFc hP1 hD1
              have hK := (hK.sub (tys' := []) [] rfl).app hK1
              generalize H1 = H at hP hS ⊢
              have hP : va_P (dC, dI) vwP [(h0, .inr (7, [v12_0, .ref q_1201, .int (zI (z12_length)), .int (zI (z0_2031)), .int (zI (z1_2032)), .int (zI (z12_place)), .int (zI (z2_2033)), v12_7, v12_8, v12_9, v12_10, v12_11, v12_12, v12_13, v12_14, v12_15, v12_16, v12_17])), (q_1201, .inl (cA_1201, 8192, .inl fa12_bytes))] H := hP
              have hD : va_D A [(h0, .inr (7, [v12_0, .ref q_1201, .int (zI (z12_length)), .int (zI (z0_2031)), .int (zI (z1_2032)), .int (zI (z12_place)), .int (zI (z2_2033)), v12_7, v12_8, v12_9, v12_10, v12_11, v12_12, v12_13, v12_14, v12_15, v12_16, v12_17])), (q_1201, .inl (cA_1201, 8192, .inl fa12_bytes))] := hD
              have hK : va_K (dC, dI) vwP [(cA_1201, .byte)] s := hK
              refine W.widen (k := 0) (n := 0) (Nat.le_of_ble_eq_true rfl) (Nat.le_of_ble_eq_true rfl) ?_
              obtain ⟨rk_2034, rk_2035, rk_2036, hu_2036⟩ := hxt_2033
              refine lv_goto (tgt := 143) hx hb dX7_scanWord_98 (by decide) ?_
              subst hQ
              refine W.widen (k := 0) (n := 0) (Nat.le_of_ble_eq_true rfl) (Nat.le_of_ble_eq_true rfl) ?_
              exact W.vret hx hb hr (fun t ht hW => ⟨⟨(), rfl, trivial, z0_2031, z1_2032, z2_2033, ⟨(by omega), (by omega), (by omega), ⟨(by first | exact hu_2036.1 | (unfold RKV; omega)), by omega⟩⟩, by rw [ht]; exact hP, va_K.moved hW.alike hK, hD⟩, hS.F ht⟩) hS.2.2 dX7_scanWord_143
      · have yb8 : ¬ (z12_length : Int) ≤ (e0_0_3 : Int) := fun q => b8 ((zI_le (a := z12_length) (b := e0_0_3) (by omega) (by omega) (by omega) (by omega)).mpr q)
        refine lv_aload_n hx hb dX7_scanWord_11 rfl (lv_at hl 0 rfl) ?_
        refine lv_aload_n hx hb dX7_scanWord_12 rfl (lv_at hl 0 rfl) ?_
        refine va_get (D := (dC, dI)) (ci := 7) (v := .int (zI (e0_0_3))) (C := RX7) (T := TX7) (N := 18) hx hb hts mem_X7_scanWord_0 hown hK hP 0 rfl rfl 3 (by decide) (ow (k := 0) rfl) (fun _ h9 => h9) rfl dX7_scanWord_13 ?_
        have hPc := hP.sub (ws' := [(h0, .inr (7, [v12_0, .ref q_1201, .int (zI (z12_length)), .int (zI (e0_0_3)), .int (zI (z12_kind)), .int (zI (z12_place)), .int (zI (e0_0_6)), v12_7, v12_8, v12_9, v12_10, v12_11, v12_12, v12_13, v12_14, v12_15, v12_16, v12_17])), (q_1201, .inl (cA_1201, 8192, .inl fa12_bytes))]) [0, 1] rfl
        have hDc := hD.sub (ws' := [(h0, .inr (7, [v12_0, .ref q_1201, .int (zI (z12_length)), .int (zI (e0_0_3)), .int (zI (z12_kind)), .int (zI (z12_place)), .int (zI (e0_0_6)), v12_7, v12_8, v12_9, v12_10, v12_11, v12_12, v12_13, v12_14, v12_15, v12_16, v12_17])), (q_1201, .inl (cA_1201, 8192, .inl fa12_bytes))]) [0, 1] (by decide) rfl
        have hKc := hK.sub (tys' := [(cA_1201, .byte)]) [0] rfl
        have hFc := va_free (wc := [(h0, .inr (7, [v12_0, .ref q_1201, .int (zI (z12_length)), .int (zI (e0_0_3)), .int (zI (z12_kind)), .int (zI (z12_place)), .int (zI (e0_0_6)), v12_7, v12_8, v12_9, v12_10, v12_11, v12_12, v12_13, v12_14, v12_15, v12_16, v12_17])), (q_1201, .inl (cA_1201, 8192, .inl fa12_bytes))]) hD hS hA [0, 1] rfl
        refine va_calli (va_runV (As := [.int (zI (e0_0_3))]) (rest := []) ⟨hx, hb, hml, hown, hts⟩ (c_X7_letterAt l dC dI h0 v12_0 z12_length (.int (zI (e0_0_3))) (.int (zI (z12_kind))) (.int (zI (z12_place))) (.int (zI (e0_0_6))) v12_7 v12_8 v12_9 v12_10 v12_11 v12_12 v12_13 v12_14 v12_15 v12_16 v12_17 q_1201 cA_1201 fa12_bytes e0_0_3 (by omega) (by omega) H.size) (cwV 1 hts g_X7_scanWord_X7_letterAt rfl rfl rfl (by decide +kernel) ⟨(Nat.le_of_ble_eq_true rfl), (Nat.le_of_ble_eq_true rfl)⟩) ⟨fun a U g mk q => by obtain ⟨q0, q1, qP, qK, qD⟩ := q; exact ⟨q0, q1, qP, va_K.moved (u := U) (U := U.calling g mk a) (Vm.Alike.refl U.vm) qK, qD⟩, va_recv hKc hPc (ci := 7) (q0 := 0) rfl rfl, fun U hU hW => ⟨rfl, by rw [hU], by rw [hU]; exact hPc, va_K.moved hW.alike hKc, hDc.weaken (fun _ _ _ _ => trivial)⟩⟩ rfl rfl hl.1 rfl (lv_room (Nat.le_of_ble_eq_true rfl)) dX7_scanWord_16 ⟨(Nat.le_of_ble_eq_true rfl), (Nat.le_of_ble_eq_true rfl)⟩) hS (fun q _ h => hFc q h) hFc (fun r_2037 u t H1 locs ht hvm hw hB hz1 hk1 hS => ?_)
        obtain ⟨hP1, hK1, hD1⟩ := hB
        rw [ht] at hP1
        have hK1 := va_K.moved hvm.symm hK1
        obtain ⟨hP, hD⟩ := va_join (wr := []) (w1 := [(h0, .inr (7, [v12_0, .ref q_1201, .int (zI (z12_length)), .int (zI (e0_0_3)), .int (zI (z12_kind)), .int (zI (z12_place)), .int (zI (e0_0_6)), v12_7, v12_8, v12_9, v12_10, v12_11, v12_12, v12_13, v12_14, v12_15, v12_16, v12_17])), (q_1201, .inl (cA_1201, 8192, .inl fa12_bytes))]) hP hD [0, 1] [] rfl rfl (by decide) (by decide) hk1 hFc hP1 hD1
        have hK := (hK.sub (tys' := []) [] rfl).app hK1
        generalize H1 = H at hP hS ⊢
        have hP : va_P (dC, dI) vwP [(h0, .inr (7, [v12_0, .ref q_1201, .int (zI (z12_length)), .int (zI (e0_0_3)), .int (zI (z12_kind)), .int (zI (z12_place)), .int (zI (e0_0_6)), v12_7, v12_8, v12_9, v12_10, v12_11, v12_12, v12_13, v12_14, v12_15, v12_16, v12_17])), (q_1201, .inl (cA_1201, 8192, .inl fa12_bytes))] H := hP
        have hD : va_D A [(h0, .inr (7, [v12_0, .ref q_1201, .int (zI (z12_length)), .int (zI (e0_0_3)), .int (zI (z12_kind)), .int (zI (z12_place)), .int (zI (e0_0_6)), v12_7, v12_8, v12_9, v12_10, v12_11, v12_12, v12_13, v12_14, v12_15, v12_16, v12_17])), (q_1201, .inl (cA_1201, 8192, .inl fa12_bytes))] := hD
        have hK : va_K (dC, dI) vwP [(cA_1201, .byte)] s := hK
        refine W.widen (k := 0) (n := 0) (Nat.le_of_ble_eq_true rfl) (Nat.le_of_ble_eq_true rfl) ?_
        have hw_2038 := hw
        obtain ⟨z_2039, rfl, hzz_2039⟩ := hw_2038
        refine lv_if_eq (tgt := 47) hx hb dX7_scanWord_19 (by decide) (fun b19 => ?_) (fun b19 => ?_)
        · have yb19 : (z_2039 : Int) = (0 : Int) := (zI_eq (a := z_2039) (b := 0) (by omega) (by omega) (by omega) (by omega)).mp b19
          refine lv_aload_n hx hb dX7_scanWord_47 rfl (lv_at hl 0 rfl) ?_
          refine va_get (D := (dC, dI)) (ci := 7) (v := .int (zI (e0_0_3))) (C := RX7) (T := TX7) (N := 18) hx hb hts mem_X7_scanWord_0 hown hK hP 0 rfl rfl 3 (by decide) (ow (k := 0) rfl) (fun _ h9 => h9) rfl dX7_scanWord_48 ?_
          refine lv_aload_n hx hb dX7_scanWord_51 rfl (lv_at hl 0 rfl) ?_
          refine va_get (D := (dC, dI)) (ci := 7) (v := .int (zI (z12_place))) (C := RX7) (T := TX7) (N := 18) hx hb hts mem_X7_scanWord_0 hown hK hP 0 rfl rfl 5 (by decide) (ow (k := 2) rfl) (fun _ h9 => h9) rfl dX7_scanWord_52 ?_
          refine lv_iconst (v := 1) hx hb dX7_scanWord_55 (by decide) ?_
          refine lv_iadd hx hb dX7_scanWord_56 ?_
          refine lv_topi (fun z ez => ?_)
          obtain rfl : z = zI (z12_place + 1) := ez.trans (zI_add (z12_place) (1))
          refine lv_icmp_ne (tgt := 64) hx hb dX7_scanWord_57 (by decide) (fun b57 => ?_) (fun b57 => ?_)
          · have yb57 : ¬ (e0_0_3 : Int) = (z12_place + 1 : Int) := fun q => b57 ((zI_eq (a := e0_0_3) (b := z12_place + 1) (by omega) (by omega) (by omega) (by omega)).mpr q)
            refine lv_iconst (v := 0) hx hb dX7_scanWord_64 (by decide) ?_
            refine lv_istore_n (lv' := [(1, .int 0), (0, .ref h0)]) hx hb dX7_scanWord_65 rfl hl (by decide) rfl (fun ls hl => ?_)
            refine lv_iload_n hx hb dX7_scanWord_66 rfl (lv_at hl 0 rfl) ?_
            refine lv_if_eq (tgt := 101) hx hb dX7_scanWord_67 (by decide) (fun _ => ?_) (fun h9 => absurd h9 (by decide))
            refine lv_iload_n hx hb dX7_scanWord_101 rfl (lv_at hl 0 rfl) ?_
            refine lv_if_eq (tgt := 135) hx hb dX7_scanWord_102 (by decide) (fun _ => ?_) (fun h9 => absurd h9 (by decide))
            refine lv_aload_n hx hb dX7_scanWord_135 rfl (lv_at hl 1 rfl) ?_
            refine lv_aload_n hx hb dX7_scanWord_136 rfl (lv_at hl 1 rfl) ?_
            have hPc := hP.sub (ws' := [(h0, .inr (7, [v12_0, .ref q_1201, .int (zI (z12_length)), .int (zI (e0_0_3)), .int (zI (z12_kind)), .int (zI (z12_place)), .int (zI (e0_0_6)), v12_7, v12_8, v12_9, v12_10, v12_11, v12_12, v12_13, v12_14, v12_15, v12_16, v12_17])), (q_1201, .inl (cA_1201, 8192, .inl fa12_bytes))]) [0, 1] rfl
            have hDc := hD.sub (ws' := [(h0, .inr (7, [v12_0, .ref q_1201, .int (zI (z12_length)), .int (zI (e0_0_3)), .int (zI (z12_kind)), .int (zI (z12_place)), .int (zI (e0_0_6)), v12_7, v12_8, v12_9, v12_10, v12_11, v12_12, v12_13, v12_14, v12_15, v12_16, v12_17])), (q_1201, .inl (cA_1201, 8192, .inl fa12_bytes))]) [0, 1] (by decide) rfl
            have hKc := hK.sub (tys' := [(cA_1201, .byte)]) [0] rfl
            have hFc := va_free (wc := [(h0, .inr (7, [v12_0, .ref q_1201, .int (zI (z12_length)), .int (zI (e0_0_3)), .int (zI (z12_kind)), .int (zI (z12_place)), .int (zI (e0_0_6)), v12_7, v12_8, v12_9, v12_10, v12_11, v12_12, v12_13, v12_14, v12_15, v12_16, v12_17])), (q_1201, .inl (cA_1201, 8192, .inl fa12_bytes))]) hD hS hA [0, 1] rfl
            refine va_calli (va_runV (As := []) (rest := [.ref h0]) ⟨hx, hb, hml, hown, hts⟩ (c_X7_wordKind l dC dI h0 v12_0 z12_length e0_0_3 (.int (zI (z12_kind))) z12_place (.int (zI (e0_0_6))) v12_7 v12_8 v12_9 v12_10 v12_11 v12_12 v12_13 v12_14 v12_15 v12_16 v12_17 q_1201 cA_1201 fa12_bytes (by omega) (by omega) (by omega) (by omega) (by omega) H.size sa_RX7_128 sv_RX7_128 sx_fm sa_RX7_134 sv_RX7_134 sa_RX7_136 sv_RX7_136 sa_RX7_138 sv_RX7_138 sa_RX7_140 sv_RX7_140 sa_RX7_142 sv_RX7_142) (cwV 0 hts g_X7_scanWord_X7_wordKind rfl rfl rfl (by decide +kernel) ⟨(Nat.le_of_ble_eq_true rfl), (Nat.le_of_ble_eq_true rfl)⟩) ⟨fun a U g mk q => by obtain ⟨q0, q1, qP, qK, qD, e0, e1, e2, e3, e4, e5, e6, e7, e8, e9, e10, e11, e12, e13⟩ := q; exact ⟨q0, q1, qP, va_K.moved (u := U) (U := U.calling g mk a) (Vm.Alike.refl U.vm) qK, qD, vk_R.same (u := U) (U := U.calling g mk a) rfl e0, vs_S.moved (u := U) (U := U.calling g mk a) (Vm.Alike.refl U.vm) e1, va_Z.moved (u := U) (U := U.calling g mk a) (Vm.Alike.refl U.vm) e2, va_Z.moved (u := U) (U := U.calling g mk a) (Vm.Alike.refl U.vm) e3, vk_R.same (u := U) (U := U.calling g mk a) rfl e4, vs_S.moved (u := U) (U := U.calling g mk a) (Vm.Alike.refl U.vm) e5, vk_R.same (u := U) (U := U.calling g mk a) rfl e6, vs_S.moved (u := U) (U := U.calling g mk a) (Vm.Alike.refl U.vm) e7, vk_R.same (u := U) (U := U.calling g mk a) rfl e8, vs_S.moved (u := U) (U := U.calling g mk a) (Vm.Alike.refl U.vm) e9, vk_R.same (u := U) (U := U.calling g mk a) rfl e10, vs_S.moved (u := U) (U := U.calling g mk a) (Vm.Alike.refl U.vm) e11, vk_R.same (u := U) (U := U.calling g mk a) rfl e12, vs_S.moved (u := U) (U := U.calling g mk a) (Vm.Alike.refl U.vm) e13⟩, va_recv hKc hPc (ci := 7) (q0 := 0) rfl rfl, fun U hU hW => ⟨rfl, by rw [hU], by rw [hU]; exact hPc, va_K.moved hW.alike hKc, hDc.weaken (fun _ _ _ _ => trivial), vk_R.warm hW hp0, by rw [hU]; exact vs_S.narrow (vs_S.moved hW.alike (vs_S.kept hp1 hS.2.1)) hFc, by rw [hU]; exact va_Z.narrow (va_Z.moved hW.alike (va_Z.kept hp2 hS.2.1)) hFc, by rw [hU]; exact va_Z.narrow (va_Z.moved hW.alike (va_Z.kept hp3 hS.2.1)) hFc, vk_R.warm hW hp4, by rw [hU]; exact vs_S.narrow (vs_S.moved hW.alike (vs_S.kept hp5 hS.2.1)) hFc, vk_R.warm hW hp6, by rw [hU]; exact vs_S.narrow (vs_S.moved hW.alike (vs_S.kept hp7 hS.2.1)) hFc, vk_R.warm hW hp8, by rw [hU]; exact vs_S.narrow (vs_S.moved hW.alike (vs_S.kept hp9 hS.2.1)) hFc, vk_R.warm hW hp10, by rw [hU]; exact vs_S.narrow (vs_S.moved hW.alike (vs_S.kept hp11 hS.2.1)) hFc, vk_R.warm hW hp12, by rw [hU]; exact vs_S.narrow (vs_S.moved hW.alike (vs_S.kept hp13 hS.2.1)) hFc⟩⟩ rfl rfl hl.1 rfl (lv_room (Nat.le_of_ble_eq_true rfl)) dX7_scanWord_137 ⟨(Nat.le_of_ble_eq_true rfl), (Nat.le_of_ble_eq_true rfl)⟩) hS (fun q _ h => hFc q h) hFc (fun r_2040 u t H1 locs ht hvm hw hB hz1 hk1 hS => ?_)
            obtain ⟨hP1, hK1, hD1⟩ := hB
            rw [ht] at hP1
            have hK1 := va_K.moved hvm.symm hK1
            obtain ⟨hP, hD⟩ := va_join (wr := []) (w1 := [(h0, .inr (7, [v12_0, .ref q_1201, .int (zI (z12_length)), .int (zI (e0_0_3)), .int (zI (z12_kind)), .int (zI (z12_place)), .int (zI (e0_0_6)), v12_7, v12_8, v12_9, v12_10, v12_11, v12_12, v12_13, v12_14, v12_15, v12_16, v12_17])), (q_1201, .inl (cA_1201, 8192, .inl fa12_bytes))]) hP hD [0, 1] [] rfl rfl (by decide) (by decide) hk1 hFc hP1 hD1
            have hK := (hK.sub (tys' := []) [] rfl).app hK1
            generalize H1 = H at hP hS ⊢
            have hP : va_P (dC, dI) vwP [(h0, .inr (7, [v12_0, .ref q_1201, .int (zI (z12_length)), .int (zI (e0_0_3)), .int (zI (z12_kind)), .int (zI (z12_place)), .int (zI (e0_0_6)), v12_7, v12_8, v12_9, v12_10, v12_11, v12_12, v12_13, v12_14, v12_15, v12_16, v12_17])), (q_1201, .inl (cA_1201, 8192, .inl fa12_bytes))] H := hP
            have hD : va_D A [(h0, .inr (7, [v12_0, .ref q_1201, .int (zI (z12_length)), .int (zI (e0_0_3)), .int (zI (z12_kind)), .int (zI (z12_place)), .int (zI (e0_0_6)), v12_7, v12_8, v12_9, v12_10, v12_11, v12_12, v12_13, v12_14, v12_15, v12_16, v12_17])), (q_1201, .inl (cA_1201, 8192, .inl fa12_bytes))] := hD
            have hK : va_K (dC, dI) vwP [(cA_1201, .byte)] s := hK
            refine W.widen (k := 0) (n := 0) (Nat.le_of_ble_eq_true rfl) (Nat.le_of_ble_eq_true rfl) ?_
            have hw_2041 := hw
            obtain ⟨z_2042, rfl, hzz_2042⟩ := hw_2041
            refine va_put (D := (dC, dI)) (ci := 7) (v := .int (zI (z_2042))) (ty := .int) (C := RX7) (T := TX7) (N := 18) hx hb hts mem_X7_scanWord_0 tyX7 tyX7_ok nmX7 hown hK hP hD hS 0 rfl rfl 4 (by decide) (ow (k := 7) rfl) (fun _ h9 => h9) rfl (by decide +kernel) rfl rfl (Nat.le_of_ble_eq_true rfl) dX7_scanWord_140 (fun H locs hP hD hS => ?_)
            have hP : va_P (dC, dI) vwP [(h0, .inr (7, [v12_0, .ref q_1201, .int (zI (z12_length)), .int (zI (e0_0_3)), .int (zI (z_2042)), .int (zI (z12_place)), .int (zI (e0_0_6)), v12_7, v12_8, v12_9, v12_10, v12_11, v12_12, v12_13, v12_14, v12_15, v12_16, v12_17])), (q_1201, .inl (cA_1201, 8192, .inl fa12_bytes))] H := hP
            have hD : va_D A [(h0, .inr (7, [v12_0, .ref q_1201, .int (zI (z12_length)), .int (zI (e0_0_3)), .int (zI (z_2042)), .int (zI (z12_place)), .int (zI (e0_0_6)), v12_7, v12_8, v12_9, v12_10, v12_11, v12_12, v12_13, v12_14, v12_15, v12_16, v12_17])), (q_1201, .inl (cA_1201, 8192, .inl fa12_bytes))] := hD
            subst hQ
            refine W.widen (k := 0) (n := 0) (Nat.le_of_ble_eq_true rfl) (Nat.le_of_ble_eq_true rfl) ?_
            exact W.vret hx hb hr (fun t ht hW => ⟨⟨(), rfl, trivial, e0_0_3, z_2042, e0_0_6, ⟨(by omega), (by omega), (by omega), ⟨(by first | exact hu_2036.1 | (unfold RKV; omega)), by omega⟩⟩, by rw [ht]; exact hP, va_K.moved hW.alike hK, hD⟩, hS.F ht⟩) hS.2.2 dX7_scanWord_143
          · have yb57 : (e0_0_3 : Int) = (z12_place + 1 : Int) := (zI_eq (a := e0_0_3) (b := z12_place + 1) (by omega) (by omega) (by omega) (by omega)).mp b57
            refine lv_iconst (v := 1) hx hb dX7_scanWord_60 (by decide) ?_
            refine lv_goto (tgt := 65) hx hb dX7_scanWord_61 (by decide) ?_
            refine lv_istore_n (lv' := [(1, .int 1), (0, .ref h0)]) hx hb dX7_scanWord_65 rfl hl (by decide) rfl (fun ls hl => ?_)
            refine lv_iload_n hx hb dX7_scanWord_66 rfl (lv_at hl 0 rfl) ?_
            refine lv_if_eq (tgt := 101) hx hb dX7_scanWord_67 (by decide) (fun h9 => absurd h9 (by decide)) (fun _ => ?_)
            refine lv_aload_n hx hb dX7_scanWord_70 rfl (lv_at hl 1 rfl) ?_
            refine va_get (D := (dC, dI)) (ci := 7) (v := .int (zI (e0_0_6))) (C := RX7) (T := TX7) (N := 18) hx hb hts mem_X7_scanWord_0 hown hK hP 0 rfl rfl 6 (by decide) (ow (k := 8) rfl) (fun _ h9 => h9) rfl dX7_scanWord_71 ?_
            refine lv_bipush (v := 118) hx hb dX7_scanWord_74 (by decide) ?_
            refine lv_icmp_ne (tgt := 101) hx hb dX7_scanWord_76 (by decide) (fun b76 => ?_) (fun b76 => ?_)
            · have yb76 : ¬ (e0_0_6 : Int) = (118 : Int) := fun q => b76 ((zI_eq (a := e0_0_6) (b := 118) (by omega) (by omega) (by omega) (by omega)).mpr q)
              refine lv_iload_n hx hb dX7_scanWord_101 rfl (lv_at hl 0 rfl) ?_
              refine lv_if_eq (tgt := 135) hx hb dX7_scanWord_102 (by decide) (fun h9 => absurd h9 (by decide)) (fun _ => ?_)
              refine lv_aload_n hx hb dX7_scanWord_105 rfl (lv_at hl 1 rfl) ?_
              refine va_get (D := (dC, dI)) (ci := 7) (v := .int (zI (e0_0_6))) (C := RX7) (T := TX7) (N := 18) hx hb hts mem_X7_scanWord_0 hown hK hP 0 rfl rfl 6 (by decide) (ow (k := 8) rfl) (fun _ h9 => h9) rfl dX7_scanWord_106 ?_
              refine lv_bipush (v := 98) hx hb dX7_scanWord_109 (by decide) ?_
              refine lv_icmp_ne (tgt := 135) hx hb dX7_scanWord_111 (by decide) (fun b111 => ?_) (fun b111 => ?_)
              · have yb111 : ¬ (e0_0_6 : Int) = (98 : Int) := fun q => b111 ((zI_eq (a := e0_0_6) (b := 98) (by omega) (by omega) (by omega) (by omega)).mpr q)
                refine lv_aload_n hx hb dX7_scanWord_135 rfl (lv_at hl 1 rfl) ?_
                refine lv_aload_n hx hb dX7_scanWord_136 rfl (lv_at hl 1 rfl) ?_
                have hPc := hP.sub (ws' := [(h0, .inr (7, [v12_0, .ref q_1201, .int (zI (z12_length)), .int (zI (e0_0_3)), .int (zI (z12_kind)), .int (zI (z12_place)), .int (zI (e0_0_6)), v12_7, v12_8, v12_9, v12_10, v12_11, v12_12, v12_13, v12_14, v12_15, v12_16, v12_17])), (q_1201, .inl (cA_1201, 8192, .inl fa12_bytes))]) [0, 1] rfl
                have hDc := hD.sub (ws' := [(h0, .inr (7, [v12_0, .ref q_1201, .int (zI (z12_length)), .int (zI (e0_0_3)), .int (zI (z12_kind)), .int (zI (z12_place)), .int (zI (e0_0_6)), v12_7, v12_8, v12_9, v12_10, v12_11, v12_12, v12_13, v12_14, v12_15, v12_16, v12_17])), (q_1201, .inl (cA_1201, 8192, .inl fa12_bytes))]) [0, 1] (by decide) rfl
                have hKc := hK.sub (tys' := [(cA_1201, .byte)]) [0] rfl
                have hFc := va_free (wc := [(h0, .inr (7, [v12_0, .ref q_1201, .int (zI (z12_length)), .int (zI (e0_0_3)), .int (zI (z12_kind)), .int (zI (z12_place)), .int (zI (e0_0_6)), v12_7, v12_8, v12_9, v12_10, v12_11, v12_12, v12_13, v12_14, v12_15, v12_16, v12_17])), (q_1201, .inl (cA_1201, 8192, .inl fa12_bytes))]) hD hS hA [0, 1] rfl
                refine va_calli (va_runV (As := []) (rest := [.ref h0]) ⟨hx, hb, hml, hown, hts⟩ (c_X7_wordKind l dC dI h0 v12_0 z12_length e0_0_3 (.int (zI (z12_kind))) z12_place (.int (zI (e0_0_6))) v12_7 v12_8 v12_9 v12_10 v12_11 v12_12 v12_13 v12_14 v12_15 v12_16 v12_17 q_1201 cA_1201 fa12_bytes (by omega) (by omega) (by omega) (by omega) (by omega) H.size sa_RX7_128 sv_RX7_128 sx_fm sa_RX7_134 sv_RX7_134 sa_RX7_136 sv_RX7_136 sa_RX7_138 sv_RX7_138 sa_RX7_140 sv_RX7_140 sa_RX7_142 sv_RX7_142) (cwV 0 hts g_X7_scanWord_X7_wordKind rfl rfl rfl (by decide +kernel) ⟨(Nat.le_of_ble_eq_true rfl), (Nat.le_of_ble_eq_true rfl)⟩) ⟨fun a U g mk q => by obtain ⟨q0, q1, qP, qK, qD, e0, e1, e2, e3, e4, e5, e6, e7, e8, e9, e10, e11, e12, e13⟩ := q; exact ⟨q0, q1, qP, va_K.moved (u := U) (U := U.calling g mk a) (Vm.Alike.refl U.vm) qK, qD, vk_R.same (u := U) (U := U.calling g mk a) rfl e0, vs_S.moved (u := U) (U := U.calling g mk a) (Vm.Alike.refl U.vm) e1, va_Z.moved (u := U) (U := U.calling g mk a) (Vm.Alike.refl U.vm) e2, va_Z.moved (u := U) (U := U.calling g mk a) (Vm.Alike.refl U.vm) e3, vk_R.same (u := U) (U := U.calling g mk a) rfl e4, vs_S.moved (u := U) (U := U.calling g mk a) (Vm.Alike.refl U.vm) e5, vk_R.same (u := U) (U := U.calling g mk a) rfl e6, vs_S.moved (u := U) (U := U.calling g mk a) (Vm.Alike.refl U.vm) e7, vk_R.same (u := U) (U := U.calling g mk a) rfl e8, vs_S.moved (u := U) (U := U.calling g mk a) (Vm.Alike.refl U.vm) e9, vk_R.same (u := U) (U := U.calling g mk a) rfl e10, vs_S.moved (u := U) (U := U.calling g mk a) (Vm.Alike.refl U.vm) e11, vk_R.same (u := U) (U := U.calling g mk a) rfl e12, vs_S.moved (u := U) (U := U.calling g mk a) (Vm.Alike.refl U.vm) e13⟩, va_recv hKc hPc (ci := 7) (q0 := 0) rfl rfl, fun U hU hW => ⟨rfl, by rw [hU], by rw [hU]; exact hPc, va_K.moved hW.alike hKc, hDc.weaken (fun _ _ _ _ => trivial), vk_R.warm hW hp0, by rw [hU]; exact vs_S.narrow (vs_S.moved hW.alike (vs_S.kept hp1 hS.2.1)) hFc, by rw [hU]; exact va_Z.narrow (va_Z.moved hW.alike (va_Z.kept hp2 hS.2.1)) hFc, by rw [hU]; exact va_Z.narrow (va_Z.moved hW.alike (va_Z.kept hp3 hS.2.1)) hFc, vk_R.warm hW hp4, by rw [hU]; exact vs_S.narrow (vs_S.moved hW.alike (vs_S.kept hp5 hS.2.1)) hFc, vk_R.warm hW hp6, by rw [hU]; exact vs_S.narrow (vs_S.moved hW.alike (vs_S.kept hp7 hS.2.1)) hFc, vk_R.warm hW hp8, by rw [hU]; exact vs_S.narrow (vs_S.moved hW.alike (vs_S.kept hp9 hS.2.1)) hFc, vk_R.warm hW hp10, by rw [hU]; exact vs_S.narrow (vs_S.moved hW.alike (vs_S.kept hp11 hS.2.1)) hFc, vk_R.warm hW hp12, by rw [hU]; exact vs_S.narrow (vs_S.moved hW.alike (vs_S.kept hp13 hS.2.1)) hFc⟩⟩ rfl rfl hl.1 rfl (lv_room (Nat.le_of_ble_eq_true rfl)) dX7_scanWord_137 ⟨(Nat.le_of_ble_eq_true rfl), (Nat.le_of_ble_eq_true rfl)⟩) hS (fun q _ h => hFc q h) hFc (fun r_2043 u t H1 locs ht hvm hw hB hz1 hk1 hS => ?_)
                obtain ⟨hP1, hK1, hD1⟩ := hB
                rw [ht] at hP1
                have hK1 := va_K.moved hvm.symm hK1
                obtain ⟨hP, hD⟩ := va_join (wr := []) (w1 := [(h0, .inr (7, [v12_0, .ref q_1201, .int (zI (z12_length)), .int (zI (e0_0_3)), .int (zI (z12_kind)), .int (zI (z12_place)), .int (zI (e0_0_6)), v12_7, v12_8, v12_9, v12_10, v12_11, v12_12, v12_13, v12_14, v12_15, v12_16, v12_17])), (q_1201, .inl (cA_1201, 8192, .inl fa12_bytes))]) hP hD [0, 1] [] rfl rfl (by decide) (by decide) hk1 hFc hP1 hD1
                have hK := (hK.sub (tys' := []) [] rfl).app hK1
                generalize H1 = H at hP hS ⊢
                have hP : va_P (dC, dI) vwP [(h0, .inr (7, [v12_0, .ref q_1201, .int (zI (z12_length)), .int (zI (e0_0_3)), .int (zI (z12_kind)), .int (zI (z12_place)), .int (zI (e0_0_6)), v12_7, v12_8, v12_9, v12_10, v12_11, v12_12, v12_13, v12_14, v12_15, v12_16, v12_17])), (q_1201, .inl (cA_1201, 8192, .inl fa12_bytes))] H := hP
                have hD : va_D A [(h0, .inr (7, [v12_0, .ref q_1201, .int (zI (z12_length)), .int (zI (e0_0_3)), .int (zI (z12_kind)), .int (zI (z12_place)), .int (zI (e0_0_6)), v12_7, v12_8, v12_9, v12_10, v12_11, v12_12, v12_13, v12_14, v12_15, v12_16, v12_17])), (q_1201, .inl (cA_1201, 8192, .inl fa12_bytes))] := hD
                have hK : va_K (dC, dI) vwP [(cA_1201, .byte)] s := hK
                refine W.widen (k := 0) (n := 0) (Nat.le_of_ble_eq_true rfl) (Nat.le_of_ble_eq_true rfl) ?_
                have hw_2044 := hw
                obtain ⟨z_2045, rfl, hzz_2045⟩ := hw_2044
                refine va_put (D := (dC, dI)) (ci := 7) (v := .int (zI (z_2045))) (ty := .int) (C := RX7) (T := TX7) (N := 18) hx hb hts mem_X7_scanWord_0 tyX7 tyX7_ok nmX7 hown hK hP hD hS 0 rfl rfl 4 (by decide) (ow (k := 7) rfl) (fun _ h9 => h9) rfl (by decide +kernel) rfl rfl (Nat.le_of_ble_eq_true rfl) dX7_scanWord_140 (fun H locs hP hD hS => ?_)
                have hP : va_P (dC, dI) vwP [(h0, .inr (7, [v12_0, .ref q_1201, .int (zI (z12_length)), .int (zI (e0_0_3)), .int (zI (z_2045)), .int (zI (z12_place)), .int (zI (e0_0_6)), v12_7, v12_8, v12_9, v12_10, v12_11, v12_12, v12_13, v12_14, v12_15, v12_16, v12_17])), (q_1201, .inl (cA_1201, 8192, .inl fa12_bytes))] H := hP
                have hD : va_D A [(h0, .inr (7, [v12_0, .ref q_1201, .int (zI (z12_length)), .int (zI (e0_0_3)), .int (zI (z_2045)), .int (zI (z12_place)), .int (zI (e0_0_6)), v12_7, v12_8, v12_9, v12_10, v12_11, v12_12, v12_13, v12_14, v12_15, v12_16, v12_17])), (q_1201, .inl (cA_1201, 8192, .inl fa12_bytes))] := hD
                subst hQ
                refine W.widen (k := 0) (n := 0) (Nat.le_of_ble_eq_true rfl) (Nat.le_of_ble_eq_true rfl) ?_
                exact W.vret hx hb hr (fun t ht hW => ⟨⟨(), rfl, trivial, e0_0_3, z_2045, e0_0_6, ⟨(by omega), (by omega), (by omega), ⟨(by first | exact hu_2036.1 | (unfold RKV; omega)), by omega⟩⟩, by rw [ht]; exact hP, va_K.moved hW.alike hK, hD⟩, hS.F ht⟩) hS.2.2 dX7_scanWord_143
              · have yb111 : (e0_0_6 : Int) = (98 : Int) := (zI_eq (a := e0_0_6) (b := 98) (by omega) (by omega) (by omega) (by omega)).mp b111
                refine lv_aload_n hx hb dX7_scanWord_114 rfl (lv_at hl 1 rfl) ?_
                refine lv_aload_n hx hb dX7_scanWord_115 rfl (lv_at hl 1 rfl) ?_
                refine va_get (D := (dC, dI)) (ci := 7) (v := .int (zI (e0_0_3))) (C := RX7) (T := TX7) (N := 18) hx hb hts mem_X7_scanWord_0 hown hK hP 0 rfl rfl 3 (by decide) (ow (k := 0) rfl) (fun _ h9 => h9) rfl dX7_scanWord_116 ?_
                have hPc := hP.sub (ws' := [(h0, .inr (7, [v12_0, .ref q_1201, .int (zI (z12_length)), .int (zI (e0_0_3)), .int (zI (z12_kind)), .int (zI (z12_place)), .int (zI (e0_0_6)), v12_7, v12_8, v12_9, v12_10, v12_11, v12_12, v12_13, v12_14, v12_15, v12_16, v12_17])), (q_1201, .inl (cA_1201, 8192, .inl fa12_bytes))]) [0, 1] rfl
                have hDc := hD.sub (ws' := [(h0, .inr (7, [v12_0, .ref q_1201, .int (zI (z12_length)), .int (zI (e0_0_3)), .int (zI (z12_kind)), .int (zI (z12_place)), .int (zI (e0_0_6)), v12_7, v12_8, v12_9, v12_10, v12_11, v12_12, v12_13, v12_14, v12_15, v12_16, v12_17])), (q_1201, .inl (cA_1201, 8192, .inl fa12_bytes))]) [0, 1] (by decide) rfl
                have hKc := hK.sub (tys' := [(cA_1201, .byte)]) [0] rfl
                have hFc := va_free (wc := [(h0, .inr (7, [v12_0, .ref q_1201, .int (zI (z12_length)), .int (zI (e0_0_3)), .int (zI (z12_kind)), .int (zI (z12_place)), .int (zI (e0_0_6)), v12_7, v12_8, v12_9, v12_10, v12_11, v12_12, v12_13, v12_14, v12_15, v12_16, v12_17])), (q_1201, .inl (cA_1201, 8192, .inl fa12_bytes))]) hD hS hA [0, 1] rfl
                refine va_calli (va_runV (As := [.int (zI (e0_0_3))]) (rest := []) ⟨hx, hb, hml, hown, hts⟩ (c_X7_digitAt l dC dI h0 v12_0 z12_length (.int (zI (e0_0_3))) (.int (zI (z12_kind))) (.int (zI (z12_place))) (.int (zI (e0_0_6))) v12_7 v12_8 v12_9 v12_10 v12_11 v12_12 v12_13 v12_14 v12_15 v12_16 v12_17 q_1201 cA_1201 fa12_bytes e0_0_3 (by omega) (by omega) H.size) (cwV 1 hts g_X7_scanWord_X7_digitAt rfl rfl rfl (by decide +kernel) ⟨(Nat.le_of_ble_eq_true rfl), (Nat.le_of_ble_eq_true rfl)⟩) ⟨fun a U g mk q => by obtain ⟨q0, q1, qP, qK, qD⟩ := q; exact ⟨q0, q1, qP, va_K.moved (u := U) (U := U.calling g mk a) (Vm.Alike.refl U.vm) qK, qD⟩, va_recv hKc hPc (ci := 7) (q0 := 0) rfl rfl, fun U hU hW => ⟨rfl, by rw [hU], by rw [hU]; exact hPc, va_K.moved hW.alike hKc, hDc.weaken (fun _ _ _ _ => trivial)⟩⟩ rfl rfl hl.1 rfl (lv_room (Nat.le_of_ble_eq_true rfl)) dX7_scanWord_119 ⟨(Nat.le_of_ble_eq_true rfl), (Nat.le_of_ble_eq_true rfl)⟩) hS (fun q _ h => hFc q h) hFc (fun r_2046 u t H1 locs ht hvm hw hB hz1 hk1 hS => ?_)
                obtain ⟨hP1, hK1, hD1⟩ := hB
                rw [ht] at hP1
                have hK1 := va_K.moved hvm.symm hK1
                obtain ⟨hP, hD⟩ := va_join (wr := []) (w1 := [(h0, .inr (7, [v12_0, .ref q_1201, .int (zI (z12_length)), .int (zI (e0_0_3)), .int (zI (z12_kind)), .int (zI (z12_place)), .int (zI (e0_0_6)), v12_7, v12_8, v12_9, v12_10, v12_11, v12_12, v12_13, v12_14, v12_15, v12_16, v12_17])), (q_1201, .inl (cA_1201, 8192, .inl fa12_bytes))]) hP hD [0, 1] [] rfl rfl (by decide) (by decide) hk1 hFc hP1 hD1
                have hK := (hK.sub (tys' := []) [] rfl).app hK1
                generalize H1 = H at hP hS ⊢
                have hP : va_P (dC, dI) vwP [(h0, .inr (7, [v12_0, .ref q_1201, .int (zI (z12_length)), .int (zI (e0_0_3)), .int (zI (z12_kind)), .int (zI (z12_place)), .int (zI (e0_0_6)), v12_7, v12_8, v12_9, v12_10, v12_11, v12_12, v12_13, v12_14, v12_15, v12_16, v12_17])), (q_1201, .inl (cA_1201, 8192, .inl fa12_bytes))] H := hP
                have hD : va_D A [(h0, .inr (7, [v12_0, .ref q_1201, .int (zI (z12_length)), .int (zI (e0_0_3)), .int (zI (z12_kind)), .int (zI (z12_place)), .int (zI (e0_0_6)), v12_7, v12_8, v12_9, v12_10, v12_11, v12_12, v12_13, v12_14, v12_15, v12_16, v12_17])), (q_1201, .inl (cA_1201, 8192, .inl fa12_bytes))] := hD
                have hK : va_K (dC, dI) vwP [(cA_1201, .byte)] s := hK
                refine W.widen (k := 0) (n := 0) (Nat.le_of_ble_eq_true rfl) (Nat.le_of_ble_eq_true rfl) ?_
                obtain rfl : r_2046 = (zI (dgF fa12_bytes z12_length (e0_0_3))) := hw
                have := dgF_spec fa12_bytes z12_length (e0_0_3)
                have := btF_rng fa12_bytes z12_length (e0_0_3)
                refine lv_if_eq (tgt := 135) hx hb dX7_scanWord_122 (by decide) (fun b122 => ?_) (fun b122 => ?_)
                · have yb122 : (dgF fa12_bytes z12_length (e0_0_3) : Int) = (0 : Int) := (zI_eq (a := dgF fa12_bytes z12_length (e0_0_3)) (b := 0) (by omega) (by omega) (by omega) (by omega)).mp b122
                  refine lv_aload_n hx hb dX7_scanWord_135 rfl (lv_at hl 1 rfl) ?_
                  refine lv_aload_n hx hb dX7_scanWord_136 rfl (lv_at hl 1 rfl) ?_
                  have hPc := hP.sub (ws' := [(h0, .inr (7, [v12_0, .ref q_1201, .int (zI (z12_length)), .int (zI (e0_0_3)), .int (zI (z12_kind)), .int (zI (z12_place)), .int (zI (e0_0_6)), v12_7, v12_8, v12_9, v12_10, v12_11, v12_12, v12_13, v12_14, v12_15, v12_16, v12_17])), (q_1201, .inl (cA_1201, 8192, .inl fa12_bytes))]) [0, 1] rfl
                  have hDc := hD.sub (ws' := [(h0, .inr (7, [v12_0, .ref q_1201, .int (zI (z12_length)), .int (zI (e0_0_3)), .int (zI (z12_kind)), .int (zI (z12_place)), .int (zI (e0_0_6)), v12_7, v12_8, v12_9, v12_10, v12_11, v12_12, v12_13, v12_14, v12_15, v12_16, v12_17])), (q_1201, .inl (cA_1201, 8192, .inl fa12_bytes))]) [0, 1] (by decide) rfl
                  have hKc := hK.sub (tys' := [(cA_1201, .byte)]) [0] rfl
                  have hFc := va_free (wc := [(h0, .inr (7, [v12_0, .ref q_1201, .int (zI (z12_length)), .int (zI (e0_0_3)), .int (zI (z12_kind)), .int (zI (z12_place)), .int (zI (e0_0_6)), v12_7, v12_8, v12_9, v12_10, v12_11, v12_12, v12_13, v12_14, v12_15, v12_16, v12_17])), (q_1201, .inl (cA_1201, 8192, .inl fa12_bytes))]) hD hS hA [0, 1] rfl
                  refine va_calli (va_runV (As := []) (rest := [.ref h0]) ⟨hx, hb, hml, hown, hts⟩ (c_X7_wordKind l dC dI h0 v12_0 z12_length e0_0_3 (.int (zI (z12_kind))) z12_place (.int (zI (e0_0_6))) v12_7 v12_8 v12_9 v12_10 v12_11 v12_12 v12_13 v12_14 v12_15 v12_16 v12_17 q_1201 cA_1201 fa12_bytes (by omega) (by omega) (by omega) (by omega) (by omega) H.size sa_RX7_128 sv_RX7_128 sx_fm sa_RX7_134 sv_RX7_134 sa_RX7_136 sv_RX7_136 sa_RX7_138 sv_RX7_138 sa_RX7_140 sv_RX7_140 sa_RX7_142 sv_RX7_142) (cwV 0 hts g_X7_scanWord_X7_wordKind rfl rfl rfl (by decide +kernel) ⟨(Nat.le_of_ble_eq_true rfl), (Nat.le_of_ble_eq_true rfl)⟩) ⟨fun a U g mk q => by obtain ⟨q0, q1, qP, qK, qD, e0, e1, e2, e3, e4, e5, e6, e7, e8, e9, e10, e11, e12, e13⟩ := q; exact ⟨q0, q1, qP, va_K.moved (u := U) (U := U.calling g mk a) (Vm.Alike.refl U.vm) qK, qD, vk_R.same (u := U) (U := U.calling g mk a) rfl e0, vs_S.moved (u := U) (U := U.calling g mk a) (Vm.Alike.refl U.vm) e1, va_Z.moved (u := U) (U := U.calling g mk a) (Vm.Alike.refl U.vm) e2, va_Z.moved (u := U) (U := U.calling g mk a) (Vm.Alike.refl U.vm) e3, vk_R.same (u := U) (U := U.calling g mk a) rfl e4, vs_S.moved (u := U) (U := U.calling g mk a) (Vm.Alike.refl U.vm) e5, vk_R.same (u := U) (U := U.calling g mk a) rfl e6, vs_S.moved (u := U) (U := U.calling g mk a) (Vm.Alike.refl U.vm) e7, vk_R.same (u := U) (U := U.calling g mk a) rfl e8, vs_S.moved (u := U) (U := U.calling g mk a) (Vm.Alike.refl U.vm) e9, vk_R.same (u := U) (U := U.calling g mk a) rfl e10, vs_S.moved (u := U) (U := U.calling g mk a) (Vm.Alike.refl U.vm) e11, vk_R.same (u := U) (U := U.calling g mk a) rfl e12, vs_S.moved (u := U) (U := U.calling g mk a) (Vm.Alike.refl U.vm) e13⟩, va_recv hKc hPc (ci := 7) (q0 := 0) rfl rfl, fun U hU hW => ⟨rfl, by rw [hU], by rw [hU]; exact hPc, va_K.moved hW.alike hKc, hDc.weaken (fun _ _ _ _ => trivial), vk_R.warm hW hp0, by rw [hU]; exact vs_S.narrow (vs_S.moved hW.alike (vs_S.kept hp1 hS.2.1)) hFc, by rw [hU]; exact va_Z.narrow (va_Z.moved hW.alike (va_Z.kept hp2 hS.2.1)) hFc, by rw [hU]; exact va_Z.narrow (va_Z.moved hW.alike (va_Z.kept hp3 hS.2.1)) hFc, vk_R.warm hW hp4, by rw [hU]; exact vs_S.narrow (vs_S.moved hW.alike (vs_S.kept hp5 hS.2.1)) hFc, vk_R.warm hW hp6, by rw [hU]; exact vs_S.narrow (vs_S.moved hW.alike (vs_S.kept hp7 hS.2.1)) hFc, vk_R.warm hW hp8, by rw [hU]; exact vs_S.narrow (vs_S.moved hW.alike (vs_S.kept hp9 hS.2.1)) hFc, vk_R.warm hW hp10, by rw [hU]; exact vs_S.narrow (vs_S.moved hW.alike (vs_S.kept hp11 hS.2.1)) hFc, vk_R.warm hW hp12, by rw [hU]; exact vs_S.narrow (vs_S.moved hW.alike (vs_S.kept hp13 hS.2.1)) hFc⟩⟩ rfl rfl hl.1 rfl (lv_room (Nat.le_of_ble_eq_true rfl)) dX7_scanWord_137 ⟨(Nat.le_of_ble_eq_true rfl), (Nat.le_of_ble_eq_true rfl)⟩) hS (fun q _ h => hFc q h) hFc (fun r_2047 u t H1 locs ht hvm hw hB hz1 hk1 hS => ?_)
                  obtain ⟨hP1, hK1, hD1⟩ := hB
                  rw [ht] at hP1
                  have hK1 := va_K.moved hvm.symm hK1
                  obtain ⟨hP, hD⟩ := va_join (wr := []) (w1 := [(h0, .inr (7, [v12_0, .ref q_1201, .int (zI (z12_length)), .int (zI (e0_0_3)), .int (zI (z12_kind)), .int (zI (z12_place)), .int (zI (e0_0_6)), v12_7, v12_8, v12_9, v12_10, v12_11, v12_12, v12_13, v12_14, v12_15, v12_16, v12_17])), (q_1201, .inl (cA_1201, 8192, .inl fa12_bytes))]) hP hD [0, 1] [] rfl rfl (by decide) (by decide) hk1 hFc hP1 hD1
                  have hK := (hK.sub (tys' := []) [] rfl).app hK1
                  generalize H1 = H at hP hS ⊢
                  have hP : va_P (dC, dI) vwP [(h0, .inr (7, [v12_0, .ref q_1201, .int (zI (z12_length)), .int (zI (e0_0_3)), .int (zI (z12_kind)), .int (zI (z12_place)), .int (zI (e0_0_6)), v12_7, v12_8, v12_9, v12_10, v12_11, v12_12, v12_13, v12_14, v12_15, v12_16, v12_17])), (q_1201, .inl (cA_1201, 8192, .inl fa12_bytes))] H := hP
                  have hD : va_D A [(h0, .inr (7, [v12_0, .ref q_1201, .int (zI (z12_length)), .int (zI (e0_0_3)), .int (zI (z12_kind)), .int (zI (z12_place)), .int (zI (e0_0_6)), v12_7, v12_8, v12_9, v12_10, v12_11, v12_12, v12_13, v12_14, v12_15, v12_16, v12_17])), (q_1201, .inl (cA_1201, 8192, .inl fa12_bytes))] := hD
                  have hK : va_K (dC, dI) vwP [(cA_1201, .byte)] s := hK
                  refine W.widen (k := 0) (n := 0) (Nat.le_of_ble_eq_true rfl) (Nat.le_of_ble_eq_true rfl) ?_
                  have hw_2048 := hw
                  obtain ⟨z_2049, rfl, hzz_2049⟩ := hw_2048
                  refine va_put (D := (dC, dI)) (ci := 7) (v := .int (zI (z_2049))) (ty := .int) (C := RX7) (T := TX7) (N := 18) hx hb hts mem_X7_scanWord_0 tyX7 tyX7_ok nmX7 hown hK hP hD hS 0 rfl rfl 4 (by decide) (ow (k := 7) rfl) (fun _ h9 => h9) rfl (by decide +kernel) rfl rfl (Nat.le_of_ble_eq_true rfl) dX7_scanWord_140 (fun H locs hP hD hS => ?_)
                  have hP : va_P (dC, dI) vwP [(h0, .inr (7, [v12_0, .ref q_1201, .int (zI (z12_length)), .int (zI (e0_0_3)), .int (zI (z_2049)), .int (zI (z12_place)), .int (zI (e0_0_6)), v12_7, v12_8, v12_9, v12_10, v12_11, v12_12, v12_13, v12_14, v12_15, v12_16, v12_17])), (q_1201, .inl (cA_1201, 8192, .inl fa12_bytes))] H := hP
                  have hD : va_D A [(h0, .inr (7, [v12_0, .ref q_1201, .int (zI (z12_length)), .int (zI (e0_0_3)), .int (zI (z_2049)), .int (zI (z12_place)), .int (zI (e0_0_6)), v12_7, v12_8, v12_9, v12_10, v12_11, v12_12, v12_13, v12_14, v12_15, v12_16, v12_17])), (q_1201, .inl (cA_1201, 8192, .inl fa12_bytes))] := hD
                  subst hQ
                  refine W.widen (k := 0) (n := 0) (Nat.le_of_ble_eq_true rfl) (Nat.le_of_ble_eq_true rfl) ?_
                  exact W.vret hx hb hr (fun t ht hW => ⟨⟨(), rfl, trivial, e0_0_3, z_2049, e0_0_6, ⟨(by omega), (by omega), (by omega), ⟨(by first | exact hu_2036.1 | (unfold RKV; omega)), by omega⟩⟩, by rw [ht]; exact hP, va_K.moved hW.alike hK, hD⟩, hS.F ht⟩) hS.2.2 dX7_scanWord_143
                · have yb122 : ¬ (dgF fa12_bytes z12_length (e0_0_3) : Int) = (0 : Int) := fun q => b122 ((zI_eq (a := dgF fa12_bytes z12_length (e0_0_3)) (b := 0) (by omega) (by omega) (by omega) (by omega)).mpr q)
                  refine lv_aload_n hx hb dX7_scanWord_125 rfl (lv_at hl 1 rfl) ?_
                  refine lv_iconst (v := 4) hx hb dX7_scanWord_126 (by decide) ?_
                  refine lv_bipush (v := 60) hx hb dX7_scanWord_127 (by decide) ?_
                  have hPc := hP.sub (ws' := [(h0, .inr (7, [v12_0, .ref q_1201, .int (zI (z12_length)), .int (zI (e0_0_3)), .int (zI (z12_kind)), .int (zI (z12_place)), .int (zI (e0_0_6)), v12_7, v12_8, v12_9, v12_10, v12_11, v12_12, v12_13, v12_14, v12_15, v12_16, v12_17])), (q_1201, .inl (cA_1201, 8192, .inl fa12_bytes))]) [0, 1] rfl
                  have hDc := hD.sub (ws' := [(h0, .inr (7, [v12_0, .ref q_1201, .int (zI (z12_length)), .int (zI (e0_0_3)), .int (zI (z12_kind)), .int (zI (z12_place)), .int (zI (e0_0_6)), v12_7, v12_8, v12_9, v12_10, v12_11, v12_12, v12_13, v12_14, v12_15, v12_16, v12_17])), (q_1201, .inl (cA_1201, 8192, .inl fa12_bytes))]) [0, 1] (by decide) rfl
                  have hKc := hK.sub (tys' := [(cA_1201, .byte)]) [0] rfl
                  have hFc := va_free (wc := [(h0, .inr (7, [v12_0, .ref q_1201, .int (zI (z12_length)), .int (zI (e0_0_3)), .int (zI (z12_kind)), .int (zI (z12_place)), .int (zI (e0_0_6)), v12_7, v12_8, v12_9, v12_10, v12_11, v12_12, v12_13, v12_14, v12_15, v12_16, v12_17])), (q_1201, .inl (cA_1201, 8192, .inl fa12_bytes))]) hD hS hA [0, 1] rfl
                  refine va_callv (va_runV (As := [.int 4, .int 60]) (rest := []) ⟨hx, hb, hml, hown, hts⟩ (c_X7_scanNamed l dC dI h0 v12_0 z12_length e0_0_3 z12_kind (.int (zI (z12_place))) e0_0_6 v12_7 v12_8 v12_9 v12_10 v12_11 v12_12 v12_13 v12_14 v12_15 v12_16 v12_17 q_1201 cA_1201 fa12_bytes 4 60 (by omega) (by omega) (by omega) (by omega) (by omega) (by omega) H.size) (cwV 2 hts g_X7_scanWord_X7_scanNamed rfl rfl rfl (by decide +kernel) ⟨(Nat.le_of_ble_eq_true rfl), (Nat.le_of_ble_eq_true rfl)⟩) ⟨fun a U g mk q => by obtain ⟨q0, q1, qP, qK, qD⟩ := q; exact ⟨q0, q1, qP, va_K.moved (u := U) (U := U.calling g mk a) (Vm.Alike.refl U.vm) qK, qD⟩, va_recv hKc hPc (ci := 7) (q0 := 0) rfl rfl, fun U hU hW => ⟨rfl, by rw [hU], by rw [hU]; exact hPc, va_K.moved hW.alike hKc, hDc.weaken (fun _ _ _ _ => trivial)⟩⟩ rfl rfl hl.1 rfl (lv_room (Nat.le_of_ble_eq_true rfl)) dX7_scanWord_129 ⟨(Nat.le_of_ble_eq_true rfl), (Nat.le_of_ble_eq_true rfl)⟩) hS (fun q _ h => hFc q h) hFc (fun  u t H1 locs ht hvm hw hB hz1 hk1 hS => ?_)
                  obtain ⟨z0_2050, z1_2051, z2_2052, hxt_2052, hP1, hK1, hD1⟩ := hB
                  rw [ht] at hP1
                  have hK1 := va_K.moved hvm.symm hK1
                  obtain ⟨hP, hD⟩ := va_join (wr := []) (w1 := [(h0, .inr (7, [v12_0, .ref q_1201, .int (zI (z12_length)), .int (zI (z0_2050)), .int (zI (z1_2051)), .int (zI (z12_place)), .int (zI (z2_2052)), v12_7, v12_8, v12_9, v12_10, v12_11, v12_12, v12_13, v12_14, v12_15, v12_16, v12_17])), (q_1201, .inl (cA_1201, 8192, .inl fa12_bytes))]) hP hD [0, 1] [] rfl rfl (by decide) (by decide) hk1 hFc hP1 hD1
                  have hK := (hK.sub (tys' := []) [] rfl).app hK1
                  generalize H1 = H at hP hS ⊢
                  have hP : va_P (dC, dI) vwP [(h0, .inr (7, [v12_0, .ref q_1201, .int (zI (z12_length)), .int (zI (z0_2050)), .int (zI (z1_2051)), .int (zI (z12_place)), .int (zI (z2_2052)), v12_7, v12_8, v12_9, v12_10, v12_11, v12_12, v12_13, v12_14, v12_15, v12_16, v12_17])), (q_1201, .inl (cA_1201, 8192, .inl fa12_bytes))] H := hP
                  have hD : va_D A [(h0, .inr (7, [v12_0, .ref q_1201, .int (zI (z12_length)), .int (zI (z0_2050)), .int (zI (z1_2051)), .int (zI (z12_place)), .int (zI (z2_2052)), v12_7, v12_8, v12_9, v12_10, v12_11, v12_12, v12_13, v12_14, v12_15, v12_16, v12_17])), (q_1201, .inl (cA_1201, 8192, .inl fa12_bytes))] := hD
                  have hK : va_K (dC, dI) vwP [(cA_1201, .byte)] s := hK
                  refine W.widen (k := 0) (n := 0) (Nat.le_of_ble_eq_true rfl) (Nat.le_of_ble_eq_true rfl) ?_
                  obtain ⟨rk_2053, rk_2054, rk_2055, hu_2055⟩ := hxt_2052
                  refine lv_goto (tgt := 143) hx hb dX7_scanWord_132 (by decide) ?_
                  subst hQ
                  refine W.widen (k := 0) (n := 0) (Nat.le_of_ble_eq_true rfl) (Nat.le_of_ble_eq_true rfl) ?_
                  exact W.vret hx hb hr (fun t ht hW => ⟨⟨(), rfl, trivial, z0_2050, z1_2051, z2_2052, ⟨(by omega), (by omega), (by omega), ⟨(by first | exact hu_2055.1 | (unfold RKV; omega)), by omega⟩⟩, by rw [ht]; exact hP, va_K.moved hW.alike hK, hD⟩, hS.F ht⟩) hS.2.2 dX7_scanWord_143
            · have yb76 : (e0_0_6 : Int) = (118 : Int) := (zI_eq (a := e0_0_6) (b := 118) (by omega) (by omega) (by omega) (by omega)).mp b76
              refine lv_aload_n hx hb dX7_scanWord_79 rfl (lv_at hl 1 rfl) ?_
              refine lv_aload_n hx hb dX7_scanWord_80 rfl (lv_at hl 1 rfl) ?_
              refine va_get (D := (dC, dI)) (ci := 7) (v := .int (zI (e0_0_3))) (C := RX7) (T := TX7) (N := 18) hx hb hts mem_X7_scanWord_0 hown hK hP 0 rfl rfl 3 (by decide) (ow (k := 0) rfl) (fun _ h9 => h9) rfl dX7_scanWord_81 ?_
              have hPc := hP.sub (ws' := [(h0, .inr (7, [v12_0, .ref q_1201, .int (zI (z12_length)), .int (zI (e0_0_3)), .int (zI (z12_kind)), .int (zI (z12_place)), .int (zI (e0_0_6)), v12_7, v12_8, v12_9, v12_10, v12_11, v12_12, v12_13, v12_14, v12_15, v12_16, v12_17])), (q_1201, .inl (cA_1201, 8192, .inl fa12_bytes))]) [0, 1] rfl
              have hDc := hD.sub (ws' := [(h0, .inr (7, [v12_0, .ref q_1201, .int (zI (z12_length)), .int (zI (e0_0_3)), .int (zI (z12_kind)), .int (zI (z12_place)), .int (zI (e0_0_6)), v12_7, v12_8, v12_9, v12_10, v12_11, v12_12, v12_13, v12_14, v12_15, v12_16, v12_17])), (q_1201, .inl (cA_1201, 8192, .inl fa12_bytes))]) [0, 1] (by decide) rfl
              have hKc := hK.sub (tys' := [(cA_1201, .byte)]) [0] rfl
              have hFc := va_free (wc := [(h0, .inr (7, [v12_0, .ref q_1201, .int (zI (z12_length)), .int (zI (e0_0_3)), .int (zI (z12_kind)), .int (zI (z12_place)), .int (zI (e0_0_6)), v12_7, v12_8, v12_9, v12_10, v12_11, v12_12, v12_13, v12_14, v12_15, v12_16, v12_17])), (q_1201, .inl (cA_1201, 8192, .inl fa12_bytes))]) hD hS hA [0, 1] rfl
              refine va_calli (va_runV (As := [.int (zI (e0_0_3))]) (rest := []) ⟨hx, hb, hml, hown, hts⟩ (c_X7_digitAt l dC dI h0 v12_0 z12_length (.int (zI (e0_0_3))) (.int (zI (z12_kind))) (.int (zI (z12_place))) (.int (zI (e0_0_6))) v12_7 v12_8 v12_9 v12_10 v12_11 v12_12 v12_13 v12_14 v12_15 v12_16 v12_17 q_1201 cA_1201 fa12_bytes e0_0_3 (by omega) (by omega) H.size) (cwV 1 hts g_X7_scanWord_X7_digitAt rfl rfl rfl (by decide +kernel) ⟨(Nat.le_of_ble_eq_true rfl), (Nat.le_of_ble_eq_true rfl)⟩) ⟨fun a U g mk q => by obtain ⟨q0, q1, qP, qK, qD⟩ := q; exact ⟨q0, q1, qP, va_K.moved (u := U) (U := U.calling g mk a) (Vm.Alike.refl U.vm) qK, qD⟩, va_recv hKc hPc (ci := 7) (q0 := 0) rfl rfl, fun U hU hW => ⟨rfl, by rw [hU], by rw [hU]; exact hPc, va_K.moved hW.alike hKc, hDc.weaken (fun _ _ _ _ => trivial)⟩⟩ rfl rfl hl.1 rfl (lv_room (Nat.le_of_ble_eq_true rfl)) dX7_scanWord_84 ⟨(Nat.le_of_ble_eq_true rfl), (Nat.le_of_ble_eq_true rfl)⟩) hS (fun q _ h => hFc q h) hFc (fun r_2056 u t H1 locs ht hvm hw hB hz1 hk1 hS => ?_)
              obtain ⟨hP1, hK1, hD1⟩ := hB
              rw [ht] at hP1
              have hK1 := va_K.moved hvm.symm hK1
              obtain ⟨hP, hD⟩ := va_join (wr := []) (w1 := [(h0, .inr (7, [v12_0, .ref q_1201, .int (zI (z12_length)), .int (zI (e0_0_3)), .int (zI (z12_kind)), .int (zI (z12_place)), .int (zI (e0_0_6)), v12_7, v12_8, v12_9, v12_10, v12_11, v12_12, v12_13, v12_14, v12_15, v12_16, v12_17])), (q_1201, .inl (cA_1201, 8192, .inl fa12_bytes))]) hP hD [0, 1] [] rfl rfl (by decide) (by decide) hk1 hFc hP1 hD1
              have hK := (hK.sub (tys' := []) [] rfl).app hK1
              generalize H1 = H at hP hS ⊢
              have hP : va_P (dC, dI) vwP [(h0, .inr (7, [v12_0, .ref q_1201, .int (zI (z12_length)), .int (zI (e0_0_3)), .int (zI (z12_kind)), .int (zI (z12_place)), .int (zI (e0_0_6)), v12_7, v12_8, v12_9, v12_10, v12_11, v12_12, v12_13, v12_14, v12_15, v12_16, v12_17])), (q_1201, .inl (cA_1201, 8192, .inl fa12_bytes))] H := hP
              have hD : va_D A [(h0, .inr (7, [v12_0, .ref q_1201, .int (zI (z12_length)), .int (zI (e0_0_3)), .int (zI (z12_kind)), .int (zI (z12_place)), .int (zI (e0_0_6)), v12_7, v12_8, v12_9, v12_10, v12_11, v12_12, v12_13, v12_14, v12_15, v12_16, v12_17])), (q_1201, .inl (cA_1201, 8192, .inl fa12_bytes))] := hD
              have hK : va_K (dC, dI) vwP [(cA_1201, .byte)] s := hK
              refine W.widen (k := 0) (n := 0) (Nat.le_of_ble_eq_true rfl) (Nat.le_of_ble_eq_true rfl) ?_
              obtain rfl : r_2056 = (zI (dgF fa12_bytes z12_length (e0_0_3))) := hw
              have := dgF_spec fa12_bytes z12_length (e0_0_3)
              have := btF_rng fa12_bytes z12_length (e0_0_3)
              refine lv_if_eq (tgt := 101) hx hb dX7_scanWord_87 (by decide) (fun b87 => ?_) (fun b87 => ?_)
              · have yb87 : (dgF fa12_bytes z12_length (e0_0_3) : Int) = (0 : Int) := (zI_eq (a := dgF fa12_bytes z12_length (e0_0_3)) (b := 0) (by omega) (by omega) (by omega) (by omega)).mp b87
                refine lv_iload_n hx hb dX7_scanWord_101 rfl (lv_at hl 0 rfl) ?_
                refine lv_if_eq (tgt := 135) hx hb dX7_scanWord_102 (by decide) (fun h9 => absurd h9 (by decide)) (fun _ => ?_)
                refine lv_aload_n hx hb dX7_scanWord_105 rfl (lv_at hl 1 rfl) ?_
                refine va_get (D := (dC, dI)) (ci := 7) (v := .int (zI (e0_0_6))) (C := RX7) (T := TX7) (N := 18) hx hb hts mem_X7_scanWord_0 hown hK hP 0 rfl rfl 6 (by decide) (ow (k := 8) rfl) (fun _ h9 => h9) rfl dX7_scanWord_106 ?_
                refine lv_bipush (v := 98) hx hb dX7_scanWord_109 (by decide) ?_
                refine lv_icmp_ne (tgt := 135) hx hb dX7_scanWord_111 (by decide) (fun b111 => ?_) (fun b111 => ?_)
                · have yb111 : ¬ (e0_0_6 : Int) = (98 : Int) := fun q => b111 ((zI_eq (a := e0_0_6) (b := 98) (by omega) (by omega) (by omega) (by omega)).mpr q)
                  refine lv_aload_n hx hb dX7_scanWord_135 rfl (lv_at hl 1 rfl) ?_
                  refine lv_aload_n hx hb dX7_scanWord_136 rfl (lv_at hl 1 rfl) ?_
                  have hPc := hP.sub (ws' := [(h0, .inr (7, [v12_0, .ref q_1201, .int (zI (z12_length)), .int (zI (e0_0_3)), .int (zI (z12_kind)), .int (zI (z12_place)), .int (zI (e0_0_6)), v12_7, v12_8, v12_9, v12_10, v12_11, v12_12, v12_13, v12_14, v12_15, v12_16, v12_17])), (q_1201, .inl (cA_1201, 8192, .inl fa12_bytes))]) [0, 1] rfl
                  have hDc := hD.sub (ws' := [(h0, .inr (7, [v12_0, .ref q_1201, .int (zI (z12_length)), .int (zI (e0_0_3)), .int (zI (z12_kind)), .int (zI (z12_place)), .int (zI (e0_0_6)), v12_7, v12_8, v12_9, v12_10, v12_11, v12_12, v12_13, v12_14, v12_15, v12_16, v12_17])), (q_1201, .inl (cA_1201, 8192, .inl fa12_bytes))]) [0, 1] (by decide) rfl
                  have hKc := hK.sub (tys' := [(cA_1201, .byte)]) [0] rfl
                  have hFc := va_free (wc := [(h0, .inr (7, [v12_0, .ref q_1201, .int (zI (z12_length)), .int (zI (e0_0_3)), .int (zI (z12_kind)), .int (zI (z12_place)), .int (zI (e0_0_6)), v12_7, v12_8, v12_9, v12_10, v12_11, v12_12, v12_13, v12_14, v12_15, v12_16, v12_17])), (q_1201, .inl (cA_1201, 8192, .inl fa12_bytes))]) hD hS hA [0, 1] rfl
                  refine va_calli (va_runV (As := []) (rest := [.ref h0]) ⟨hx, hb, hml, hown, hts⟩ (c_X7_wordKind l dC dI h0 v12_0 z12_length e0_0_3 (.int (zI (z12_kind))) z12_place (.int (zI (e0_0_6))) v12_7 v12_8 v12_9 v12_10 v12_11 v12_12 v12_13 v12_14 v12_15 v12_16 v12_17 q_1201 cA_1201 fa12_bytes (by omega) (by omega) (by omega) (by omega) (by omega) H.size sa_RX7_128 sv_RX7_128 sx_fm sa_RX7_134 sv_RX7_134 sa_RX7_136 sv_RX7_136 sa_RX7_138 sv_RX7_138 sa_RX7_140 sv_RX7_140 sa_RX7_142 sv_RX7_142) (cwV 0 hts g_X7_scanWord_X7_wordKind rfl rfl rfl (by decide +kernel) ⟨(Nat.le_of_ble_eq_true rfl), (Nat.le_of_ble_eq_true rfl)⟩) ⟨fun a U g mk q => by obtain ⟨q0, q1, qP, qK, qD, e0, e1, e2, e3, e4, e5, e6, e7, e8, e9, e10, e11, e12, e13⟩ := q; exact ⟨q0, q1, qP, va_K.moved (u := U) (U := U.calling g mk a) (Vm.Alike.refl U.vm) qK, qD, vk_R.same (u := U) (U := U.calling g mk a) rfl e0, vs_S.moved (u := U) (U := U.calling g mk a) (Vm.Alike.refl U.vm) e1, va_Z.moved (u := U) (U := U.calling g mk a) (Vm.Alike.refl U.vm) e2, va_Z.moved (u := U) (U := U.calling g mk a) (Vm.Alike.refl U.vm) e3, vk_R.same (u := U) (U := U.calling g mk a) rfl e4, vs_S.moved (u := U) (U := U.calling g mk a) (Vm.Alike.refl U.vm) e5, vk_R.same (u := U) (U := U.calling g mk a) rfl e6, vs_S.moved (u := U) (U := U.calling g mk a) (Vm.Alike.refl U.vm) e7, vk_R.same (u := U) (U := U.calling g mk a) rfl e8, vs_S.moved (u := U) (U := U.calling g mk a) (Vm.Alike.refl U.vm) e9, vk_R.same (u := U) (U := U.calling g mk a) rfl e10, vs_S.moved (u := U) (U := U.calling g mk a) (Vm.Alike.refl U.vm) e11, vk_R.same (u := U) (U := U.calling g mk a) rfl e12, vs_S.moved (u := U) (U := U.calling g mk a) (Vm.Alike.refl U.vm) e13⟩, va_recv hKc hPc (ci := 7) (q0 := 0) rfl rfl, fun U hU hW => ⟨rfl, by rw [hU], by rw [hU]; exact hPc, va_K.moved hW.alike hKc, hDc.weaken (fun _ _ _ _ => trivial), vk_R.warm hW hp0, by rw [hU]; exact vs_S.narrow (vs_S.moved hW.alike (vs_S.kept hp1 hS.2.1)) hFc, by rw [hU]; exact va_Z.narrow (va_Z.moved hW.alike (va_Z.kept hp2 hS.2.1)) hFc, by rw [hU]; exact va_Z.narrow (va_Z.moved hW.alike (va_Z.kept hp3 hS.2.1)) hFc, vk_R.warm hW hp4, by rw [hU]; exact vs_S.narrow (vs_S.moved hW.alike (vs_S.kept hp5 hS.2.1)) hFc, vk_R.warm hW hp6, by rw [hU]; exact vs_S.narrow (vs_S.moved hW.alike (vs_S.kept hp7 hS.2.1)) hFc, vk_R.warm hW hp8, by rw [hU]; exact vs_S.narrow (vs_S.moved hW.alike (vs_S.kept hp9 hS.2.1)) hFc, vk_R.warm hW hp10, by rw [hU]; exact vs_S.narrow (vs_S.moved hW.alike (vs_S.kept hp11 hS.2.1)) hFc, vk_R.warm hW hp12, by rw [hU]; exact vs_S.narrow (vs_S.moved hW.alike (vs_S.kept hp13 hS.2.1)) hFc⟩⟩ rfl rfl hl.1 rfl (lv_room (Nat.le_of_ble_eq_true rfl)) dX7_scanWord_137 ⟨(Nat.le_of_ble_eq_true rfl), (Nat.le_of_ble_eq_true rfl)⟩) hS (fun q _ h => hFc q h) hFc (fun r_2057 u t H1 locs ht hvm hw hB hz1 hk1 hS => ?_)
                  obtain ⟨hP1, hK1, hD1⟩ := hB
                  rw [ht] at hP1
                  have hK1 := va_K.moved hvm.symm hK1
                  obtain ⟨hP, hD⟩ := va_join (wr := []) (w1 := [(h0, .inr (7, [v12_0, .ref q_1201, .int (zI (z12_length)), .int (zI (e0_0_3)), .int (zI (z12_kind)), .int (zI (z12_place)), .int (zI (e0_0_6)), v12_7, v12_8, v12_9, v12_10, v12_11, v12_12, v12_13, v12_14, v12_15, v12_16, v12_17])), (q_1201, .inl (cA_1201, 8192, .inl fa12_bytes))]) hP hD [0, 1] [] rfl rfl (by decide) (by decide) hk1 hFc hP1 hD1
                  have hK := (hK.sub (tys' := []) [] rfl).app hK1
                  generalize H1 = H at hP hS ⊢
                  have hP : va_P (dC, dI) vwP [(h0, .inr (7, [v12_0, .ref q_1201, .int (zI (z12_length)), .int (zI (e0_0_3)), .int (zI (z12_kind)), .int (zI (z12_place)), .int (zI (e0_0_6)), v12_7, v12_8, v12_9, v12_10, v12_11, v12_12, v12_13, v12_14, v12_15, v12_16, v12_17])), (q_1201, .inl (cA_1201, 8192, .inl fa12_bytes))] H := hP
                  have hD : va_D A [(h0, .inr (7, [v12_0, .ref q_1201, .int (zI (z12_length)), .int (zI (e0_0_3)), .int (zI (z12_kind)), .int (zI (z12_place)), .int (zI (e0_0_6)), v12_7, v12_8, v12_9, v12_10, v12_11, v12_12, v12_13, v12_14, v12_15, v12_16, v12_17])), (q_1201, .inl (cA_1201, 8192, .inl fa12_bytes))] := hD
                  have hK : va_K (dC, dI) vwP [(cA_1201, .byte)] s := hK
                  refine W.widen (k := 0) (n := 0) (Nat.le_of_ble_eq_true rfl) (Nat.le_of_ble_eq_true rfl) ?_
                  have hw_2058 := hw
                  obtain ⟨z_2059, rfl, hzz_2059⟩ := hw_2058
                  refine va_put (D := (dC, dI)) (ci := 7) (v := .int (zI (z_2059))) (ty := .int) (C := RX7) (T := TX7) (N := 18) hx hb hts mem_X7_scanWord_0 tyX7 tyX7_ok nmX7 hown hK hP hD hS 0 rfl rfl 4 (by decide) (ow (k := 7) rfl) (fun _ h9 => h9) rfl (by decide +kernel) rfl rfl (Nat.le_of_ble_eq_true rfl) dX7_scanWord_140 (fun H locs hP hD hS => ?_)
                  have hP : va_P (dC, dI) vwP [(h0, .inr (7, [v12_0, .ref q_1201, .int (zI (z12_length)), .int (zI (e0_0_3)), .int (zI (z_2059)), .int (zI (z12_place)), .int (zI (e0_0_6)), v12_7, v12_8, v12_9, v12_10, v12_11, v12_12, v12_13, v12_14, v12_15, v12_16, v12_17])), (q_1201, .inl (cA_1201, 8192, .inl fa12_bytes))] H := hP
                  have hD : va_D A [(h0, .inr (7, [v12_0, .ref q_1201, .int (zI (z12_length)), .int (zI (e0_0_3)), .int (zI (z_2059)), .int (zI (z12_place)), .int (zI (e0_0_6)), v12_7, v12_8, v12_9, v12_10, v12_11, v12_12, v12_13, v12_14, v12_15, v12_16, v12_17])), (q_1201, .inl (cA_1201, 8192, .inl fa12_bytes))] := hD
                  subst hQ
                  refine W.widen (k := 0) (n := 0) (Nat.le_of_ble_eq_true rfl) (Nat.le_of_ble_eq_true rfl) ?_
                  exact W.vret hx hb hr (fun t ht hW => ⟨⟨(), rfl, trivial, e0_0_3, z_2059, e0_0_6, ⟨(by omega), (by omega), (by omega), ⟨(by first | exact hu_2055.1 | (unfold RKV; omega)), by omega⟩⟩, by rw [ht]; exact hP, va_K.moved hW.alike hK, hD⟩, hS.F ht⟩) hS.2.2 dX7_scanWord_143
                · have yb111 : (e0_0_6 : Int) = (98 : Int) := (zI_eq (a := e0_0_6) (b := 98) (by omega) (by omega) (by omega) (by omega)).mp b111
                  refine lv_aload_n hx hb dX7_scanWord_114 rfl (lv_at hl 1 rfl) ?_
                  refine lv_aload_n hx hb dX7_scanWord_115 rfl (lv_at hl 1 rfl) ?_
                  refine va_get (D := (dC, dI)) (ci := 7) (v := .int (zI (e0_0_3))) (C := RX7) (T := TX7) (N := 18) hx hb hts mem_X7_scanWord_0 hown hK hP 0 rfl rfl 3 (by decide) (ow (k := 0) rfl) (fun _ h9 => h9) rfl dX7_scanWord_116 ?_
                  have hPc := hP.sub (ws' := [(h0, .inr (7, [v12_0, .ref q_1201, .int (zI (z12_length)), .int (zI (e0_0_3)), .int (zI (z12_kind)), .int (zI (z12_place)), .int (zI (e0_0_6)), v12_7, v12_8, v12_9, v12_10, v12_11, v12_12, v12_13, v12_14, v12_15, v12_16, v12_17])), (q_1201, .inl (cA_1201, 8192, .inl fa12_bytes))]) [0, 1] rfl
                  have hDc := hD.sub (ws' := [(h0, .inr (7, [v12_0, .ref q_1201, .int (zI (z12_length)), .int (zI (e0_0_3)), .int (zI (z12_kind)), .int (zI (z12_place)), .int (zI (e0_0_6)), v12_7, v12_8, v12_9, v12_10, v12_11, v12_12, v12_13, v12_14, v12_15, v12_16, v12_17])), (q_1201, .inl (cA_1201, 8192, .inl fa12_bytes))]) [0, 1] (by decide) rfl
                  have hKc := hK.sub (tys' := [(cA_1201, .byte)]) [0] rfl
                  have hFc := va_free (wc := [(h0, .inr (7, [v12_0, .ref q_1201, .int (zI (z12_length)), .int (zI (e0_0_3)), .int (zI (z12_kind)), .int (zI (z12_place)), .int (zI (e0_0_6)), v12_7, v12_8, v12_9, v12_10, v12_11, v12_12, v12_13, v12_14, v12_15, v12_16, v12_17])), (q_1201, .inl (cA_1201, 8192, .inl fa12_bytes))]) hD hS hA [0, 1] rfl
                  refine va_calli (va_runV (As := [.int (zI (e0_0_3))]) (rest := []) ⟨hx, hb, hml, hown, hts⟩ (c_X7_digitAt l dC dI h0 v12_0 z12_length (.int (zI (e0_0_3))) (.int (zI (z12_kind))) (.int (zI (z12_place))) (.int (zI (e0_0_6))) v12_7 v12_8 v12_9 v12_10 v12_11 v12_12 v12_13 v12_14 v12_15 v12_16 v12_17 q_1201 cA_1201 fa12_bytes e0_0_3 (by omega) (by omega) H.size) (cwV 1 hts g_X7_scanWord_X7_digitAt rfl rfl rfl (by decide +kernel) ⟨(Nat.le_of_ble_eq_true rfl), (Nat.le_of_ble_eq_true rfl)⟩) ⟨fun a U g mk q => by obtain ⟨q0, q1, qP, qK, qD⟩ := q; exact ⟨q0, q1, qP, va_K.moved (u := U) (U := U.calling g mk a) (Vm.Alike.refl U.vm) qK, qD⟩, va_recv hKc hPc (ci := 7) (q0 := 0) rfl rfl, fun U hU hW => ⟨rfl, by rw [hU], by rw [hU]; exact hPc, va_K.moved hW.alike hKc, hDc.weaken (fun _ _ _ _ => trivial)⟩⟩ rfl rfl hl.1 rfl (lv_room (Nat.le_of_ble_eq_true rfl)) dX7_scanWord_119 ⟨(Nat.le_of_ble_eq_true rfl), (Nat.le_of_ble_eq_true rfl)⟩) hS (fun q _ h => hFc q h) hFc (fun r_2060 u t H1 locs ht hvm hw hB hz1 hk1 hS => ?_)
                  obtain ⟨hP1, hK1, hD1⟩ := hB
                  rw [ht] at hP1
                  have hK1 := va_K.moved hvm.symm hK1
                  obtain ⟨hP, hD⟩ := va_join (wr := []) (w1 := [(h0, .inr (7, [v12_0, .ref q_1201, .int (zI (z12_length)), .int (zI (e0_0_3)), .int (zI (z12_kind)), .int (zI (z12_place)), .int (zI (e0_0_6)), v12_7, v12_8, v12_9, v12_10, v12_11, v12_12, v12_13, v12_14, v12_15, v12_16, v12_17])), (q_1201, .inl (cA_1201, 8192, .inl fa12_bytes))]) hP hD [0, 1] [] rfl rfl (by decide) (by decide) hk1 hFc hP1 hD1
                  have hK := (hK.sub (tys' := []) [] rfl).app hK1
                  generalize H1 = H at hP hS ⊢
                  have hP : va_P (dC, dI) vwP [(h0, .inr (7, [v12_0, .ref q_1201, .int (zI (z12_length)), .int (zI (e0_0_3)), .int (zI (z12_kind)), .int (zI (z12_place)), .int (zI (e0_0_6)), v12_7, v12_8, v12_9, v12_10, v12_11, v12_12, v12_13, v12_14, v12_15, v12_16, v12_17])), (q_1201, .inl (cA_1201, 8192, .inl fa12_bytes))] H := hP
                  have hD : va_D A [(h0, .inr (7, [v12_0, .ref q_1201, .int (zI (z12_length)), .int (zI (e0_0_3)), .int (zI (z12_kind)), .int (zI (z12_place)), .int (zI (e0_0_6)), v12_7, v12_8, v12_9, v12_10, v12_11, v12_12, v12_13, v12_14, v12_15, v12_16, v12_17])), (q_1201, .inl (cA_1201, 8192, .inl fa12_bytes))] := hD
                  have hK : va_K (dC, dI) vwP [(cA_1201, .byte)] s := hK
                  refine W.widen (k := 0) (n := 0) (Nat.le_of_ble_eq_true rfl) (Nat.le_of_ble_eq_true rfl) ?_
                  obtain rfl : r_2060 = (zI (dgF fa12_bytes z12_length (e0_0_3))) := hw
                  have := dgF_spec fa12_bytes z12_length (e0_0_3)
                  have := btF_rng fa12_bytes z12_length (e0_0_3)
                  refine lv_if_eq (tgt := 135) hx hb dX7_scanWord_122 (by decide) (fun b122 => ?_) (fun b122 => ?_)
                  · have yb122 : (dgF fa12_bytes z12_length (e0_0_3) : Int) = (0 : Int) := (zI_eq (a := dgF fa12_bytes z12_length (e0_0_3)) (b := 0) (by omega) (by omega) (by omega) (by omega)).mp b122
                    refine lv_aload_n hx hb dX7_scanWord_135 rfl (lv_at hl 1 rfl) ?_
                    refine lv_aload_n hx hb dX7_scanWord_136 rfl (lv_at hl 1 rfl) ?_
                    have hPc := hP.sub (ws' := [(h0, .inr (7, [v12_0, .ref q_1201, .int (zI (z12_length)), .int (zI (e0_0_3)), .int (zI (z12_kind)), .int (zI (z12_place)), .int (zI (e0_0_6)), v12_7, v12_8, v12_9, v12_10, v12_11, v12_12, v12_13, v12_14, v12_15, v12_16, v12_17])), (q_1201, .inl (cA_1201, 8192, .inl fa12_bytes))]) [0, 1] rfl
                    have hDc := hD.sub (ws' := [(h0, .inr (7, [v12_0, .ref q_1201, .int (zI (z12_length)), .int (zI (e0_0_3)), .int (zI (z12_kind)), .int (zI (z12_place)), .int (zI (e0_0_6)), v12_7, v12_8, v12_9, v12_10, v12_11, v12_12, v12_13, v12_14, v12_15, v12_16, v12_17])), (q_1201, .inl (cA_1201, 8192, .inl fa12_bytes))]) [0, 1] (by decide) rfl
                    have hKc := hK.sub (tys' := [(cA_1201, .byte)]) [0] rfl
                    have hFc := va_free (wc := [(h0, .inr (7, [v12_0, .ref q_1201, .int (zI (z12_length)), .int (zI (e0_0_3)), .int (zI (z12_kind)), .int (zI (z12_place)), .int (zI (e0_0_6)), v12_7, v12_8, v12_9, v12_10, v12_11, v12_12, v12_13, v12_14, v12_15, v12_16, v12_17])), (q_1201, .inl (cA_1201, 8192, .inl fa12_bytes))]) hD hS hA [0, 1] rfl
                    refine va_calli (va_runV (As := []) (rest := [.ref h0]) ⟨hx, hb, hml, hown, hts⟩ (c_X7_wordKind l dC dI h0 v12_0 z12_length e0_0_3 (.int (zI (z12_kind))) z12_place (.int (zI (e0_0_6))) v12_7 v12_8 v12_9 v12_10 v12_11 v12_12 v12_13 v12_14 v12_15 v12_16 v12_17 q_1201 cA_1201 fa12_bytes (by omega) (by omega) (by omega) (by omega) (by omega) H.size sa_RX7_128 sv_RX7_128 sx_fm sa_RX7_134 sv_RX7_134 sa_RX7_136 sv_RX7_136 sa_RX7_138 sv_RX7_138 sa_RX7_140 sv_RX7_140 sa_RX7_142 sv_RX7_142) (cwV 0 hts g_X7_scanWord_X7_wordKind rfl rfl rfl (by decide +kernel) ⟨(Nat.le_of_ble_eq_true rfl), (Nat.le_of_ble_eq_true rfl)⟩) ⟨fun a U g mk q => by obtain ⟨q0, q1, qP, qK, qD, e0, e1, e2, e3, e4, e5, e6, e7, e8, e9, e10, e11, e12, e13⟩ := q; exact ⟨q0, q1, qP, va_K.moved (u := U) (U := U.calling g mk a) (Vm.Alike.refl U.vm) qK, qD, vk_R.same (u := U) (U := U.calling g mk a) rfl e0, vs_S.moved (u := U) (U := U.calling g mk a) (Vm.Alike.refl U.vm) e1, va_Z.moved (u := U) (U := U.calling g mk a) (Vm.Alike.refl U.vm) e2, va_Z.moved (u := U) (U := U.calling g mk a) (Vm.Alike.refl U.vm) e3, vk_R.same (u := U) (U := U.calling g mk a) rfl e4, vs_S.moved (u := U) (U := U.calling g mk a) (Vm.Alike.refl U.vm) e5, vk_R.same (u := U) (U := U.calling g mk a) rfl e6, vs_S.moved (u := U) (U := U.calling g mk a) (Vm.Alike.refl U.vm) e7, vk_R.same (u := U) (U := U.calling g mk a) rfl e8, vs_S.moved (u := U) (U := U.calling g mk a) (Vm.Alike.refl U.vm) e9, vk_R.same (u := U) (U := U.calling g mk a) rfl e10, vs_S.moved (u := U) (U := U.calling g mk a) (Vm.Alike.refl U.vm) e11, vk_R.same (u := U) (U := U.calling g mk a) rfl e12, vs_S.moved (u := U) (U := U.calling g mk a) (Vm.Alike.refl U.vm) e13⟩, va_recv hKc hPc (ci := 7) (q0 := 0) rfl rfl, fun U hU hW => ⟨rfl, by rw [hU], by rw [hU]; exact hPc, va_K.moved hW.alike hKc, hDc.weaken (fun _ _ _ _ => trivial), vk_R.warm hW hp0, by rw [hU]; exact vs_S.narrow (vs_S.moved hW.alike (vs_S.kept hp1 hS.2.1)) hFc, by rw [hU]; exact va_Z.narrow (va_Z.moved hW.alike (va_Z.kept hp2 hS.2.1)) hFc, by rw [hU]; exact va_Z.narrow (va_Z.moved hW.alike (va_Z.kept hp3 hS.2.1)) hFc, vk_R.warm hW hp4, by rw [hU]; exact vs_S.narrow (vs_S.moved hW.alike (vs_S.kept hp5 hS.2.1)) hFc, vk_R.warm hW hp6, by rw [hU]; exact vs_S.narrow (vs_S.moved hW.alike (vs_S.kept hp7 hS.2.1)) hFc, vk_R.warm hW hp8, by rw [hU]; exact vs_S.narrow (vs_S.moved hW.alike (vs_S.kept hp9 hS.2.1)) hFc, vk_R.warm hW hp10, by rw [hU]; exact vs_S.narrow (vs_S.moved hW.alike (vs_S.kept hp11 hS.2.1)) hFc, vk_R.warm hW hp12, by rw [hU]; exact vs_S.narrow (vs_S.moved hW.alike (vs_S.kept hp13 hS.2.1)) hFc⟩⟩ rfl rfl hl.1 rfl (lv_room (Nat.le_of_ble_eq_true rfl)) dX7_scanWord_137 ⟨(Nat.le_of_ble_eq_true rfl), (Nat.le_of_ble_eq_true rfl)⟩) hS (fun q _ h => hFc q h) hFc (fun r_2061 u t H1 locs ht hvm hw hB hz1 hk1 hS => ?_)
                    obtain ⟨hP1, hK1, hD1⟩ := hB
                    rw [ht] at hP1
                    have hK1 := va_K.moved hvm.symm hK1
                    obtain ⟨hP, hD⟩ := va_join (wr := []) (w1 := [(h0, .inr (7, [v12_0, .ref q_1201, .int (zI (z12_length)), .int (zI (e0_0_3)), .int (zI (z12_kind)), .int (zI (z12_place)), .int (zI (e0_0_6)), v12_7, v12_8, v12_9, v12_10, v12_11, v12_12, v12_13, v12_14, v12_15, v12_16, v12_17])), (q_1201, .inl (cA_1201, 8192, .inl fa12_bytes))]) hP hD [0, 1] [] rfl rfl (by decide) (by decide) hk1 hFc hP1 hD1
                    have hK := (hK.sub (tys' := []) [] rfl).app hK1
                    generalize H1 = H at hP hS ⊢
                    have hP : va_P (dC, dI) vwP [(h0, .inr (7, [v12_0, .ref q_1201, .int (zI (z12_length)), .int (zI (e0_0_3)), .int (zI (z12_kind)), .int (zI (z12_place)), .int (zI (e0_0_6)), v12_7, v12_8, v12_9, v12_10, v12_11, v12_12, v12_13, v12_14, v12_15, v12_16, v12_17])), (q_1201, .inl (cA_1201, 8192, .inl fa12_bytes))] H := hP
                    have hD : va_D A [(h0, .inr (7, [v12_0, .ref q_1201, .int (zI (z12_length)), .int (zI (e0_0_3)), .int (zI (z12_kind)), .int (zI (z12_place)), .int (zI (e0_0_6)), v12_7, v12_8, v12_9, v12_10, v12_11, v12_12, v12_13, v12_14, v12_15, v12_16, v12_17])), (q_1201, .inl (cA_1201, 8192, .inl fa12_bytes))] := hD
                    have hK : va_K (dC, dI) vwP [(cA_1201, .byte)] s := hK
                    refine W.widen (k := 0) (n := 0) (Nat.le_of_ble_eq_true rfl) (Nat.le_of_ble_eq_true rfl) ?_
                    have hw_2062 := hw
                    obtain ⟨z_2063, rfl, hzz_2063⟩ := hw_2062
                    refine va_put (D := (dC, dI)) (ci := 7) (v := .int (zI (z_2063))) (ty := .int) (C := RX7) (T := TX7) (N := 18) hx hb hts mem_X7_scanWord_0 tyX7 tyX7_ok nmX7 hown hK hP hD hS 0 rfl rfl 4 (by decide) (ow (k := 7) rfl) (fun _ h9 => h9) rfl (by decide +kernel) rfl rfl (Nat.le_of_ble_eq_true rfl) dX7_scanWord_140 (fun H locs hP hD hS => ?_)
                    have hP : va_P (dC, dI) vwP [(h0, .inr (7, [v12_0, .ref q_1201, .int (zI (z12_length)), .int (zI (e0_0_3)), .int (zI (z_2063)), .int (zI (z12_place)), .int (zI (e0_0_6)), v12_7, v12_8, v12_9, v12_10, v12_11, v12_12, v12_13, v12_14, v12_15, v12_16, v12_17])), (q_1201, .inl (cA_1201, 8192, .inl fa12_bytes))] H := hP
                    have hD : va_D A [(h0, .inr (7, [v12_0, .ref q_1201, .int (zI (z12_length)), .int (zI (e0_0_3)), .int (zI (z_2063)), .int (zI (z12_place)), .int (zI (e0_0_6)), v12_7, v12_8, v12_9, v12_10, v12_11, v12_12, v12_13, v12_14, v12_15, v12_16, v12_17])), (q_1201, .inl (cA_1201, 8192, .inl fa12_bytes))] := hD
                    subst hQ
                    refine W.widen (k := 0) (n := 0) (Nat.le_of_ble_eq_true rfl) (Nat.le_of_ble_eq_true rfl) ?_
                    exact W.vret hx hb hr (fun t ht hW => ⟨⟨(), rfl, trivial, e0_0_3, z_2063, e0_0_6, ⟨(by omega), (by omega), (by omega), ⟨(by first | exact hu_2055.1 | (unfold RKV; omega)), by omega⟩⟩, by rw [ht]; exact hP, va_K.moved hW.alike hK, hD⟩, hS.F ht⟩) hS.2.2 dX7_scanWord_143
                  · have yb122 : ¬ (dgF fa12_bytes z12_length (e0_0_3) : Int) = (0 : Int) := fun q => b122 ((zI_eq (a := dgF fa12_bytes z12_length (e0_0_3)) (b := 0) (by omega) (by omega) (by omega) (by omega)).mpr q)
                    refine lv_aload_n hx hb dX7_scanWord_125 rfl (lv_at hl 1 rfl) ?_
                    refine lv_iconst (v := 4) hx hb dX7_scanWord_126 (by decide) ?_
                    refine lv_bipush (v := 60) hx hb dX7_scanWord_127 (by decide) ?_
                    have hPc := hP.sub (ws' := [(h0, .inr (7, [v12_0, .ref q_1201, .int (zI (z12_length)), .int (zI (e0_0_3)), .int (zI (z12_kind)), .int (zI (z12_place)), .int (zI (e0_0_6)), v12_7, v12_8, v12_9, v12_10, v12_11, v12_12, v12_13, v12_14, v12_15, v12_16, v12_17])), (q_1201, .inl (cA_1201, 8192, .inl fa12_bytes))]) [0, 1] rfl
                    have hDc := hD.sub (ws' := [(h0, .inr (7, [v12_0, .ref q_1201, .int (zI (z12_length)), .int (zI (e0_0_3)), .int (zI (z12_kind)), .int (zI (z12_place)), .int (zI (e0_0_6)), v12_7, v12_8, v12_9, v12_10, v12_11, v12_12, v12_13, v12_14, v12_15, v12_16, v12_17])), (q_1201, .inl (cA_1201, 8192, .inl fa12_bytes))]) [0, 1] (by decide) rfl
                    have hKc := hK.sub (tys' := [(cA_1201, .byte)]) [0] rfl
                    have hFc := va_free (wc := [(h0, .inr (7, [v12_0, .ref q_1201, .int (zI (z12_length)), .int (zI (e0_0_3)), .int (zI (z12_kind)), .int (zI (z12_place)), .int (zI (e0_0_6)), v12_7, v12_8, v12_9, v12_10, v12_11, v12_12, v12_13, v12_14, v12_15, v12_16, v12_17])), (q_1201, .inl (cA_1201, 8192, .inl fa12_bytes))]) hD hS hA [0, 1] rfl
                    refine va_callv (va_runV (As := [.int 4, .int 60]) (rest := []) ⟨hx, hb, hml, hown, hts⟩ (c_X7_scanNamed l dC dI h0 v12_0 z12_length e0_0_3 z12_kind (.int (zI (z12_place))) e0_0_6 v12_7 v12_8 v12_9 v12_10 v12_11 v12_12 v12_13 v12_14 v12_15 v12_16 v12_17 q_1201 cA_1201 fa12_bytes 4 60 (by omega) (by omega) (by omega) (by omega) (by omega) (by omega) H.size) (cwV 2 hts g_X7_scanWord_X7_scanNamed rfl rfl rfl (by decide +kernel) ⟨(Nat.le_of_ble_eq_true rfl), (Nat.le_of_ble_eq_true rfl)⟩) ⟨fun a U g mk q => by obtain ⟨q0, q1, qP, qK, qD⟩ := q; exact ⟨q0, q1, qP, va_K.moved (u := U) (U := U.calling g mk a) (Vm.Alike.refl U.vm) qK, qD⟩, va_recv hKc hPc (ci := 7) (q0 := 0) rfl rfl, fun U hU hW => ⟨rfl, by rw [hU], by rw [hU]; exact hPc, va_K.moved hW.alike hKc, hDc.weaken (fun _ _ _ _ => trivial)⟩⟩ rfl rfl hl.1 rfl (lv_room (Nat.le_of_ble_eq_true rfl)) dX7_scanWord_129 ⟨(Nat.le_of_ble_eq_true rfl), (Nat.le_of_ble_eq_true rfl)⟩) hS (fun q _ h => hFc q h) hFc (fun  u t H1 locs ht hvm hw hB hz1 hk1 hS => ?_)
                    obtain ⟨z0_2064, z1_2065, z2_2066, hxt_2066, hP1, hK1, hD1⟩ := hB
                    rw [ht] at hP1
                    have hK1 := va_K.moved hvm.symm hK1
                    obtain ⟨hP, hD⟩ := va_join (wr := []) (w1 := [(h0, .inr (7, [v12_0, .ref q_1201, .int (zI (z12_length)), .int (zI (z0_2064)), .int (zI (z1_2065)), .int (zI (z12_place)), .int (zI (z2_2066)), v12_7, v12_8, v12_9, v12_10, v12_11, v12_12, v12_13, v12_14, v12_15, v12_16, v12_17])), (q_1201, .inl (cA_1201, 8192, .inl fa12_bytes))]) hP hD [0, 1] [] rfl rfl (by decide) (by decide) hk1 hFc hP1 hD1
                    have hK := (hK.sub (tys' := []) [] rfl).app hK1
                    generalize H1 = H at hP hS ⊢
                    have hP : va_P (dC, dI) vwP [(h0, .inr (7, [v12_0, .ref q_1201, .int (zI (z12_length)), .int (zI (z0_2064)), .int (zI (z1_2065)), .int (zI (z12_place)), .int (zI (z2_2066)), v12_7, v12_8, v12_9, v12_10, v12_11, v12_12, v12_13, v12_14, v12_15, v12_16, v12_17])), (q_1201, .inl (cA_1201, 8192, .inl fa12_bytes))] H := hP
                    have hD : va_D A [(h0, .inr (7, [v12_0, .ref q_1201, .int (zI (z12_length)), .int (zI (z0_2064)), .int (zI (z1_2065)), .int (zI (z12_place)), .int (zI (z2_2066)), v12_7, v12_8, v12_9, v12_10, v12_11, v12_12, v12_13, v12_14, v12_15, v12_16, v12_17])), (q_1201, .inl (cA_1201, 8192, .inl fa12_bytes))] := hD
                    have hK : va_K (dC, dI) vwP [(cA_1201, .byte)] s := hK
                    refine W.widen (k := 0) (n := 0) (Nat.le_of_ble_eq_true rfl) (Nat.le_of_ble_eq_true rfl) ?_
                    obtain ⟨rk_2067, rk_2068, rk_2069, hu_2069⟩ := hxt_2066
                    refine lv_goto (tgt := 143) hx hb dX7_scanWord_132 (by decide) ?_
                    subst hQ
                    refine W.widen (k := 0) (n := 0) (Nat.le_of_ble_eq_true rfl) (Nat.le_of_ble_eq_true rfl) ?_
                    exact W.vret hx hb hr (fun t ht hW => ⟨⟨(), rfl, trivial, z0_2064, z1_2065, z2_2066, ⟨(by omega), (by omega), (by omega), ⟨(by first | exact hu_2069.1 | (unfold RKV; omega)), by omega⟩⟩, by rw [ht]; exact hP, va_K.moved hW.alike hK, hD⟩, hS.F ht⟩) hS.2.2 dX7_scanWord_143
              · have yb87 : ¬ (dgF fa12_bytes z12_length (e0_0_3) : Int) = (0 : Int) := fun q => b87 ((zI_eq (a := dgF fa12_bytes z12_length (e0_0_3)) (b := 0) (by omega) (by omega) (by omega) (by omega)).mpr q)
                refine lv_aload_n hx hb dX7_scanWord_90 rfl (lv_at hl 1 rfl) ?_
                refine lv_iconst (v := 2) hx hb dX7_scanWord_91 (by decide) ?_
                refine lv_sipush (v := 200) hx hb dX7_scanWord_92 (by decide) ?_
                have hPc := hP.sub (ws' := [(h0, .inr (7, [v12_0, .ref q_1201, .int (zI (z12_length)), .int (zI (e0_0_3)), .int (zI (z12_kind)), .int (zI (z12_place)), .int (zI (e0_0_6)), v12_7, v12_8, v12_9, v12_10, v12_11, v12_12, v12_13, v12_14, v12_15, v12_16, v12_17])), (q_1201, .inl (cA_1201, 8192, .inl fa12_bytes))]) [0, 1] rfl
                have hDc := hD.sub (ws' := [(h0, .inr (7, [v12_0, .ref q_1201, .int (zI (z12_length)), .int (zI (e0_0_3)), .int (zI (z12_kind)), .int (zI (z12_place)), .int (zI (e0_0_6)), v12_7, v12_8, v12_9, v12_10, v12_11, v12_12, v12_13, v12_14, v12_15, v12_16, v12_17])), (q_1201, .inl (cA_1201, 8192, .inl fa12_bytes))]) [0, 1] (by decide) rfl
                have hKc := hK.sub (tys' := [(cA_1201, .byte)]) [0] rfl
                have hFc := va_free (wc := [(h0, .inr (7, [v12_0, .ref q_1201, .int (zI (z12_length)), .int (zI (e0_0_3)), .int (zI (z12_kind)), .int (zI (z12_place)), .int (zI (e0_0_6)), v12_7, v12_8, v12_9, v12_10, v12_11, v12_12, v12_13, v12_14, v12_15, v12_16, v12_17])), (q_1201, .inl (cA_1201, 8192, .inl fa12_bytes))]) hD hS hA [0, 1] rfl
                refine va_callv (va_runV (As := [.int 2, .int 200]) (rest := []) ⟨hx, hb, hml, hown, hts⟩ (c_X7_scanNamed l dC dI h0 v12_0 z12_length e0_0_3 z12_kind (.int (zI (z12_place))) e0_0_6 v12_7 v12_8 v12_9 v12_10 v12_11 v12_12 v12_13 v12_14 v12_15 v12_16 v12_17 q_1201 cA_1201 fa12_bytes 2 200 (by omega) (by omega) (by omega) (by omega) (by omega) (by omega) H.size) (cwV 2 hts g_X7_scanWord_X7_scanNamed rfl rfl rfl (by decide +kernel) ⟨(Nat.le_of_ble_eq_true rfl), (Nat.le_of_ble_eq_true rfl)⟩) ⟨fun a U g mk q => by obtain ⟨q0, q1, qP, qK, qD⟩ := q; exact ⟨q0, q1, qP, va_K.moved (u := U) (U := U.calling g mk a) (Vm.Alike.refl U.vm) qK, qD⟩, va_recv hKc hPc (ci := 7) (q0 := 0) rfl rfl, fun U hU hW => ⟨rfl, by rw [hU], by rw [hU]; exact hPc, va_K.moved hW.alike hKc, hDc.weaken (fun _ _ _ _ => trivial)⟩⟩ rfl rfl hl.1 rfl (lv_room (Nat.le_of_ble_eq_true rfl)) dX7_scanWord_95 ⟨(Nat.le_of_ble_eq_true rfl), (Nat.le_of_ble_eq_true rfl)⟩) hS (fun q _ h => hFc q h) hFc (fun  u t H1 locs ht hvm hw hB hz1 hk1 hS => ?_)
                obtain ⟨z0_2070, z1_2071, z2_2072, hxt_2072, hP1, hK1, hD1⟩ := hB
                rw [ht] at hP1
                have hK1 := va_K.moved hvm.symm hK1
                obtain ⟨hP, hD⟩ := va_join (wr := []) (w1 := [(h0, .inr (7, [v12_0, .ref q_1201, .int (zI (z12_length)), .int (zI (z0_2070)), .int (zI (z1_2071)), .int (zI (z12_place)), .int (zI (z2_2072)), v12_7, v12_8, v12_9, v12_10, v12_11, v12_12, v12_13, v12_14, v12_15, v12_16, v12_17])), (q_1201, .inl (cA_1201, 8192, .inl fa12_bytes))]) hP hD [0, 1] [] rfl rfl (by decide) (by decide) hk1 hFc hP1 hD1
                have hK := (hK.sub (tys' := []) [] rfl).app hK1
                generalize H1 = H at hP hS ⊢
                have hP : va_P (dC, dI) vwP [(h0, .inr (7, [v12_0, .ref q_1201, .int (zI (z12_length)), .int (zI (z0_2070)), .int (zI (z1_2071)), .int (zI (z12_place)), .int (zI (z2_2072)), v12_7, v12_8, v12_9, v12_10, v12_11, v12_12, v12_13, v12_14, v12_15, v12_16, v12_17])), (q_1201, .inl (cA_1201, 8192, .inl fa12_bytes))] H := hP
                have hD : va_D A [(h0, .inr (7, [v12_0, .ref q_1201, .int (zI (z12_length)), .int (zI (z0_2070)), .int (zI (z1_2071)), .int (zI (z12_place)), .int (zI (z2_2072)), v12_7, v12_8, v12_9, v12_10, v12_11, v12_12, v12_13, v12_14, v12_15, v12_16, v12_17])), (q_1201, .inl (cA_1201, 8192, .inl fa12_bytes))] := hD
                have hK : va_K (dC, dI) vwP [(cA_1201, .byte)] s := hK
                refine W.widen (k := 0) (n := 0) (Nat.le_of_ble_eq_true rfl) (Nat.le_of_ble_eq_true rfl) ?_
                obtain ⟨rk_2073, rk_2074, rk_2075, hu_2075⟩ := hxt_2072
                refine lv_goto (tgt := 143) hx hb dX7_scanWord_98 (by decide) ?_
                subst hQ
                refine W.widen (k := 0) (n := 0) (Nat.le_of_ble_eq_true rfl) (Nat.le_of_ble_eq_true rfl) ?_
                exact W.vret hx hb hr (fun t ht hW => ⟨⟨(), rfl, trivial, z0_2070, z1_2071, z2_2072, ⟨(by omega), (by omega), (by omega), ⟨(by first | exact hu_2075.1 | (unfold RKV; omega)), by omega⟩⟩, by rw [ht]; exact hP, va_K.moved hW.alike hK, hD⟩, hS.F ht⟩) hS.2.2 dX7_scanWord_143
        · have yb19 : ¬ (z_2039 : Int) = (0 : Int) := fun q => b19 ((zI_eq (a := z_2039) (b := 0) (by omega) (by omega) (by omega) (by omega)).mpr q)
          refine lv_aload_n hx hb dX7_scanWord_22 rfl (lv_at hl 0 rfl) ?_
          refine lv_aload_n hx hb dX7_scanWord_23 rfl (lv_at hl 0 rfl) ?_
          refine lv_aload_n hx hb dX7_scanWord_24 rfl (lv_at hl 0 rfl) ?_
          refine va_get (D := (dC, dI)) (ci := 7) (v := .int (zI (e0_0_3))) (C := RX7) (T := TX7) (N := 18) hx hb hts mem_X7_scanWord_0 hown hK hP 0 rfl rfl 3 (by decide) (ow (k := 0) rfl) (fun _ h9 => h9) rfl dX7_scanWord_25 ?_
          have hPc := hP.sub (ws' := [(h0, .inr (7, [v12_0, .ref q_1201, .int (zI (z12_length)), .int (zI (e0_0_3)), .int (zI (z12_kind)), .int (zI (z12_place)), .int (zI (e0_0_6)), v12_7, v12_8, v12_9, v12_10, v12_11, v12_12, v12_13, v12_14, v12_15, v12_16, v12_17])), (q_1201, .inl (cA_1201, 8192, .inl fa12_bytes))]) [0, 1] rfl
          have hDc := hD.sub (ws' := [(h0, .inr (7, [v12_0, .ref q_1201, .int (zI (z12_length)), .int (zI (e0_0_3)), .int (zI (z12_kind)), .int (zI (z12_place)), .int (zI (e0_0_6)), v12_7, v12_8, v12_9, v12_10, v12_11, v12_12, v12_13, v12_14, v12_15, v12_16, v12_17])), (q_1201, .inl (cA_1201, 8192, .inl fa12_bytes))]) [0, 1] (by decide) rfl
          have hKc := hK.sub (tys' := [(cA_1201, .byte)]) [0] rfl
          have hFc := va_free (wc := [(h0, .inr (7, [v12_0, .ref q_1201, .int (zI (z12_length)), .int (zI (e0_0_3)), .int (zI (z12_kind)), .int (zI (z12_place)), .int (zI (e0_0_6)), v12_7, v12_8, v12_9, v12_10, v12_11, v12_12, v12_13, v12_14, v12_15, v12_16, v12_17])), (q_1201, .inl (cA_1201, 8192, .inl fa12_bytes))]) hD hS hA [0, 1] rfl
          refine va_calli (va_runV (As := [.int (zI (e0_0_3))]) (rest := [.ref h0]) ⟨hx, hb, hml, hown, hts⟩ (c_X7_byteAt l dC dI h0 v12_0 z12_length (.int (zI (e0_0_3))) (.int (zI (z12_kind))) (.int (zI (z12_place))) (.int (zI (e0_0_6))) v12_7 v12_8 v12_9 v12_10 v12_11 v12_12 v12_13 v12_14 v12_15 v12_16 v12_17 q_1201 cA_1201 fa12_bytes e0_0_3 (by omega) (by omega) H.size) (cwV 1 hts g_X7_scanWord_X7_byteAt rfl rfl rfl (by decide +kernel) ⟨(Nat.le_of_ble_eq_true rfl), (Nat.le_of_ble_eq_true rfl)⟩) ⟨fun a U g mk q => by obtain ⟨q0, q1, qP, qK, qD⟩ := q; exact ⟨q0, q1, qP, va_K.moved (u := U) (U := U.calling g mk a) (Vm.Alike.refl U.vm) qK, qD⟩, va_recv hKc hPc (ci := 7) (q0 := 0) rfl rfl, fun U hU hW => ⟨rfl, by rw [hU], by rw [hU]; exact hPc, va_K.moved hW.alike hKc, hDc.weaken (fun _ _ _ _ => trivial)⟩⟩ rfl rfl hl.1 rfl (lv_room (Nat.le_of_ble_eq_true rfl)) dX7_scanWord_28 ⟨(Nat.le_of_ble_eq_true rfl), (Nat.le_of_ble_eq_true rfl)⟩) hS (fun q _ h => hFc q h) hFc (fun r_2076 u t H1 locs ht hvm hw hB hz1 hk1 hS => ?_)
          obtain ⟨hP1, hK1, hD1⟩ := hB
          rw [ht] at hP1
          have hK1 := va_K.moved hvm.symm hK1
          obtain ⟨hP, hD⟩ := va_join (wr := []) (w1 := [(h0, .inr (7, [v12_0, .ref q_1201, .int (zI (z12_length)), .int (zI (e0_0_3)), .int (zI (z12_kind)), .int (zI (z12_place)), .int (zI (e0_0_6)), v12_7, v12_8, v12_9, v12_10, v12_11, v12_12, v12_13, v12_14, v12_15, v12_16, v12_17])), (q_1201, .inl (cA_1201, 8192, .inl fa12_bytes))]) hP hD [0, 1] [] rfl rfl (by decide) (by decide) hk1 hFc hP1 hD1
          have hK := (hK.sub (tys' := []) [] rfl).app hK1
          generalize H1 = H at hP hS ⊢
          have hP : va_P (dC, dI) vwP [(h0, .inr (7, [v12_0, .ref q_1201, .int (zI (z12_length)), .int (zI (e0_0_3)), .int (zI (z12_kind)), .int (zI (z12_place)), .int (zI (e0_0_6)), v12_7, v12_8, v12_9, v12_10, v12_11, v12_12, v12_13, v12_14, v12_15, v12_16, v12_17])), (q_1201, .inl (cA_1201, 8192, .inl fa12_bytes))] H := hP
          have hD : va_D A [(h0, .inr (7, [v12_0, .ref q_1201, .int (zI (z12_length)), .int (zI (e0_0_3)), .int (zI (z12_kind)), .int (zI (z12_place)), .int (zI (e0_0_6)), v12_7, v12_8, v12_9, v12_10, v12_11, v12_12, v12_13, v12_14, v12_15, v12_16, v12_17])), (q_1201, .inl (cA_1201, 8192, .inl fa12_bytes))] := hD
          have hK : va_K (dC, dI) vwP [(cA_1201, .byte)] s := hK
          refine W.widen (k := 0) (n := 0) (Nat.le_of_ble_eq_true rfl) (Nat.le_of_ble_eq_true rfl) ?_
          obtain rfl : r_2076 = (zI (btF fa12_bytes z12_length (e0_0_3))) := hw
          have := btF_rng fa12_bytes z12_length (e0_0_3)
          refine va_put (D := (dC, dI)) (ci := 7) (v := .int (zI (btF fa12_bytes z12_length (e0_0_3)))) (ty := .int) (C := RX7) (T := TX7) (N := 18) hx hb hts mem_X7_scanWord_0 tyX7 tyX7_ok nmX7 hown hK hP hD hS 0 rfl rfl 6 (by decide) (ow (k := 8) rfl) (fun _ h9 => h9) rfl (by decide +kernel) rfl rfl (Nat.le_of_ble_eq_true rfl) dX7_scanWord_31 (fun H locs hP hD hS => ?_)
          have hP : va_P (dC, dI) vwP [(h0, .inr (7, [v12_0, .ref q_1201, .int (zI (z12_length)), .int (zI (e0_0_3)), .int (zI (z12_kind)), .int (zI (z12_place)), .int (zI (btF fa12_bytes z12_length (e0_0_3))), v12_7, v12_8, v12_9, v12_10, v12_11, v12_12, v12_13, v12_14, v12_15, v12_16, v12_17])), (q_1201, .inl (cA_1201, 8192, .inl fa12_bytes))] H := hP
          have hD : va_D A [(h0, .inr (7, [v12_0, .ref q_1201, .int (zI (z12_length)), .int (zI (e0_0_3)), .int (zI (z12_kind)), .int (zI (z12_place)), .int (zI (btF fa12_bytes z12_length (e0_0_3))), v12_7, v12_8, v12_9, v12_10, v12_11, v12_12, v12_13, v12_14, v12_15, v12_16, v12_17])), (q_1201, .inl (cA_1201, 8192, .inl fa12_bytes))] := hD
          obtain ⟨z_2077, ez_2077⟩ : ∃ z9 : Int, z9 = btF fa12_bytes z12_length (e0_0_3) := ⟨_, rfl⟩
          rw [← ez_2077] at hP hD
          have hP : va_P (dC, dI) vwP [(h0, .inr (7, [v12_0, .ref q_1201, .int (zI (z12_length)), .int (zI (e0_0_3)), .int (zI (z12_kind)), .int (zI (z12_place)), .int (zI (z_2077)), v12_7, v12_8, v12_9, v12_10, v12_11, v12_12, v12_13, v12_14, v12_15, v12_16, v12_17])), (q_1201, .inl (cA_1201, 8192, .inl fa12_bytes))] H := hP
          have hD : va_D A [(h0, .inr (7, [v12_0, .ref q_1201, .int (zI (z12_length)), .int (zI (e0_0_3)), .int (zI (z12_kind)), .int (zI (z12_place)), .int (zI (z_2077)), v12_7, v12_8, v12_9, v12_10, v12_11, v12_12, v12_13, v12_14, v12_15, v12_16, v12_17])), (q_1201, .inl (cA_1201, 8192, .inl fa12_bytes))] := hD
          refine lv_aload_n hx hb dX7_scanWord_34 rfl (lv_at hl 0 rfl) ?_
          refine lv_dup hx hb dX7_scanWord_35 rfl ?_
          refine va_get (D := (dC, dI)) (ci := 7) (v := .int (zI (e0_0_3))) (C := RX7) (T := TX7) (N := 18) hx hb hts mem_X7_scanWord_0 hown hK hP 0 rfl rfl 3 (by decide) (ow (k := 0) rfl) (fun _ h9 => h9) rfl dX7_scanWord_36 ?_
          refine lv_iconst (v := 1) hx hb dX7_scanWord_39 (by decide) ?_
          refine lv_iadd hx hb dX7_scanWord_40 ?_
          refine lv_topi (fun z ez => ?_)
          obtain rfl : z = zI (e0_0_3 + 1) := ez.trans (zI_add (e0_0_3) (1))
          refine va_put (D := (dC, dI)) (ci := 7) (v := .int (zI (e0_0_3 + 1))) (ty := .int) (C := RX7) (T := TX7) (N := 18) hx hb hts mem_X7_scanWord_0 tyX7 tyX7_ok nmX7 hown hK hP hD hS 0 rfl rfl 3 (by decide) (ow (k := 0) rfl) (fun _ h9 => h9) rfl (by decide +kernel) rfl rfl (Nat.le_of_ble_eq_true rfl) dX7_scanWord_41 (fun H locs hP hD hS => ?_)
          have hP : va_P (dC, dI) vwP [(h0, .inr (7, [v12_0, .ref q_1201, .int (zI (z12_length)), .int (zI (e0_0_3 + 1)), .int (zI (z12_kind)), .int (zI (z12_place)), .int (zI (z_2077)), v12_7, v12_8, v12_9, v12_10, v12_11, v12_12, v12_13, v12_14, v12_15, v12_16, v12_17])), (q_1201, .inl (cA_1201, 8192, .inl fa12_bytes))] H := hP
          have hD : va_D A [(h0, .inr (7, [v12_0, .ref q_1201, .int (zI (z12_length)), .int (zI (e0_0_3 + 1)), .int (zI (z12_kind)), .int (zI (z12_place)), .int (zI (z_2077)), v12_7, v12_8, v12_9, v12_10, v12_11, v12_12, v12_13, v12_14, v12_15, v12_16, v12_17])), (q_1201, .inl (cA_1201, 8192, .inl fa12_bytes))] := hD
          obtain ⟨z_2078, ez_2078⟩ : ∃ z9 : Int, z9 = e0_0_3 + 1 := ⟨_, rfl⟩
          rw [← ez_2078] at hP hD
          have hP : va_P (dC, dI) vwP [(h0, .inr (7, [v12_0, .ref q_1201, .int (zI (z12_length)), .int (zI (z_2078)), .int (zI (z12_kind)), .int (zI (z12_place)), .int (zI (z_2077)), v12_7, v12_8, v12_9, v12_10, v12_11, v12_12, v12_13, v12_14, v12_15, v12_16, v12_17])), (q_1201, .inl (cA_1201, 8192, .inl fa12_bytes))] H := hP
          have hD : va_D A [(h0, .inr (7, [v12_0, .ref q_1201, .int (zI (z12_length)), .int (zI (z_2078)), .int (zI (z12_kind)), .int (zI (z12_place)), .int (zI (z_2077)), v12_7, v12_8, v12_9, v12_10, v12_11, v12_12, v12_13, v12_14, v12_15, v12_16, v12_17])), (q_1201, .inl (cA_1201, 8192, .inl fa12_bytes))] := hD
          refine lv_goto (tgt := 0) hx hb dX7_scanWord_44 (by decide) ?_
          exact ih0 z_2078 z_2077 ls H _ (by omega) (by omega) (by omega) (by omega) (lv_sub hl [0] rfl) hP hD hS
  exact key0 ((z12_length - z12_at : Int).toNat + 1) z12_at z12_value ls H _ (by omega) (by omega) (by omega) (by omega) (lv_sub hl [0] rfl) hP hD hS
theorem dX7_scanNumber_0 : decode cX7_scanNumber 0 = .ok (.aload_n 0, 1) := by decide +kernel
theorem dX7_scanNumber_1 : decode cX7_scanNumber 1 = .ok (.aload_n 0, 1) := by decide +kernel
theorem dX7_scanNumber_2 : decode cX7_scanNumber 2 = .ok (.getfield 22, 3) := by decide +kernel
theorem dX7_scanNumber_5 : decode cX7_scanNumber 5 = .ok (.invokevirtual 93, 3) := by decide +kernel
theorem dX7_scanNumber_8 : decode cX7_scanNumber 8 = .ok (.bipush 45, 2) := by decide +kernel
theorem dX7_scanNumber_10 : decode cX7_scanNumber 10 = .ok (.if_icmp .ne 7, 3) := by decide +kernel
theorem dX7_scanNumber_17 : decode cX7_scanNumber 17 = .ok (.iconst 0, 1) := by decide +kernel
theorem dX7_scanNumber_18 : decode cX7_scanNumber 18 = .ok (.istore_n 1, 1) := by decide +kernel
theorem dX7_scanNumber_19 : decode cX7_scanNumber 19 = .ok (.iload_n 1, 1) := by decide +kernel
theorem dX7_scanNumber_20 : decode cX7_scanNumber 20 = .ok (.ifCond .eq 13, 3) := by decide +kernel
theorem dX7_scanNumber_33 : decode cX7_scanNumber 33 = .ok (.iload_n 1, 1) := by decide +kernel
theorem dX7_scanNumber_34 : decode cX7_scanNumber 34 = .ok (.ifCond .eq 11, 3) := by decide +kernel
theorem dX7_scanNumber_45 : decode cX7_scanNumber 45 = .ok (.aload_n 0, 1) := by decide +kernel
theorem dX7_scanNumber_46 : decode cX7_scanNumber 46 = .ok (.invokevirtual 124, 3) := by decide +kernel
theorem dX7_scanNumber_49 : decode cX7_scanNumber 49 = .ok (.lstore_n 2, 1) := by decide +kernel
theorem dX7_scanNumber_50 : decode cX7_scanNumber 50 = .ok (.aload_n 0, 1) := by decide +kernel
theorem dX7_scanNumber_51 : decode cX7_scanNumber 51 = .ok (.lload_n 2, 1) := by decide +kernel
theorem dX7_scanNumber_52 : decode cX7_scanNumber 52 = .ok (.l2i, 1) := by decide +kernel
theorem dX7_scanNumber_53 : decode cX7_scanNumber 53 = .ok (.putfield 31, 3) := by decide +kernel
theorem dX7_scanNumber_56 : decode cX7_scanNumber 56 = .ok (.aload_n 0, 1) := by decide +kernel
theorem dX7_scanNumber_57 : decode cX7_scanNumber 57 = .ok (.aload_n 0, 1) := by decide +kernel
theorem dX7_scanNumber_58 : decode cX7_scanNumber 58 = .ok (.getfield 31, 3) := by decide +kernel
theorem dX7_scanNumber_61 : decode cX7_scanNumber 61 = .ok (.i2l, 1) := by decide +kernel
theorem dX7_scanNumber_62 : decode cX7_scanNumber 62 = .ok (.lload_n 2, 1) := by decide +kernel
theorem dX7_scanNumber_63 : decode cX7_scanNumber 63 = .ok (.lcmp, 1) := by decide +kernel
theorem dX7_scanNumber_64 : decode cX7_scanNumber 64 = .ok (.ifCond .ne 7, 3) := by decide +kernel
theorem dX7_scanNumber_71 : decode cX7_scanNumber 71 = .ok (.iconst 0, 1) := by decide +kernel
theorem dX7_scanNumber_72 : decode cX7_scanNumber 72 = .ok (.putfield 25, 3) := by decide +kernel
theorem dX7_scanNumber_75 : decode cX7_scanNumber 75 = .ok (.return_, 1) := by decide +kernel
theorem dX7_scanNumber_67 : decode cX7_scanNumber 67 = .ok (.iconst 3, 1) := by decide +kernel
theorem dX7_scanNumber_68 : decode cX7_scanNumber 68 = .ok (.goto 4, 3) := by decide +kernel
theorem dX7_scanNumber_13 : decode cX7_scanNumber 13 = .ok (.iconst 1, 1) := by decide +kernel
theorem dX7_scanNumber_14 : decode cX7_scanNumber 14 = .ok (.goto 4, 3) := by decide +kernel
theorem dX7_scanNumber_23 : decode cX7_scanNumber 23 = .ok (.aload_n 0, 1) := by decide +kernel
theorem dX7_scanNumber_24 : decode cX7_scanNumber 24 = .ok (.dup, 1) := by decide +kernel
theorem dX7_scanNumber_25 : decode cX7_scanNumber 25 = .ok (.getfield 22, 3) := by decide +kernel
theorem dX7_scanNumber_28 : decode cX7_scanNumber 28 = .ok (.iconst 1, 1) := by decide +kernel
theorem dX7_scanNumber_29 : decode cX7_scanNumber 29 = .ok (.iadd, 1) := by decide +kernel
theorem dX7_scanNumber_30 : decode cX7_scanNumber 30 = .ok (.putfield 22, 3) := by decide +kernel
theorem dX7_scanNumber_37 : decode cX7_scanNumber 37 = .ok (.aload_n 0, 1) := by decide +kernel
theorem dX7_scanNumber_38 : decode cX7_scanNumber 38 = .ok (.invokevirtual 124, 3) := by decide +kernel
theorem dX7_scanNumber_41 : decode cX7_scanNumber 41 = .ok (.lneg, 1) := by decide +kernel
theorem dX7_scanNumber_42 : decode cX7_scanNumber 42 = .ok (.goto 7, 3) := by decide +kernel
def o_X7_scanNumber : List Cond := [.fieldLink RX7 22 "SsaForge$Reader" "at" "I", .methodLink RX7 93 yX7_byteAt, .instanceMethod yX7_byteAt, .selects RX7 yX7_byteAt yX7_byteAt, .initialized RX7, .methodLink RX7 124 yX7_digits, .instanceMethod yX7_digits, .selects RX7 yX7_digits yX7_digits, .fieldLink RX7 31 "SsaForge$Reader" "value" "I", .fieldLink RX7 25 "SsaForge$Reader" "kind" "I"]
def v_X7_scanNumber : List Cond := .code yX7_scanNumber cX7_scanNumber 4 none :: (o_X7_scanNumber ++ (wsX70 ++ (v_X7_byteAt ++ (v_X7_digits ++ []))))
theorem mow_X7_scanNumber : ∀ w ∈ o_X7_scanNumber, w ∈ v_X7_scanNumber := fun _ h => List.mem_cons_of_mem _ (List.mem_append_left _ h)
theorem mem_X7_scanNumber_0 : ∀ w ∈ wsX70, w ∈ v_X7_scanNumber := fun _ h => List.mem_cons_of_mem _ (List.mem_append_right _ (List.mem_append_left _ h))
theorem mem_X7_scanNumber_1 : ∀ w ∈ v_X7_byteAt, w ∈ v_X7_scanNumber := fun _ h => List.mem_cons_of_mem _ (List.mem_append_right _ (List.mem_append_right _ (List.mem_append_left _ h)))
theorem mem_X7_scanNumber_2 : ∀ w ∈ v_X7_digits, w ∈ v_X7_scanNumber := fun _ h => List.mem_cons_of_mem _ (List.mem_append_right _ (List.mem_append_right _ (List.mem_append_right _ (List.mem_append_left _ h))))
set_option maxRecDepth 20000 in
theorem gw_X7_scanNumber : v_X7_scanNumber.all goodWord = true := by decide +kernel
set_option maxRecDepth 20000 in
theorem g_X7_scanNumber_X7_byteAt : GoodIn v_X7_scanNumber (wsV RX7 93 RX7 yX7_byteAt v_X7_byteAt) := goodIn_app (goodIn_sub (fun w h => mow_X7_scanNumber w (by revert w h; decide +kernel)) (by decide +kernel)) (goodIn_sub mem_X7_scanNumber_1 gw_X7_byteAt)
set_option maxRecDepth 20000 in
theorem g_X7_scanNumber_X7_digits : GoodIn v_X7_scanNumber (wsV RX7 124 RX7 yX7_digits v_X7_digits) := goodIn_app (goodIn_sub (fun w h => mow_X7_scanNumber w (by revert w h; decide +kernel)) (by decide +kernel)) (goodIn_sub mem_X7_scanNumber_2 gw_X7_digits)
set_option maxHeartbeats 4000000 in
set_option maxRecDepth 100000 in
theorem c_X7_scanNumber (l : Launch) (dC : Nat → ClassId) (dI : Nat → Nat → Nat) (h0 : Nat) (v12_0 : Value) (z12_length : Int) (z12_at : Int) (z12_kind : Int) (v12_5 : Value) (z12_value : Int) (v12_7 : Value) (v12_8 : Value) (v12_9 : Value) (v12_10 : Value) (v12_11 : Value) (v12_12 : Value) (v12_13 : Value) (v12_14 : Value) (v12_15 : Value) (v12_16 : Value) (v12_17 : Value) (q_1201 : Nat) (cA_1201 : ClassId) (fa12_bytes : Nat → Int32) (hNz12_length : 0 ≤ z12_length ∧ z12_length ≤ 8192) (hNz12_at : 0 ≤ z12_at ∧ z12_at ≤ 8200) (hNz12_kind : 0 ≤ z12_kind ∧ z12_kind ≤ 13) (hNz12_value : -2147483648 ≤ z12_value ∧ z12_value ≤ 2147483647) (hNat : z12_at < z12_length) (sz : Nat) : Met l yX7_scanNumber v_X7_scanNumber ({ frames := 3, cells := 0, slots := 0, locals := 65 }) (va_Pc [.ref h0] (fun U => U.heap.size = sz ∧ va_P (dC, dI) vwP [(h0, .inr (7, [v12_0, .ref q_1201, .int (zI (z12_length)), .int (zI (z12_at)), .int (zI (z12_kind)), v12_5, .int (zI (z12_value)), v12_7, v12_8, v12_9, v12_10, v12_11, v12_12, v12_13, v12_14, v12_15, v12_16, v12_17])), (q_1201, .inl (cA_1201, 8192, .inl fa12_bytes))] U.heap ∧ va_K (dC, dI) vwP [(cA_1201, .byte)] U ∧ va_D (fun _ => True) [(h0, .inr (7, [v12_0, .ref q_1201, .int (zI (z12_length)), .int (zI (z12_at)), .int (zI (z12_kind)), v12_5, .int (zI (z12_value)), v12_7, v12_8, v12_9, v12_10, v12_11, v12_12, v12_13, v12_14, v12_15, v12_16, v12_17])), (q_1201, .inl (cA_1201, 8192, .inl fa12_bytes))])) (va_Qv (fun _ : Unit => True) (fun (_ : Unit) (t : State) => ∃ (z0_9 : Int) (z1_9 : Int) (z2_9 : Int), ((0 ≤ z0_9 ∧ z0_9 ≤ 8200) ∧ (0 ≤ z1_9 ∧ z1_9 ≤ 13) ∧ (-2147483648 ≤ z2_9 ∧ z2_9 ≤ 2147483647) ∧ (RKV z1_9 z2_9 ∧ z0_9 ≤ 8194)) ∧ va_P (dC, dI) vwP [(h0, .inr (7, [v12_0, .ref q_1201, .int (zI (z12_length)), .int (zI (z0_9)), .int (zI (z1_9)), v12_5, .int (zI (z2_9)), v12_7, v12_8, v12_9, v12_10, v12_11, v12_12, v12_13, v12_14, v12_15, v12_16, v12_17])), (q_1201, .inl (cA_1201, 8192, .inl fa12_bytes))] t.heap ∧ va_K (dC, dI) vwP [(cA_1201, .byte)] t ∧ va_D (va_A [(h0, .inr (7, [v12_0, .ref q_1201, .int (zI (z12_length)), .int (zI (z12_at)), .int (zI (z12_kind)), v12_5, .int (zI (z12_value)), v12_7, v12_8, v12_9, v12_10, v12_11, v12_12, v12_13, v12_14, v12_15, v12_16, v12_17])), (q_1201, .inl (cA_1201, 8192, .inl fa12_bytes))] sz) [(h0, .inr (7, [v12_0, .ref q_1201, .int (zI (z12_length)), .int (zI (z0_9)), .int (zI (z1_9)), v12_5, .int (zI (z2_9)), v12_7, v12_8, v12_9, v12_10, v12_11, v12_12, v12_13, v12_14, v12_15, v12_16, v12_17])), (q_1201, .inl (cA_1201, 8192, .inl fa12_bytes))]) (va_A [(h0, .inr (7, [v12_0, .ref q_1201, .int (zI (z12_length)), .int (zI (z12_at)), .int (zI (z12_kind)), v12_5, .int (zI (z12_value)), v12_7, v12_8, v12_9, v12_10, v12_11, v12_12, v12_13, v12_14, v12_15, v12_16, v12_17])), (q_1201, .inl (cA_1201, 8192, .inl fa12_bytes))] sz)) 0 0 (va_A [(h0, .inr (7, [v12_0, .ref q_1201, .int (zI (z12_length)), .int (zI (z12_at)), .int (zI (z12_kind)), v12_5, .int (zI (z12_value)), v12_7, v12_8, v12_9, v12_10, v12_11, v12_12, v12_13, v12_14, v12_15, v12_16, v12_17])), (q_1201, .inl (cA_1201, 8192, .inl fa12_bytes))] sz) := by
  refine Met.ofW (cc := cX7_scanNumber) (maxL := 4) (ret := none) (by decide) rfl ?_
  intro p e s m args below meth c s₁ B hml hv
  obtain ⟨rfl, hsz, hP, hK, hD0⟩ := hv
  have hx := B.exec
  have hb := B.bytes
  have hr := B.returns
  have hts := atoms_spec (ws := v_X7_scanNumber) B.pre
  have hown : s.vm.findClass RX7 = some m.cls := findClass_of_methodNamed B.named
  have hlocks := B.notSynchronized
  have ow : ∀ {k : Nat} {w : Cond}, o_X7_scanNumber[k]? = some w → w.before ([.ref h0] : List Value).toArray s = true := fun h => hts _ (mow_X7_scanNumber _ (List.mem_of_getElem? h))
  subst hsz
  have hD := hD0.self (sz := s.heap.size)
  generalize hAe : va_A [(h0, .inr (7, [v12_0, .ref q_1201, .int (zI (z12_length)), .int (zI (z12_at)), .int (zI (z12_kind)), v12_5, .int (zI (z12_value)), v12_7, v12_8, v12_9, v12_10, v12_11, v12_12, v12_13, v12_14, v12_15, v12_16, v12_17])), (q_1201, .inl (cA_1201, 8192, .inl fa12_bytes))] s.heap.size = A at hD ⊢
  have hA : ∀ q : Nat, s.heap.size ≤ q → A q := fun q h => by rw [← hAe]; exact Or.inr h
  have hS : va_S A s.heap s.heap [] := va_S.rf
  have hP : va_P (dC, dI) vwP [(h0, .inr (7, [v12_0, .ref q_1201, .int (zI (z12_length)), .int (zI (z12_at)), .int (zI (z12_kind)), v12_5, .int (zI (z12_value)), v12_7, v12_8, v12_9, v12_10, v12_11, v12_12, v12_13, v12_14, v12_15, v12_16, v12_17])), (q_1201, .inl (cA_1201, 8192, .inl fa12_bytes))] s.heap := hP
  have hl := lv_entry ([.ref h0]) (n := 4) (Nat.le_of_ble_eq_true rfl)
  rw [lg_entry_eq]
  generalize (lg_sl ([.ref h0]) ++ List.replicate (4 - (lg_sl ([.ref h0])).length) Slot.unset).toArray = ls at hl ⊢
  have hl : lv_has ls 4 [(0, .ref h0)] := hl
  obtain ⟨H, hH⟩ : ∃ H, H = s.heap := ⟨_, rfl⟩
  rw [← hH] at hP
  have hS : va_S A s.heap H [] := by rw [hH]; exact hS
  rw [← hH]
  refine zW_cap (fun Q hQ => ?_)
  refine lv_aload_n hx hb dX7_scanNumber_0 rfl (lv_at hl 0 rfl) ?_
  refine lv_aload_n hx hb dX7_scanNumber_1 rfl (lv_at hl 0 rfl) ?_
  refine va_get (D := (dC, dI)) (ci := 7) (v := .int (zI (z12_at))) (C := RX7) (T := TX7) (N := 18) hx hb hts mem_X7_scanNumber_0 hown hK hP 0 rfl rfl 3 (by decide) (ow (k := 0) rfl) (fun _ h9 => h9) rfl dX7_scanNumber_2 ?_
  have hPc := hP.sub (ws' := [(h0, .inr (7, [v12_0, .ref q_1201, .int (zI (z12_length)), .int (zI (z12_at)), .int (zI (z12_kind)), v12_5, .int (zI (z12_value)), v12_7, v12_8, v12_9, v12_10, v12_11, v12_12, v12_13, v12_14, v12_15, v12_16, v12_17])), (q_1201, .inl (cA_1201, 8192, .inl fa12_bytes))]) [0, 1] rfl
  have hDc := hD.sub (ws' := [(h0, .inr (7, [v12_0, .ref q_1201, .int (zI (z12_length)), .int (zI (z12_at)), .int (zI (z12_kind)), v12_5, .int (zI (z12_value)), v12_7, v12_8, v12_9, v12_10, v12_11, v12_12, v12_13, v12_14, v12_15, v12_16, v12_17])), (q_1201, .inl (cA_1201, 8192, .inl fa12_bytes))]) [0, 1] (by decide) rfl
  have hKc := hK.sub (tys' := [(cA_1201, .byte)]) [0] rfl
  have hFc := va_free (wc := [(h0, .inr (7, [v12_0, .ref q_1201, .int (zI (z12_length)), .int (zI (z12_at)), .int (zI (z12_kind)), v12_5, .int (zI (z12_value)), v12_7, v12_8, v12_9, v12_10, v12_11, v12_12, v12_13, v12_14, v12_15, v12_16, v12_17])), (q_1201, .inl (cA_1201, 8192, .inl fa12_bytes))]) hD hS hA [0, 1] rfl
  refine va_calli (va_runV (As := [.int (zI (z12_at))]) (rest := []) ⟨hx, hb, hml, hown, hts⟩ (c_X7_byteAt l dC dI h0 v12_0 z12_length (.int (zI (z12_at))) (.int (zI (z12_kind))) v12_5 (.int (zI (z12_value))) v12_7 v12_8 v12_9 v12_10 v12_11 v12_12 v12_13 v12_14 v12_15 v12_16 v12_17 q_1201 cA_1201 fa12_bytes z12_at (by omega) (by omega) H.size) (cwV 1 hts g_X7_scanNumber_X7_byteAt rfl rfl rfl (by decide +kernel) ⟨(Nat.le_of_ble_eq_true rfl), (Nat.le_of_ble_eq_true rfl)⟩) ⟨fun a U g mk q => by obtain ⟨q0, q1, qP, qK, qD⟩ := q; exact ⟨q0, q1, qP, va_K.moved (u := U) (U := U.calling g mk a) (Vm.Alike.refl U.vm) qK, qD⟩, va_recv hKc hPc (ci := 7) (q0 := 0) rfl rfl, fun U hU hW => ⟨rfl, by rw [hU], by rw [hU]; exact hPc, va_K.moved hW.alike hKc, hDc.weaken (fun _ _ _ _ => trivial)⟩⟩ rfl rfl hl.1 rfl (lv_room (Nat.le_of_ble_eq_true rfl)) dX7_scanNumber_5 ⟨(Nat.le_of_ble_eq_true rfl), (Nat.le_of_ble_eq_true rfl)⟩) hS (fun q _ h => hFc q h) hFc (fun r_2001 u t H1 locs ht hvm hw hB hz1 hk1 hS => ?_)
  obtain ⟨hP1, hK1, hD1⟩ := hB
  rw [ht] at hP1
  have hK1 := va_K.moved hvm.symm hK1
  obtain ⟨hP, hD⟩ := va_join (wr := []) (w1 := [(h0, .inr (7, [v12_0, .ref q_1201, .int (zI (z12_length)), .int (zI (z12_at)), .int (zI (z12_kind)), v12_5, .int (zI (z12_value)), v12_7, v12_8, v12_9, v12_10, v12_11, v12_12, v12_13, v12_14, v12_15, v12_16, v12_17])), (q_1201, .inl (cA_1201, 8192, .inl fa12_bytes))]) hP hD [0, 1] [] rfl rfl (by decide) (by decide) hk1 hFc hP1 hD1
  have hK := (hK.sub (tys' := []) [] rfl).app hK1
  generalize H1 = H at hP hS ⊢
  have hP : va_P (dC, dI) vwP [(h0, .inr (7, [v12_0, .ref q_1201, .int (zI (z12_length)), .int (zI (z12_at)), .int (zI (z12_kind)), v12_5, .int (zI (z12_value)), v12_7, v12_8, v12_9, v12_10, v12_11, v12_12, v12_13, v12_14, v12_15, v12_16, v12_17])), (q_1201, .inl (cA_1201, 8192, .inl fa12_bytes))] H := hP
  have hD : va_D A [(h0, .inr (7, [v12_0, .ref q_1201, .int (zI (z12_length)), .int (zI (z12_at)), .int (zI (z12_kind)), v12_5, .int (zI (z12_value)), v12_7, v12_8, v12_9, v12_10, v12_11, v12_12, v12_13, v12_14, v12_15, v12_16, v12_17])), (q_1201, .inl (cA_1201, 8192, .inl fa12_bytes))] := hD
  have hK : va_K (dC, dI) vwP [(cA_1201, .byte)] s := hK
  refine W.widen (k := 0) (n := 0) (Nat.le_of_ble_eq_true rfl) (Nat.le_of_ble_eq_true rfl) ?_
  obtain rfl : r_2001 = (zI (btF fa12_bytes z12_length (z12_at))) := hw
  have := btF_rng fa12_bytes z12_length (z12_at)
  refine lv_bipush (v := 45) hx hb dX7_scanNumber_8 (by decide) ?_
  refine lv_icmp_ne (tgt := 17) hx hb dX7_scanNumber_10 (by decide) (fun b10 => ?_) (fun b10 => ?_)
  · have yb10 : ¬ (btF fa12_bytes z12_length (z12_at) : Int) = (45 : Int) := fun q => b10 ((zI_eq (a := btF fa12_bytes z12_length (z12_at)) (b := 45) (by omega) (by omega) (by omega) (by omega)).mpr q)
    refine lv_iconst (v := 0) hx hb dX7_scanNumber_17 (by decide) ?_
    refine lv_istore_n (lv' := [(1, .int 0), (0, .ref h0)]) hx hb dX7_scanNumber_18 rfl hl (by decide) rfl (fun ls hl => ?_)
    refine lv_iload_n hx hb dX7_scanNumber_19 rfl (lv_at hl 0 rfl) ?_
    refine lv_if_eq (tgt := 33) hx hb dX7_scanNumber_20 (by decide) (fun _ => ?_) (fun h9 => absurd h9 (by decide))
    refine lv_iload_n hx hb dX7_scanNumber_33 rfl (lv_at hl 0 rfl) ?_
    refine lv_if_eq (tgt := 45) hx hb dX7_scanNumber_34 (by decide) (fun _ => ?_) (fun h9 => absurd h9 (by decide))
    refine lv_aload_n hx hb dX7_scanNumber_45 rfl (lv_at hl 1 rfl) ?_
    have hPc := hP.sub (ws' := [(h0, .inr (7, [v12_0, .ref q_1201, .int (zI (z12_length)), .int (zI (z12_at)), .int (zI (z12_kind)), v12_5, .int (zI (z12_value)), v12_7, v12_8, v12_9, v12_10, v12_11, v12_12, v12_13, v12_14, v12_15, v12_16, v12_17])), (q_1201, .inl (cA_1201, 8192, .inl fa12_bytes))]) [0, 1] rfl
    have hDc := hD.sub (ws' := [(h0, .inr (7, [v12_0, .ref q_1201, .int (zI (z12_length)), .int (zI (z12_at)), .int (zI (z12_kind)), v12_5, .int (zI (z12_value)), v12_7, v12_8, v12_9, v12_10, v12_11, v12_12, v12_13, v12_14, v12_15, v12_16, v12_17])), (q_1201, .inl (cA_1201, 8192, .inl fa12_bytes))]) [0, 1] (by decide) rfl
    have hKc := hK.sub (tys' := [(cA_1201, .byte)]) [0] rfl
    have hFc := va_free (wc := [(h0, .inr (7, [v12_0, .ref q_1201, .int (zI (z12_length)), .int (zI (z12_at)), .int (zI (z12_kind)), v12_5, .int (zI (z12_value)), v12_7, v12_8, v12_9, v12_10, v12_11, v12_12, v12_13, v12_14, v12_15, v12_16, v12_17])), (q_1201, .inl (cA_1201, 8192, .inl fa12_bytes))]) hD hS hA [0, 1] rfl
    refine va_calll (va_runV (As := []) (rest := []) ⟨hx, hb, hml, hown, hts⟩ (c_X7_digits l dC dI h0 v12_0 z12_length z12_at (.int (zI (z12_kind))) v12_5 (.int (zI (z12_value))) v12_7 v12_8 v12_9 v12_10 v12_11 v12_12 v12_13 v12_14 v12_15 v12_16 v12_17 q_1201 cA_1201 fa12_bytes (by omega) (by omega) (by omega) H.size) (cwV 0 hts g_X7_scanNumber_X7_digits rfl rfl rfl (by decide +kernel) ⟨(Nat.le_of_ble_eq_true rfl), (Nat.le_of_ble_eq_true rfl)⟩) ⟨fun a U g mk q => by obtain ⟨q0, q1, qP, qK, qD⟩ := q; exact ⟨q0, q1, qP, va_K.moved (u := U) (U := U.calling g mk a) (Vm.Alike.refl U.vm) qK, qD⟩, va_recv hKc hPc (ci := 7) (q0 := 0) rfl rfl, fun U hU hW => ⟨rfl, by rw [hU], by rw [hU]; exact hPc, va_K.moved hW.alike hKc, hDc.weaken (fun _ _ _ _ => trivial)⟩⟩ rfl rfl hl.1 rfl (lv_room (Nat.le_of_ble_eq_true rfl)) dX7_scanNumber_46 ⟨(Nat.le_of_ble_eq_true rfl), (Nat.le_of_ble_eq_true rfl)⟩) hS (fun q _ h => hFc q h) hFc (fun r_2002 u t H1 locs ht hvm hw hB hz1 hk1 hS => ?_)
    obtain ⟨z0_2003, hxt_2003, hP1, hK1, hD1⟩ := hB
    rw [ht] at hP1
    have hK1 := va_K.moved hvm.symm hK1
    obtain ⟨hP, hD⟩ := va_join (wr := []) (w1 := [(h0, .inr (7, [v12_0, .ref q_1201, .int (zI (z12_length)), .int (zI (z0_2003)), .int (zI (z12_kind)), v12_5, .int (zI (z12_value)), v12_7, v12_8, v12_9, v12_10, v12_11, v12_12, v12_13, v12_14, v12_15, v12_16, v12_17])), (q_1201, .inl (cA_1201, 8192, .inl fa12_bytes))]) hP hD [0, 1] [] rfl rfl (by decide) (by decide) hk1 hFc hP1 hD1
    have hK := (hK.sub (tys' := []) [] rfl).app hK1
    generalize H1 = H at hP hS ⊢
    have hP : va_P (dC, dI) vwP [(h0, .inr (7, [v12_0, .ref q_1201, .int (zI (z12_length)), .int (zI (z0_2003)), .int (zI (z12_kind)), v12_5, .int (zI (z12_value)), v12_7, v12_8, v12_9, v12_10, v12_11, v12_12, v12_13, v12_14, v12_15, v12_16, v12_17])), (q_1201, .inl (cA_1201, 8192, .inl fa12_bytes))] H := hP
    have hD : va_D A [(h0, .inr (7, [v12_0, .ref q_1201, .int (zI (z12_length)), .int (zI (z0_2003)), .int (zI (z12_kind)), v12_5, .int (zI (z12_value)), v12_7, v12_8, v12_9, v12_10, v12_11, v12_12, v12_13, v12_14, v12_15, v12_16, v12_17])), (q_1201, .inl (cA_1201, 8192, .inl fa12_bytes))] := hD
    have hK : va_K (dC, dI) vwP [(cA_1201, .byte)] s := hK
    refine W.widen (k := 0) (n := 0) (Nat.le_of_ble_eq_true rfl) (Nat.le_of_ble_eq_true rfl) ?_
    have hw_2004 := hw
    obtain ⟨rk_2005, hu_2005⟩ := hxt_2003
    obtain ⟨z_2006, rfl, hzz_2006⟩ := hw_2004
    refine lv_lstore_n (lv' := [(2, .long (lI (z_2006))), (1, .int 0), (0, .ref h0)]) hx hb dX7_scanNumber_49 rfl hl (by decide) rfl (fun ls hl => ?_)
    refine lv_aload_n hx hb dX7_scanNumber_50 rfl (lv_at hl 2 rfl) ?_
    refine lv_lload_n hx hb dX7_scanNumber_51 rfl (lv_at hl 0 rfl) ?_
    refine lv_l2i hx hb dX7_scanNumber_52 rfl ?_
    refine lv_topi (fun z ez => ?_)
    obtain ⟨w_2007, rfl, hw_2007⟩ := xI_ex z
    clear ez
    refine va_put (D := (dC, dI)) (ci := 7) (v := .int (zI (w_2007))) (ty := .int) (C := RX7) (T := TX7) (N := 18) hx hb hts mem_X7_scanNumber_0 tyX7 tyX7_ok nmX7 hown hK hP hD hS 0 rfl rfl 6 (by decide) (ow (k := 8) rfl) (fun _ h9 => h9) rfl (by decide +kernel) rfl rfl (Nat.le_of_ble_eq_true rfl) dX7_scanNumber_53 (fun H locs hP hD hS => ?_)
    have hP : va_P (dC, dI) vwP [(h0, .inr (7, [v12_0, .ref q_1201, .int (zI (z12_length)), .int (zI (z0_2003)), .int (zI (z12_kind)), v12_5, .int (zI (w_2007)), v12_7, v12_8, v12_9, v12_10, v12_11, v12_12, v12_13, v12_14, v12_15, v12_16, v12_17])), (q_1201, .inl (cA_1201, 8192, .inl fa12_bytes))] H := hP
    have hD : va_D A [(h0, .inr (7, [v12_0, .ref q_1201, .int (zI (z12_length)), .int (zI (z0_2003)), .int (zI (z12_kind)), v12_5, .int (zI (w_2007)), v12_7, v12_8, v12_9, v12_10, v12_11, v12_12, v12_13, v12_14, v12_15, v12_16, v12_17])), (q_1201, .inl (cA_1201, 8192, .inl fa12_bytes))] := hD
    refine lv_aload_n hx hb dX7_scanNumber_56 rfl (lv_at hl 2 rfl) ?_
    refine lv_aload_n hx hb dX7_scanNumber_57 rfl (lv_at hl 2 rfl) ?_
    refine va_get (D := (dC, dI)) (ci := 7) (v := .int (zI (w_2007))) (C := RX7) (T := TX7) (N := 18) hx hb hts mem_X7_scanNumber_0 hown hK hP 0 rfl rfl 6 (by decide) (ow (k := 8) rfl) (fun _ h9 => h9) rfl dX7_scanNumber_58 ?_
    refine lv_i2l (v := lI (w_2007)) hx hb dX7_scanNumber_61 (zI_l (a := w_2007) (by omega) (by omega)) ?_
    refine lv_lload_n hx hb dX7_scanNumber_62 rfl (lv_at hl 0 rfl) ?_
    refine W.lcmp hx hb dX7_scanNumber_63 ?_
    refine lv_if_ne (tgt := 71) hx hb dX7_scanNumber_64 (by decide) (fun b64 => ?_) (fun b64 => ?_)
    · have yb64 : ¬ (w_2007 : Int) = z_2006 := fun q => b64 ((lc_eq (a := w_2007) (b := z_2006) (by omega) (by omega) (by omega) (by omega)).mpr q)
      refine lv_iconst (v := 0) hx hb dX7_scanNumber_71 (by decide) ?_
      refine va_put (D := (dC, dI)) (ci := 7) (v := .int 0) (ty := .int) (C := RX7) (T := TX7) (N := 18) hx hb hts mem_X7_scanNumber_0 tyX7 tyX7_ok nmX7 hown hK hP hD hS 0 rfl rfl 4 (by decide) (ow (k := 9) rfl) (fun _ h9 => h9) rfl (by decide +kernel) rfl rfl (Nat.le_of_ble_eq_true rfl) dX7_scanNumber_72 (fun H locs hP hD hS => ?_)
      have hP : va_P (dC, dI) vwP [(h0, .inr (7, [v12_0, .ref q_1201, .int (zI (z12_length)), .int (zI (z0_2003)), .int 0, v12_5, .int (zI (w_2007)), v12_7, v12_8, v12_9, v12_10, v12_11, v12_12, v12_13, v12_14, v12_15, v12_16, v12_17])), (q_1201, .inl (cA_1201, 8192, .inl fa12_bytes))] H := hP
      have hD : va_D A [(h0, .inr (7, [v12_0, .ref q_1201, .int (zI (z12_length)), .int (zI (z0_2003)), .int 0, v12_5, .int (zI (w_2007)), v12_7, v12_8, v12_9, v12_10, v12_11, v12_12, v12_13, v12_14, v12_15, v12_16, v12_17])), (q_1201, .inl (cA_1201, 8192, .inl fa12_bytes))] := hD
      subst hQ
      refine W.widen (k := 0) (n := 0) (Nat.le_of_ble_eq_true rfl) (Nat.le_of_ble_eq_true rfl) ?_
      exact W.vret hx hb hr (fun t ht hW => ⟨⟨(), rfl, trivial, z0_2003, 0, w_2007, ⟨(by omega), (by omega), (by omega), ⟨(by unfold RKV; omega), by omega⟩⟩, by rw [ht]; exact hP, va_K.moved hW.alike hK, hD⟩, hS.F ht⟩) hS.2.2 dX7_scanNumber_75
    · have yb64 : (w_2007 : Int) = z_2006 := (lc_eq (a := w_2007) (b := z_2006) (by omega) (by omega) (by omega) (by omega)).mp b64
      refine lv_iconst (v := 3) hx hb dX7_scanNumber_67 (by decide) ?_
      refine lv_goto (tgt := 72) hx hb dX7_scanNumber_68 (by decide) ?_
      refine va_put (D := (dC, dI)) (ci := 7) (v := .int 3) (ty := .int) (C := RX7) (T := TX7) (N := 18) hx hb hts mem_X7_scanNumber_0 tyX7 tyX7_ok nmX7 hown hK hP hD hS 0 rfl rfl 4 (by decide) (ow (k := 9) rfl) (fun _ h9 => h9) rfl (by decide +kernel) rfl rfl (Nat.le_of_ble_eq_true rfl) dX7_scanNumber_72 (fun H locs hP hD hS => ?_)
      have hP : va_P (dC, dI) vwP [(h0, .inr (7, [v12_0, .ref q_1201, .int (zI (z12_length)), .int (zI (z0_2003)), .int 3, v12_5, .int (zI (w_2007)), v12_7, v12_8, v12_9, v12_10, v12_11, v12_12, v12_13, v12_14, v12_15, v12_16, v12_17])), (q_1201, .inl (cA_1201, 8192, .inl fa12_bytes))] H := hP
      have hD : va_D A [(h0, .inr (7, [v12_0, .ref q_1201, .int (zI (z12_length)), .int (zI (z0_2003)), .int 3, v12_5, .int (zI (w_2007)), v12_7, v12_8, v12_9, v12_10, v12_11, v12_12, v12_13, v12_14, v12_15, v12_16, v12_17])), (q_1201, .inl (cA_1201, 8192, .inl fa12_bytes))] := hD
      subst hQ
      refine W.widen (k := 0) (n := 0) (Nat.le_of_ble_eq_true rfl) (Nat.le_of_ble_eq_true rfl) ?_
      exact W.vret hx hb hr (fun t ht hW => ⟨⟨(), rfl, trivial, z0_2003, 3, w_2007, ⟨(by omega), (by omega), (by omega), ⟨(by unfold RKV; omega), by omega⟩⟩, by rw [ht]; exact hP, va_K.moved hW.alike hK, hD⟩, hS.F ht⟩) hS.2.2 dX7_scanNumber_75
  · have yb10 : (btF fa12_bytes z12_length (z12_at) : Int) = (45 : Int) := (zI_eq (a := btF fa12_bytes z12_length (z12_at)) (b := 45) (by omega) (by omega) (by omega) (by omega)).mp b10
    refine lv_iconst (v := 1) hx hb dX7_scanNumber_13 (by decide) ?_
    refine lv_goto (tgt := 18) hx hb dX7_scanNumber_14 (by decide) ?_
    refine lv_istore_n (lv' := [(1, .int 1), (0, .ref h0)]) hx hb dX7_scanNumber_18 rfl hl (by decide) rfl (fun ls hl => ?_)
    refine lv_iload_n hx hb dX7_scanNumber_19 rfl (lv_at hl 0 rfl) ?_
    refine lv_if_eq (tgt := 33) hx hb dX7_scanNumber_20 (by decide) (fun h9 => absurd h9 (by decide)) (fun _ => ?_)
    refine lv_aload_n hx hb dX7_scanNumber_23 rfl (lv_at hl 1 rfl) ?_
    refine lv_dup hx hb dX7_scanNumber_24 rfl ?_
    refine va_get (D := (dC, dI)) (ci := 7) (v := .int (zI (z12_at))) (C := RX7) (T := TX7) (N := 18) hx hb hts mem_X7_scanNumber_0 hown hK hP 0 rfl rfl 3 (by decide) (ow (k := 0) rfl) (fun _ h9 => h9) rfl dX7_scanNumber_25 ?_
    refine lv_iconst (v := 1) hx hb dX7_scanNumber_28 (by decide) ?_
    refine lv_iadd hx hb dX7_scanNumber_29 ?_
    refine lv_topi (fun z ez => ?_)
    obtain rfl : z = zI (z12_at + 1) := ez.trans (zI_add (z12_at) (1))
    refine va_put (D := (dC, dI)) (ci := 7) (v := .int (zI (z12_at + 1))) (ty := .int) (C := RX7) (T := TX7) (N := 18) hx hb hts mem_X7_scanNumber_0 tyX7 tyX7_ok nmX7 hown hK hP hD hS 0 rfl rfl 3 (by decide) (ow (k := 0) rfl) (fun _ h9 => h9) rfl (by decide +kernel) rfl rfl (Nat.le_of_ble_eq_true rfl) dX7_scanNumber_30 (fun H locs hP hD hS => ?_)
    have hP : va_P (dC, dI) vwP [(h0, .inr (7, [v12_0, .ref q_1201, .int (zI (z12_length)), .int (zI (z12_at + 1)), .int (zI (z12_kind)), v12_5, .int (zI (z12_value)), v12_7, v12_8, v12_9, v12_10, v12_11, v12_12, v12_13, v12_14, v12_15, v12_16, v12_17])), (q_1201, .inl (cA_1201, 8192, .inl fa12_bytes))] H := hP
    have hD : va_D A [(h0, .inr (7, [v12_0, .ref q_1201, .int (zI (z12_length)), .int (zI (z12_at + 1)), .int (zI (z12_kind)), v12_5, .int (zI (z12_value)), v12_7, v12_8, v12_9, v12_10, v12_11, v12_12, v12_13, v12_14, v12_15, v12_16, v12_17])), (q_1201, .inl (cA_1201, 8192, .inl fa12_bytes))] := hD
    obtain ⟨z_2008, ez_2008⟩ : ∃ z9 : Int, z9 = z12_at + 1 := ⟨_, rfl⟩
    rw [← ez_2008] at hP hD
    have hP : va_P (dC, dI) vwP [(h0, .inr (7, [v12_0, .ref q_1201, .int (zI (z12_length)), .int (zI (z_2008)), .int (zI (z12_kind)), v12_5, .int (zI (z12_value)), v12_7, v12_8, v12_9, v12_10, v12_11, v12_12, v12_13, v12_14, v12_15, v12_16, v12_17])), (q_1201, .inl (cA_1201, 8192, .inl fa12_bytes))] H := hP
    have hD : va_D A [(h0, .inr (7, [v12_0, .ref q_1201, .int (zI (z12_length)), .int (zI (z_2008)), .int (zI (z12_kind)), v12_5, .int (zI (z12_value)), v12_7, v12_8, v12_9, v12_10, v12_11, v12_12, v12_13, v12_14, v12_15, v12_16, v12_17])), (q_1201, .inl (cA_1201, 8192, .inl fa12_bytes))] := hD
    refine lv_iload_n hx hb dX7_scanNumber_33 rfl (lv_at hl 0 rfl) ?_
    refine lv_if_eq (tgt := 45) hx hb dX7_scanNumber_34 (by decide) (fun h9 => absurd h9 (by decide)) (fun _ => ?_)
    refine lv_aload_n hx hb dX7_scanNumber_37 rfl (lv_at hl 1 rfl) ?_
    have hPc := hP.sub (ws' := [(h0, .inr (7, [v12_0, .ref q_1201, .int (zI (z12_length)), .int (zI (z_2008)), .int (zI (z12_kind)), v12_5, .int (zI (z12_value)), v12_7, v12_8, v12_9, v12_10, v12_11, v12_12, v12_13, v12_14, v12_15, v12_16, v12_17])), (q_1201, .inl (cA_1201, 8192, .inl fa12_bytes))]) [0, 1] rfl
    have hDc := hD.sub (ws' := [(h0, .inr (7, [v12_0, .ref q_1201, .int (zI (z12_length)), .int (zI (z_2008)), .int (zI (z12_kind)), v12_5, .int (zI (z12_value)), v12_7, v12_8, v12_9, v12_10, v12_11, v12_12, v12_13, v12_14, v12_15, v12_16, v12_17])), (q_1201, .inl (cA_1201, 8192, .inl fa12_bytes))]) [0, 1] (by decide) rfl
    have hKc := hK.sub (tys' := [(cA_1201, .byte)]) [0] rfl
    have hFc := va_free (wc := [(h0, .inr (7, [v12_0, .ref q_1201, .int (zI (z12_length)), .int (zI (z_2008)), .int (zI (z12_kind)), v12_5, .int (zI (z12_value)), v12_7, v12_8, v12_9, v12_10, v12_11, v12_12, v12_13, v12_14, v12_15, v12_16, v12_17])), (q_1201, .inl (cA_1201, 8192, .inl fa12_bytes))]) hD hS hA [0, 1] rfl
    refine va_calll (va_runV (As := []) (rest := []) ⟨hx, hb, hml, hown, hts⟩ (c_X7_digits l dC dI h0 v12_0 z12_length z_2008 (.int (zI (z12_kind))) v12_5 (.int (zI (z12_value))) v12_7 v12_8 v12_9 v12_10 v12_11 v12_12 v12_13 v12_14 v12_15 v12_16 v12_17 q_1201 cA_1201 fa12_bytes (by omega) (by omega) (by omega) H.size) (cwV 0 hts g_X7_scanNumber_X7_digits rfl rfl rfl (by decide +kernel) ⟨(Nat.le_of_ble_eq_true rfl), (Nat.le_of_ble_eq_true rfl)⟩) ⟨fun a U g mk q => by obtain ⟨q0, q1, qP, qK, qD⟩ := q; exact ⟨q0, q1, qP, va_K.moved (u := U) (U := U.calling g mk a) (Vm.Alike.refl U.vm) qK, qD⟩, va_recv hKc hPc (ci := 7) (q0 := 0) rfl rfl, fun U hU hW => ⟨rfl, by rw [hU], by rw [hU]; exact hPc, va_K.moved hW.alike hKc, hDc.weaken (fun _ _ _ _ => trivial)⟩⟩ rfl rfl hl.1 rfl (lv_room (Nat.le_of_ble_eq_true rfl)) dX7_scanNumber_38 ⟨(Nat.le_of_ble_eq_true rfl), (Nat.le_of_ble_eq_true rfl)⟩) hS (fun q _ h => hFc q h) hFc (fun r_2009 u t H1 locs ht hvm hw hB hz1 hk1 hS => ?_)
    obtain ⟨z0_2010, hxt_2010, hP1, hK1, hD1⟩ := hB
    rw [ht] at hP1
    have hK1 := va_K.moved hvm.symm hK1
    obtain ⟨hP, hD⟩ := va_join (wr := []) (w1 := [(h0, .inr (7, [v12_0, .ref q_1201, .int (zI (z12_length)), .int (zI (z0_2010)), .int (zI (z12_kind)), v12_5, .int (zI (z12_value)), v12_7, v12_8, v12_9, v12_10, v12_11, v12_12, v12_13, v12_14, v12_15, v12_16, v12_17])), (q_1201, .inl (cA_1201, 8192, .inl fa12_bytes))]) hP hD [0, 1] [] rfl rfl (by decide) (by decide) hk1 hFc hP1 hD1
    have hK := (hK.sub (tys' := []) [] rfl).app hK1
    generalize H1 = H at hP hS ⊢
    have hP : va_P (dC, dI) vwP [(h0, .inr (7, [v12_0, .ref q_1201, .int (zI (z12_length)), .int (zI (z0_2010)), .int (zI (z12_kind)), v12_5, .int (zI (z12_value)), v12_7, v12_8, v12_9, v12_10, v12_11, v12_12, v12_13, v12_14, v12_15, v12_16, v12_17])), (q_1201, .inl (cA_1201, 8192, .inl fa12_bytes))] H := hP
    have hD : va_D A [(h0, .inr (7, [v12_0, .ref q_1201, .int (zI (z12_length)), .int (zI (z0_2010)), .int (zI (z12_kind)), v12_5, .int (zI (z12_value)), v12_7, v12_8, v12_9, v12_10, v12_11, v12_12, v12_13, v12_14, v12_15, v12_16, v12_17])), (q_1201, .inl (cA_1201, 8192, .inl fa12_bytes))] := hD
    have hK : va_K (dC, dI) vwP [(cA_1201, .byte)] s := hK
    refine W.widen (k := 0) (n := 0) (Nat.le_of_ble_eq_true rfl) (Nat.le_of_ble_eq_true rfl) ?_
    have hw_2011 := hw
    obtain ⟨rk_2012, hu_2012⟩ := hxt_2010
    obtain ⟨z_2013, rfl, hzz_2013⟩ := hw_2011
    refine lv_lneg hx hb dX7_scanNumber_41 ?_
    refine lv_topl (fun z ez => ?_)
    obtain rfl : z = lI (-(z_2013)) := ez.trans (lI_neg (z_2013))
    refine lv_goto (tgt := 49) hx hb dX7_scanNumber_42 (by decide) ?_
    refine lv_lstore_n (lv' := [(2, .long (lI (-(z_2013)))), (1, .int 1), (0, .ref h0)]) hx hb dX7_scanNumber_49 rfl hl (by decide) rfl (fun ls hl => ?_)
    refine lv_aload_n hx hb dX7_scanNumber_50 rfl (lv_at hl 2 rfl) ?_
    refine lv_lload_n hx hb dX7_scanNumber_51 rfl (lv_at hl 0 rfl) ?_
    refine lv_l2i hx hb dX7_scanNumber_52 rfl ?_
    refine lv_topi (fun z ez => ?_)
    obtain ⟨w_2014, rfl, hw_2014⟩ := xI_ex z
    clear ez
    refine va_put (D := (dC, dI)) (ci := 7) (v := .int (zI (w_2014))) (ty := .int) (C := RX7) (T := TX7) (N := 18) hx hb hts mem_X7_scanNumber_0 tyX7 tyX7_ok nmX7 hown hK hP hD hS 0 rfl rfl 6 (by decide) (ow (k := 8) rfl) (fun _ h9 => h9) rfl (by decide +kernel) rfl rfl (Nat.le_of_ble_eq_true rfl) dX7_scanNumber_53 (fun H locs hP hD hS => ?_)
    have hP : va_P (dC, dI) vwP [(h0, .inr (7, [v12_0, .ref q_1201, .int (zI (z12_length)), .int (zI (z0_2010)), .int (zI (z12_kind)), v12_5, .int (zI (w_2014)), v12_7, v12_8, v12_9, v12_10, v12_11, v12_12, v12_13, v12_14, v12_15, v12_16, v12_17])), (q_1201, .inl (cA_1201, 8192, .inl fa12_bytes))] H := hP
    have hD : va_D A [(h0, .inr (7, [v12_0, .ref q_1201, .int (zI (z12_length)), .int (zI (z0_2010)), .int (zI (z12_kind)), v12_5, .int (zI (w_2014)), v12_7, v12_8, v12_9, v12_10, v12_11, v12_12, v12_13, v12_14, v12_15, v12_16, v12_17])), (q_1201, .inl (cA_1201, 8192, .inl fa12_bytes))] := hD
    refine lv_aload_n hx hb dX7_scanNumber_56 rfl (lv_at hl 2 rfl) ?_
    refine lv_aload_n hx hb dX7_scanNumber_57 rfl (lv_at hl 2 rfl) ?_
    refine va_get (D := (dC, dI)) (ci := 7) (v := .int (zI (w_2014))) (C := RX7) (T := TX7) (N := 18) hx hb hts mem_X7_scanNumber_0 hown hK hP 0 rfl rfl 6 (by decide) (ow (k := 8) rfl) (fun _ h9 => h9) rfl dX7_scanNumber_58 ?_
    refine lv_i2l (v := lI (w_2014)) hx hb dX7_scanNumber_61 (zI_l (a := w_2014) (by omega) (by omega)) ?_
    refine lv_lload_n hx hb dX7_scanNumber_62 rfl (lv_at hl 0 rfl) ?_
    refine W.lcmp hx hb dX7_scanNumber_63 ?_
    refine lv_if_ne (tgt := 71) hx hb dX7_scanNumber_64 (by decide) (fun b64 => ?_) (fun b64 => ?_)
    · have yb64 : ¬ (w_2014 : Int) = -(z_2013) := fun q => b64 ((lc_eq (a := w_2014) (b := -(z_2013)) (by omega) (by omega) (by omega) (by omega)).mpr q)
      refine lv_iconst (v := 0) hx hb dX7_scanNumber_71 (by decide) ?_
      refine va_put (D := (dC, dI)) (ci := 7) (v := .int 0) (ty := .int) (C := RX7) (T := TX7) (N := 18) hx hb hts mem_X7_scanNumber_0 tyX7 tyX7_ok nmX7 hown hK hP hD hS 0 rfl rfl 4 (by decide) (ow (k := 9) rfl) (fun _ h9 => h9) rfl (by decide +kernel) rfl rfl (Nat.le_of_ble_eq_true rfl) dX7_scanNumber_72 (fun H locs hP hD hS => ?_)
      have hP : va_P (dC, dI) vwP [(h0, .inr (7, [v12_0, .ref q_1201, .int (zI (z12_length)), .int (zI (z0_2010)), .int 0, v12_5, .int (zI (w_2014)), v12_7, v12_8, v12_9, v12_10, v12_11, v12_12, v12_13, v12_14, v12_15, v12_16, v12_17])), (q_1201, .inl (cA_1201, 8192, .inl fa12_bytes))] H := hP
      have hD : va_D A [(h0, .inr (7, [v12_0, .ref q_1201, .int (zI (z12_length)), .int (zI (z0_2010)), .int 0, v12_5, .int (zI (w_2014)), v12_7, v12_8, v12_9, v12_10, v12_11, v12_12, v12_13, v12_14, v12_15, v12_16, v12_17])), (q_1201, .inl (cA_1201, 8192, .inl fa12_bytes))] := hD
      subst hQ
      refine W.widen (k := 0) (n := 0) (Nat.le_of_ble_eq_true rfl) (Nat.le_of_ble_eq_true rfl) ?_
      exact W.vret hx hb hr (fun t ht hW => ⟨⟨(), rfl, trivial, z0_2010, 0, w_2014, ⟨(by omega), (by omega), (by omega), ⟨(by unfold RKV; omega), by omega⟩⟩, by rw [ht]; exact hP, va_K.moved hW.alike hK, hD⟩, hS.F ht⟩) hS.2.2 dX7_scanNumber_75
    · have yb64 : (w_2014 : Int) = -(z_2013) := (lc_eq (a := w_2014) (b := -(z_2013)) (by omega) (by omega) (by omega) (by omega)).mp b64
      refine lv_iconst (v := 3) hx hb dX7_scanNumber_67 (by decide) ?_
      refine lv_goto (tgt := 72) hx hb dX7_scanNumber_68 (by decide) ?_
      refine va_put (D := (dC, dI)) (ci := 7) (v := .int 3) (ty := .int) (C := RX7) (T := TX7) (N := 18) hx hb hts mem_X7_scanNumber_0 tyX7 tyX7_ok nmX7 hown hK hP hD hS 0 rfl rfl 4 (by decide) (ow (k := 9) rfl) (fun _ h9 => h9) rfl (by decide +kernel) rfl rfl (Nat.le_of_ble_eq_true rfl) dX7_scanNumber_72 (fun H locs hP hD hS => ?_)
      have hP : va_P (dC, dI) vwP [(h0, .inr (7, [v12_0, .ref q_1201, .int (zI (z12_length)), .int (zI (z0_2010)), .int 3, v12_5, .int (zI (w_2014)), v12_7, v12_8, v12_9, v12_10, v12_11, v12_12, v12_13, v12_14, v12_15, v12_16, v12_17])), (q_1201, .inl (cA_1201, 8192, .inl fa12_bytes))] H := hP
      have hD : va_D A [(h0, .inr (7, [v12_0, .ref q_1201, .int (zI (z12_length)), .int (zI (z0_2010)), .int 3, v12_5, .int (zI (w_2014)), v12_7, v12_8, v12_9, v12_10, v12_11, v12_12, v12_13, v12_14, v12_15, v12_16, v12_17])), (q_1201, .inl (cA_1201, 8192, .inl fa12_bytes))] := hD
      subst hQ
      refine W.widen (k := 0) (n := 0) (Nat.le_of_ble_eq_true rfl) (Nat.le_of_ble_eq_true rfl) ?_
      exact W.vret hx hb hr (fun t ht hW => ⟨⟨(), rfl, trivial, z0_2010, 3, w_2014, ⟨(by omega), (by omega), (by omega), ⟨(by unfold RKV; omega), by omega⟩⟩, by rw [ht]; exact hP, va_K.moved hW.alike hK, hD⟩, hS.F ht⟩) hS.2.2 dX7_scanNumber_75
theorem dX7_markOperator_0 : decode cX7_markOperator 0 = .ok (.iload_n 0, 1) := by decide +kernel
theorem dX7_markOperator_1 : decode cX7_markOperator 1 = .ok (.lookupswitch 192 #[(33, 179), (37, 116), (38, 119), (42, 111), (43, 107), (45, 109), (47, 113), (60, 128), (61, 166), (62, 153), (94, 125), (124, 122)], 107) := by decide +kernel
theorem dX7_markOperator_180 : decode cX7_markOperator 180 = .ok (.iload_n 1, 1) := by decide +kernel
theorem dX7_markOperator_181 : decode cX7_markOperator 181 = .ok (.bipush 61, 2) := by decide +kernel
theorem dX7_markOperator_183 : decode cX7_markOperator 183 = .ok (.if_icmp .ne 8, 3) := by decide +kernel
theorem dX7_markOperator_191 : decode cX7_markOperator 191 = .ok (.iconst (-1), 1) := by decide +kernel
theorem dX7_markOperator_192 : decode cX7_markOperator 192 = .ok (.ireturn, 1) := by decide +kernel
theorem dX7_markOperator_186 : decode cX7_markOperator 186 = .ok (.bipush 16, 2) := by decide +kernel
theorem dX7_markOperator_188 : decode cX7_markOperator 188 = .ok (.goto 4, 3) := by decide +kernel
theorem dX7_markOperator_117 : decode cX7_markOperator 117 = .ok (.bipush 7, 2) := by decide +kernel
theorem dX7_markOperator_119 : decode cX7_markOperator 119 = .ok (.ireturn, 1) := by decide +kernel
theorem dX7_markOperator_120 : decode cX7_markOperator 120 = .ok (.bipush 8, 2) := by decide +kernel
theorem dX7_markOperator_122 : decode cX7_markOperator 122 = .ok (.ireturn, 1) := by decide +kernel
theorem dX7_markOperator_112 : decode cX7_markOperator 112 = .ok (.iconst 5, 1) := by decide +kernel
theorem dX7_markOperator_113 : decode cX7_markOperator 113 = .ok (.ireturn, 1) := by decide +kernel
theorem dX7_markOperator_108 : decode cX7_markOperator 108 = .ok (.iconst 3, 1) := by decide +kernel
theorem dX7_markOperator_109 : decode cX7_markOperator 109 = .ok (.ireturn, 1) := by decide +kernel
theorem dX7_markOperator_110 : decode cX7_markOperator 110 = .ok (.iconst 4, 1) := by decide +kernel
theorem dX7_markOperator_111 : decode cX7_markOperator 111 = .ok (.ireturn, 1) := by decide +kernel
theorem dX7_markOperator_114 : decode cX7_markOperator 114 = .ok (.bipush 6, 2) := by decide +kernel
theorem dX7_markOperator_116 : decode cX7_markOperator 116 = .ok (.ireturn, 1) := by decide +kernel
theorem dX7_markOperator_129 : decode cX7_markOperator 129 = .ok (.iload_n 1, 1) := by decide +kernel
theorem dX7_markOperator_130 : decode cX7_markOperator 130 = .ok (.bipush 60, 2) := by decide +kernel
theorem dX7_markOperator_132 : decode cX7_markOperator 132 = .ok (.if_icmp .ne 8, 3) := by decide +kernel
theorem dX7_markOperator_140 : decode cX7_markOperator 140 = .ok (.iload_n 1, 1) := by decide +kernel
theorem dX7_markOperator_141 : decode cX7_markOperator 141 = .ok (.bipush 61, 2) := by decide +kernel
theorem dX7_markOperator_143 : decode cX7_markOperator 143 = .ok (.if_icmp .ne 8, 3) := by decide +kernel
theorem dX7_markOperator_151 : decode cX7_markOperator 151 = .ok (.bipush 13, 2) := by decide +kernel
theorem dX7_markOperator_153 : decode cX7_markOperator 153 = .ok (.ireturn, 1) := by decide +kernel
theorem dX7_markOperator_146 : decode cX7_markOperator 146 = .ok (.bipush 14, 2) := by decide +kernel
theorem dX7_markOperator_148 : decode cX7_markOperator 148 = .ok (.goto 5, 3) := by decide +kernel
theorem dX7_markOperator_135 : decode cX7_markOperator 135 = .ok (.bipush 11, 2) := by decide +kernel
theorem dX7_markOperator_137 : decode cX7_markOperator 137 = .ok (.goto 16, 3) := by decide +kernel
theorem dX7_markOperator_167 : decode cX7_markOperator 167 = .ok (.iload_n 1, 1) := by decide +kernel
theorem dX7_markOperator_168 : decode cX7_markOperator 168 = .ok (.bipush 61, 2) := by decide +kernel
theorem dX7_markOperator_170 : decode cX7_markOperator 170 = .ok (.if_icmp .ne 8, 3) := by decide +kernel
theorem dX7_markOperator_178 : decode cX7_markOperator 178 = .ok (.iconst (-1), 1) := by decide +kernel
theorem dX7_markOperator_179 : decode cX7_markOperator 179 = .ok (.ireturn, 1) := by decide +kernel
theorem dX7_markOperator_173 : decode cX7_markOperator 173 = .ok (.bipush 15, 2) := by decide +kernel
theorem dX7_markOperator_175 : decode cX7_markOperator 175 = .ok (.goto 4, 3) := by decide +kernel
theorem dX7_markOperator_154 : decode cX7_markOperator 154 = .ok (.iload_n 1, 1) := by decide +kernel
theorem dX7_markOperator_155 : decode cX7_markOperator 155 = .ok (.bipush 62, 2) := by decide +kernel
theorem dX7_markOperator_157 : decode cX7_markOperator 157 = .ok (.if_icmp .ne 8, 3) := by decide +kernel
theorem dX7_markOperator_165 : decode cX7_markOperator 165 = .ok (.iconst (-1), 1) := by decide +kernel
theorem dX7_markOperator_166 : decode cX7_markOperator 166 = .ok (.ireturn, 1) := by decide +kernel
theorem dX7_markOperator_160 : decode cX7_markOperator 160 = .ok (.bipush 12, 2) := by decide +kernel
theorem dX7_markOperator_162 : decode cX7_markOperator 162 = .ok (.goto 4, 3) := by decide +kernel
theorem dX7_markOperator_126 : decode cX7_markOperator 126 = .ok (.bipush 10, 2) := by decide +kernel
theorem dX7_markOperator_128 : decode cX7_markOperator 128 = .ok (.ireturn, 1) := by decide +kernel
theorem dX7_markOperator_123 : decode cX7_markOperator 123 = .ok (.bipush 9, 2) := by decide +kernel
theorem dX7_markOperator_125 : decode cX7_markOperator 125 = .ok (.ireturn, 1) := by decide +kernel
theorem dX7_markOperator_193 : decode cX7_markOperator 193 = .ok (.iconst (-1), 1) := by decide +kernel
theorem dX7_markOperator_194 : decode cX7_markOperator 194 = .ok (.ireturn, 1) := by decide +kernel
def o_X7_markOperator : List Cond := []
def v_X7_markOperator : List Cond := .code yX7_markOperator cX7_markOperator 2 (some .int) :: (o_X7_markOperator ++ [])
theorem mow_X7_markOperator : ∀ w ∈ o_X7_markOperator, w ∈ v_X7_markOperator := fun _ h => List.mem_cons_of_mem _ (List.mem_append_left _ h)
set_option maxRecDepth 20000 in
theorem gw_X7_markOperator : v_X7_markOperator.all goodWord = true := by decide +kernel
set_option maxHeartbeats 4000000 in
set_option maxRecDepth 100000 in
theorem c_X7_markOperator (l : Launch) (dC : Nat → ClassId) (dI : Nat → Nat → Nat) (o : Int) (n : Int) (hNo : -1 ≤ o ∧ o ≤ 255 ∧ -1 ≤ n ∧ n ≤ 255) (sz : Nat) : Met l yX7_markOperator v_X7_markOperator ({ frames := 0, cells := 0, slots := 0, locals := 0 }) (va_Pc [.int (zI (o)), .int (zI (n))] (fun U => U.heap.size = sz ∧ va_P (dC, dI) vwP [] U.heap ∧ va_K (dC, dI) vwP [] U ∧ va_D (fun _ => True) [])) (va_Qi (fun (r : Int32) (_ : Unit) => ∃ z : Int, r = zI z ∧ (z = -1 ∨ (3 ≤ z ∧ z ≤ 16))) (fun (_ : Unit) (t : State) => va_P (dC, dI) vwP [] t.heap ∧ va_K (dC, dI) vwP [] t ∧ va_D (va_A [] sz) []) (va_A [] sz)) 0 0 (va_A [] sz) := by
  refine Met.ofW (cc := cX7_markOperator) (maxL := 2) (ret := (some .int)) (by decide) rfl ?_
  intro p e s m args below meth c s₁ B hml hv
  obtain ⟨rfl, hsz, hP, hK, hD0⟩ := hv
  have hx := B.exec
  have hb := B.bytes
  have hr := B.returns
  have hts := atoms_spec (ws := v_X7_markOperator) B.pre
  have hown : s.vm.findClass RX7 = some m.cls := findClass_of_methodNamed B.named
  have hlocks := B.notSynchronized
  have ow : ∀ {k : Nat} {w : Cond}, o_X7_markOperator[k]? = some w → w.before ([.int (zI (o)), .int (zI (n))] : List Value).toArray s = true := fun h => hts _ (mow_X7_markOperator _ (List.mem_of_getElem? h))
  subst hsz
  have hD := hD0.self (sz := s.heap.size)
  generalize hAe : va_A [] s.heap.size = A at hD ⊢
  have hA : ∀ q : Nat, s.heap.size ≤ q → A q := fun q h => by rw [← hAe]; exact Or.inr h
  have hS : va_S A s.heap s.heap [] := va_S.rf
  have hP : va_P (dC, dI) vwP [] s.heap := hP
  have hl := lv_entry ([.int (zI (o)), .int (zI (n))]) (n := 2) (Nat.le_of_ble_eq_true rfl)
  rw [lg_entry_eq]
  generalize (lg_sl ([.int (zI (o)), .int (zI (n))]) ++ List.replicate (2 - (lg_sl ([.int (zI (o)), .int (zI (n))])).length) Slot.unset).toArray = ls at hl ⊢
  have hl : lv_has ls 2 [(0, .int (zI (o))), (1, .int (zI (n)))] := hl
  obtain ⟨H, hH⟩ : ∃ H, H = s.heap := ⟨_, rfl⟩
  rw [← hH] at hP
  have hS : va_S A s.heap H [] := by rw [hH]; exact hS
  rw [← hH]
  refine zW_cap (fun Q hQ => ?_)
  refine lv_iload_n hx hb dX7_markOperator_0 rfl (lv_at hl 0 rfl) ?_
  by_cases s1_0 : o = 33
  · refine lv_lookup (off := 179) (tgt := 180) hx hb dX7_markOperator_1 (by decide) (by rw [s1_0]; decide) (by decide) ?_
    refine lv_iload_n hx hb dX7_markOperator_180 rfl (lv_at hl 1 rfl) ?_
    refine lv_bipush (v := 61) hx hb dX7_markOperator_181 (by decide) ?_
    refine lv_icmp_ne (tgt := 191) hx hb dX7_markOperator_183 (by decide) (fun b183 => ?_) (fun b183 => ?_)
    · have yb183 : ¬ (n : Int) = (61 : Int) := fun q => b183 ((zI_eq (a := n) (b := 61) (by omega) (by omega) (by omega) (by omega)).mpr q)
      refine lv_iconst (v := (-1)) hx hb dX7_markOperator_191 (by decide) ?_
      subst hQ
      refine W.widen (k := 0) (n := 0) (Nat.le_of_ble_eq_true rfl) (Nat.le_of_ble_eq_true rfl) ?_
      exact W.iret (v := (-1)) hx hb hr (fun t ht hW => ⟨⟨(-1), (), rfl, ⟨-1, rfl, (by omega)⟩, by rw [ht]; exact hP, va_K.moved hW.alike hK, hD⟩, hS.F ht⟩) hS.2.2 dX7_markOperator_192
    · have yb183 : (n : Int) = (61 : Int) := (zI_eq (a := n) (b := 61) (by omega) (by omega) (by omega) (by omega)).mp b183
      refine lv_bipush (v := 16) hx hb dX7_markOperator_186 (by decide) ?_
      refine lv_goto (tgt := 192) hx hb dX7_markOperator_188 (by decide) ?_
      subst hQ
      refine W.widen (k := 0) (n := 0) (Nat.le_of_ble_eq_true rfl) (Nat.le_of_ble_eq_true rfl) ?_
      exact W.iret (v := 16) hx hb hr (fun t ht hW => ⟨⟨16, (), rfl, ⟨16, rfl, (by omega)⟩, by rw [ht]; exact hP, va_K.moved hW.alike hK, hD⟩, hS.F ht⟩) hS.2.2 dX7_markOperator_192
  by_cases s1_1 : o = 37
  · refine lv_lookup (off := 116) (tgt := 117) hx hb dX7_markOperator_1 (by decide) (by rw [s1_1]; decide) (by decide) ?_
    refine lv_bipush (v := 7) hx hb dX7_markOperator_117 (by decide) ?_
    subst hQ
    refine W.widen (k := 0) (n := 0) (Nat.le_of_ble_eq_true rfl) (Nat.le_of_ble_eq_true rfl) ?_
    exact W.iret (v := 7) hx hb hr (fun t ht hW => ⟨⟨7, (), rfl, ⟨7, rfl, (by omega)⟩, by rw [ht]; exact hP, va_K.moved hW.alike hK, hD⟩, hS.F ht⟩) hS.2.2 dX7_markOperator_119
  by_cases s1_2 : o = 38
  · refine lv_lookup (off := 119) (tgt := 120) hx hb dX7_markOperator_1 (by decide) (by rw [s1_2]; decide) (by decide) ?_
    refine lv_bipush (v := 8) hx hb dX7_markOperator_120 (by decide) ?_
    subst hQ
    refine W.widen (k := 0) (n := 0) (Nat.le_of_ble_eq_true rfl) (Nat.le_of_ble_eq_true rfl) ?_
    exact W.iret (v := 8) hx hb hr (fun t ht hW => ⟨⟨8, (), rfl, ⟨8, rfl, (by omega)⟩, by rw [ht]; exact hP, va_K.moved hW.alike hK, hD⟩, hS.F ht⟩) hS.2.2 dX7_markOperator_122
  by_cases s1_3 : o = 42
  · refine lv_lookup (off := 111) (tgt := 112) hx hb dX7_markOperator_1 (by decide) (by rw [s1_3]; decide) (by decide) ?_
    refine lv_iconst (v := 5) hx hb dX7_markOperator_112 (by decide) ?_
    subst hQ
    refine W.widen (k := 0) (n := 0) (Nat.le_of_ble_eq_true rfl) (Nat.le_of_ble_eq_true rfl) ?_
    exact W.iret (v := 5) hx hb hr (fun t ht hW => ⟨⟨5, (), rfl, ⟨5, rfl, (by omega)⟩, by rw [ht]; exact hP, va_K.moved hW.alike hK, hD⟩, hS.F ht⟩) hS.2.2 dX7_markOperator_113
  by_cases s1_4 : o = 43
  · refine lv_lookup (off := 107) (tgt := 108) hx hb dX7_markOperator_1 (by decide) (by rw [s1_4]; decide) (by decide) ?_
    refine lv_iconst (v := 3) hx hb dX7_markOperator_108 (by decide) ?_
    subst hQ
    refine W.widen (k := 0) (n := 0) (Nat.le_of_ble_eq_true rfl) (Nat.le_of_ble_eq_true rfl) ?_
    exact W.iret (v := 3) hx hb hr (fun t ht hW => ⟨⟨3, (), rfl, ⟨3, rfl, (by omega)⟩, by rw [ht]; exact hP, va_K.moved hW.alike hK, hD⟩, hS.F ht⟩) hS.2.2 dX7_markOperator_109
  by_cases s1_5 : o = 45
  · refine lv_lookup (off := 109) (tgt := 110) hx hb dX7_markOperator_1 (by decide) (by rw [s1_5]; decide) (by decide) ?_
    refine lv_iconst (v := 4) hx hb dX7_markOperator_110 (by decide) ?_
    subst hQ
    refine W.widen (k := 0) (n := 0) (Nat.le_of_ble_eq_true rfl) (Nat.le_of_ble_eq_true rfl) ?_
    exact W.iret (v := 4) hx hb hr (fun t ht hW => ⟨⟨4, (), rfl, ⟨4, rfl, (by omega)⟩, by rw [ht]; exact hP, va_K.moved hW.alike hK, hD⟩, hS.F ht⟩) hS.2.2 dX7_markOperator_111
  by_cases s1_6 : o = 47
  · refine lv_lookup (off := 113) (tgt := 114) hx hb dX7_markOperator_1 (by decide) (by rw [s1_6]; decide) (by decide) ?_
    refine lv_bipush (v := 6) hx hb dX7_markOperator_114 (by decide) ?_
    subst hQ
    refine W.widen (k := 0) (n := 0) (Nat.le_of_ble_eq_true rfl) (Nat.le_of_ble_eq_true rfl) ?_
    exact W.iret (v := 6) hx hb hr (fun t ht hW => ⟨⟨6, (), rfl, ⟨6, rfl, (by omega)⟩, by rw [ht]; exact hP, va_K.moved hW.alike hK, hD⟩, hS.F ht⟩) hS.2.2 dX7_markOperator_116
  by_cases s1_7 : o = 60
  · refine lv_lookup (off := 128) (tgt := 129) hx hb dX7_markOperator_1 (by decide) (by rw [s1_7]; decide) (by decide) ?_
    refine lv_iload_n hx hb dX7_markOperator_129 rfl (lv_at hl 1 rfl) ?_
    refine lv_bipush (v := 60) hx hb dX7_markOperator_130 (by decide) ?_
    refine lv_icmp_ne (tgt := 140) hx hb dX7_markOperator_132 (by decide) (fun b132 => ?_) (fun b132 => ?_)
    · have yb132 : ¬ (n : Int) = (60 : Int) := fun q => b132 ((zI_eq (a := n) (b := 60) (by omega) (by omega) (by omega) (by omega)).mpr q)
      refine lv_iload_n hx hb dX7_markOperator_140 rfl (lv_at hl 1 rfl) ?_
      refine lv_bipush (v := 61) hx hb dX7_markOperator_141 (by decide) ?_
      refine lv_icmp_ne (tgt := 151) hx hb dX7_markOperator_143 (by decide) (fun b143 => ?_) (fun b143 => ?_)
      · have yb143 : ¬ (n : Int) = (61 : Int) := fun q => b143 ((zI_eq (a := n) (b := 61) (by omega) (by omega) (by omega) (by omega)).mpr q)
        refine lv_bipush (v := 13) hx hb dX7_markOperator_151 (by decide) ?_
        subst hQ
        refine W.widen (k := 0) (n := 0) (Nat.le_of_ble_eq_true rfl) (Nat.le_of_ble_eq_true rfl) ?_
        exact W.iret (v := 13) hx hb hr (fun t ht hW => ⟨⟨13, (), rfl, ⟨13, rfl, (by omega)⟩, by rw [ht]; exact hP, va_K.moved hW.alike hK, hD⟩, hS.F ht⟩) hS.2.2 dX7_markOperator_153
      · have yb143 : (n : Int) = (61 : Int) := (zI_eq (a := n) (b := 61) (by omega) (by omega) (by omega) (by omega)).mp b143
        refine lv_bipush (v := 14) hx hb dX7_markOperator_146 (by decide) ?_
        refine lv_goto (tgt := 153) hx hb dX7_markOperator_148 (by decide) ?_
        subst hQ
        refine W.widen (k := 0) (n := 0) (Nat.le_of_ble_eq_true rfl) (Nat.le_of_ble_eq_true rfl) ?_
        exact W.iret (v := 14) hx hb hr (fun t ht hW => ⟨⟨14, (), rfl, ⟨14, rfl, (by omega)⟩, by rw [ht]; exact hP, va_K.moved hW.alike hK, hD⟩, hS.F ht⟩) hS.2.2 dX7_markOperator_153
    · have yb132 : (n : Int) = (60 : Int) := (zI_eq (a := n) (b := 60) (by omega) (by omega) (by omega) (by omega)).mp b132
      refine lv_bipush (v := 11) hx hb dX7_markOperator_135 (by decide) ?_
      refine lv_goto (tgt := 153) hx hb dX7_markOperator_137 (by decide) ?_
      subst hQ
      refine W.widen (k := 0) (n := 0) (Nat.le_of_ble_eq_true rfl) (Nat.le_of_ble_eq_true rfl) ?_
      exact W.iret (v := 11) hx hb hr (fun t ht hW => ⟨⟨11, (), rfl, ⟨11, rfl, (by omega)⟩, by rw [ht]; exact hP, va_K.moved hW.alike hK, hD⟩, hS.F ht⟩) hS.2.2 dX7_markOperator_153
  by_cases s1_8 : o = 61
  · refine lv_lookup (off := 166) (tgt := 167) hx hb dX7_markOperator_1 (by decide) (by rw [s1_8]; decide) (by decide) ?_
    refine lv_iload_n hx hb dX7_markOperator_167 rfl (lv_at hl 1 rfl) ?_
    refine lv_bipush (v := 61) hx hb dX7_markOperator_168 (by decide) ?_
    refine lv_icmp_ne (tgt := 178) hx hb dX7_markOperator_170 (by decide) (fun b170 => ?_) (fun b170 => ?_)
    · have yb170 : ¬ (n : Int) = (61 : Int) := fun q => b170 ((zI_eq (a := n) (b := 61) (by omega) (by omega) (by omega) (by omega)).mpr q)
      refine lv_iconst (v := (-1)) hx hb dX7_markOperator_178 (by decide) ?_
      subst hQ
      refine W.widen (k := 0) (n := 0) (Nat.le_of_ble_eq_true rfl) (Nat.le_of_ble_eq_true rfl) ?_
      exact W.iret (v := (-1)) hx hb hr (fun t ht hW => ⟨⟨(-1), (), rfl, ⟨-1, rfl, (by omega)⟩, by rw [ht]; exact hP, va_K.moved hW.alike hK, hD⟩, hS.F ht⟩) hS.2.2 dX7_markOperator_179
    · have yb170 : (n : Int) = (61 : Int) := (zI_eq (a := n) (b := 61) (by omega) (by omega) (by omega) (by omega)).mp b170
      refine lv_bipush (v := 15) hx hb dX7_markOperator_173 (by decide) ?_
      refine lv_goto (tgt := 179) hx hb dX7_markOperator_175 (by decide) ?_
      subst hQ
      refine W.widen (k := 0) (n := 0) (Nat.le_of_ble_eq_true rfl) (Nat.le_of_ble_eq_true rfl) ?_
      exact W.iret (v := 15) hx hb hr (fun t ht hW => ⟨⟨15, (), rfl, ⟨15, rfl, (by omega)⟩, by rw [ht]; exact hP, va_K.moved hW.alike hK, hD⟩, hS.F ht⟩) hS.2.2 dX7_markOperator_179
  by_cases s1_9 : o = 62
  · refine lv_lookup (off := 153) (tgt := 154) hx hb dX7_markOperator_1 (by decide) (by rw [s1_9]; decide) (by decide) ?_
    refine lv_iload_n hx hb dX7_markOperator_154 rfl (lv_at hl 1 rfl) ?_
    refine lv_bipush (v := 62) hx hb dX7_markOperator_155 (by decide) ?_
    refine lv_icmp_ne (tgt := 165) hx hb dX7_markOperator_157 (by decide) (fun b157 => ?_) (fun b157 => ?_)
    · have yb157 : ¬ (n : Int) = (62 : Int) := fun q => b157 ((zI_eq (a := n) (b := 62) (by omega) (by omega) (by omega) (by omega)).mpr q)
      refine lv_iconst (v := (-1)) hx hb dX7_markOperator_165 (by decide) ?_
      subst hQ
      refine W.widen (k := 0) (n := 0) (Nat.le_of_ble_eq_true rfl) (Nat.le_of_ble_eq_true rfl) ?_
      exact W.iret (v := (-1)) hx hb hr (fun t ht hW => ⟨⟨(-1), (), rfl, ⟨-1, rfl, (by omega)⟩, by rw [ht]; exact hP, va_K.moved hW.alike hK, hD⟩, hS.F ht⟩) hS.2.2 dX7_markOperator_166
    · have yb157 : (n : Int) = (62 : Int) := (zI_eq (a := n) (b := 62) (by omega) (by omega) (by omega) (by omega)).mp b157
      refine lv_bipush (v := 12) hx hb dX7_markOperator_160 (by decide) ?_
      refine lv_goto (tgt := 166) hx hb dX7_markOperator_162 (by decide) ?_
      subst hQ
      refine W.widen (k := 0) (n := 0) (Nat.le_of_ble_eq_true rfl) (Nat.le_of_ble_eq_true rfl) ?_
      exact W.iret (v := 12) hx hb hr (fun t ht hW => ⟨⟨12, (), rfl, ⟨12, rfl, (by omega)⟩, by rw [ht]; exact hP, va_K.moved hW.alike hK, hD⟩, hS.F ht⟩) hS.2.2 dX7_markOperator_166
  by_cases s1_10 : o = 94
  · refine lv_lookup (off := 125) (tgt := 126) hx hb dX7_markOperator_1 (by decide) (by rw [s1_10]; decide) (by decide) ?_
    refine lv_bipush (v := 10) hx hb dX7_markOperator_126 (by decide) ?_
    subst hQ
    refine W.widen (k := 0) (n := 0) (Nat.le_of_ble_eq_true rfl) (Nat.le_of_ble_eq_true rfl) ?_
    exact W.iret (v := 10) hx hb hr (fun t ht hW => ⟨⟨10, (), rfl, ⟨10, rfl, (by omega)⟩, by rw [ht]; exact hP, va_K.moved hW.alike hK, hD⟩, hS.F ht⟩) hS.2.2 dX7_markOperator_128
  by_cases s1_11 : o = 124
  · refine lv_lookup (off := 122) (tgt := 123) hx hb dX7_markOperator_1 (by decide) (by rw [s1_11]; decide) (by decide) ?_
    refine lv_bipush (v := 9) hx hb dX7_markOperator_123 (by decide) ?_
    subst hQ
    refine W.widen (k := 0) (n := 0) (Nat.le_of_ble_eq_true rfl) (Nat.le_of_ble_eq_true rfl) ?_
    exact W.iret (v := 9) hx hb hr (fun t ht hW => ⟨⟨9, (), rfl, ⟨9, rfl, (by omega)⟩, by rw [ht]; exact hP, va_K.moved hW.alike hK, hD⟩, hS.F ht⟩) hS.2.2 dX7_markOperator_125
  refine lv_lookup (off := 192) (tgt := 193) hx hb dX7_markOperator_1 (by decide) (by rw [zI_toInt (by omega) (by omega)]; simp [Op.lookupswitch.offset, List.find?, show ¬ (33 : Int) = o from fun q => s1_0 q.symm, show ¬ (37 : Int) = o from fun q => s1_1 q.symm, show ¬ (38 : Int) = o from fun q => s1_2 q.symm, show ¬ (42 : Int) = o from fun q => s1_3 q.symm, show ¬ (43 : Int) = o from fun q => s1_4 q.symm, show ¬ (45 : Int) = o from fun q => s1_5 q.symm, show ¬ (47 : Int) = o from fun q => s1_6 q.symm, show ¬ (60 : Int) = o from fun q => s1_7 q.symm, show ¬ (61 : Int) = o from fun q => s1_8 q.symm, show ¬ (62 : Int) = o from fun q => s1_9 q.symm, show ¬ (94 : Int) = o from fun q => s1_10 q.symm, show ¬ (124 : Int) = o from fun q => s1_11 q.symm]) (by decide) ?_
  refine lv_iconst (v := (-1)) hx hb dX7_markOperator_193 (by decide) ?_
  subst hQ
  refine W.widen (k := 0) (n := 0) (Nat.le_of_ble_eq_true rfl) (Nat.le_of_ble_eq_true rfl) ?_
  exact W.iret (v := (-1)) hx hb hr (fun t ht hW => ⟨⟨(-1), (), rfl, ⟨-1, rfl, (by omega)⟩, by rw [ht]; exact hP, va_K.moved hW.alike hK, hD⟩, hS.F ht⟩) hS.2.2 dX7_markOperator_194
theorem dX7_scanMark_0 : decode cX7_scanMark 0 = .ok (.aload_n 0, 1) := by decide +kernel
theorem dX7_scanMark_1 : decode cX7_scanMark 1 = .ok (.aload_n 0, 1) := by decide +kernel
theorem dX7_scanMark_2 : decode cX7_scanMark 2 = .ok (.getfield 22, 3) := by decide +kernel
theorem dX7_scanMark_5 : decode cX7_scanMark 5 = .ok (.invokevirtual 93, 3) := by decide +kernel
theorem dX7_scanMark_8 : decode cX7_scanMark 8 = .ok (.istore_n 1, 1) := by decide +kernel
theorem dX7_scanMark_9 : decode cX7_scanMark 9 = .ok (.aload_n 0, 1) := by decide +kernel
theorem dX7_scanMark_10 : decode cX7_scanMark 10 = .ok (.aload_n 0, 1) := by decide +kernel
theorem dX7_scanMark_11 : decode cX7_scanMark 11 = .ok (.getfield 22, 3) := by decide +kernel
theorem dX7_scanMark_14 : decode cX7_scanMark 14 = .ok (.iconst 1, 1) := by decide +kernel
theorem dX7_scanMark_15 : decode cX7_scanMark 15 = .ok (.iadd, 1) := by decide +kernel
theorem dX7_scanMark_16 : decode cX7_scanMark 16 = .ok (.invokevirtual 93, 3) := by decide +kernel
theorem dX7_scanMark_19 : decode cX7_scanMark 19 = .ok (.istore_n 2, 1) := by decide +kernel
theorem dX7_scanMark_20 : decode cX7_scanMark 20 = .ok (.iload_n 1, 1) := by decide +kernel
theorem dX7_scanMark_21 : decode cX7_scanMark 21 = .ok (.iload_n 2, 1) := by decide +kernel
theorem dX7_scanMark_22 : decode cX7_scanMark 22 = .ok (.invokestatic 162, 3) := by decide +kernel
theorem dX7_scanMark_25 : decode cX7_scanMark 25 = .ok (.istore_n 3, 1) := by decide +kernel
theorem dX7_scanMark_26 : decode cX7_scanMark 26 = .ok (.aload_n 0, 1) := by decide +kernel
theorem dX7_scanMark_27 : decode cX7_scanMark 27 = .ok (.dup, 1) := by decide +kernel
theorem dX7_scanMark_28 : decode cX7_scanMark 28 = .ok (.getfield 22, 3) := by decide +kernel
theorem dX7_scanMark_31 : decode cX7_scanMark 31 = .ok (.iconst 1, 1) := by decide +kernel
theorem dX7_scanMark_32 : decode cX7_scanMark 32 = .ok (.iadd, 1) := by decide +kernel
theorem dX7_scanMark_33 : decode cX7_scanMark 33 = .ok (.putfield 22, 3) := by decide +kernel
theorem dX7_scanMark_36 : decode cX7_scanMark 36 = .ok (.iload_n 3, 1) := by decide +kernel
theorem dX7_scanMark_37 : decode cX7_scanMark 37 = .ok (.iconst (-1), 1) := by decide +kernel
theorem dX7_scanMark_38 : decode cX7_scanMark 38 = .ok (.if_icmp .eq 39, 3) := by decide +kernel
theorem dX7_scanMark_77 : decode cX7_scanMark 77 = .ok (.iload_n 1, 1) := by decide +kernel
theorem dX7_scanMark_78 : decode cX7_scanMark 78 = .ok (.bipush 58, 2) := by decide +kernel
theorem dX7_scanMark_80 : decode cX7_scanMark 80 = .ok (.if_icmp .ne 12, 3) := by decide +kernel
theorem dX7_scanMark_92 : decode cX7_scanMark 92 = .ok (.iload_n 1, 1) := by decide +kernel
theorem dX7_scanMark_93 : decode cX7_scanMark 93 = .ok (.bipush 61, 2) := by decide +kernel
theorem dX7_scanMark_95 : decode cX7_scanMark 95 = .ok (.if_icmp .ne 12, 3) := by decide +kernel
theorem dX7_scanMark_107 : decode cX7_scanMark 107 = .ok (.aload_n 0, 1) := by decide +kernel
theorem dX7_scanMark_108 : decode cX7_scanMark 108 = .ok (.iload_n 1, 1) := by decide +kernel
theorem dX7_scanMark_109 : decode cX7_scanMark 109 = .ok (.bipush 40, 2) := by decide +kernel
theorem dX7_scanMark_111 : decode cX7_scanMark 111 = .ok (.if_icmp .eq 15, 3) := by decide +kernel
theorem dX7_scanMark_126 : decode cX7_scanMark 126 = .ok (.bipush 13, 2) := by decide +kernel
theorem dX7_scanMark_128 : decode cX7_scanMark 128 = .ok (.goto 4, 3) := by decide +kernel
theorem dX7_scanMark_132 : decode cX7_scanMark 132 = .ok (.putfield 25, 3) := by decide +kernel
theorem dX7_scanMark_135 : decode cX7_scanMark 135 = .ok (.return_, 1) := by decide +kernel
theorem dX7_scanMark_114 : decode cX7_scanMark 114 = .ok (.iload_n 1, 1) := by decide +kernel
theorem dX7_scanMark_115 : decode cX7_scanMark 115 = .ok (.bipush 41, 2) := by decide +kernel
theorem dX7_scanMark_117 : decode cX7_scanMark 117 = .ok (.if_icmp .eq 9, 3) := by decide +kernel
theorem dX7_scanMark_120 : decode cX7_scanMark 120 = .ok (.iload_n 1, 1) := by decide +kernel
theorem dX7_scanMark_121 : decode cX7_scanMark 121 = .ok (.bipush 44, 2) := by decide +kernel
theorem dX7_scanMark_123 : decode cX7_scanMark 123 = .ok (.if_icmp .ne 8, 3) := by decide +kernel
theorem dX7_scanMark_131 : decode cX7_scanMark 131 = .ok (.iconst 0, 1) := by decide +kernel
theorem dX7_scanMark_98 : decode cX7_scanMark 98 = .ok (.aload_n 0, 1) := by decide +kernel
theorem dX7_scanMark_99 : decode cX7_scanMark 99 = .ok (.bipush 11, 2) := by decide +kernel
theorem dX7_scanMark_101 : decode cX7_scanMark 101 = .ok (.putfield 25, 3) := by decide +kernel
theorem dX7_scanMark_104 : decode cX7_scanMark 104 = .ok (.goto 31, 3) := by decide +kernel
theorem dX7_scanMark_83 : decode cX7_scanMark 83 = .ok (.aload_n 0, 1) := by decide +kernel
theorem dX7_scanMark_84 : decode cX7_scanMark 84 = .ok (.bipush 10, 2) := by decide +kernel
theorem dX7_scanMark_86 : decode cX7_scanMark 86 = .ok (.putfield 25, 3) := by decide +kernel
theorem dX7_scanMark_89 : decode cX7_scanMark 89 = .ok (.goto 46, 3) := by decide +kernel
theorem dX7_scanMark_41 : decode cX7_scanMark 41 = .ok (.aload_n 0, 1) := by decide +kernel
theorem dX7_scanMark_42 : decode cX7_scanMark 42 = .ok (.bipush 12, 2) := by decide +kernel
theorem dX7_scanMark_44 : decode cX7_scanMark 44 = .ok (.putfield 25, 3) := by decide +kernel
theorem dX7_scanMark_47 : decode cX7_scanMark 47 = .ok (.aload_n 0, 1) := by decide +kernel
theorem dX7_scanMark_48 : decode cX7_scanMark 48 = .ok (.iload_n 3, 1) := by decide +kernel
theorem dX7_scanMark_49 : decode cX7_scanMark 49 = .ok (.putfield 31, 3) := by decide +kernel
theorem dX7_scanMark_52 : decode cX7_scanMark 52 = .ok (.iload_n 3, 1) := by decide +kernel
theorem dX7_scanMark_53 : decode cX7_scanMark 53 = .ok (.bipush 11, 2) := by decide +kernel
theorem dX7_scanMark_55 : decode cX7_scanMark 55 = .ok (.if_icmp .lt 80, 3) := by decide +kernel
theorem dX7_scanMark_58 : decode cX7_scanMark 58 = .ok (.iload_n 3, 1) := by decide +kernel
theorem dX7_scanMark_59 : decode cX7_scanMark 59 = .ok (.bipush 13, 2) := by decide +kernel
theorem dX7_scanMark_61 : decode cX7_scanMark 61 = .ok (.if_icmp .eq 74, 3) := by decide +kernel
theorem dX7_scanMark_64 : decode cX7_scanMark 64 = .ok (.aload_n 0, 1) := by decide +kernel
theorem dX7_scanMark_65 : decode cX7_scanMark 65 = .ok (.dup, 1) := by decide +kernel
theorem dX7_scanMark_66 : decode cX7_scanMark 66 = .ok (.getfield 22, 3) := by decide +kernel
theorem dX7_scanMark_69 : decode cX7_scanMark 69 = .ok (.iconst 1, 1) := by decide +kernel
theorem dX7_scanMark_70 : decode cX7_scanMark 70 = .ok (.iadd, 1) := by decide +kernel
theorem dX7_scanMark_71 : decode cX7_scanMark 71 = .ok (.putfield 22, 3) := by decide +kernel
theorem dX7_scanMark_74 : decode cX7_scanMark 74 = .ok (.goto 61, 3) := by decide +kernel
def o_X7_scanMark : List Cond := [.fieldLink RX7 22 "SsaForge$Reader" "at" "I", .methodLink RX7 93 yX7_byteAt, .instanceMethod yX7_byteAt, .selects RX7 yX7_byteAt yX7_byteAt, .initialized RX7, .methodLink RX7 162 yX7_markOperator, .static yX7_markOperator, .fieldLink RX7 25 "SsaForge$Reader" "kind" "I", .fieldLink RX7 31 "SsaForge$Reader" "value" "I"]
def v_X7_scanMark : List Cond := .code yX7_scanMark cX7_scanMark 4 none :: (o_X7_scanMark ++ (wsX70 ++ (v_X7_byteAt ++ (v_X7_markOperator ++ []))))
theorem mow_X7_scanMark : ∀ w ∈ o_X7_scanMark, w ∈ v_X7_scanMark := fun _ h => List.mem_cons_of_mem _ (List.mem_append_left _ h)
theorem mem_X7_scanMark_0 : ∀ w ∈ wsX70, w ∈ v_X7_scanMark := fun _ h => List.mem_cons_of_mem _ (List.mem_append_right _ (List.mem_append_left _ h))
theorem mem_X7_scanMark_1 : ∀ w ∈ v_X7_byteAt, w ∈ v_X7_scanMark := fun _ h => List.mem_cons_of_mem _ (List.mem_append_right _ (List.mem_append_right _ (List.mem_append_left _ h)))
theorem mem_X7_scanMark_2 : ∀ w ∈ v_X7_markOperator, w ∈ v_X7_scanMark := fun _ h => List.mem_cons_of_mem _ (List.mem_append_right _ (List.mem_append_right _ (List.mem_append_right _ (List.mem_append_left _ h))))
set_option maxRecDepth 20000 in
theorem gw_X7_scanMark : v_X7_scanMark.all goodWord = true := by decide +kernel
set_option maxRecDepth 20000 in
theorem g_X7_scanMark_X7_byteAt : GoodIn v_X7_scanMark (wsV RX7 93 RX7 yX7_byteAt v_X7_byteAt) := goodIn_app (goodIn_sub (fun w h => mow_X7_scanMark w (by revert w h; decide +kernel)) (by decide +kernel)) (goodIn_sub mem_X7_scanMark_1 gw_X7_byteAt)
set_option maxRecDepth 20000 in
theorem g_X7_scanMark_X7_markOperator : GoodIn v_X7_scanMark (wsS RX7 162 yX7_markOperator v_X7_markOperator) := goodIn_app (goodIn_sub (fun w h => mow_X7_scanMark w (by revert w h; decide +kernel)) (by decide +kernel)) (goodIn_sub mem_X7_scanMark_2 gw_X7_markOperator)
set_option maxHeartbeats 4000000 in
set_option maxRecDepth 100000 in
theorem c_X7_scanMark (l : Launch) (dC : Nat → ClassId) (dI : Nat → Nat → Nat) (h0 : Nat) (v12_0 : Value) (z12_length : Int) (z12_at : Int) (z12_kind : Int) (v12_5 : Value) (z12_value : Int) (v12_7 : Value) (v12_8 : Value) (v12_9 : Value) (v12_10 : Value) (v12_11 : Value) (v12_12 : Value) (v12_13 : Value) (v12_14 : Value) (v12_15 : Value) (v12_16 : Value) (v12_17 : Value) (q_1201 : Nat) (cA_1201 : ClassId) (fa12_bytes : Nat → Int32) (hNz12_length : 0 ≤ z12_length ∧ z12_length ≤ 8192) (hNz12_at : 0 ≤ z12_at ∧ z12_at ≤ 8200) (hNz12_kind : 0 ≤ z12_kind ∧ z12_kind ≤ 13) (hNz12_value : -2147483648 ≤ z12_value ∧ z12_value ≤ 2147483647) (hNat : z12_at < z12_length) (sz : Nat) : Met l yX7_scanMark v_X7_scanMark ({ frames := 1, cells := 0, slots := 0, locals := 21 }) (va_Pc [.ref h0] (fun U => U.heap.size = sz ∧ va_P (dC, dI) vwP [(h0, .inr (7, [v12_0, .ref q_1201, .int (zI (z12_length)), .int (zI (z12_at)), .int (zI (z12_kind)), v12_5, .int (zI (z12_value)), v12_7, v12_8, v12_9, v12_10, v12_11, v12_12, v12_13, v12_14, v12_15, v12_16, v12_17])), (q_1201, .inl (cA_1201, 8192, .inl fa12_bytes))] U.heap ∧ va_K (dC, dI) vwP [(cA_1201, .byte)] U ∧ va_D (fun _ => True) [(h0, .inr (7, [v12_0, .ref q_1201, .int (zI (z12_length)), .int (zI (z12_at)), .int (zI (z12_kind)), v12_5, .int (zI (z12_value)), v12_7, v12_8, v12_9, v12_10, v12_11, v12_12, v12_13, v12_14, v12_15, v12_16, v12_17])), (q_1201, .inl (cA_1201, 8192, .inl fa12_bytes))])) (va_Qv (fun _ : Unit => True) (fun (_ : Unit) (t : State) => ∃ (z0_9 : Int) (z1_9 : Int) (z2_9 : Int), ((0 ≤ z0_9 ∧ z0_9 ≤ 8200) ∧ (0 ≤ z1_9 ∧ z1_9 ≤ 13) ∧ (-2147483648 ≤ z2_9 ∧ z2_9 ≤ 2147483647) ∧ (RKV z1_9 z2_9 ∧ z0_9 ≤ 8194)) ∧ va_P (dC, dI) vwP [(h0, .inr (7, [v12_0, .ref q_1201, .int (zI (z12_length)), .int (zI (z0_9)), .int (zI (z1_9)), v12_5, .int (zI (z2_9)), v12_7, v12_8, v12_9, v12_10, v12_11, v12_12, v12_13, v12_14, v12_15, v12_16, v12_17])), (q_1201, .inl (cA_1201, 8192, .inl fa12_bytes))] t.heap ∧ va_K (dC, dI) vwP [(cA_1201, .byte)] t ∧ va_D (va_A [(h0, .inr (7, [v12_0, .ref q_1201, .int (zI (z12_length)), .int (zI (z12_at)), .int (zI (z12_kind)), v12_5, .int (zI (z12_value)), v12_7, v12_8, v12_9, v12_10, v12_11, v12_12, v12_13, v12_14, v12_15, v12_16, v12_17])), (q_1201, .inl (cA_1201, 8192, .inl fa12_bytes))] sz) [(h0, .inr (7, [v12_0, .ref q_1201, .int (zI (z12_length)), .int (zI (z0_9)), .int (zI (z1_9)), v12_5, .int (zI (z2_9)), v12_7, v12_8, v12_9, v12_10, v12_11, v12_12, v12_13, v12_14, v12_15, v12_16, v12_17])), (q_1201, .inl (cA_1201, 8192, .inl fa12_bytes))]) (va_A [(h0, .inr (7, [v12_0, .ref q_1201, .int (zI (z12_length)), .int (zI (z12_at)), .int (zI (z12_kind)), v12_5, .int (zI (z12_value)), v12_7, v12_8, v12_9, v12_10, v12_11, v12_12, v12_13, v12_14, v12_15, v12_16, v12_17])), (q_1201, .inl (cA_1201, 8192, .inl fa12_bytes))] sz)) 0 0 (va_A [(h0, .inr (7, [v12_0, .ref q_1201, .int (zI (z12_length)), .int (zI (z12_at)), .int (zI (z12_kind)), v12_5, .int (zI (z12_value)), v12_7, v12_8, v12_9, v12_10, v12_11, v12_12, v12_13, v12_14, v12_15, v12_16, v12_17])), (q_1201, .inl (cA_1201, 8192, .inl fa12_bytes))] sz) := by
  refine Met.ofW (cc := cX7_scanMark) (maxL := 4) (ret := none) (by decide) rfl ?_
  intro p e s m args below meth c s₁ B hml hv
  obtain ⟨rfl, hsz, hP, hK, hD0⟩ := hv
  have hx := B.exec
  have hb := B.bytes
  have hr := B.returns
  have hts := atoms_spec (ws := v_X7_scanMark) B.pre
  have hown : s.vm.findClass RX7 = some m.cls := findClass_of_methodNamed B.named
  have hlocks := B.notSynchronized
  have ow : ∀ {k : Nat} {w : Cond}, o_X7_scanMark[k]? = some w → w.before ([.ref h0] : List Value).toArray s = true := fun h => hts _ (mow_X7_scanMark _ (List.mem_of_getElem? h))
  subst hsz
  have hD := hD0.self (sz := s.heap.size)
  generalize hAe : va_A [(h0, .inr (7, [v12_0, .ref q_1201, .int (zI (z12_length)), .int (zI (z12_at)), .int (zI (z12_kind)), v12_5, .int (zI (z12_value)), v12_7, v12_8, v12_9, v12_10, v12_11, v12_12, v12_13, v12_14, v12_15, v12_16, v12_17])), (q_1201, .inl (cA_1201, 8192, .inl fa12_bytes))] s.heap.size = A at hD ⊢
  have hA : ∀ q : Nat, s.heap.size ≤ q → A q := fun q h => by rw [← hAe]; exact Or.inr h
  have hS : va_S A s.heap s.heap [] := va_S.rf
  have hP : va_P (dC, dI) vwP [(h0, .inr (7, [v12_0, .ref q_1201, .int (zI (z12_length)), .int (zI (z12_at)), .int (zI (z12_kind)), v12_5, .int (zI (z12_value)), v12_7, v12_8, v12_9, v12_10, v12_11, v12_12, v12_13, v12_14, v12_15, v12_16, v12_17])), (q_1201, .inl (cA_1201, 8192, .inl fa12_bytes))] s.heap := hP
  have hl := lv_entry ([.ref h0]) (n := 4) (Nat.le_of_ble_eq_true rfl)
  rw [lg_entry_eq]
  generalize (lg_sl ([.ref h0]) ++ List.replicate (4 - (lg_sl ([.ref h0])).length) Slot.unset).toArray = ls at hl ⊢
  have hl : lv_has ls 4 [(0, .ref h0)] := hl
  obtain ⟨H, hH⟩ : ∃ H, H = s.heap := ⟨_, rfl⟩
  rw [← hH] at hP
  have hS : va_S A s.heap H [] := by rw [hH]; exact hS
  rw [← hH]
  refine zW_cap (fun Q hQ => ?_)
  refine lv_aload_n hx hb dX7_scanMark_0 rfl (lv_at hl 0 rfl) ?_
  refine lv_aload_n hx hb dX7_scanMark_1 rfl (lv_at hl 0 rfl) ?_
  refine va_get (D := (dC, dI)) (ci := 7) (v := .int (zI (z12_at))) (C := RX7) (T := TX7) (N := 18) hx hb hts mem_X7_scanMark_0 hown hK hP 0 rfl rfl 3 (by decide) (ow (k := 0) rfl) (fun _ h9 => h9) rfl dX7_scanMark_2 ?_
  have hPc := hP.sub (ws' := [(h0, .inr (7, [v12_0, .ref q_1201, .int (zI (z12_length)), .int (zI (z12_at)), .int (zI (z12_kind)), v12_5, .int (zI (z12_value)), v12_7, v12_8, v12_9, v12_10, v12_11, v12_12, v12_13, v12_14, v12_15, v12_16, v12_17])), (q_1201, .inl (cA_1201, 8192, .inl fa12_bytes))]) [0, 1] rfl
  have hDc := hD.sub (ws' := [(h0, .inr (7, [v12_0, .ref q_1201, .int (zI (z12_length)), .int (zI (z12_at)), .int (zI (z12_kind)), v12_5, .int (zI (z12_value)), v12_7, v12_8, v12_9, v12_10, v12_11, v12_12, v12_13, v12_14, v12_15, v12_16, v12_17])), (q_1201, .inl (cA_1201, 8192, .inl fa12_bytes))]) [0, 1] (by decide) rfl
  have hKc := hK.sub (tys' := [(cA_1201, .byte)]) [0] rfl
  have hFc := va_free (wc := [(h0, .inr (7, [v12_0, .ref q_1201, .int (zI (z12_length)), .int (zI (z12_at)), .int (zI (z12_kind)), v12_5, .int (zI (z12_value)), v12_7, v12_8, v12_9, v12_10, v12_11, v12_12, v12_13, v12_14, v12_15, v12_16, v12_17])), (q_1201, .inl (cA_1201, 8192, .inl fa12_bytes))]) hD hS hA [0, 1] rfl
  refine va_calli (va_runV (As := [.int (zI (z12_at))]) (rest := []) ⟨hx, hb, hml, hown, hts⟩ (c_X7_byteAt l dC dI h0 v12_0 z12_length (.int (zI (z12_at))) (.int (zI (z12_kind))) v12_5 (.int (zI (z12_value))) v12_7 v12_8 v12_9 v12_10 v12_11 v12_12 v12_13 v12_14 v12_15 v12_16 v12_17 q_1201 cA_1201 fa12_bytes z12_at (by omega) (by omega) H.size) (cwV 1 hts g_X7_scanMark_X7_byteAt rfl rfl rfl (by decide +kernel) ⟨(Nat.le_of_ble_eq_true rfl), (Nat.le_of_ble_eq_true rfl)⟩) ⟨fun a U g mk q => by obtain ⟨q0, q1, qP, qK, qD⟩ := q; exact ⟨q0, q1, qP, va_K.moved (u := U) (U := U.calling g mk a) (Vm.Alike.refl U.vm) qK, qD⟩, va_recv hKc hPc (ci := 7) (q0 := 0) rfl rfl, fun U hU hW => ⟨rfl, by rw [hU], by rw [hU]; exact hPc, va_K.moved hW.alike hKc, hDc.weaken (fun _ _ _ _ => trivial)⟩⟩ rfl rfl hl.1 rfl (lv_room (Nat.le_of_ble_eq_true rfl)) dX7_scanMark_5 ⟨(Nat.le_of_ble_eq_true rfl), (Nat.le_of_ble_eq_true rfl)⟩) hS (fun q _ h => hFc q h) hFc (fun r_2001 u t H1 locs ht hvm hw hB hz1 hk1 hS => ?_)
  obtain ⟨hP1, hK1, hD1⟩ := hB
  rw [ht] at hP1
  have hK1 := va_K.moved hvm.symm hK1
  obtain ⟨hP, hD⟩ := va_join (wr := []) (w1 := [(h0, .inr (7, [v12_0, .ref q_1201, .int (zI (z12_length)), .int (zI (z12_at)), .int (zI (z12_kind)), v12_5, .int (zI (z12_value)), v12_7, v12_8, v12_9, v12_10, v12_11, v12_12, v12_13, v12_14, v12_15, v12_16, v12_17])), (q_1201, .inl (cA_1201, 8192, .inl fa12_bytes))]) hP hD [0, 1] [] rfl rfl (by decide) (by decide) hk1 hFc hP1 hD1
  have hK := (hK.sub (tys' := []) [] rfl).app hK1
  generalize H1 = H at hP hS ⊢
  have hP : va_P (dC, dI) vwP [(h0, .inr (7, [v12_0, .ref q_1201, .int (zI (z12_length)), .int (zI (z12_at)), .int (zI (z12_kind)), v12_5, .int (zI (z12_value)), v12_7, v12_8, v12_9, v12_10, v12_11, v12_12, v12_13, v12_14, v12_15, v12_16, v12_17])), (q_1201, .inl (cA_1201, 8192, .inl fa12_bytes))] H := hP
  have hD : va_D A [(h0, .inr (7, [v12_0, .ref q_1201, .int (zI (z12_length)), .int (zI (z12_at)), .int (zI (z12_kind)), v12_5, .int (zI (z12_value)), v12_7, v12_8, v12_9, v12_10, v12_11, v12_12, v12_13, v12_14, v12_15, v12_16, v12_17])), (q_1201, .inl (cA_1201, 8192, .inl fa12_bytes))] := hD
  have hK : va_K (dC, dI) vwP [(cA_1201, .byte)] s := hK
  refine W.widen (k := 0) (n := 0) (Nat.le_of_ble_eq_true rfl) (Nat.le_of_ble_eq_true rfl) ?_
  obtain rfl : r_2001 = (zI (btF fa12_bytes z12_length (z12_at))) := hw
  have := btF_rng fa12_bytes z12_length (z12_at)
  refine lv_istore_n (lv' := [(1, .int (zI (btF fa12_bytes z12_length (z12_at)))), (0, .ref h0)]) hx hb dX7_scanMark_8 rfl hl (by decide) rfl (fun ls hl => ?_)
  refine lv_aload_n hx hb dX7_scanMark_9 rfl (lv_at hl 1 rfl) ?_
  refine lv_aload_n hx hb dX7_scanMark_10 rfl (lv_at hl 1 rfl) ?_
  refine va_get (D := (dC, dI)) (ci := 7) (v := .int (zI (z12_at))) (C := RX7) (T := TX7) (N := 18) hx hb hts mem_X7_scanMark_0 hown hK hP 0 rfl rfl 3 (by decide) (ow (k := 0) rfl) (fun _ h9 => h9) rfl dX7_scanMark_11 ?_
  refine lv_iconst (v := 1) hx hb dX7_scanMark_14 (by decide) ?_
  refine lv_iadd hx hb dX7_scanMark_15 ?_
  refine lv_topi (fun z ez => ?_)
  obtain rfl : z = zI (z12_at + 1) := ez.trans (zI_add (z12_at) (1))
  have hPc := hP.sub (ws' := [(h0, .inr (7, [v12_0, .ref q_1201, .int (zI (z12_length)), .int (zI (z12_at)), .int (zI (z12_kind)), v12_5, .int (zI (z12_value)), v12_7, v12_8, v12_9, v12_10, v12_11, v12_12, v12_13, v12_14, v12_15, v12_16, v12_17])), (q_1201, .inl (cA_1201, 8192, .inl fa12_bytes))]) [0, 1] rfl
  have hDc := hD.sub (ws' := [(h0, .inr (7, [v12_0, .ref q_1201, .int (zI (z12_length)), .int (zI (z12_at)), .int (zI (z12_kind)), v12_5, .int (zI (z12_value)), v12_7, v12_8, v12_9, v12_10, v12_11, v12_12, v12_13, v12_14, v12_15, v12_16, v12_17])), (q_1201, .inl (cA_1201, 8192, .inl fa12_bytes))]) [0, 1] (by decide) rfl
  have hKc := hK.sub (tys' := [(cA_1201, .byte)]) [0] rfl
  have hFc := va_free (wc := [(h0, .inr (7, [v12_0, .ref q_1201, .int (zI (z12_length)), .int (zI (z12_at)), .int (zI (z12_kind)), v12_5, .int (zI (z12_value)), v12_7, v12_8, v12_9, v12_10, v12_11, v12_12, v12_13, v12_14, v12_15, v12_16, v12_17])), (q_1201, .inl (cA_1201, 8192, .inl fa12_bytes))]) hD hS hA [0, 1] rfl
  refine va_calli (va_runV (As := [.int (zI (z12_at + 1))]) (rest := []) ⟨hx, hb, hml, hown, hts⟩ (c_X7_byteAt l dC dI h0 v12_0 z12_length (.int (zI (z12_at))) (.int (zI (z12_kind))) v12_5 (.int (zI (z12_value))) v12_7 v12_8 v12_9 v12_10 v12_11 v12_12 v12_13 v12_14 v12_15 v12_16 v12_17 q_1201 cA_1201 fa12_bytes (z12_at + 1) (by omega) (by omega) H.size) (cwV 1 hts g_X7_scanMark_X7_byteAt rfl rfl rfl (by decide +kernel) ⟨(Nat.le_of_ble_eq_true rfl), (Nat.le_of_ble_eq_true rfl)⟩) ⟨fun a U g mk q => by obtain ⟨q0, q1, qP, qK, qD⟩ := q; exact ⟨q0, q1, qP, va_K.moved (u := U) (U := U.calling g mk a) (Vm.Alike.refl U.vm) qK, qD⟩, va_recv hKc hPc (ci := 7) (q0 := 0) rfl rfl, fun U hU hW => ⟨rfl, by rw [hU], by rw [hU]; exact hPc, va_K.moved hW.alike hKc, hDc.weaken (fun _ _ _ _ => trivial)⟩⟩ rfl rfl hl.1 rfl (lv_room (Nat.le_of_ble_eq_true rfl)) dX7_scanMark_16 ⟨(Nat.le_of_ble_eq_true rfl), (Nat.le_of_ble_eq_true rfl)⟩) hS (fun q _ h => hFc q h) hFc (fun r_2002 u t H1 locs ht hvm hw hB hz1 hk1 hS => ?_)
  obtain ⟨hP1, hK1, hD1⟩ := hB
  rw [ht] at hP1
  have hK1 := va_K.moved hvm.symm hK1
  obtain ⟨hP, hD⟩ := va_join (wr := []) (w1 := [(h0, .inr (7, [v12_0, .ref q_1201, .int (zI (z12_length)), .int (zI (z12_at)), .int (zI (z12_kind)), v12_5, .int (zI (z12_value)), v12_7, v12_8, v12_9, v12_10, v12_11, v12_12, v12_13, v12_14, v12_15, v12_16, v12_17])), (q_1201, .inl (cA_1201, 8192, .inl fa12_bytes))]) hP hD [0, 1] [] rfl rfl (by decide) (by decide) hk1 hFc hP1 hD1
  have hK := (hK.sub (tys' := []) [] rfl).app hK1
  generalize H1 = H at hP hS ⊢
  have hP : va_P (dC, dI) vwP [(h0, .inr (7, [v12_0, .ref q_1201, .int (zI (z12_length)), .int (zI (z12_at)), .int (zI (z12_kind)), v12_5, .int (zI (z12_value)), v12_7, v12_8, v12_9, v12_10, v12_11, v12_12, v12_13, v12_14, v12_15, v12_16, v12_17])), (q_1201, .inl (cA_1201, 8192, .inl fa12_bytes))] H := hP
  have hD : va_D A [(h0, .inr (7, [v12_0, .ref q_1201, .int (zI (z12_length)), .int (zI (z12_at)), .int (zI (z12_kind)), v12_5, .int (zI (z12_value)), v12_7, v12_8, v12_9, v12_10, v12_11, v12_12, v12_13, v12_14, v12_15, v12_16, v12_17])), (q_1201, .inl (cA_1201, 8192, .inl fa12_bytes))] := hD
  have hK : va_K (dC, dI) vwP [(cA_1201, .byte)] s := hK
  refine W.widen (k := 0) (n := 0) (Nat.le_of_ble_eq_true rfl) (Nat.le_of_ble_eq_true rfl) ?_
  obtain rfl : r_2002 = (zI (btF fa12_bytes z12_length (z12_at + 1))) := hw
  have := btF_rng fa12_bytes z12_length (z12_at + 1)
  refine lv_istore_n (lv' := [(2, .int (zI (btF fa12_bytes z12_length (z12_at + 1)))), (1, .int (zI (btF fa12_bytes z12_length (z12_at)))), (0, .ref h0)]) hx hb dX7_scanMark_19 rfl hl (by decide) rfl (fun ls hl => ?_)
  refine lv_iload_n hx hb dX7_scanMark_20 rfl (lv_at hl 1 rfl) ?_
  refine lv_iload_n hx hb dX7_scanMark_21 rfl (lv_at hl 0 rfl) ?_
  have hPc := hP.sub (ws' := []) [] rfl
  have hDc := hD.sub (ws' := []) [] (by decide) rfl
  have hKc := hK.sub (tys' := []) [] rfl
  have hFc := va_free (wc := []) hD hS hA [] rfl
  refine va_calli (va_runS (As := [.int (zI (btF fa12_bytes z12_length (z12_at))), .int (zI (btF fa12_bytes z12_length (z12_at + 1)))]) (rest := []) ⟨hx, hb, hml, hown, hts⟩ (c_X7_markOperator l dC dI (btF fa12_bytes z12_length (z12_at)) (btF fa12_bytes z12_length (z12_at + 1)) (by omega) H.size) (cwS 2 hts g_X7_scanMark_X7_markOperator rfl rfl rfl (by decide +kernel) ⟨(Nat.le_of_ble_eq_true rfl), (Nat.le_of_ble_eq_true rfl)⟩) ⟨fun a U g mk q => by obtain ⟨q0, q1, qP, qK, qD⟩ := q; exact ⟨q0, q1, qP, va_K.moved (u := U) (U := U.calling g mk a) (Vm.Alike.refl U.vm) qK, qD⟩, fun U hU hW => ⟨rfl, by rw [hU], by rw [hU]; exact hPc, va_K.moved hW.alike hKc, hDc.weaken (fun _ _ _ _ => trivial)⟩⟩ rfl rfl hl.1 rfl (lv_room (Nat.le_of_ble_eq_true rfl)) dX7_scanMark_22 ⟨(Nat.le_of_ble_eq_true rfl), (Nat.le_of_ble_eq_true rfl)⟩) hS (fun q _ h => hFc q h) hFc (fun r_2003 u t H1 locs ht hvm hw hB hz1 hk1 hS => ?_)
  obtain ⟨hP1, hK1, hD1⟩ := hB
  rw [ht] at hP1
  have hK1 := va_K.moved hvm.symm hK1
  obtain ⟨hP, hD⟩ := va_join (wr := [(h0, .inr (7, [v12_0, .ref q_1201, .int (zI (z12_length)), .int (zI (z12_at)), .int (zI (z12_kind)), v12_5, .int (zI (z12_value)), v12_7, v12_8, v12_9, v12_10, v12_11, v12_12, v12_13, v12_14, v12_15, v12_16, v12_17])), (q_1201, .inl (cA_1201, 8192, .inl fa12_bytes))]) (w1 := []) hP hD [] [0, 1] rfl rfl (by decide) (by decide) hk1 hFc hP1 hD1
  have hK := (hK.sub (tys' := [(cA_1201, .byte)]) [0] rfl).app hK1
  generalize H1 = H at hP hS ⊢
  have hP : va_P (dC, dI) vwP [(h0, .inr (7, [v12_0, .ref q_1201, .int (zI (z12_length)), .int (zI (z12_at)), .int (zI (z12_kind)), v12_5, .int (zI (z12_value)), v12_7, v12_8, v12_9, v12_10, v12_11, v12_12, v12_13, v12_14, v12_15, v12_16, v12_17])), (q_1201, .inl (cA_1201, 8192, .inl fa12_bytes))] H := hP
  have hD : va_D A [(h0, .inr (7, [v12_0, .ref q_1201, .int (zI (z12_length)), .int (zI (z12_at)), .int (zI (z12_kind)), v12_5, .int (zI (z12_value)), v12_7, v12_8, v12_9, v12_10, v12_11, v12_12, v12_13, v12_14, v12_15, v12_16, v12_17])), (q_1201, .inl (cA_1201, 8192, .inl fa12_bytes))] := hD
  have hK : va_K (dC, dI) vwP [(cA_1201, .byte)] s := hK
  refine W.widen (k := 0) (n := 0) (Nat.le_of_ble_eq_true rfl) (Nat.le_of_ble_eq_true rfl) ?_
  have hw_2004 := hw
  obtain ⟨z_2005, rfl, hzz_2005⟩ := hw_2004
  refine lv_istore_n (lv' := [(3, .int (zI (z_2005))), (2, .int (zI (btF fa12_bytes z12_length (z12_at + 1)))), (1, .int (zI (btF fa12_bytes z12_length (z12_at)))), (0, .ref h0)]) hx hb dX7_scanMark_25 rfl hl (by decide) rfl (fun ls hl => ?_)
  refine lv_aload_n hx hb dX7_scanMark_26 rfl (lv_at hl 3 rfl) ?_
  refine lv_dup hx hb dX7_scanMark_27 rfl ?_
  refine va_get (D := (dC, dI)) (ci := 7) (v := .int (zI (z12_at))) (C := RX7) (T := TX7) (N := 18) hx hb hts mem_X7_scanMark_0 hown hK hP 0 rfl rfl 3 (by decide) (ow (k := 0) rfl) (fun _ h9 => h9) rfl dX7_scanMark_28 ?_
  refine lv_iconst (v := 1) hx hb dX7_scanMark_31 (by decide) ?_
  refine lv_iadd hx hb dX7_scanMark_32 ?_
  refine lv_topi (fun z ez => ?_)
  obtain rfl : z = zI (z12_at + 1) := ez.trans (zI_add (z12_at) (1))
  refine va_put (D := (dC, dI)) (ci := 7) (v := .int (zI (z12_at + 1))) (ty := .int) (C := RX7) (T := TX7) (N := 18) hx hb hts mem_X7_scanMark_0 tyX7 tyX7_ok nmX7 hown hK hP hD hS 0 rfl rfl 3 (by decide) (ow (k := 0) rfl) (fun _ h9 => h9) rfl (by decide +kernel) rfl rfl (Nat.le_of_ble_eq_true rfl) dX7_scanMark_33 (fun H locs hP hD hS => ?_)
  have hP : va_P (dC, dI) vwP [(h0, .inr (7, [v12_0, .ref q_1201, .int (zI (z12_length)), .int (zI (z12_at + 1)), .int (zI (z12_kind)), v12_5, .int (zI (z12_value)), v12_7, v12_8, v12_9, v12_10, v12_11, v12_12, v12_13, v12_14, v12_15, v12_16, v12_17])), (q_1201, .inl (cA_1201, 8192, .inl fa12_bytes))] H := hP
  have hD : va_D A [(h0, .inr (7, [v12_0, .ref q_1201, .int (zI (z12_length)), .int (zI (z12_at + 1)), .int (zI (z12_kind)), v12_5, .int (zI (z12_value)), v12_7, v12_8, v12_9, v12_10, v12_11, v12_12, v12_13, v12_14, v12_15, v12_16, v12_17])), (q_1201, .inl (cA_1201, 8192, .inl fa12_bytes))] := hD
  obtain ⟨z_2006, ez_2006⟩ : ∃ z9 : Int, z9 = z12_at + 1 := ⟨_, rfl⟩
  rw [← ez_2006] at hP hD
  have hP : va_P (dC, dI) vwP [(h0, .inr (7, [v12_0, .ref q_1201, .int (zI (z12_length)), .int (zI (z_2006)), .int (zI (z12_kind)), v12_5, .int (zI (z12_value)), v12_7, v12_8, v12_9, v12_10, v12_11, v12_12, v12_13, v12_14, v12_15, v12_16, v12_17])), (q_1201, .inl (cA_1201, 8192, .inl fa12_bytes))] H := hP
  have hD : va_D A [(h0, .inr (7, [v12_0, .ref q_1201, .int (zI (z12_length)), .int (zI (z_2006)), .int (zI (z12_kind)), v12_5, .int (zI (z12_value)), v12_7, v12_8, v12_9, v12_10, v12_11, v12_12, v12_13, v12_14, v12_15, v12_16, v12_17])), (q_1201, .inl (cA_1201, 8192, .inl fa12_bytes))] := hD
  refine lv_iload_n hx hb dX7_scanMark_36 rfl (lv_at hl 0 rfl) ?_
  refine lv_iconst (v := (-1)) hx hb dX7_scanMark_37 (by decide) ?_
  refine lv_icmp_eq (tgt := 77) hx hb dX7_scanMark_38 (by decide) (fun b38 => ?_) (fun b38 => ?_)
  · have yb38 : (z_2005 : Int) = (-1 : Int) := (zI_eq (a := z_2005) (b := -1) (by omega) (by omega) (by omega) (by omega)).mp b38
    refine lv_iload_n hx hb dX7_scanMark_77 rfl (lv_at hl 2 rfl) ?_
    refine lv_bipush (v := 58) hx hb dX7_scanMark_78 (by decide) ?_
    refine lv_icmp_ne (tgt := 92) hx hb dX7_scanMark_80 (by decide) (fun b80 => ?_) (fun b80 => ?_)
    · have yb80 : ¬ (btF fa12_bytes z12_length (z12_at) : Int) = (58 : Int) := fun q => b80 ((zI_eq (a := btF fa12_bytes z12_length (z12_at)) (b := 58) (by omega) (by omega) (by omega) (by omega)).mpr q)
      refine lv_iload_n hx hb dX7_scanMark_92 rfl (lv_at hl 2 rfl) ?_
      refine lv_bipush (v := 61) hx hb dX7_scanMark_93 (by decide) ?_
      refine lv_icmp_ne (tgt := 107) hx hb dX7_scanMark_95 (by decide) (fun b95 => ?_) (fun b95 => ?_)
      · have yb95 : ¬ (btF fa12_bytes z12_length (z12_at) : Int) = (61 : Int) := fun q => b95 ((zI_eq (a := btF fa12_bytes z12_length (z12_at)) (b := 61) (by omega) (by omega) (by omega) (by omega)).mpr q)
        refine lv_aload_n hx hb dX7_scanMark_107 rfl (lv_at hl 3 rfl) ?_
        refine lv_iload_n hx hb dX7_scanMark_108 rfl (lv_at hl 2 rfl) ?_
        refine lv_bipush (v := 40) hx hb dX7_scanMark_109 (by decide) ?_
        refine lv_icmp_eq (tgt := 126) hx hb dX7_scanMark_111 (by decide) (fun b111 => ?_) (fun b111 => ?_)
        · have yb111 : (btF fa12_bytes z12_length (z12_at) : Int) = (40 : Int) := (zI_eq (a := btF fa12_bytes z12_length (z12_at)) (b := 40) (by omega) (by omega) (by omega) (by omega)).mp b111
          refine lv_bipush (v := 13) hx hb dX7_scanMark_126 (by decide) ?_
          refine lv_goto (tgt := 132) hx hb dX7_scanMark_128 (by decide) ?_
          refine va_put (D := (dC, dI)) (ci := 7) (v := .int 13) (ty := .int) (C := RX7) (T := TX7) (N := 18) hx hb hts mem_X7_scanMark_0 tyX7 tyX7_ok nmX7 hown hK hP hD hS 0 rfl rfl 4 (by decide) (ow (k := 7) rfl) (fun _ h9 => h9) rfl (by decide +kernel) rfl rfl (Nat.le_of_ble_eq_true rfl) dX7_scanMark_132 (fun H locs hP hD hS => ?_)
          have hP : va_P (dC, dI) vwP [(h0, .inr (7, [v12_0, .ref q_1201, .int (zI (z12_length)), .int (zI (z_2006)), .int 13, v12_5, .int (zI (z12_value)), v12_7, v12_8, v12_9, v12_10, v12_11, v12_12, v12_13, v12_14, v12_15, v12_16, v12_17])), (q_1201, .inl (cA_1201, 8192, .inl fa12_bytes))] H := hP
          have hD : va_D A [(h0, .inr (7, [v12_0, .ref q_1201, .int (zI (z12_length)), .int (zI (z_2006)), .int 13, v12_5, .int (zI (z12_value)), v12_7, v12_8, v12_9, v12_10, v12_11, v12_12, v12_13, v12_14, v12_15, v12_16, v12_17])), (q_1201, .inl (cA_1201, 8192, .inl fa12_bytes))] := hD
          subst hQ
          refine W.widen (k := 0) (n := 0) (Nat.le_of_ble_eq_true rfl) (Nat.le_of_ble_eq_true rfl) ?_
          exact W.vret hx hb hr (fun t ht hW => ⟨⟨(), rfl, trivial, z_2006, 13, z12_value, ⟨(by omega), (by omega), (by omega), ⟨(by unfold RKV; omega), by omega⟩⟩, by rw [ht]; exact hP, va_K.moved hW.alike hK, hD⟩, hS.F ht⟩) hS.2.2 dX7_scanMark_135
        · have yb111 : ¬ (btF fa12_bytes z12_length (z12_at) : Int) = (40 : Int) := fun q => b111 ((zI_eq (a := btF fa12_bytes z12_length (z12_at)) (b := 40) (by omega) (by omega) (by omega) (by omega)).mpr q)
          refine lv_iload_n hx hb dX7_scanMark_114 rfl (lv_at hl 2 rfl) ?_
          refine lv_bipush (v := 41) hx hb dX7_scanMark_115 (by decide) ?_
          refine lv_icmp_eq (tgt := 126) hx hb dX7_scanMark_117 (by decide) (fun b117 => ?_) (fun b117 => ?_)
          · have yb117 : (btF fa12_bytes z12_length (z12_at) : Int) = (41 : Int) := (zI_eq (a := btF fa12_bytes z12_length (z12_at)) (b := 41) (by omega) (by omega) (by omega) (by omega)).mp b117
            refine lv_bipush (v := 13) hx hb dX7_scanMark_126 (by decide) ?_
            refine lv_goto (tgt := 132) hx hb dX7_scanMark_128 (by decide) ?_
            refine va_put (D := (dC, dI)) (ci := 7) (v := .int 13) (ty := .int) (C := RX7) (T := TX7) (N := 18) hx hb hts mem_X7_scanMark_0 tyX7 tyX7_ok nmX7 hown hK hP hD hS 0 rfl rfl 4 (by decide) (ow (k := 7) rfl) (fun _ h9 => h9) rfl (by decide +kernel) rfl rfl (Nat.le_of_ble_eq_true rfl) dX7_scanMark_132 (fun H locs hP hD hS => ?_)
            have hP : va_P (dC, dI) vwP [(h0, .inr (7, [v12_0, .ref q_1201, .int (zI (z12_length)), .int (zI (z_2006)), .int 13, v12_5, .int (zI (z12_value)), v12_7, v12_8, v12_9, v12_10, v12_11, v12_12, v12_13, v12_14, v12_15, v12_16, v12_17])), (q_1201, .inl (cA_1201, 8192, .inl fa12_bytes))] H := hP
            have hD : va_D A [(h0, .inr (7, [v12_0, .ref q_1201, .int (zI (z12_length)), .int (zI (z_2006)), .int 13, v12_5, .int (zI (z12_value)), v12_7, v12_8, v12_9, v12_10, v12_11, v12_12, v12_13, v12_14, v12_15, v12_16, v12_17])), (q_1201, .inl (cA_1201, 8192, .inl fa12_bytes))] := hD
            subst hQ
            refine W.widen (k := 0) (n := 0) (Nat.le_of_ble_eq_true rfl) (Nat.le_of_ble_eq_true rfl) ?_
            exact W.vret hx hb hr (fun t ht hW => ⟨⟨(), rfl, trivial, z_2006, 13, z12_value, ⟨(by omega), (by omega), (by omega), ⟨(by unfold RKV; omega), by omega⟩⟩, by rw [ht]; exact hP, va_K.moved hW.alike hK, hD⟩, hS.F ht⟩) hS.2.2 dX7_scanMark_135
          · have yb117 : ¬ (btF fa12_bytes z12_length (z12_at) : Int) = (41 : Int) := fun q => b117 ((zI_eq (a := btF fa12_bytes z12_length (z12_at)) (b := 41) (by omega) (by omega) (by omega) (by omega)).mpr q)
            refine lv_iload_n hx hb dX7_scanMark_120 rfl (lv_at hl 2 rfl) ?_
            refine lv_bipush (v := 44) hx hb dX7_scanMark_121 (by decide) ?_
            refine lv_icmp_ne (tgt := 131) hx hb dX7_scanMark_123 (by decide) (fun b123 => ?_) (fun b123 => ?_)
            · have yb123 : ¬ (btF fa12_bytes z12_length (z12_at) : Int) = (44 : Int) := fun q => b123 ((zI_eq (a := btF fa12_bytes z12_length (z12_at)) (b := 44) (by omega) (by omega) (by omega) (by omega)).mpr q)
              refine lv_iconst (v := 0) hx hb dX7_scanMark_131 (by decide) ?_
              refine va_put (D := (dC, dI)) (ci := 7) (v := .int 0) (ty := .int) (C := RX7) (T := TX7) (N := 18) hx hb hts mem_X7_scanMark_0 tyX7 tyX7_ok nmX7 hown hK hP hD hS 0 rfl rfl 4 (by decide) (ow (k := 7) rfl) (fun _ h9 => h9) rfl (by decide +kernel) rfl rfl (Nat.le_of_ble_eq_true rfl) dX7_scanMark_132 (fun H locs hP hD hS => ?_)
              have hP : va_P (dC, dI) vwP [(h0, .inr (7, [v12_0, .ref q_1201, .int (zI (z12_length)), .int (zI (z_2006)), .int 0, v12_5, .int (zI (z12_value)), v12_7, v12_8, v12_9, v12_10, v12_11, v12_12, v12_13, v12_14, v12_15, v12_16, v12_17])), (q_1201, .inl (cA_1201, 8192, .inl fa12_bytes))] H := hP
              have hD : va_D A [(h0, .inr (7, [v12_0, .ref q_1201, .int (zI (z12_length)), .int (zI (z_2006)), .int 0, v12_5, .int (zI (z12_value)), v12_7, v12_8, v12_9, v12_10, v12_11, v12_12, v12_13, v12_14, v12_15, v12_16, v12_17])), (q_1201, .inl (cA_1201, 8192, .inl fa12_bytes))] := hD
              subst hQ
              refine W.widen (k := 0) (n := 0) (Nat.le_of_ble_eq_true rfl) (Nat.le_of_ble_eq_true rfl) ?_
              exact W.vret hx hb hr (fun t ht hW => ⟨⟨(), rfl, trivial, z_2006, 0, z12_value, ⟨(by omega), (by omega), (by omega), ⟨(by unfold RKV; omega), by omega⟩⟩, by rw [ht]; exact hP, va_K.moved hW.alike hK, hD⟩, hS.F ht⟩) hS.2.2 dX7_scanMark_135
            · have yb123 : (btF fa12_bytes z12_length (z12_at) : Int) = (44 : Int) := (zI_eq (a := btF fa12_bytes z12_length (z12_at)) (b := 44) (by omega) (by omega) (by omega) (by omega)).mp b123
              refine lv_bipush (v := 13) hx hb dX7_scanMark_126 (by decide) ?_
              refine lv_goto (tgt := 132) hx hb dX7_scanMark_128 (by decide) ?_
              refine va_put (D := (dC, dI)) (ci := 7) (v := .int 13) (ty := .int) (C := RX7) (T := TX7) (N := 18) hx hb hts mem_X7_scanMark_0 tyX7 tyX7_ok nmX7 hown hK hP hD hS 0 rfl rfl 4 (by decide) (ow (k := 7) rfl) (fun _ h9 => h9) rfl (by decide +kernel) rfl rfl (Nat.le_of_ble_eq_true rfl) dX7_scanMark_132 (fun H locs hP hD hS => ?_)
              have hP : va_P (dC, dI) vwP [(h0, .inr (7, [v12_0, .ref q_1201, .int (zI (z12_length)), .int (zI (z_2006)), .int 13, v12_5, .int (zI (z12_value)), v12_7, v12_8, v12_9, v12_10, v12_11, v12_12, v12_13, v12_14, v12_15, v12_16, v12_17])), (q_1201, .inl (cA_1201, 8192, .inl fa12_bytes))] H := hP
              have hD : va_D A [(h0, .inr (7, [v12_0, .ref q_1201, .int (zI (z12_length)), .int (zI (z_2006)), .int 13, v12_5, .int (zI (z12_value)), v12_7, v12_8, v12_9, v12_10, v12_11, v12_12, v12_13, v12_14, v12_15, v12_16, v12_17])), (q_1201, .inl (cA_1201, 8192, .inl fa12_bytes))] := hD
              subst hQ
              refine W.widen (k := 0) (n := 0) (Nat.le_of_ble_eq_true rfl) (Nat.le_of_ble_eq_true rfl) ?_
              exact W.vret hx hb hr (fun t ht hW => ⟨⟨(), rfl, trivial, z_2006, 13, z12_value, ⟨(by omega), (by omega), (by omega), ⟨(by unfold RKV; omega), by omega⟩⟩, by rw [ht]; exact hP, va_K.moved hW.alike hK, hD⟩, hS.F ht⟩) hS.2.2 dX7_scanMark_135
      · have yb95 : (btF fa12_bytes z12_length (z12_at) : Int) = (61 : Int) := (zI_eq (a := btF fa12_bytes z12_length (z12_at)) (b := 61) (by omega) (by omega) (by omega) (by omega)).mp b95
        refine lv_aload_n hx hb dX7_scanMark_98 rfl (lv_at hl 3 rfl) ?_
        refine lv_bipush (v := 11) hx hb dX7_scanMark_99 (by decide) ?_
        refine va_put (D := (dC, dI)) (ci := 7) (v := .int 11) (ty := .int) (C := RX7) (T := TX7) (N := 18) hx hb hts mem_X7_scanMark_0 tyX7 tyX7_ok nmX7 hown hK hP hD hS 0 rfl rfl 4 (by decide) (ow (k := 7) rfl) (fun _ h9 => h9) rfl (by decide +kernel) rfl rfl (Nat.le_of_ble_eq_true rfl) dX7_scanMark_101 (fun H locs hP hD hS => ?_)
        have hP : va_P (dC, dI) vwP [(h0, .inr (7, [v12_0, .ref q_1201, .int (zI (z12_length)), .int (zI (z_2006)), .int 11, v12_5, .int (zI (z12_value)), v12_7, v12_8, v12_9, v12_10, v12_11, v12_12, v12_13, v12_14, v12_15, v12_16, v12_17])), (q_1201, .inl (cA_1201, 8192, .inl fa12_bytes))] H := hP
        have hD : va_D A [(h0, .inr (7, [v12_0, .ref q_1201, .int (zI (z12_length)), .int (zI (z_2006)), .int 11, v12_5, .int (zI (z12_value)), v12_7, v12_8, v12_9, v12_10, v12_11, v12_12, v12_13, v12_14, v12_15, v12_16, v12_17])), (q_1201, .inl (cA_1201, 8192, .inl fa12_bytes))] := hD
        refine lv_goto (tgt := 135) hx hb dX7_scanMark_104 (by decide) ?_
        subst hQ
        refine W.widen (k := 0) (n := 0) (Nat.le_of_ble_eq_true rfl) (Nat.le_of_ble_eq_true rfl) ?_
        exact W.vret hx hb hr (fun t ht hW => ⟨⟨(), rfl, trivial, z_2006, 11, z12_value, ⟨(by omega), (by omega), (by omega), ⟨(by unfold RKV; omega), by omega⟩⟩, by rw [ht]; exact hP, va_K.moved hW.alike hK, hD⟩, hS.F ht⟩) hS.2.2 dX7_scanMark_135
    · have yb80 : (btF fa12_bytes z12_length (z12_at) : Int) = (58 : Int) := (zI_eq (a := btF fa12_bytes z12_length (z12_at)) (b := 58) (by omega) (by omega) (by omega) (by omega)).mp b80
      refine lv_aload_n hx hb dX7_scanMark_83 rfl (lv_at hl 3 rfl) ?_
      refine lv_bipush (v := 10) hx hb dX7_scanMark_84 (by decide) ?_
      refine va_put (D := (dC, dI)) (ci := 7) (v := .int 10) (ty := .int) (C := RX7) (T := TX7) (N := 18) hx hb hts mem_X7_scanMark_0 tyX7 tyX7_ok nmX7 hown hK hP hD hS 0 rfl rfl 4 (by decide) (ow (k := 7) rfl) (fun _ h9 => h9) rfl (by decide +kernel) rfl rfl (Nat.le_of_ble_eq_true rfl) dX7_scanMark_86 (fun H locs hP hD hS => ?_)
      have hP : va_P (dC, dI) vwP [(h0, .inr (7, [v12_0, .ref q_1201, .int (zI (z12_length)), .int (zI (z_2006)), .int 10, v12_5, .int (zI (z12_value)), v12_7, v12_8, v12_9, v12_10, v12_11, v12_12, v12_13, v12_14, v12_15, v12_16, v12_17])), (q_1201, .inl (cA_1201, 8192, .inl fa12_bytes))] H := hP
      have hD : va_D A [(h0, .inr (7, [v12_0, .ref q_1201, .int (zI (z12_length)), .int (zI (z_2006)), .int 10, v12_5, .int (zI (z12_value)), v12_7, v12_8, v12_9, v12_10, v12_11, v12_12, v12_13, v12_14, v12_15, v12_16, v12_17])), (q_1201, .inl (cA_1201, 8192, .inl fa12_bytes))] := hD
      refine lv_goto (tgt := 135) hx hb dX7_scanMark_89 (by decide) ?_
      subst hQ
      refine W.widen (k := 0) (n := 0) (Nat.le_of_ble_eq_true rfl) (Nat.le_of_ble_eq_true rfl) ?_
      exact W.vret hx hb hr (fun t ht hW => ⟨⟨(), rfl, trivial, z_2006, 10, z12_value, ⟨(by omega), (by omega), (by omega), ⟨(by unfold RKV; omega), by omega⟩⟩, by rw [ht]; exact hP, va_K.moved hW.alike hK, hD⟩, hS.F ht⟩) hS.2.2 dX7_scanMark_135
  · have yb38 : ¬ (z_2005 : Int) = (-1 : Int) := fun q => b38 ((zI_eq (a := z_2005) (b := -1) (by omega) (by omega) (by omega) (by omega)).mpr q)
    refine lv_aload_n hx hb dX7_scanMark_41 rfl (lv_at hl 3 rfl) ?_
    refine lv_bipush (v := 12) hx hb dX7_scanMark_42 (by decide) ?_
    refine va_put (D := (dC, dI)) (ci := 7) (v := .int 12) (ty := .int) (C := RX7) (T := TX7) (N := 18) hx hb hts mem_X7_scanMark_0 tyX7 tyX7_ok nmX7 hown hK hP hD hS 0 rfl rfl 4 (by decide) (ow (k := 7) rfl) (fun _ h9 => h9) rfl (by decide +kernel) rfl rfl (Nat.le_of_ble_eq_true rfl) dX7_scanMark_44 (fun H locs hP hD hS => ?_)
    have hP : va_P (dC, dI) vwP [(h0, .inr (7, [v12_0, .ref q_1201, .int (zI (z12_length)), .int (zI (z_2006)), .int 12, v12_5, .int (zI (z12_value)), v12_7, v12_8, v12_9, v12_10, v12_11, v12_12, v12_13, v12_14, v12_15, v12_16, v12_17])), (q_1201, .inl (cA_1201, 8192, .inl fa12_bytes))] H := hP
    have hD : va_D A [(h0, .inr (7, [v12_0, .ref q_1201, .int (zI (z12_length)), .int (zI (z_2006)), .int 12, v12_5, .int (zI (z12_value)), v12_7, v12_8, v12_9, v12_10, v12_11, v12_12, v12_13, v12_14, v12_15, v12_16, v12_17])), (q_1201, .inl (cA_1201, 8192, .inl fa12_bytes))] := hD
    refine lv_aload_n hx hb dX7_scanMark_47 rfl (lv_at hl 3 rfl) ?_
    refine lv_iload_n hx hb dX7_scanMark_48 rfl (lv_at hl 0 rfl) ?_
    refine va_put (D := (dC, dI)) (ci := 7) (v := .int (zI (z_2005))) (ty := .int) (C := RX7) (T := TX7) (N := 18) hx hb hts mem_X7_scanMark_0 tyX7 tyX7_ok nmX7 hown hK hP hD hS 0 rfl rfl 6 (by decide) (ow (k := 8) rfl) (fun _ h9 => h9) rfl (by decide +kernel) rfl rfl (Nat.le_of_ble_eq_true rfl) dX7_scanMark_49 (fun H locs hP hD hS => ?_)
    have hP : va_P (dC, dI) vwP [(h0, .inr (7, [v12_0, .ref q_1201, .int (zI (z12_length)), .int (zI (z_2006)), .int 12, v12_5, .int (zI (z_2005)), v12_7, v12_8, v12_9, v12_10, v12_11, v12_12, v12_13, v12_14, v12_15, v12_16, v12_17])), (q_1201, .inl (cA_1201, 8192, .inl fa12_bytes))] H := hP
    have hD : va_D A [(h0, .inr (7, [v12_0, .ref q_1201, .int (zI (z12_length)), .int (zI (z_2006)), .int 12, v12_5, .int (zI (z_2005)), v12_7, v12_8, v12_9, v12_10, v12_11, v12_12, v12_13, v12_14, v12_15, v12_16, v12_17])), (q_1201, .inl (cA_1201, 8192, .inl fa12_bytes))] := hD
    refine lv_iload_n hx hb dX7_scanMark_52 rfl (lv_at hl 0 rfl) ?_
    refine lv_bipush (v := 11) hx hb dX7_scanMark_53 (by decide) ?_
    refine lv_icmp_lt (tgt := 135) hx hb dX7_scanMark_55 (by decide) (fun b55 => ?_) (fun b55 => ?_)
    · have yb55 : (z_2005 : Int) < (11 : Int) := (zI_lt (a := z_2005) (b := 11) (by omega) (by omega) (by omega) (by omega)).mp b55
      subst hQ
      refine W.widen (k := 0) (n := 0) (Nat.le_of_ble_eq_true rfl) (Nat.le_of_ble_eq_true rfl) ?_
      exact W.vret hx hb hr (fun t ht hW => ⟨⟨(), rfl, trivial, z_2006, 12, z_2005, ⟨(by omega), (by omega), (by omega), ⟨(by unfold RKV; omega), by omega⟩⟩, by rw [ht]; exact hP, va_K.moved hW.alike hK, hD⟩, hS.F ht⟩) hS.2.2 dX7_scanMark_135
    · have yb55 : ¬ (z_2005 : Int) < (11 : Int) := fun q => b55 ((zI_lt (a := z_2005) (b := 11) (by omega) (by omega) (by omega) (by omega)).mpr q)
      refine lv_iload_n hx hb dX7_scanMark_58 rfl (lv_at hl 0 rfl) ?_
      refine lv_bipush (v := 13) hx hb dX7_scanMark_59 (by decide) ?_
      refine lv_icmp_eq (tgt := 135) hx hb dX7_scanMark_61 (by decide) (fun b61 => ?_) (fun b61 => ?_)
      · have yb61 : (z_2005 : Int) = (13 : Int) := (zI_eq (a := z_2005) (b := 13) (by omega) (by omega) (by omega) (by omega)).mp b61
        subst hQ
        refine W.widen (k := 0) (n := 0) (Nat.le_of_ble_eq_true rfl) (Nat.le_of_ble_eq_true rfl) ?_
        exact W.vret hx hb hr (fun t ht hW => ⟨⟨(), rfl, trivial, z_2006, 12, z_2005, ⟨(by omega), (by omega), (by omega), ⟨(by unfold RKV; omega), by omega⟩⟩, by rw [ht]; exact hP, va_K.moved hW.alike hK, hD⟩, hS.F ht⟩) hS.2.2 dX7_scanMark_135
      · have yb61 : ¬ (z_2005 : Int) = (13 : Int) := fun q => b61 ((zI_eq (a := z_2005) (b := 13) (by omega) (by omega) (by omega) (by omega)).mpr q)
        refine lv_aload_n hx hb dX7_scanMark_64 rfl (lv_at hl 3 rfl) ?_
        refine lv_dup hx hb dX7_scanMark_65 rfl ?_
        refine va_get (D := (dC, dI)) (ci := 7) (v := .int (zI (z_2006))) (C := RX7) (T := TX7) (N := 18) hx hb hts mem_X7_scanMark_0 hown hK hP 0 rfl rfl 3 (by decide) (ow (k := 0) rfl) (fun _ h9 => h9) rfl dX7_scanMark_66 ?_
        refine lv_iconst (v := 1) hx hb dX7_scanMark_69 (by decide) ?_
        refine lv_iadd hx hb dX7_scanMark_70 ?_
        refine lv_topi (fun z ez => ?_)
        obtain rfl : z = zI (z_2006 + 1) := ez.trans (zI_add (z_2006) (1))
        refine va_put (D := (dC, dI)) (ci := 7) (v := .int (zI (z_2006 + 1))) (ty := .int) (C := RX7) (T := TX7) (N := 18) hx hb hts mem_X7_scanMark_0 tyX7 tyX7_ok nmX7 hown hK hP hD hS 0 rfl rfl 3 (by decide) (ow (k := 0) rfl) (fun _ h9 => h9) rfl (by decide +kernel) rfl rfl (Nat.le_of_ble_eq_true rfl) dX7_scanMark_71 (fun H locs hP hD hS => ?_)
        have hP : va_P (dC, dI) vwP [(h0, .inr (7, [v12_0, .ref q_1201, .int (zI (z12_length)), .int (zI (z_2006 + 1)), .int 12, v12_5, .int (zI (z_2005)), v12_7, v12_8, v12_9, v12_10, v12_11, v12_12, v12_13, v12_14, v12_15, v12_16, v12_17])), (q_1201, .inl (cA_1201, 8192, .inl fa12_bytes))] H := hP
        have hD : va_D A [(h0, .inr (7, [v12_0, .ref q_1201, .int (zI (z12_length)), .int (zI (z_2006 + 1)), .int 12, v12_5, .int (zI (z_2005)), v12_7, v12_8, v12_9, v12_10, v12_11, v12_12, v12_13, v12_14, v12_15, v12_16, v12_17])), (q_1201, .inl (cA_1201, 8192, .inl fa12_bytes))] := hD
        obtain ⟨z_2007, ez_2007⟩ : ∃ z9 : Int, z9 = z_2006 + 1 := ⟨_, rfl⟩
        rw [← ez_2007] at hP hD
        have hP : va_P (dC, dI) vwP [(h0, .inr (7, [v12_0, .ref q_1201, .int (zI (z12_length)), .int (zI (z_2007)), .int 12, v12_5, .int (zI (z_2005)), v12_7, v12_8, v12_9, v12_10, v12_11, v12_12, v12_13, v12_14, v12_15, v12_16, v12_17])), (q_1201, .inl (cA_1201, 8192, .inl fa12_bytes))] H := hP
        have hD : va_D A [(h0, .inr (7, [v12_0, .ref q_1201, .int (zI (z12_length)), .int (zI (z_2007)), .int 12, v12_5, .int (zI (z_2005)), v12_7, v12_8, v12_9, v12_10, v12_11, v12_12, v12_13, v12_14, v12_15, v12_16, v12_17])), (q_1201, .inl (cA_1201, 8192, .inl fa12_bytes))] := hD
        refine lv_goto (tgt := 135) hx hb dX7_scanMark_74 (by decide) ?_
        subst hQ
        refine W.widen (k := 0) (n := 0) (Nat.le_of_ble_eq_true rfl) (Nat.le_of_ble_eq_true rfl) ?_
        exact W.vret hx hb hr (fun t ht hW => ⟨⟨(), rfl, trivial, z_2007, 12, z_2005, ⟨(by omega), (by omega), (by omega), ⟨(by unfold RKV; omega), by omega⟩⟩, by rw [ht]; exact hP, va_K.moved hW.alike hK, hD⟩, hS.F ht⟩) hS.2.2 dX7_scanMark_135
