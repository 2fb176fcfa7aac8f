theorem dJ5_isLatin1_aae02_0 : decode cJ5_isLatin1_aae02 0 = .ok (.getstatic 18, 3) := by decide +kernel
theorem dJ5_isLatin1_aae02_3 : decode cJ5_isLatin1_aae02 3 = .ok (.ifCond .eq 14, 3) := by decide +kernel
theorem dJ5_isLatin1_aae02_6 : decode cJ5_isLatin1_aae02 6 = .ok (.aload_n 0, 1) := by decide +kernel
theorem dJ5_isLatin1_aae02_7 : decode cJ5_isLatin1_aae02 7 = .ok (.getfield 22, 3) := by decide +kernel
theorem dJ5_isLatin1_aae02_10 : decode cJ5_isLatin1_aae02 10 = .ok (.ifCond .ne 7, 3) := by decide +kernel
theorem dJ5_isLatin1_aae02_13 : decode cJ5_isLatin1_aae02 13 = .ok (.iconst 1, 1) := by decide +kernel
theorem dJ5_isLatin1_aae02_14 : decode cJ5_isLatin1_aae02 14 = .ok (.goto 4, 3) := by decide +kernel
theorem dJ5_isLatin1_aae02_18 : decode cJ5_isLatin1_aae02 18 = .ok (.ireturn, 1) := by decide +kernel
def o_J5_isLatin1 : List Cond := [.fieldLink RJ5 18 "java/lang/String" "COMPACT_STRINGS" "Z", .fieldLink RJ5 22 "java/lang/AbstractStringBuilder" "coder" "B"]
def v_J5_isLatin1 : List Cond := .code yJ5_isLatin1_aae02 cJ5_isLatin1_aae02 1 (some .boolean) :: (o_J5_isLatin1 ++ (wsJ40 ++ []))
theorem mow_J5_isLatin1 : ∀ w ∈ o_J5_isLatin1, w ∈ v_J5_isLatin1 := fun _ h => List.mem_cons_of_mem _ (List.mem_append_left _ h)
theorem mem_J5_isLatin1_0 : ∀ w ∈ wsJ40, w ∈ v_J5_isLatin1 := fun _ h => List.mem_cons_of_mem _ (List.mem_append_right _ (List.mem_append_left _ h))
set_option maxRecDepth 20000 in
theorem gw_J5_isLatin1 : v_J5_isLatin1.all goodWord = true := by decide +kernel
set_option maxHeartbeats 4000000 in
set_option maxRecDepth 100000 in
theorem c_J5_isLatin1 (l : Launch) (dC : Nat → ClassId) (dI : Nat → Nat → Nat) (h0 : Nat) (r40_maybeLatin1 : Int32) (z40_count : Int) (q_sv : Nat) (cB : ClassId) (nb : Nat) (a_sb : Int → Int) (M : Int) (hNz40_count : 0 ≤ z40_count ∧ z40_count ≤ 1000000) (hNnb : 16 ≤ nb ∧ nb ≤ M ∧ z40_count ≤ nb ∧ M ≤ 2000000) (hR_a_sb : ∀ j : Int, -128 ≤ a_sb j ∧ a_sb j ≤ 127) (sz : Nat) : Met l yJ5_isLatin1_aae02 v_J5_isLatin1 ({ frames := 0, cells := 0, slots := 0, locals := 0 }) (va_Pc [.ref h0] (fun U => U.heap.size = sz ∧ va_P (dC, dI) vwQ [(h0, .inr (17, [.ref q_sv, .int 0, .int r40_maybeLatin1, .int (zI (z40_count))])), (q_sv, .inl (cB, nb, .inl (fun j : Nat => zI (a_sb (j : Int)))))] U.heap ∧ va_K (dC, dI) vwQ [(cB, .byte)] U ∧ va_D (fun _ => True) [(h0, .inr (17, [.ref q_sv, .int 0, .int r40_maybeLatin1, .int (zI (z40_count))])), (q_sv, .inl (cB, nb, .inl (fun j : Nat => zI (a_sb (j : Int)))))] ∧ va_Z "java/lang/String" "COMPACT_STRINGS" "Z" (.int 1) (va_A [(h0, .inr (17, [.ref q_sv, .int 0, .int r40_maybeLatin1, .int (zI (z40_count))])), (q_sv, .inl (cB, nb, .inl (fun j : Nat => zI (a_sb (j : Int)))))] sz) U U.heap)) (va_Qi (fun (r : Int32) (_ : Unit) => r = 1) (fun (_ : Unit) (t : State) => va_P (dC, dI) vwQ [(h0, .inr (17, [.ref q_sv, .int 0, .int r40_maybeLatin1, .int (zI (z40_count))])), (q_sv, .inl (cB, nb, .inl (fun j : Nat => zI (a_sb (j : Int)))))] t.heap ∧ va_K (dC, dI) vwQ [(cB, .byte)] t ∧ va_D (va_A [(h0, .inr (17, [.ref q_sv, .int 0, .int r40_maybeLatin1, .int (zI (z40_count))])), (q_sv, .inl (cB, nb, .inl (fun j : Nat => zI (a_sb (j : Int)))))] sz) [(h0, .inr (17, [.ref q_sv, .int 0, .int r40_maybeLatin1, .int (zI (z40_count))])), (q_sv, .inl (cB, nb, .inl (fun j : Nat => zI (a_sb (j : Int)))))]) (va_A [(h0, .inr (17, [.ref q_sv, .int 0, .int r40_maybeLatin1, .int (zI (z40_count))])), (q_sv, .inl (cB, nb, .inl (fun j : Nat => zI (a_sb (j : Int)))))] sz)) 0 0 (va_A [(h0, .inr (17, [.ref q_sv, .int 0, .int r40_maybeLatin1, .int (zI (z40_count))])), (q_sv, .inl (cB, nb, .inl (fun j : Nat => zI (a_sb (j : Int)))))] sz) := by
  refine Met.ofW (cc := cJ5_isLatin1_aae02) (maxL := 1) (ret := (some .boolean)) (by decide) rfl ?_
  intro p e s m args below meth c s₁ B hml hv
  obtain ⟨rfl, hsz, hP, hK, hD0, hp0⟩ := hv
  have hx := B.exec
  have hb := B.bytes
  have hr := B.returns
  have hts := atoms_spec (ws := v_J5_isLatin1) B.pre
  have hown : s.vm.findClass RJ5 = some m.cls := findClass_of_methodNamed B.named
  have hlocks := B.notSynchronized
  have ow : ∀ {k : Nat} {w : Cond}, o_J5_isLatin1[k]? = some w → w.before ([.ref h0] : List Value).toArray s = true := fun h => hts _ (mow_J5_isLatin1 _ (List.mem_of_getElem? h))
  subst hsz
  have hD := hD0.self (sz := s.heap.size)
  generalize hAe : va_A [(h0, .inr (17, [.ref q_sv, .int 0, .int r40_maybeLatin1, .int (zI (z40_count))])), (q_sv, .inl (cB, nb, .inl (fun j : Nat => zI (a_sb (j : Int)))))] s.heap.size = A at hD hp0 ⊢
  have hA : ∀ q : Nat, s.heap.size ≤ q → A q := fun q h => by rw [← hAe]; exact Or.inr h
  have hS : va_S A s.heap s.heap [] := va_S.rf
  have hP : va_P (dC, dI) vwQ [(h0, .inr (17, [.ref q_sv, .int 0, .int r40_maybeLatin1, .int (zI (z40_count))])), (q_sv, .inl (cB, nb, .inl (fun j : Nat => zI (a_sb (j : Int)))))] s.heap := hP
  have hl := lv_entry ([.ref h0]) (n := 1) (Nat.le_of_ble_eq_true rfl)
  rw [lg_entry_eq]
  generalize (lg_sl ([.ref h0]) ++ List.replicate (1 - (lg_sl ([.ref h0])).length) Slot.unset).toArray = ls at hl ⊢
  have hl : lv_has ls 1 [(0, .ref h0)] := hl
  obtain ⟨H, hH⟩ : ∃ H, H = s.heap := ⟨_, rfl⟩
  rw [← hH] at hP
  have hS : va_S A s.heap H [] := by rw [hH]; exact hS
  rw [← hH]
  refine zW_cap (fun Q hQ => ?_)
  refine va_gets (v := .int 1) hx hb hp0 hS hown (ow (k := 0) rfl) (fun _ h9 => h9) dJ5_isLatin1_aae02_0 ?_
  refine lv_if_eq (tgt := 17) hx hb dJ5_isLatin1_aae02_3 (by decide) (fun h9 => absurd h9 (by decide)) (fun _ => ?_)
  refine lv_aload_n hx hb dJ5_isLatin1_aae02_6 rfl (lv_at hl 0 rfl) ?_
  refine va_get (D := (dC, dI)) (ci := 17) (v := .int 0) (C := RJ4) (T := TJ4) (N := 4) hx hb hts mem_J5_isLatin1_0 hown hK hP 0 rfl rfl 1 (by decide) (ow (k := 1) rfl) (fun _ h9 => h9) rfl dJ5_isLatin1_aae02_7 ?_
  refine lv_if_ne (tgt := 17) hx hb dJ5_isLatin1_aae02_10 (by decide) (fun h9 => absurd h9 (by decide)) (fun _ => ?_)
  refine lv_iconst (v := 1) hx hb dJ5_isLatin1_aae02_13 (by decide) ?_
  refine lv_goto (tgt := 18) hx hb dJ5_isLatin1_aae02_14 (by decide) ?_
  subst hQ
  refine W.widen (k := 0) (n := 0) (Nat.le_of_ble_eq_true rfl) (Nat.le_of_ble_eq_true rfl) ?_
  exact W.zret (v := 1) hx hb hr (by decide) (fun t ht hW => ⟨⟨1, (), rfl, rfl, by rw [ht]; exact hP, va_K.moved hW.alike hK, hD⟩, hS.F ht⟩) hS.2.2 dJ5_isLatin1_aae02_18
theorem dJ5_newCapacity_0f7a4_0 : decode cJ5_newCapacity_0f7a4 0 = .ok (.aload_n 0, 1) := by decide +kernel
theorem dJ5_newCapacity_0f7a4_1 : decode cJ5_newCapacity_0f7a4 1 = .ok (.getfield 15, 3) := by decide +kernel
theorem dJ5_newCapacity_0f7a4_4 : decode cJ5_newCapacity_0f7a4 4 = .ok (.arraylength, 1) := by decide +kernel
theorem dJ5_newCapacity_0f7a4_5 : decode cJ5_newCapacity_0f7a4 5 = .ok (.istore_n 2, 1) := by decide +kernel
theorem dJ5_newCapacity_0f7a4_6 : decode cJ5_newCapacity_0f7a4 6 = .ok (.iload_n 1, 1) := by decide +kernel
theorem dJ5_newCapacity_0f7a4_7 : decode cJ5_newCapacity_0f7a4 7 = .ok (.aload_n 0, 1) := by decide +kernel
theorem dJ5_newCapacity_0f7a4_8 : decode cJ5_newCapacity_0f7a4 8 = .ok (.getfield 22, 3) := by decide +kernel
theorem dJ5_newCapacity_0f7a4_11 : decode cJ5_newCapacity_0f7a4 11 = .ok (.ishl, 1) := by decide +kernel
theorem dJ5_newCapacity_0f7a4_12 : decode cJ5_newCapacity_0f7a4 12 = .ok (.istore_n 3, 1) := by decide +kernel
theorem dJ5_newCapacity_0f7a4_13 : decode cJ5_newCapacity_0f7a4 13 = .ok (.iload_n 3, 1) := by decide +kernel
theorem dJ5_newCapacity_0f7a4_14 : decode cJ5_newCapacity_0f7a4 14 = .ok (.iload_n 2, 1) := by decide +kernel
theorem dJ5_newCapacity_0f7a4_15 : decode cJ5_newCapacity_0f7a4 15 = .ok (.isub, 1) := by decide +kernel
theorem dJ5_newCapacity_0f7a4_16 : decode cJ5_newCapacity_0f7a4 16 = .ok (.istore 4, 2) := by decide +kernel
theorem dJ5_newCapacity_0f7a4_18 : decode cJ5_newCapacity_0f7a4 18 = .ok (.iload_n 2, 1) := by decide +kernel
theorem dJ5_newCapacity_0f7a4_19 : decode cJ5_newCapacity_0f7a4 19 = .ok (.iload 4, 2) := by decide +kernel
theorem dJ5_newCapacity_0f7a4_21 : decode cJ5_newCapacity_0f7a4 21 = .ok (.iload_n 2, 1) := by decide +kernel
theorem dJ5_newCapacity_0f7a4_22 : decode cJ5_newCapacity_0f7a4 22 = .ok (.iconst 2, 1) := by decide +kernel
theorem dJ5_newCapacity_0f7a4_23 : decode cJ5_newCapacity_0f7a4 23 = .ok (.aload_n 0, 1) := by decide +kernel
theorem dJ5_newCapacity_0f7a4_24 : decode cJ5_newCapacity_0f7a4 24 = .ok (.getfield 22, 3) := by decide +kernel
theorem dJ5_newCapacity_0f7a4_27 : decode cJ5_newCapacity_0f7a4 27 = .ok (.ishl, 1) := by decide +kernel
theorem dJ5_newCapacity_0f7a4_28 : decode cJ5_newCapacity_0f7a4 28 = .ok (.iadd, 1) := by decide +kernel
theorem dJ5_newCapacity_0f7a4_29 : decode cJ5_newCapacity_0f7a4 29 = .ok (.invokestatic 114, 3) := by decide +kernel
theorem dJ5_newCapacity_0f7a4_32 : decode cJ5_newCapacity_0f7a4 32 = .ok (.istore 5, 2) := by decide +kernel
theorem dJ5_newCapacity_0f7a4_34 : decode cJ5_newCapacity_0f7a4 34 = .ok (.iload 5, 2) := by decide +kernel
theorem dJ5_newCapacity_0f7a4_36 : decode cJ5_newCapacity_0f7a4 36 = .ok (.ldc 39, 2) := by decide +kernel
theorem dJ5_newCapacity_0f7a4_38 : decode cJ5_newCapacity_0f7a4 38 = .ok (.if_icmp .ne 13, 3) := by decide +kernel
theorem dJ5_newCapacity_0f7a4_51 : decode cJ5_newCapacity_0f7a4 51 = .ok (.iload 5, 2) := by decide +kernel
theorem dJ5_newCapacity_0f7a4_53 : decode cJ5_newCapacity_0f7a4 53 = .ok (.aload_n 0, 1) := by decide +kernel
theorem dJ5_newCapacity_0f7a4_54 : decode cJ5_newCapacity_0f7a4 54 = .ok (.getfield 22, 3) := by decide +kernel
theorem dJ5_newCapacity_0f7a4_57 : decode cJ5_newCapacity_0f7a4 57 = .ok (.ishr, 1) := by decide +kernel
theorem dJ5_newCapacity_0f7a4_58 : decode cJ5_newCapacity_0f7a4 58 = .ok (.ireturn, 1) := by decide +kernel
def o_J5_newCapacity : List Cond := [.fieldLink RJ5 15 "java/lang/AbstractStringBuilder" "value" "[B", .fieldLink RJ5 22 "java/lang/AbstractStringBuilder" "coder" "B", .methodLink RJ5 114 yJ8_newLength_cabcc, .static yJ8_newLength_cabcc, .initialized RJ8, .constant RJ5 39 (2147483647)]
def v_J5_newCapacity : List Cond := .code yJ5_newCapacity_0f7a4 cJ5_newCapacity_0f7a4 6 (some .int) :: (o_J5_newCapacity ++ (wsJ40 ++ (v_J8_newLengthB ++ [])))
theorem mow_J5_newCapacity : ∀ w ∈ o_J5_newCapacity, w ∈ v_J5_newCapacity := fun _ h => List.mem_cons_of_mem _ (List.mem_append_left _ h)
theorem mem_J5_newCapacity_0 : ∀ w ∈ wsJ40, w ∈ v_J5_newCapacity := fun _ h => List.mem_cons_of_mem _ (List.mem_append_right _ (List.mem_append_left _ h))
theorem mem_J5_newCapacity_1 : ∀ w ∈ v_J8_newLengthB, w ∈ v_J5_newCapacity := fun _ h => List.mem_cons_of_mem _ (List.mem_append_right _ (List.mem_append_right _ (List.mem_append_left _ h)))
set_option maxRecDepth 20000 in
theorem gw_J5_newCapacity : v_J5_newCapacity.all goodWord = true := by decide +kernel
set_option maxRecDepth 20000 in
theorem g_J5_newCapacity_J8_newLengthB : GoodIn v_J5_newCapacity (va_wsS RJ5 114 yJ8_newLength_cabcc v_J8_newLengthB) := goodIn_app (goodIn_sub (fun w h => mow_J5_newCapacity w (by revert w h; decide +kernel)) (by decide +kernel)) (goodIn_sub mem_J5_newCapacity_1 gw_J8_newLengthB)
set_option maxHeartbeats 4000000 in
set_option maxRecDepth 100000 in
theorem c_J5_newCapacity (l : Launch) (dC : Nat → ClassId) (dI : Nat → Nat → Nat) (h0 : Nat) (r40_maybeLatin1 : Int32) (z40_count : Int) (q_sv : Nat) (cB : ClassId) (nb : Nat) (a_sb : Int → Int) (M : Int) (mn : Int) (hNz40_count : 0 ≤ z40_count ∧ z40_count ≤ 1000000) (hNnb : 16 ≤ nb ∧ nb ≤ M ∧ z40_count ≤ nb ∧ M ≤ 2000000) (hR_a_sb : ∀ j : Int, -128 ≤ a_sb j ∧ a_sb j ≤ 127) (hNm : (nb : Int) < mn ∧ mn ≤ 1000000) (sz : Nat) : Met l yJ5_newCapacity_0f7a4 v_J5_newCapacity ({ frames := 2, cells := 0, slots := 0, locals := 37 }) (va_Pc [.ref h0, .int (zI (mn))] (fun U => U.heap.size = sz ∧ va_P (dC, dI) vwQ [(h0, .inr (17, [.ref q_sv, .int 0, .int r40_maybeLatin1, .int (zI (z40_count))])), (q_sv, .inl (cB, nb, .inl (fun j : Nat => zI (a_sb (j : Int)))))] U.heap ∧ va_K (dC, dI) vwQ [(cB, .byte)] U ∧ va_D (fun _ => True) [(h0, .inr (17, [.ref q_sv, .int 0, .int r40_maybeLatin1, .int (zI (z40_count))])), (q_sv, .inl (cB, nb, .inl (fun j : Nat => zI (a_sb (j : Int)))))])) (va_Qi (fun (r : Int32) (_ : Unit) => ∃ z : Int, r = zI z ∧ (mn ≤ z ∧ 2 * (nb : Int) + 2 ≤ z ∧ (z = mn ∨ z = 2 * (nb : Int) + 2))) (fun (_ : Unit) (t : State) => va_P (dC, dI) vwQ [(h0, .inr (17, [.ref q_sv, .int 0, .int r40_maybeLatin1, .int (zI (z40_count))])), (q_sv, .inl (cB, nb, .inl (fun j : Nat => zI (a_sb (j : Int)))))] t.heap ∧ va_K (dC, dI) vwQ [(cB, .byte)] t ∧ va_D (va_A [(h0, .inr (17, [.ref q_sv, .int 0, .int r40_maybeLatin1, .int (zI (z40_count))])), (q_sv, .inl (cB, nb, .inl (fun j : Nat => zI (a_sb (j : Int)))))] sz) [(h0, .inr (17, [.ref q_sv, .int 0, .int r40_maybeLatin1, .int (zI (z40_count))])), (q_sv, .inl (cB, nb, .inl (fun j : Nat => zI (a_sb (j : Int)))))]) (va_A [(h0, .inr (17, [.ref q_sv, .int 0, .int r40_maybeLatin1, .int (zI (z40_count))])), (q_sv, .inl (cB, nb, .inl (fun j : Nat => zI (a_sb (j : Int)))))] sz)) 0 0 (va_A [(h0, .inr (17, [.ref q_sv, .int 0, .int r40_maybeLatin1, .int (zI (z40_count))])), (q_sv, .inl (cB, nb, .inl (fun j : Nat => zI (a_sb (j : Int)))))] sz) := by
  refine Met.ofW (cc := cJ5_newCapacity_0f7a4) (maxL := 6) (ret := (some .int)) (by decide) rfl ?_
  intro p e s m args below meth c s₁ B hml hv
  obtain ⟨rfl, hsz, hP, hK, hD0⟩ := hv
  have hx := B.exec
  have hb := B.bytes
  have hr := B.returns
  have hts := atoms_spec (ws := v_J5_newCapacity) B.pre
  have hown : s.vm.findClass RJ5 = some m.cls := findClass_of_methodNamed B.named
  have hlocks := B.notSynchronized
  have ow : ∀ {k : Nat} {w : Cond}, o_J5_newCapacity[k]? = some w → w.before ([.ref h0, .int (zI (mn))] : List Value).toArray s = true := fun h => hts _ (mow_J5_newCapacity _ (List.mem_of_getElem? h))
  subst hsz
  have hD := hD0.self (sz := s.heap.size)
  generalize hAe : va_A [(h0, .inr (17, [.ref q_sv, .int 0, .int r40_maybeLatin1, .int (zI (z40_count))])), (q_sv, .inl (cB, nb, .inl (fun j : Nat => zI (a_sb (j : Int)))))] s.heap.size = A at hD ⊢
  have hA : ∀ q : Nat, s.heap.size ≤ q → A q := fun q h => by rw [← hAe]; exact Or.inr h
  have hS : va_S A s.heap s.heap [] := va_S.rf
  have hP : va_P (dC, dI) vwQ [(h0, .inr (17, [.ref q_sv, .int 0, .int r40_maybeLatin1, .int (zI (z40_count))])), (q_sv, .inl (cB, nb, .inl (fun j : Nat => zI (a_sb (j : Int)))))] s.heap := hP
  have hl := lv_entry ([.ref h0, .int (zI (mn))]) (n := 6) (Nat.le_of_ble_eq_true rfl)
  rw [lg_entry_eq]
  generalize (lg_sl ([.ref h0, .int (zI (mn))]) ++ List.replicate (6 - (lg_sl ([.ref h0, .int (zI (mn))])).length) Slot.unset).toArray = ls at hl ⊢
  have hl : lv_has ls 6 [(0, .ref h0), (1, .int (zI (mn)))] := hl
  obtain ⟨H, hH⟩ : ∃ H, H = s.heap := ⟨_, rfl⟩
  rw [← hH] at hP
  have hS : va_S A s.heap H [] := by rw [hH]; exact hS
  rw [← hH]
  refine zW_cap (fun Q hQ => ?_)
  refine lv_aload_n hx hb dJ5_newCapacity_0f7a4_0 rfl (lv_at hl 0 rfl) ?_
  refine va_get (D := (dC, dI)) (ci := 17) (v := .ref q_sv) (C := RJ4) (T := TJ4) (N := 4) hx hb hts mem_J5_newCapacity_0 hown hK hP 0 rfl rfl 0 (by decide) (ow (k := 0) rfl) (fun _ h9 => h9) rfl dJ5_newCapacity_0f7a4_1 ?_
  refine va_alen (v := zI ((nb : Int))) hx hb hK hP 1 0 rfl rfl (zI_ofNat nb) dJ5_newCapacity_0f7a4_4 ?_
  refine lv_istore_n (lv' := [(2, .int (zI ((nb : Int)))), (0, .ref h0), (1, .int (zI (mn)))]) hx hb dJ5_newCapacity_0f7a4_5 rfl hl (by decide) rfl (fun ls hl => ?_)
  refine lv_iload_n hx hb dJ5_newCapacity_0f7a4_6 rfl (lv_at hl 2 rfl) ?_
  refine lv_aload_n hx hb dJ5_newCapacity_0f7a4_7 rfl (lv_at hl 1 rfl) ?_
  refine va_get (D := (dC, dI)) (ci := 17) (v := .int 0) (C := RJ4) (T := TJ4) (N := 4) hx hb hts mem_J5_newCapacity_0 hown hK hP 0 rfl rfl 1 (by decide) (ow (k := 1) rfl) (fun _ h9 => h9) rfl dJ5_newCapacity_0f7a4_8 ?_
  refine lv_ishl hx hb dJ5_newCapacity_0f7a4_11 ?_
  refine lv_topi (fun z ez => ?_)
  obtain rfl : z = zI (mn) := ez.trans (sb_shl0 _)
  refine lv_istore_n (lv' := [(3, .int (zI (mn))), (2, .int (zI ((nb : Int)))), (0, .ref h0), (1, .int (zI (mn)))]) hx hb dJ5_newCapacity_0f7a4_12 rfl hl (by decide) rfl (fun ls hl => ?_)
  refine lv_iload_n hx hb dJ5_newCapacity_0f7a4_13 rfl (lv_at hl 0 rfl) ?_
  refine lv_iload_n hx hb dJ5_newCapacity_0f7a4_14 rfl (lv_at hl 1 rfl) ?_
  refine lv_isub hx hb dJ5_newCapacity_0f7a4_15 ?_
  refine lv_topi (fun z ez => ?_)
  obtain rfl : z = zI (mn - ((nb : Int))) := ez.trans (zI_sub (mn) ((nb : Int)))
  refine lv_istore (lv' := [(4, .int (zI (mn - ((nb : Int))))), (3, .int (zI (mn))), (2, .int (zI ((nb : Int)))), (0, .ref h0), (1, .int (zI (mn)))]) hx hb dJ5_newCapacity_0f7a4_16 hl (by decide) rfl (fun ls hl => ?_)
  refine lv_iload_n hx hb dJ5_newCapacity_0f7a4_18 rfl (lv_at hl 2 rfl) ?_
  refine lv_iload hx hb dJ5_newCapacity_0f7a4_19 (lv_at hl 0 rfl) ?_
  refine lv_iload_n hx hb dJ5_newCapacity_0f7a4_21 rfl (lv_at hl 2 rfl) ?_
  refine lv_iconst (v := 2) hx hb dJ5_newCapacity_0f7a4_22 (by decide) ?_
  refine lv_aload_n hx hb dJ5_newCapacity_0f7a4_23 rfl (lv_at hl 3 rfl) ?_
  refine va_get (D := (dC, dI)) (ci := 17) (v := .int 0) (C := RJ4) (T := TJ4) (N := 4) hx hb hts mem_J5_newCapacity_0 hown hK hP 0 rfl rfl 1 (by decide) (ow (k := 1) rfl) (fun _ h9 => h9) rfl dJ5_newCapacity_0f7a4_24 ?_
  refine lv_ishl hx hb dJ5_newCapacity_0f7a4_27 ?_
  refine lv_topi (fun z ez => ?_)
  obtain rfl : z = 2 := ez.trans (sb_shl0 _)
  refine lv_iadd hx hb dJ5_newCapacity_0f7a4_28 ?_
  refine lv_topi (fun z ez => ?_)
  obtain rfl : z = zI (((nb : Int)) + 2) := ez.trans (zI_add ((nb : Int)) (2))
  have hPc := hP.sub (ws' := []) [] rfl
  have hDc := hD.sub (ws' := []) [] (by decide) rfl
  have hKc := hK.sub (tys' := []) [] rfl
  have hFc := va_free (wc := []) hD hS hA [] rfl
  refine va_calli (va_runS (As := [.int (zI ((nb : Int))), .int (zI (mn - ((nb : Int)))), .int (zI (((nb : Int)) + 2))]) (rest := []) ⟨hx, hb, hml, hown, hts⟩ (c_J8_newLengthB l dC dI ((nb : Int)) (mn - ((nb : Int))) (((nb : Int)) + 2) (by omega) H.size) (va_cwS 3 hts g_J5_newCapacity_J8_newLengthB rfl rfl rfl (by decide +kernel) ⟨(Nat.le_of_ble_eq_true rfl), (Nat.le_of_ble_eq_true rfl)⟩) ⟨fun a U g mk q => by obtain ⟨q0, q1, qP, qK, qD⟩ := q; exact ⟨q0, q1, qP, va_K.moved (u := U) (U := U.calling g mk a) (Vm.Alike.refl U.vm) qK, qD⟩, fun U hU hW => ⟨rfl, by rw [hU], by rw [hU]; exact hPc, va_K.moved hW.alike hKc, hDc.weaken (fun _ _ _ _ => trivial)⟩⟩ rfl rfl hl.1 rfl (lv_room (Nat.le_of_ble_eq_true rfl)) dJ5_newCapacity_0f7a4_29 ⟨(Nat.le_of_ble_eq_true rfl), (Nat.le_of_ble_eq_true rfl)⟩) hS (fun q _ h => hFc q h) hFc (fun r_1 u t H1 locs ht hvm hw hB hz1 hk1 hS => ?_)
  obtain ⟨hP1, hK1, hD1⟩ := hB
  rw [ht] at hP1
  have hK1 := va_K.moved hvm.symm hK1
  obtain ⟨hP, hD⟩ := va_join (wr := [(h0, .inr (17, [.ref q_sv, .int 0, .int r40_maybeLatin1, .int (zI (z40_count))])), (q_sv, .inl (cB, nb, .inl (fun j : Nat => zI (a_sb (j : Int)))))]) (w1 := []) hP hD [] [0, 1] rfl rfl (by decide) (by decide) hk1 hFc hP1 hD1
  have hK := (hK.sub (tys' := [(cB, .byte)]) [0] rfl).app hK1
  generalize H1 = H at hP hS ⊢
  have hP : va_P (dC, dI) vwQ [(h0, .inr (17, [.ref q_sv, .int 0, .int r40_maybeLatin1, .int (zI (z40_count))])), (q_sv, .inl (cB, nb, .inl (fun j : Nat => zI (a_sb (j : Int)))))] H := hP
  have hD : va_D A [(h0, .inr (17, [.ref q_sv, .int 0, .int r40_maybeLatin1, .int (zI (z40_count))])), (q_sv, .inl (cB, nb, .inl (fun j : Nat => zI (a_sb (j : Int)))))] := hD
  have hK : va_K (dC, dI) vwQ [(cB, .byte)] s := hK
  refine W.widen (k := 0) (n := 0) (Nat.le_of_ble_eq_true rfl) (Nat.le_of_ble_eq_true rfl) ?_
  have hw_2 := hw
  obtain ⟨z_3, rfl, hzz_3⟩ := hw_2
  refine lv_istore (lv' := [(5, .int (zI (z_3))), (4, .int (zI (mn - ((nb : Int))))), (3, .int (zI (mn))), (2, .int (zI ((nb : Int)))), (0, .ref h0), (1, .int (zI (mn)))]) hx hb dJ5_newCapacity_0f7a4_32 hl (by decide) rfl (fun ls hl => ?_)
  refine lv_iload hx hb dJ5_newCapacity_0f7a4_34 (lv_at hl 0 rfl) ?_
  refine lv_ldc (v := 2147483647) hx hb hown (ow (k := 5) rfl) dJ5_newCapacity_0f7a4_36 ?_
  refine lv_icmp_ne (tgt := 51) hx hb dJ5_newCapacity_0f7a4_38 (by decide) (fun b38 => ?_) (fun b38 => ?_)
  · have yb38 : ¬ (z_3 : Int) = (2147483647 : Int) := fun q => b38 ((zI_eq (a := z_3) (b := 2147483647) (by omega) (by omega) (by omega) (by omega)).mpr q)
    refine lv_iload hx hb dJ5_newCapacity_0f7a4_51 (lv_at hl 0 rfl) ?_
    refine lv_aload_n hx hb dJ5_newCapacity_0f7a4_53 rfl (lv_at hl 4 rfl) ?_
    refine va_get (D := (dC, dI)) (ci := 17) (v := .int 0) (C := RJ4) (T := TJ4) (N := 4) hx hb hts mem_J5_newCapacity_0 hown hK hP 0 rfl rfl 1 (by decide) (ow (k := 1) rfl) (fun _ h9 => h9) rfl dJ5_newCapacity_0f7a4_54 ?_
    refine lv_ishr hx hb dJ5_newCapacity_0f7a4_57 ?_
    refine lv_topi (fun z ez => ?_)
    obtain rfl : z = zI ((z_3) / 1) := ez.trans (zI_shr (a := z_3) (k := 0) (by omega) (by omega) (by decide))
    subst hQ
    refine W.widen (k := 0) (n := 0) (Nat.le_of_ble_eq_true rfl) (Nat.le_of_ble_eq_true rfl) ?_
    exact W.iret (v := (zI ((z_3) / 1))) hx hb hr (fun t ht hW => ⟨⟨(zI ((z_3) / 1)), (), rfl, ⟨(z_3) / 1, rfl, (by omega)⟩, by rw [ht]; exact hP, va_K.moved hW.alike hK, hD⟩, hS.F ht⟩) hS.2.2 dJ5_newCapacity_0f7a4_58
  · have yb38 : (z_3 : Int) = (2147483647 : Int) := (zI_eq (a := z_3) (b := 2147483647) (by omega) (by omega) (by omega) (by omega)).mp b38
    exfalso
    omega
theorem dJ5_ensureCapacityInternal_d00df_0 : decode cJ5_ensureCapacityInternal_d00df 0 = .ok (.aload_n 0, 1) := by decide +kernel
theorem dJ5_ensureCapacityInternal_d00df_1 : decode cJ5_ensureCapacityInternal_d00df 1 = .ok (.getfield 15, 3) := by decide +kernel
theorem dJ5_ensureCapacityInternal_d00df_4 : decode cJ5_ensureCapacityInternal_d00df 4 = .ok (.arraylength, 1) := by decide +kernel
theorem dJ5_ensureCapacityInternal_d00df_5 : decode cJ5_ensureCapacityInternal_d00df 5 = .ok (.aload_n 0, 1) := by decide +kernel
theorem dJ5_ensureCapacityInternal_d00df_6 : decode cJ5_ensureCapacityInternal_d00df 6 = .ok (.getfield 22, 3) := by decide +kernel
theorem dJ5_ensureCapacityInternal_d00df_9 : decode cJ5_ensureCapacityInternal_d00df 9 = .ok (.ishr, 1) := by decide +kernel
theorem dJ5_ensureCapacityInternal_d00df_10 : decode cJ5_ensureCapacityInternal_d00df 10 = .ok (.istore_n 2, 1) := by decide +kernel
theorem dJ5_ensureCapacityInternal_d00df_11 : decode cJ5_ensureCapacityInternal_d00df 11 = .ok (.iload_n 1, 1) := by decide +kernel
theorem dJ5_ensureCapacityInternal_d00df_12 : decode cJ5_ensureCapacityInternal_d00df 12 = .ok (.iload_n 2, 1) := by decide +kernel
theorem dJ5_ensureCapacityInternal_d00df_13 : decode cJ5_ensureCapacityInternal_d00df 13 = .ok (.isub, 1) := by decide +kernel
theorem dJ5_ensureCapacityInternal_d00df_14 : decode cJ5_ensureCapacityInternal_d00df 14 = .ok (.ifCond .le 24, 3) := by decide +kernel
theorem dJ5_ensureCapacityInternal_d00df_38 : decode cJ5_ensureCapacityInternal_d00df 38 = .ok (.return_, 1) := by decide +kernel
theorem dJ5_ensureCapacityInternal_d00df_17 : decode cJ5_ensureCapacityInternal_d00df 17 = .ok (.aload_n 0, 1) := by decide +kernel
theorem dJ5_ensureCapacityInternal_d00df_18 : decode cJ5_ensureCapacityInternal_d00df 18 = .ok (.aload_n 0, 1) := by decide +kernel
theorem dJ5_ensureCapacityInternal_d00df_19 : decode cJ5_ensureCapacityInternal_d00df 19 = .ok (.getfield 15, 3) := by decide +kernel
theorem dJ5_ensureCapacityInternal_d00df_22 : decode cJ5_ensureCapacityInternal_d00df 22 = .ok (.aload_n 0, 1) := by decide +kernel
theorem dJ5_ensureCapacityInternal_d00df_23 : decode cJ5_ensureCapacityInternal_d00df 23 = .ok (.iload_n 1, 1) := by decide +kernel
theorem dJ5_ensureCapacityInternal_d00df_24 : decode cJ5_ensureCapacityInternal_d00df 24 = .ok (.invokevirtual 104, 3) := by decide +kernel
theorem dJ5_ensureCapacityInternal_d00df_27 : decode cJ5_ensureCapacityInternal_d00df 27 = .ok (.aload_n 0, 1) := by decide +kernel
theorem dJ5_ensureCapacityInternal_d00df_28 : decode cJ5_ensureCapacityInternal_d00df 28 = .ok (.getfield 22, 3) := by decide +kernel
theorem dJ5_ensureCapacityInternal_d00df_31 : decode cJ5_ensureCapacityInternal_d00df 31 = .ok (.ishl, 1) := by decide +kernel
theorem dJ5_ensureCapacityInternal_d00df_32 : decode cJ5_ensureCapacityInternal_d00df 32 = .ok (.invokestatic 108, 3) := by decide +kernel
theorem dJ5_ensureCapacityInternal_d00df_35 : decode cJ5_ensureCapacityInternal_d00df 35 = .ok (.putfield 15, 3) := by decide +kernel
def o_J5_ensure : List Cond := [.fieldLink RJ5 15 "java/lang/AbstractStringBuilder" "value" "[B", .fieldLink RJ5 22 "java/lang/AbstractStringBuilder" "coder" "B", .methodLink RJ5 104 ⟨"java/lang/AbstractStringBuilder", "newCapacity", "(I)I"⟩, .sameMethod "java/lang/AbstractStringBuilder" "java/lang/AbstractStringBuilder" "newCapacity" "(I)I", .selects RJ4 ⟨"java/lang/AbstractStringBuilder", "newCapacity", "(I)I"⟩ yJ5_newCapacity_0f7a4, .instanceMethod yJ5_newCapacity_0f7a4, .initialized RJ5, .methodLink RJ5 108 yJ7_copyOf_9075b, .static yJ7_copyOf_9075b, .initialized RJ7]
def v_J5_ensure : List Cond := .code yJ5_ensureCapacityInternal_d00df cJ5_ensureCapacityInternal_d00df 3 none :: (o_J5_ensure ++ (wsJ40 ++ (v_J5_newCapacity ++ (v_J7_copyOfB ++ []))))
theorem mow_J5_ensure : ∀ w ∈ o_J5_ensure, w ∈ v_J5_ensure := fun _ h => List.mem_cons_of_mem _ (List.mem_append_left _ h)
theorem mem_J5_ensure_0 : ∀ w ∈ wsJ40, w ∈ v_J5_ensure := fun _ h => List.mem_cons_of_mem _ (List.mem_append_right _ (List.mem_append_left _ h))
theorem mem_J5_ensure_1 : ∀ w ∈ v_J5_newCapacity, w ∈ v_J5_ensure := fun _ h => List.mem_cons_of_mem _ (List.mem_append_right _ (List.mem_append_right _ (List.mem_append_left _ h)))
theorem mem_J5_ensure_2 : ∀ w ∈ v_J7_copyOfB, w ∈ v_J5_ensure := fun _ h => List.mem_cons_of_mem _ (List.mem_append_right _ (List.mem_append_right _ (List.mem_append_right _ (List.mem_append_left _ h))))
set_option maxRecDepth 20000 in
theorem gw_J5_ensure : v_J5_ensure.all goodWord = true := by decide +kernel
set_option maxRecDepth 20000 in
theorem g_J5_ensure_J5_newCapacity : GoodIn v_J5_ensure (va_wsU RJ5 104 RJ4 RJ5 ⟨"java/lang/AbstractStringBuilder", "newCapacity", "(I)I"⟩ yJ5_newCapacity_0f7a4 v_J5_newCapacity) := goodIn_app (goodIn_sub (fun w h => mow_J5_ensure w (by revert w h; decide +kernel)) (by decide +kernel)) (goodIn_sub mem_J5_ensure_1 gw_J5_newCapacity)
set_option maxRecDepth 20000 in
theorem g_J5_ensure_J7_copyOfB : GoodIn v_J5_ensure (va_wsS RJ5 108 yJ7_copyOf_9075b v_J7_copyOfB) := goodIn_app (goodIn_sub (fun w h => mow_J5_ensure w (by revert w h; decide +kernel)) (by decide +kernel)) (goodIn_sub mem_J5_ensure_2 gw_J7_copyOfB)
set_option maxHeartbeats 4000000 in
set_option maxRecDepth 100000 in
theorem c_J5_ensure (l : Launch) (dC : Nat → ClassId) (dI : Nat → Nat → Nat) (h0 : Nat) (r40_maybeLatin1 : Int32) (z40_count : Int) (q_sv : Nat) (cB : ClassId) (nb : Nat) (a_sb : Int → Int) (M : Int) (mn : Int) (hNz40_count : 0 ≤ z40_count ∧ z40_count ≤ 1000000) (hNnb : 16 ≤ nb ∧ nb ≤ M ∧ z40_count ≤ nb ∧ M ≤ 2000000) (hR_a_sb : ∀ j : Int, -128 ≤ a_sb j ∧ a_sb j ≤ 127) (hNm : 0 ≤ mn ∧ 2 * mn ≤ M) (sz : Nat) (HU : Heap) : Met l yJ5_ensureCapacityInternal_d00df v_J5_ensure ({ frames := 3, cells := (((M - (nb : Int)) / 18).toNat), slots := ((2 * (M - (nb : Int))).toNat), locals := 82 }) (va_Pc [.ref h0, .int (zI (mn))] (fun U => U.heap.size = sz ∧ va_P (dC, dI) vwQ [(h0, .inr (17, [.ref q_sv, .int 0, .int r40_maybeLatin1, .int (zI (z40_count))])), (q_sv, .inl (cB, nb, .inl (fun j : Nat => zI (a_sb (j : Int)))))] U.heap ∧ va_K (dC, dI) vwQ [(cB, .byte)] U ∧ va_D (fun _ => True) [(h0, .inr (17, [.ref q_sv, .int 0, .int r40_maybeLatin1, .int (zI (z40_count))])), (q_sv, .inl (cB, nb, .inl (fun j : Nat => zI (a_sb (j : Int)))))] ∧ U.heap = HU)) (va_Qv (fun _ : Unit => True) (fun (_ : Unit) (t : State) => ∃ (qn0_9 : Nat) (nn0_9 : Nat) (an0_9 : Int → Int) (kc_9 : Nat) (ks_9 : Nat), ((RM HU t.heap kc_9 ks_9 ∧ ((ks_9 : Int) ≤ 2 * ((nn0_9 : Int) - nb) ∧ 18 * (kc_9 : Int) ≤ (nn0_9 : Int) - nb)) ∧ ((∀ j : Int, -128 ≤ an0_9 j ∧ an0_9 j ≤ 127) ∧ ((nb : Int) ≤ nn0_9 ∧ (nn0_9 : Int) ≤ M ∧ mn ≤ nn0_9 ∧ ((nn0_9 : Int) = nb ∨ (nn0_9 : Int) ≤ 2 * mn) ∧ (∀ j : Int, 0 ≤ j → j < z40_count → an0_9 j = a_sb j)))) ∧ va_P (dC, dI) vwQ [(h0, .inr (17, [.ref qn0_9, .int 0, .int r40_maybeLatin1, .int (zI (z40_count))])), (qn0_9, .inl (cB, nn0_9, .inl (fun j : Nat => zI (an0_9 (j : Int)))))] t.heap ∧ va_K (dC, dI) vwQ [(cB, .byte)] t ∧ va_D (va_A [(h0, .inr (17, [.ref q_sv, .int 0, .int r40_maybeLatin1, .int (zI (z40_count))])), (q_sv, .inl (cB, nb, .inl (fun j : Nat => zI (a_sb (j : Int)))))] sz) [(h0, .inr (17, [.ref qn0_9, .int 0, .int r40_maybeLatin1, .int (zI (z40_count))])), (qn0_9, .inl (cB, nn0_9, .inl (fun j : Nat => zI (an0_9 (j : Int)))))]) (va_A [(h0, .inr (17, [.ref q_sv, .int 0, .int r40_maybeLatin1, .int (zI (z40_count))])), (q_sv, .inl (cB, nb, .inl (fun j : Nat => zI (a_sb (j : Int)))))] sz)) (((M - (nb : Int)) / 18).toNat) ((2 * (M - (nb : Int))).toNat) (va_A [(h0, .inr (17, [.ref q_sv, .int 0, .int r40_maybeLatin1, .int (zI (z40_count))])), (q_sv, .inl (cB, nb, .inl (fun j : Nat => zI (a_sb (j : Int)))))] sz) := by
  refine Met.ofW (cc := cJ5_ensureCapacityInternal_d00df) (maxL := 3) (ret := none) (by decide) rfl ?_
  intro p e s m args below meth c s₁ B hml hv
  obtain ⟨rfl, hsz, hP, hK, hD0, hp0⟩ := hv
  have hx := B.exec
  have hb := B.bytes
  have hr := B.returns
  have hts := atoms_spec (ws := v_J5_ensure) B.pre
  have hown : s.vm.findClass RJ5 = some m.cls := findClass_of_methodNamed B.named
  have hlocks := B.notSynchronized
  have ow : ∀ {k : Nat} {w : Cond}, o_J5_ensure[k]? = some w → w.before ([.ref h0, .int (zI (mn))] : List Value).toArray s = true := fun h => hts _ (mow_J5_ensure _ (List.mem_of_getElem? h))
  subst hsz
  have hD := hD0.self (sz := s.heap.size)
  generalize hAe : va_A [(h0, .inr (17, [.ref q_sv, .int 0, .int r40_maybeLatin1, .int (zI (z40_count))])), (q_sv, .inl (cB, nb, .inl (fun j : Nat => zI (a_sb (j : Int)))))] s.heap.size = A at hD ⊢
  have hA : ∀ q : Nat, s.heap.size ≤ q → A q := fun q h => by rw [← hAe]; exact Or.inr h
  have hS : va_S A s.heap s.heap [] := va_S.rf
  have hP : va_P (dC, dI) vwQ [(h0, .inr (17, [.ref q_sv, .int 0, .int r40_maybeLatin1, .int (zI (z40_count))])), (q_sv, .inl (cB, nb, .inl (fun j : Nat => zI (a_sb (j : Int)))))] s.heap := hP
  have hl := lv_entry ([.ref h0, .int (zI (mn))]) (n := 3) (Nat.le_of_ble_eq_true rfl)
  rw [lg_entry_eq]
  generalize (lg_sl ([.ref h0, .int (zI (mn))]) ++ List.replicate (3 - (lg_sl ([.ref h0, .int (zI (mn))])).length) Slot.unset).toArray = ls at hl ⊢
  have hl : lv_has ls 3 [(0, .ref h0), (1, .int (zI (mn)))] := hl
  obtain ⟨H, hH⟩ : ∃ H, H = s.heap := ⟨_, rfl⟩
  rw [← hH] at hP
  have hS : va_S A s.heap H [] := by rw [hH]; exact hS
  rw [← hH]
  refine zW_cap (fun Q hQ => ?_)
  refine lv_aload_n hx hb dJ5_ensureCapacityInternal_d00df_0 rfl (lv_at hl 0 rfl) ?_
  refine va_get (D := (dC, dI)) (ci := 17) (v := .ref q_sv) (C := RJ4) (T := TJ4) (N := 4) hx hb hts mem_J5_ensure_0 hown hK hP 0 rfl rfl 0 (by decide) (ow (k := 0) rfl) (fun _ h9 => h9) rfl dJ5_ensureCapacityInternal_d00df_1 ?_
  refine va_alen (v := zI ((nb : Int))) hx hb hK hP 1 0 rfl rfl (zI_ofNat nb) dJ5_ensureCapacityInternal_d00df_4 ?_
  refine lv_aload_n hx hb dJ5_ensureCapacityInternal_d00df_5 rfl (lv_at hl 0 rfl) ?_
  refine va_get (D := (dC, dI)) (ci := 17) (v := .int 0) (C := RJ4) (T := TJ4) (N := 4) hx hb hts mem_J5_ensure_0 hown hK hP 0 rfl rfl 1 (by decide) (ow (k := 1) rfl) (fun _ h9 => h9) rfl dJ5_ensureCapacityInternal_d00df_6 ?_
  refine lv_ishr hx hb dJ5_ensureCapacityInternal_d00df_9 ?_
  refine lv_topi (fun z ez => ?_)
  obtain rfl : z = zI (((nb : Int)) / 1) := ez.trans (zI_shr (a := (nb : Int)) (k := 0) (by omega) (by omega) (by decide))
  refine lv_istore_n (lv' := [(2, .int (zI (((nb : Int)) / 1))), (0, .ref h0), (1, .int (zI (mn)))]) hx hb dJ5_ensureCapacityInternal_d00df_10 rfl hl (by decide) rfl (fun ls hl => ?_)
  refine lv_iload_n hx hb dJ5_ensureCapacityInternal_d00df_11 rfl (lv_at hl 2 rfl) ?_
  refine lv_iload_n hx hb dJ5_ensureCapacityInternal_d00df_12 rfl (lv_at hl 0 rfl) ?_
  refine lv_isub hx hb dJ5_ensureCapacityInternal_d00df_13 ?_
  refine lv_topi (fun z ez => ?_)
  obtain rfl : z = zI (mn - (((nb : Int)) / 1)) := ez.trans (zI_sub (mn) (((nb : Int)) / 1))
  refine lv_if_le (tgt := 38) hx hb dJ5_ensureCapacityInternal_d00df_14 (by decide) (fun b14 => ?_) (fun b14 => ?_)
  · have yb14 : (mn - (((nb : Int)) / 1) : Int) ≤ (0 : Int) := (zI_le (a := mn - (((nb : Int)) / 1)) (b := 0) (by omega) (by omega) (by omega) (by omega)).mp b14
    subst hQ
    refine W_knowS (fun hrm9 => ?_)
    refine W.widen (k := (((M - (nb : Int)) / 18).toNat)) (n := ((2 * (M - (nb : Int))).toNat)) (by omega) (by omega) ?_
    exact W.vret hx hb hr (fun t ht hW => ⟨⟨(), rfl, trivial, q_sv, nb, a_sb, 0, 0, ⟨⟨(by rw [ht, ← hp0]; exact hrm9), (by omega)⟩, ⟨hR_a_sb, ⟨by omega, by omega, by omega, by omega, fun j _ _ => rfl⟩⟩⟩, by rw [ht]; exact hP, va_K.moved hW.alike hK, hD⟩, hS.F ht⟩) hS.2.2 dJ5_ensureCapacityInternal_d00df_38
  · have yb14 : ¬ (mn - (((nb : Int)) / 1) : Int) ≤ (0 : Int) := fun q => b14 ((zI_le (a := mn - (((nb : Int)) / 1)) (b := 0) (by omega) (by omega) (by omega) (by omega)).mpr q)
    refine lv_aload_n hx hb dJ5_ensureCapacityInternal_d00df_17 rfl (lv_at hl 1 rfl) ?_
    refine lv_aload_n hx hb dJ5_ensureCapacityInternal_d00df_18 rfl (lv_at hl 1 rfl) ?_
    refine va_get (D := (dC, dI)) (ci := 17) (v := .ref q_sv) (C := RJ4) (T := TJ4) (N := 4) hx hb hts mem_J5_ensure_0 hown hK hP 0 rfl rfl 0 (by decide) (ow (k := 0) rfl) (fun _ h9 => h9) rfl dJ5_ensureCapacityInternal_d00df_19 ?_
    refine lv_aload_n hx hb dJ5_ensureCapacityInternal_d00df_22 rfl (lv_at hl 1 rfl) ?_
    refine lv_iload_n hx hb dJ5_ensureCapacityInternal_d00df_23 rfl (lv_at hl 2 rfl) ?_
    have hPc := hP.sub (ws' := [(h0, .inr (17, [.ref q_sv, .int 0, .int r40_maybeLatin1, .int (zI (z40_count))])), (q_sv, .inl (cB, nb, .inl (fun j : Nat => zI (a_sb (j : Int)))))]) [0, 1] rfl
    have hDc := hD.sub (ws' := [(h0, .inr (17, [.ref q_sv, .int 0, .int r40_maybeLatin1, .int (zI (z40_count))])), (q_sv, .inl (cB, nb, .inl (fun j : Nat => zI (a_sb (j : Int)))))]) [0, 1] (by decide) rfl
    have hKc := hK.sub (tys' := [(cB, .byte)]) [0] rfl
    have hFc := va_free (wc := [(h0, .inr (17, [.ref q_sv, .int 0, .int r40_maybeLatin1, .int (zI (z40_count))])), (q_sv, .inl (cB, nb, .inl (fun j : Nat => zI (a_sb (j : Int)))))]) hD hS hA [0, 1] rfl
    refine va_calli (va_runU (As := [.int (zI (mn))]) (rest := [.ref q_sv, .ref h0]) ⟨hx, hb, hml, hown, hts⟩ (c_J5_newCapacity l dC dI h0 r40_maybeLatin1 z40_count q_sv cB nb a_sb M mn (by omega) (by omega) hR_a_sb (by omega) H.size) (va_cwU (C := RJ4) (owner := RJ5) (x := ⟨"java/lang/AbstractStringBuilder", "newCapacity", "(I)I"⟩) 1 hts g_J5_ensure_J5_newCapacity rfl rfl rfl rfl (by decide +kernel) ⟨(Nat.le_of_ble_eq_true rfl), (Nat.le_of_ble_eq_true rfl)⟩) ⟨fun a U g mk q => by obtain ⟨q0, q1, qP, qK, qD⟩ := q; exact ⟨q0, q1, qP, va_K.moved (u := U) (U := U.calling g mk a) (Vm.Alike.refl U.vm) qK, qD⟩, va_recv hKc hPc (ci := 17) (q0 := 0) rfl rfl, fun U hU hW => ⟨rfl, by rw [hU], by rw [hU]; exact hPc, va_K.moved hW.alike hKc, hDc.weaken (fun _ _ _ _ => trivial)⟩⟩ rfl rfl hl.1 rfl (lv_room (Nat.le_of_ble_eq_true rfl)) dJ5_ensureCapacityInternal_d00df_24 ⟨(Nat.zero_le _), (Nat.zero_le _)⟩) hS (fun q _ h => hFc q h) hFc (fun r_1 u t H1 locs ht hvm hw hB hz1 hk1 hS => ?_)
    obtain ⟨hP1, hK1, hD1⟩ := hB
    rw [ht] at hP1
    have hK1 := va_K.moved hvm.symm hK1
    obtain ⟨hP, hD⟩ := va_join (wr := []) (w1 := [(h0, .inr (17, [.ref q_sv, .int 0, .int r40_maybeLatin1, .int (zI (z40_count))])), (q_sv, .inl (cB, nb, .inl (fun j : Nat => zI (a_sb (j : Int)))))]) hP hD [0, 1] [] rfl rfl (by decide) (by decide) hk1 hFc hP1 hD1
    have hK := (hK.sub (tys' := []) [] rfl).app hK1
    generalize H1 = H at hP hS ⊢
    have hP : va_P (dC, dI) vwQ [(h0, .inr (17, [.ref q_sv, .int 0, .int r40_maybeLatin1, .int (zI (z40_count))])), (q_sv, .inl (cB, nb, .inl (fun j : Nat => zI (a_sb (j : Int)))))] H := hP
    have hD : va_D A [(h0, .inr (17, [.ref q_sv, .int 0, .int r40_maybeLatin1, .int (zI (z40_count))])), (q_sv, .inl (cB, nb, .inl (fun j : Nat => zI (a_sb (j : Int)))))] := hD
    have hK : va_K (dC, dI) vwQ [(cB, .byte)] s := hK
    refine W.widen (k := 0) (n := 0) (Nat.le_of_ble_eq_true rfl) (Nat.le_of_ble_eq_true rfl) ?_
    have hw_2 := hw
    obtain ⟨z_3, rfl, hzz_3⟩ := hw_2
    refine lv_aload_n hx hb dJ5_ensureCapacityInternal_d00df_27 rfl (lv_at hl 1 rfl) ?_
    refine va_get (D := (dC, dI)) (ci := 17) (v := .int 0) (C := RJ4) (T := TJ4) (N := 4) hx hb hts mem_J5_ensure_0 hown hK hP 0 rfl rfl 1 (by decide) (ow (k := 1) rfl) (fun _ h9 => h9) rfl dJ5_ensureCapacityInternal_d00df_28 ?_
    refine lv_ishl hx hb dJ5_ensureCapacityInternal_d00df_31 ?_
    refine lv_topi (fun z ez => ?_)
    obtain rfl : z = zI (z_3) := ez.trans (sb_shl0 _)
    have hPc := hP.sub (ws' := [(q_sv, .inl (cB, nb, .inl (fun j : Nat => zI (a_sb (j : Int)))))]) [1] rfl
    have hDc := hD.sub (ws' := [(q_sv, .inl (cB, nb, .inl (fun j : Nat => zI (a_sb (j : Int)))))]) [1] (by decide) rfl
    have hKc := hK.sub (tys' := [(cB, .byte)]) [0] rfl
    have hFc := va_free (wc := [(q_sv, .inl (cB, nb, .inl (fun j : Nat => zI (a_sb (j : Int)))))]) hD hS hA [1] rfl
    refine va_callr (va_runS (As := [.ref q_sv, .int (zI (z_3))]) (rest := [.ref h0]) ⟨hx, hb, hml, hown, hts⟩ (c_J7_copyOfB l dC dI q_sv cB nb a_sb z_3 (by omega) hR_a_sb (by omega) H.size) (va_cwS 2 hts g_J5_ensure_J7_copyOfB rfl rfl rfl (by decide +kernel) ⟨(Nat.le_of_ble_eq_true rfl), (Nat.le_of_ble_eq_true rfl)⟩) ⟨fun a U g mk q => by obtain ⟨q0, q1, qP, qK, qD⟩ := q; exact ⟨q0, q1, qP, va_K.moved (u := U) (U := U.calling g mk a) (Vm.Alike.refl U.vm) qK, qD⟩, fun U hU hW => ⟨rfl, by rw [hU], by rw [hU]; exact hPc, va_K.moved hW.alike hKc, hDc.weaken (fun _ _ _ _ => trivial)⟩⟩ rfl rfl hl.1 rfl (lv_room (Nat.le_of_ble_eq_true rfl)) dJ5_ensureCapacityInternal_d00df_32 ⟨(show 0 + (1) ≤ ((M - (nb : Int)) / 18).toNat from (by omega)), (show 0 + ((z_3).toNat) ≤ (2 * (M - (nb : Int))).toNat from (by omega))⟩) hS (fun q _ h => hFc q h) hFc (fun u q_4 t H1 locs ht hvm hw hB hz1 hk1 hS => ?_)
    obtain ⟨cn_5, nn_6, fn_7, hxt_7, hP1, hK1, hD1⟩ := hB
    rw [ht] at hP1
    have hK1 := va_K.moved hvm.symm hK1
    obtain ⟨hP, hD⟩ := va_join (wr := [(h0, .inr (17, [.ref q_sv, .int 0, .int r40_maybeLatin1, .int (zI (z40_count))]))]) (w1 := [(q_sv, .inl (cB, nb, .inl (fun j : Nat => zI (a_sb (j : Int))))), (q_4, .inl (cn_5, nn_6, .inl (fun j : Nat => zI (fn_7 (j : Int)))))]) hP hD [1] [0] rfl rfl (by decide) (by decide) hk1 hFc hP1 hD1
    have hK := (hK.sub (tys' := []) [] rfl).app hK1
    generalize H1 = H at hP hS ⊢
    have hP : va_P (dC, dI) vwQ [(h0, .inr (17, [.ref q_sv, .int 0, .int r40_maybeLatin1, .int (zI (z40_count))])), (q_sv, .inl (cB, nb, .inl (fun j : Nat => zI (a_sb (j : Int))))), (q_4, .inl (cn_5, nn_6, .inl (fun j : Nat => zI (fn_7 (j : Int)))))] H := hP
    have hD : va_D A [(h0, .inr (17, [.ref q_sv, .int 0, .int r40_maybeLatin1, .int (zI (z40_count))])), (q_sv, .inl (cB, nb, .inl (fun j : Nat => zI (a_sb (j : Int))))), (q_4, .inl (cn_5, nn_6, .inl (fun j : Nat => zI (fn_7 (j : Int)))))] := hD
    have hK : va_K (dC, dI) vwQ [(cB, .byte), (cn_5, .byte)] s := hK
    refine W.widen (k := (0 + (1))) (n := (0 + ((z_3).toNat))) (by omega) (by omega) ?_
    have hcb := hxt_7
    have hcn := hcb.1
    skip
    refine va_put (D := (dC, dI)) (ci := 17) (v := .ref q_4) (ty := .array .byte) (C := RJ4) (T := TJ4) (N := 4) hx hb hts mem_J5_ensure_0 tyJ4 tyJ4_ok nmJ4 hown hK hP hD hS 0 rfl rfl 0 (by decide) (ow (k := 0) rfl) (fun _ h9 => h9) rfl (by decide +kernel) rfl rfl (by first | exact Nat.le_of_ble_eq_true rfl | exact (show (0 + (1)) ≤ ((M - (nb : Int)) / 18).toNat from (by omega)) | exact (show (0 + ((z_3).toNat)) ≤ (2 * (M - (nb : Int))).toNat from (by omega))) dJ5_ensureCapacityInternal_d00df_35 (fun H locs hP hD hS => ?_)
    have hP : va_P (dC, dI) vwQ [(h0, .inr (17, [.ref q_4, .int 0, .int r40_maybeLatin1, .int (zI (z40_count))])), (q_sv, .inl (cB, nb, .inl (fun j : Nat => zI (a_sb (j : Int))))), (q_4, .inl (cn_5, nn_6, .inl (fun j : Nat => zI (fn_7 (j : Int)))))] H := hP
    have hD : va_D A [(h0, .inr (17, [.ref q_4, .int 0, .int r40_maybeLatin1, .int (zI (z40_count))])), (q_sv, .inl (cB, nb, .inl (fun j : Nat => zI (a_sb (j : Int))))), (q_4, .inl (cn_5, nn_6, .inl (fun j : Nat => zI (fn_7 (j : Int)))))] := hD
    subst hQ
    obtain rfl : cB = cn_5 := cls_eqB hK 0 1 rfl rfl
    have hP : va_P (dC, dI) vwQ [(h0, .inr (17, [.ref q_4, .int 0, .int r40_maybeLatin1, .int (zI (z40_count))])), (q_sv, .inl (cB, nb, .inl (fun j : Nat => zI (a_sb (j : Int))))), (q_4, .inl (cB, nn_6, .inl (fun j : Nat => zI (fn_7 (j : Int)))))] H := hP
    have hD : va_D A [(h0, .inr (17, [.ref q_4, .int 0, .int r40_maybeLatin1, .int (zI (z40_count))])), (q_sv, .inl (cB, nb, .inl (fun j : Nat => zI (a_sb (j : Int))))), (q_4, .inl (cB, nn_6, .inl (fun j : Nat => zI (fn_7 (j : Int)))))] := hD
    have hK := hK.sub (tys' := [(cB, .byte)]) [0] rfl
    have hP := hP.sub (ws' := [(h0, .inr (17, [.ref q_4, .int 0, .int r40_maybeLatin1, .int (zI (z40_count))])), (q_4, .inl (cB, nn_6, .inl (fun j : Nat => zI (fn_7 (j : Int)))))]) [0, 2] rfl
    have hD := hD.sub (ws' := [(h0, .inr (17, [.ref q_4, .int 0, .int r40_maybeLatin1, .int (zI (z40_count))])), (q_4, .inl (cB, nn_6, .inl (fun j : Nat => zI (fn_7 (j : Int)))))]) [0, 2] (by decide) rfl
    refine W_knowS (fun hrm9 => ?_)
    refine W.widen (k := (((M - (nb : Int)) / 18).toNat)) (n := ((2 * (M - (nb : Int))).toNat)) (by omega) (by omega) ?_
    exact W.vret hx hb hr (fun t ht hW => ⟨⟨(), rfl, trivial, q_4, nn_6, fn_7, (0 + (1)), (0 + ((z_3).toNat)), ⟨⟨(by rw [ht, ← hp0]; exact hrm9), (by omega)⟩, ⟨hcb.2.1, ⟨by omega, by omega, by omega, by omega, fun j j0 j1 => hcb.2.2 j j0 (by omega)⟩⟩⟩, by rw [ht]; exact hP, va_K.moved hW.alike hK, hD⟩, hS.F ht⟩) hS.2.2 dJ5_ensureCapacityInternal_d00df_38
