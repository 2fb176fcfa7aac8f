theorem dJ5_getValue_6d5f1_0 : decode cJ5_getValue_6d5f1 0 = .ok (.aload_n 0, 1) := by decide +kernel
theorem dJ5_getValue_6d5f1_1 : decode cJ5_getValue_6d5f1 1 = .ok (.getfield 15, 3) := by decide +kernel
theorem dJ5_getValue_6d5f1_4 : decode cJ5_getValue_6d5f1 4 = .ok (.areturn, 1) := by decide +kernel
def o_J5_getValue : List Cond := [.fieldLink RJ5 15 "java/lang/AbstractStringBuilder" "value" "[B"]
def v_J5_getValue : List Cond := .code yJ5_getValue_6d5f1 cJ5_getValue_6d5f1 1 (some (.array .byte)) :: (o_J5_getValue ++ (wsJ40 ++ []))
theorem mow_J5_getValue : ∀ w ∈ o_J5_getValue, w ∈ v_J5_getValue := fun _ h => List.mem_cons_of_mem _ (List.mem_append_left _ h)
theorem mem_J5_getValue_0 : ∀ w ∈ wsJ40, w ∈ v_J5_getValue := fun _ h => List.mem_cons_of_mem _ (List.mem_append_right _ (List.mem_append_left _ h))
set_option maxRecDepth 20000 in
theorem gw_J5_getValue : v_J5_getValue.all goodWord = true := by decide +kernel
set_option maxHeartbeats 4000000 in
set_option maxRecDepth 100000 in
theorem c_J5_getValue (l : Launch) (dC : Nat → ClassId) (dI : Nat → Nat → Nat) (h0 : Nat) (r40_maybeLatin1 : Int32) (z40_count : Int) (q_sv : Nat) (cB : ClassId) (nb : Nat) (a_sb : Int → Int) (M : Int) (hNz40_count : 0 ≤ z40_count ∧ z40_count ≤ 1000000) (hNnb : 16 ≤ nb ∧ nb ≤ M ∧ z40_count ≤ nb ∧ M ≤ 2000000) (hR_a_sb : ∀ j : Int, -128 ≤ a_sb j ∧ a_sb j ≤ 127) (sz : Nat) : Met l yJ5_getValue_6d5f1 v_J5_getValue ({ frames := 0, cells := 0, slots := 0, locals := 0 }) (va_Pc [.ref h0] (fun U => U.heap.size = sz ∧ va_P (dC, dI) vwQ [(h0, .inr (17, [.ref q_sv, .int 0, .int r40_maybeLatin1, .int (zI (z40_count))])), (q_sv, .inl (cB, nb, .inl (fun j : Nat => zI (a_sb (j : Int)))))] U.heap ∧ va_K (dC, dI) vwQ [(cB, .byte)] U ∧ va_D (fun _ => True) [(h0, .inr (17, [.ref q_sv, .int 0, .int r40_maybeLatin1, .int (zI (z40_count))])), (q_sv, .inl (cB, nb, .inl (fun j : Nat => zI (a_sb (j : Int)))))])) (va_Qr (fun _ : Unit => True) (fun (_ : Unit) (rq : Nat) (t : State) => (rq = q_sv) ∧ va_P (dC, dI) vwQ [(h0, .inr (17, [.ref q_sv, .int 0, .int r40_maybeLatin1, .int (zI (z40_count))])), (q_sv, .inl (cB, nb, .inl (fun j : Nat => zI (a_sb (j : Int)))))] t.heap ∧ va_K (dC, dI) vwQ [(cB, .byte)] t ∧ va_D (va_A [(h0, .inr (17, [.ref q_sv, .int 0, .int r40_maybeLatin1, .int (zI (z40_count))])), (q_sv, .inl (cB, nb, .inl (fun j : Nat => zI (a_sb (j : Int)))))] sz) [(h0, .inr (17, [.ref q_sv, .int 0, .int r40_maybeLatin1, .int (zI (z40_count))])), (q_sv, .inl (cB, nb, .inl (fun j : Nat => zI (a_sb (j : Int)))))]) (va_A [(h0, .inr (17, [.ref q_sv, .int 0, .int r40_maybeLatin1, .int (zI (z40_count))])), (q_sv, .inl (cB, nb, .inl (fun j : Nat => zI (a_sb (j : Int)))))] sz)) 0 0 (va_A [(h0, .inr (17, [.ref q_sv, .int 0, .int r40_maybeLatin1, .int (zI (z40_count))])), (q_sv, .inl (cB, nb, .inl (fun j : Nat => zI (a_sb (j : Int)))))] sz) := by
  refine Met.ofW (cc := cJ5_getValue_6d5f1) (maxL := 1) (ret := (some (.array .byte))) (by decide) rfl ?_
  intro p e s m args below meth c s₁ B hml hv
  obtain ⟨rfl, hsz, hP, hK, hD0⟩ := hv
  have hx := B.exec
  have hb := B.bytes
  have hr := B.returns
  have hts := atoms_spec (ws := v_J5_getValue) B.pre
  have hown : s.vm.findClass RJ5 = some m.cls := findClass_of_methodNamed B.named
  have hlocks := B.notSynchronized
  have ow : ∀ {k : Nat} {w : Cond}, o_J5_getValue[k]? = some w → w.before ([.ref h0] : List Value).toArray s = true := fun h => hts _ (mow_J5_getValue _ (List.mem_of_getElem? h))
  subst hsz
  have hD := hD0.self (sz := s.heap.size)
  generalize hAe : va_A [(h0, .inr (17, [.ref q_sv, .int 0, .int r40_maybeLatin1, .int (zI (z40_count))])), (q_sv, .inl (cB, nb, .inl (fun j : Nat => zI (a_sb (j : Int)))))] s.heap.size = A at hD ⊢
  have hA : ∀ q : Nat, s.heap.size ≤ q → A q := fun q h => by rw [← hAe]; exact Or.inr h
  have hS : va_S A s.heap s.heap [] := va_S.rf
  have hP : va_P (dC, dI) vwQ [(h0, .inr (17, [.ref q_sv, .int 0, .int r40_maybeLatin1, .int (zI (z40_count))])), (q_sv, .inl (cB, nb, .inl (fun j : Nat => zI (a_sb (j : Int)))))] s.heap := hP
  have hl := lv_entry ([.ref h0]) (n := 1) (Nat.le_of_ble_eq_true rfl)
  rw [lg_entry_eq]
  generalize (lg_sl ([.ref h0]) ++ List.replicate (1 - (lg_sl ([.ref h0])).length) Slot.unset).toArray = ls at hl ⊢
  have hl : lv_has ls 1 [(0, .ref h0)] := hl
  obtain ⟨H, hH⟩ : ∃ H, H = s.heap := ⟨_, rfl⟩
  rw [← hH] at hP
  have hS : va_S A s.heap H [] := by rw [hH]; exact hS
  rw [← hH]
  refine zW_cap (fun Q hQ => ?_)
  refine lv_aload_n hx hb dJ5_getValue_6d5f1_0 rfl (lv_at hl 0 rfl) ?_
  refine va_get (D := (dC, dI)) (ci := 17) (v := .ref q_sv) (C := RJ4) (T := TJ4) (N := 4) hx hb hts mem_J5_getValue_0 hown hK hP 0 rfl rfl 0 (by decide) (ow (k := 0) rfl) (fun _ h9 => h9) rfl dJ5_getValue_6d5f1_1 ?_
  subst hQ
  refine W.widen (k := 0) (n := 0) (Nat.le_of_ble_eq_true rfl) (Nat.le_of_ble_eq_true rfl) ?_
  exact W.aret (v := .ref q_sv) hx hb hr (Or.inr ⟨_, rfl⟩) (Or.inr ⟨_, rfl⟩) (fun t ht hW => ⟨⟨(), q_sv, rfl, trivial, rfl, by rw [ht]; exact hP, va_K.moved hW.alike hK, hD⟩, hS.F ht⟩) hS.2.2 dJ5_getValue_6d5f1_4
theorem dJ0_init_db425_0 : decode cJ0_init_db425 0 = .ok (.aload_n 0, 1) := by decide +kernel
theorem dJ0_init_db425_1 : decode cJ0_init_db425 1 = .ok (.invokespecial 1, 3) := by decide +kernel
theorem dJ0_init_db425_4 : decode cJ0_init_db425 4 = .ok (.aload_n 1, 1) := by decide +kernel
theorem dJ0_init_db425_5 : decode cJ0_init_db425 5 = .ok (.invokevirtual 552, 3) := by decide +kernel
theorem dJ0_init_db425_8 : decode cJ0_init_db425 8 = .ok (.astore_n 3, 1) := by decide +kernel
theorem dJ0_init_db425_9 : decode cJ0_init_db425 9 = .ok (.aload_n 1, 1) := by decide +kernel
theorem dJ0_init_db425_10 : decode cJ0_init_db425 10 = .ok (.invokevirtual 549, 3) := by decide +kernel
theorem dJ0_init_db425_13 : decode cJ0_init_db425 13 = .ok (.istore 4, 2) := by decide +kernel
theorem dJ0_init_db425_15 : decode cJ0_init_db425 15 = .ok (.aload_n 1, 1) := by decide +kernel
theorem dJ0_init_db425_16 : decode cJ0_init_db425 16 = .ok (.invokevirtual 1047, 3) := by decide +kernel
theorem dJ0_init_db425_19 : decode cJ0_init_db425 19 = .ok (.ifCond .eq 22, 3) := by decide +kernel
theorem dJ0_init_db425_22 : decode cJ0_init_db425 22 = .ok (.aload_n 0, 1) := by decide +kernel
theorem dJ0_init_db425_23 : decode cJ0_init_db425 23 = .ok (.iconst 0, 1) := by decide +kernel
theorem dJ0_init_db425_24 : decode cJ0_init_db425 24 = .ok (.putfield 15, 3) := by decide +kernel
theorem dJ0_init_db425_27 : decode cJ0_init_db425 27 = .ok (.aload_n 0, 1) := by decide +kernel
theorem dJ0_init_db425_28 : decode cJ0_init_db425 28 = .ok (.aload_n 3, 1) := by decide +kernel
theorem dJ0_init_db425_29 : decode cJ0_init_db425 29 = .ok (.iconst 0, 1) := by decide +kernel
theorem dJ0_init_db425_30 : decode cJ0_init_db425 30 = .ok (.iload 4, 2) := by decide +kernel
theorem dJ0_init_db425_32 : decode cJ0_init_db425 32 = .ok (.invokestatic 54, 3) := by decide +kernel
theorem dJ0_init_db425_35 : decode cJ0_init_db425 35 = .ok (.putfield 9, 3) := by decide +kernel
theorem dJ0_init_db425_38 : decode cJ0_init_db425 38 = .ok (.goto 59, 3) := by decide +kernel
theorem dJ0_init_db425_97 : decode cJ0_init_db425 97 = .ok (.return_, 1) := by decide +kernel
def o_J0_initA : List Cond := [.methodLink RJ0 1 objectInit, .instanceMethod objectInit, .code objectInit ⟨#[0xb1]⟩ 1 none, .methodLink RJ0 552 ⟨"java/lang/AbstractStringBuilder", "getValue", "()[B"⟩, .sameMethod "java/lang/AbstractStringBuilder" "java/lang/AbstractStringBuilder" "getValue" "()[B", .selects RJ4 ⟨"java/lang/AbstractStringBuilder", "getValue", "()[B"⟩ yJ5_getValue_6d5f1, .instanceMethod yJ5_getValue_6d5f1, .initialized RJ5, .methodLink RJ0 549 ⟨"java/lang/AbstractStringBuilder", "length", "()I"⟩, .sameMethod "java/lang/AbstractStringBuilder" "java/lang/AbstractStringBuilder" "length" "()I", .instanceMethod ⟨"java/lang/AbstractStringBuilder", "length", "()I"⟩, .selects RJ4 ⟨"java/lang/AbstractStringBuilder", "length", "()I"⟩ yJ4_length_8abf5, .instanceMethod yJ4_length_8abf5, .initialized RJ4, .code yJ5_length_8abf5 cJ5_length_8abf5 1 (some .int), .methodLink RJ0 1047 ⟨"java/lang/AbstractStringBuilder", "isLatin1", "()Z"⟩, .sameMethod "java/lang/AbstractStringBuilder" "java/lang/AbstractStringBuilder" "isLatin1" "()Z", .selects RJ4 ⟨"java/lang/AbstractStringBuilder", "isLatin1", "()Z"⟩ yJ5_isLatin1_aae02, .instanceMethod yJ5_isLatin1_aae02, .fieldLink RJ0 15 "java/lang/String" "coder" "B", .methodLink RJ0 54 yJ7_copyOfRange_39247, .static yJ7_copyOfRange_39247, .initialized RJ7, .fieldLink RJ0 9 "java/lang/String" "value" "[B"]
def v_J0_initA : List Cond := .code yJ0_init_db425 cJ0_init_db425 5 none :: (o_J0_initA ++ (v_J5_getValue ++ (v_J4_length ++ (v_J5_isLatin1 ++ (wsJ00 ++ (v_J7_copyOfRange ++ []))))))
theorem mow_J0_initA : ∀ w ∈ o_J0_initA, w ∈ v_J0_initA := fun _ h => List.mem_cons_of_mem _ (List.mem_append_left _ h)
theorem mem_J0_initA_0 : ∀ w ∈ v_J5_getValue, w ∈ v_J0_initA := fun _ h => List.mem_cons_of_mem _ (List.mem_append_right _ (List.mem_append_left _ h))
theorem mem_J0_initA_1 : ∀ w ∈ v_J4_length, w ∈ v_J0_initA := fun _ h => List.mem_cons_of_mem _ (List.mem_append_right _ (List.mem_append_right _ (List.mem_append_left _ h)))
theorem mem_J0_initA_2 : ∀ w ∈ v_J5_isLatin1, w ∈ v_J0_initA := fun _ h => List.mem_cons_of_mem _ (List.mem_append_right _ (List.mem_append_right _ (List.mem_append_right _ (List.mem_append_left _ h))))
theorem mem_J0_initA_3 : ∀ w ∈ wsJ00, w ∈ v_J0_initA := fun _ h => List.mem_cons_of_mem _ (List.mem_append_right _ (List.mem_append_right _ (List.mem_append_right _ (List.mem_append_right _ (List.mem_append_left _ h)))))
theorem mem_J0_initA_4 : ∀ w ∈ v_J7_copyOfRange, w ∈ v_J0_initA := fun _ h => List.mem_cons_of_mem _ (List.mem_append_right _ (List.mem_append_right _ (List.mem_append_right _ (List.mem_append_right _ (List.mem_append_right _ (List.mem_append_left _ h))))))
set_option maxRecDepth 20000 in
theorem gw_J0_initA : v_J0_initA.all goodWord = true := by decide +kernel
set_option maxRecDepth 20000 in
theorem g_J0_initA_J5_getValue : GoodIn v_J0_initA (va_wsU RJ0 552 RJ4 RJ5 ⟨"java/lang/AbstractStringBuilder", "getValue", "()[B"⟩ yJ5_getValue_6d5f1 v_J5_getValue) := goodIn_app (goodIn_sub (fun w h => mow_J0_initA w (by revert w h; decide +kernel)) (by decide +kernel)) (goodIn_sub mem_J0_initA_0 gw_J5_getValue)
set_option maxRecDepth 20000 in
theorem g_J0_initA_J4_length : GoodIn v_J0_initA (va_wsO RJ0 549 RJ4 RJ5 ⟨"java/lang/AbstractStringBuilder", "length", "()I"⟩ yJ4_length_8abf5 v_J4_length) := goodIn_app (goodIn_sub (fun w h => mow_J0_initA w (by revert w h; decide +kernel)) (by decide +kernel)) (goodIn_sub mem_J0_initA_1 gw_J4_length)
set_option maxRecDepth 20000 in
theorem g_J0_initA_J5_isLatin1 : GoodIn v_J0_initA (va_wsU RJ0 1047 RJ4 RJ5 ⟨"java/lang/AbstractStringBuilder", "isLatin1", "()Z"⟩ yJ5_isLatin1_aae02 v_J5_isLatin1) := goodIn_app (goodIn_sub (fun w h => mow_J0_initA w (by revert w h; decide +kernel)) (by decide +kernel)) (goodIn_sub mem_J0_initA_2 gw_J5_isLatin1)
set_option maxRecDepth 20000 in
theorem g_J0_initA_J7_copyOfRange : GoodIn v_J0_initA (va_wsS RJ0 54 yJ7_copyOfRange_39247 v_J7_copyOfRange) := goodIn_app (goodIn_sub (fun w h => mow_J0_initA w (by revert w h; decide +kernel)) (by decide +kernel)) (goodIn_sub mem_J0_initA_4 gw_J7_copyOfRange)
set_option maxHeartbeats 4000000 in
set_option maxRecDepth 100000 in
theorem c_J0_initA (l : Launch) (dC : Nat → ClassId) (dI : Nat → Nat → Nat) (h0 : Nat) (hs : Nat) (r40_maybeLatin1 : Int32) (z40_count : Int) (q_sv : Nat) (cB : ClassId) (nb : Nat) (a_sb : Int → Int) (M : Int) (hNz40_count : 0 ≤ z40_count ∧ z40_count ≤ 1000000) (hNnb : 16 ≤ nb ∧ nb ≤ M ∧ z40_count ≤ nb ∧ M ≤ 2000000) (hR_a_sb : ∀ j : Int, -128 ≤ a_sb j ∧ a_sb j ≤ 127) (hNc : z40_count ≤ 900000) (sz : Nat) : Met l yJ0_init_db425 v_J0_initA ({ frames := 3, cells := (1), slots := ((z40_count).toNat), locals := 106 }) (va_Pc [.ref h0, .ref hs, .null] (fun U => U.heap.size = sz ∧ va_P (dC, dI) vwQ [(h0, .inr (22, [.null, .int 0, .int 0, .int 0])), (hs, .inr (17, [.ref q_sv, .int 0, .int r40_maybeLatin1, .int (zI (z40_count))])), (q_sv, .inl (cB, nb, .inl (fun j : Nat => zI (a_sb (j : Int)))))] U.heap ∧ va_K (dC, dI) vwQ [(cB, .byte)] U ∧ va_D (fun _ => True) [(h0, .inr (22, [.null, .int 0, .int 0, .int 0])), (hs, .inr (17, [.ref q_sv, .int 0, .int r40_maybeLatin1, .int (zI (z40_count))])), (q_sv, .inl (cB, nb, .inl (fun j : Nat => zI (a_sb (j : Int)))))] ∧ va_Z "java/lang/String" "COMPACT_STRINGS" "Z" (.int 1) (va_A [(h0, .inr (22, [.null, .int 0, .int 0, .int 0])), (hs, .inr (17, [.ref q_sv, .int 0, .int r40_maybeLatin1, .int (zI (z40_count))])), (q_sv, .inl (cB, nb, .inl (fun j : Nat => zI (a_sb (j : Int)))))] sz) U U.heap ∧ va_Nw (.castable "[B" "java/lang/Cloneable") U)) (va_Qv (fun _ : Unit => True) (fun (_ : Unit) (t : State) => ∃ (qn0_9 : Nat) (nn0_9 : Nat) (an0_9 : Int → Int), ((∀ j : Int, -128 ≤ an0_9 j ∧ an0_9 j ≤ 127) ∧ ((nn0_9 : Int) = z40_count ∧ ∀ j : Int, 0 ≤ j → j < z40_count → an0_9 j = a_sb j)) ∧ va_P (dC, dI) vwQ [(h0, .inr (22, [.ref qn0_9, .int 0, .int 0, .int 0])), (hs, .inr (17, [.ref q_sv, .int 0, .int r40_maybeLatin1, .int (zI (z40_count))])), (q_sv, .inl (cB, nb, .inl (fun j : Nat => zI (a_sb (j : Int))))), (qn0_9, .inl (cB, nn0_9, .inl (fun j : Nat => zI (an0_9 (j : Int)))))] t.heap ∧ va_K (dC, dI) vwQ [(cB, .byte)] t ∧ va_D (va_A [(h0, .inr (22, [.null, .int 0, .int 0, .int 0])), (hs, .inr (17, [.ref q_sv, .int 0, .int r40_maybeLatin1, .int (zI (z40_count))])), (q_sv, .inl (cB, nb, .inl (fun j : Nat => zI (a_sb (j : Int)))))] sz) [(h0, .inr (22, [.ref qn0_9, .int 0, .int 0, .int 0])), (hs, .inr (17, [.ref q_sv, .int 0, .int r40_maybeLatin1, .int (zI (z40_count))])), (q_sv, .inl (cB, nb, .inl (fun j : Nat => zI (a_sb (j : Int))))), (qn0_9, .inl (cB, nn0_9, .inl (fun j : Nat => zI (an0_9 (j : Int)))))]) (va_A [(h0, .inr (22, [.null, .int 0, .int 0, .int 0])), (hs, .inr (17, [.ref q_sv, .int 0, .int r40_maybeLatin1, .int (zI (z40_count))])), (q_sv, .inl (cB, nb, .inl (fun j : Nat => zI (a_sb (j : Int)))))] sz)) (1) ((z40_count).toNat) (va_A [(h0, .inr (22, [.null, .int 0, .int 0, .int 0])), (hs, .inr (17, [.ref q_sv, .int 0, .int r40_maybeLatin1, .int (zI (z40_count))])), (q_sv, .inl (cB, nb, .inl (fun j : Nat => zI (a_sb (j : Int)))))] sz) := by
  refine Met.ofW (cc := cJ0_init_db425) (maxL := 5) (ret := none) (by decide) rfl ?_
  intro p e s m args below meth c s₁ B hml hv
  obtain ⟨rfl, hsz, hP, hK, hD0, hp0, hp1⟩ := hv
  have hx := B.exec
  have hb := B.bytes
  have hr := B.returns
  have hts := atoms_spec (ws := v_J0_initA) B.pre
  have hown : s.vm.findClass RJ0 = some m.cls := findClass_of_methodNamed B.named
  have hlocks := B.notSynchronized
  have ow : ∀ {k : Nat} {w : Cond}, o_J0_initA[k]? = some w → w.before ([.ref h0, .ref hs, .null] : List Value).toArray s = true := fun h => hts _ (mow_J0_initA _ (List.mem_of_getElem? h))
  have hin : meth.name = "<init>" := (name_of_methodNamed B.named B.method).1
  subst hsz
  have hD := hD0.self (sz := s.heap.size)
  generalize hAe : va_A [(h0, .inr (22, [.null, .int 0, .int 0, .int 0])), (hs, .inr (17, [.ref q_sv, .int 0, .int r40_maybeLatin1, .int (zI (z40_count))])), (q_sv, .inl (cB, nb, .inl (fun j : Nat => zI (a_sb (j : Int)))))] s.heap.size = A at hD hp0 ⊢
  have hA : ∀ q : Nat, s.heap.size ≤ q → A q := fun q h => by rw [← hAe]; exact Or.inr h
  have hS : va_S A s.heap s.heap [] := va_S.rf
  have hP : va_P (dC, dI) vwQ [(h0, .inr (22, [.null, .int 0, .int 0, .int 0])), (hs, .inr (17, [.ref q_sv, .int 0, .int r40_maybeLatin1, .int (zI (z40_count))])), (q_sv, .inl (cB, nb, .inl (fun j : Nat => zI (a_sb (j : Int)))))] s.heap := hP
  have hl := lv_entry ([.ref h0, .ref hs, .null]) (n := 5) (Nat.le_of_ble_eq_true rfl)
  rw [lg_entry_eq]
  generalize (lg_sl ([.ref h0, .ref hs, .null]) ++ List.replicate (5 - (lg_sl ([.ref h0, .ref hs, .null])).length) Slot.unset).toArray = ls at hl ⊢
  have hl : lv_has ls 5 [(0, .ref h0), (1, .ref hs), (2, .null)] := hl
  obtain ⟨H, hH⟩ : ∃ H, H = s.heap := ⟨_, rfl⟩
  rw [← hH] at hP
  have hS : va_S A s.heap H [] := by rw [hH]; exact hS
  rw [← hH]
  refine zW_cap (fun Q hQ => ?_)
  refine lv_aload_n hx hb dJ0_init_db425_0 rfl (lv_at hl 0 rfl) ?_
  refine W.objInit hx hb hown (ow (k := 0) rfl) (ow (k := 1) rfl) (ow (k := 2) rfl) rfl (by rw [hml]; exact hl.1) rfl dJ0_init_db425_1 (by first | exact Nat.le_of_ble_eq_true rfl | exact (show 0 ≤ 1 from (by omega)) | exact (show 0 ≤ (z40_count).toNat from (by omega))) (by first | exact Nat.le_of_ble_eq_true rfl | exact (show 0 ≤ 1 from (by omega)) | exact (show 0 ≤ (z40_count).toNat from (by omega))) ?_
  refine W.eq (g2 := F0 m 4 ls []) rfl ?_
  refine lv_aload_n hx hb dJ0_init_db425_4 rfl (lv_at hl 1 rfl) ?_
  have hPc := hP.sub (ws' := [(hs, .inr (17, [.ref q_sv, .int 0, .int r40_maybeLatin1, .int (zI (z40_count))])), (q_sv, .inl (cB, nb, .inl (fun j : Nat => zI (a_sb (j : Int)))))]) [1, 2] rfl
  have hDc := hD.sub (ws' := [(hs, .inr (17, [.ref q_sv, .int 0, .int r40_maybeLatin1, .int (zI (z40_count))])), (q_sv, .inl (cB, nb, .inl (fun j : Nat => zI (a_sb (j : Int)))))]) [1, 2] (by decide) rfl
  have hKc := hK.sub (tys' := [(cB, .byte)]) [0] rfl
  have hFc := va_free (wc := [(hs, .inr (17, [.ref q_sv, .int 0, .int r40_maybeLatin1, .int (zI (z40_count))])), (q_sv, .inl (cB, nb, .inl (fun j : Nat => zI (a_sb (j : Int)))))]) hD hS hA [1, 2] rfl
  refine va_callr (va_runU (As := []) (rest := []) ⟨hx, hb, hml, hown, hts⟩ (c_J5_getValue l dC dI hs r40_maybeLatin1 z40_count q_sv cB nb a_sb M (by omega) (by omega) hR_a_sb H.size) (va_cwU (C := RJ4) (owner := RJ5) (x := ⟨"java/lang/AbstractStringBuilder", "getValue", "()[B"⟩) 0 hts g_J0_initA_J5_getValue rfl rfl rfl rfl (by decide +kernel) ⟨(Nat.le_of_ble_eq_true rfl), (Nat.le_of_ble_eq_true rfl)⟩) ⟨fun a U g mk q => by obtain ⟨q0, q1, qP, qK, qD⟩ := q; exact ⟨q0, q1, qP, va_K.moved (u := U) (U := U.calling g mk a) (Vm.Alike.refl U.vm) qK, qD⟩, va_recv hKc hPc (ci := 17) (q0 := 0) rfl rfl, fun U hU hW => ⟨rfl, by rw [hU], by rw [hU]; exact hPc, va_K.moved hW.alike hKc, hDc.weaken (fun _ _ _ _ => trivial)⟩⟩ rfl rfl hl.1 rfl (lv_room (Nat.le_of_ble_eq_true rfl)) dJ0_init_db425_5 ⟨(Nat.zero_le _), (Nat.zero_le _)⟩) hS (fun q _ h => hFc q h) hFc (fun u q_1 t H1 locs ht hvm hw hB hz1 hk1 hS => ?_)
  obtain ⟨hxt_1, hP1, hK1, hD1⟩ := hB
  rw [ht] at hP1
  have hK1 := va_K.moved hvm.symm hK1
  obtain ⟨hP, hD⟩ := va_join (wr := [(h0, .inr (22, [.null, .int 0, .int 0, .int 0]))]) (w1 := [(hs, .inr (17, [.ref q_sv, .int 0, .int r40_maybeLatin1, .int (zI (z40_count))])), (q_sv, .inl (cB, nb, .inl (fun j : Nat => zI (a_sb (j : Int)))))]) hP hD [1, 2] [0] rfl rfl (by decide) (by decide) hk1 hFc hP1 hD1
  have hK := (hK.sub (tys' := []) [] rfl).app hK1
  generalize H1 = H at hP hS ⊢
  have hP : va_P (dC, dI) vwQ [(h0, .inr (22, [.null, .int 0, .int 0, .int 0])), (hs, .inr (17, [.ref q_sv, .int 0, .int r40_maybeLatin1, .int (zI (z40_count))])), (q_sv, .inl (cB, nb, .inl (fun j : Nat => zI (a_sb (j : Int)))))] H := hP
  have hD : va_D A [(h0, .inr (22, [.null, .int 0, .int 0, .int 0])), (hs, .inr (17, [.ref q_sv, .int 0, .int r40_maybeLatin1, .int (zI (z40_count))])), (q_sv, .inl (cB, nb, .inl (fun j : Nat => zI (a_sb (j : Int)))))] := hD
  have hK : va_K (dC, dI) vwQ [(cB, .byte)] s := hK
  refine W.widen (k := 0) (n := 0) (Nat.le_of_ble_eq_true rfl) (Nat.le_of_ble_eq_true rfl) ?_
  rw [hxt_1]
  refine lv_astore_n (lv' := [(3, .ref q_sv), (0, .ref h0), (1, .ref hs), (2, .null)]) hx hb dJ0_init_db425_8 rfl hl (by decide) rfl (fun ls hl => ?_)
  refine lv_aload_n hx hb dJ0_init_db425_9 rfl (lv_at hl 2 rfl) ?_
  have hPc := hP.sub (ws' := [(hs, .inr (17, [.ref q_sv, .int 0, .int r40_maybeLatin1, .int (zI (z40_count))])), (q_sv, .inl (cB, nb, .inl (fun j : Nat => zI (a_sb (j : Int)))))]) [1, 2] rfl
  have hDc := hD.sub (ws' := [(hs, .inr (17, [.ref q_sv, .int 0, .int r40_maybeLatin1, .int (zI (z40_count))])), (q_sv, .inl (cB, nb, .inl (fun j : Nat => zI (a_sb (j : Int)))))]) [1, 2] (by decide) rfl
  have hKc := hK.sub (tys' := [(cB, .byte)]) [0] rfl
  have hFc := va_free (wc := [(hs, .inr (17, [.ref q_sv, .int 0, .int r40_maybeLatin1, .int (zI (z40_count))])), (q_sv, .inl (cB, nb, .inl (fun j : Nat => zI (a_sb (j : Int)))))]) hD hS hA [1, 2] rfl
  refine va_calli (va_runU (As := []) (rest := []) ⟨hx, hb, hml, hown, hts⟩ (c_J4_length l dC dI hs r40_maybeLatin1 z40_count q_sv cB nb a_sb M (by omega) (by omega) hR_a_sb H.size) (va_cwO (C := RJ4) (owner := RJ5) (x := ⟨"java/lang/AbstractStringBuilder", "length", "()I"⟩) 0 hts g_J0_initA_J4_length rfl rfl rfl (mow_J0_initA (.code yJ5_length_8abf5 cJ5_length_8abf5 1 (some .int)) (List.mem_of_getElem? (i := 14) rfl)) (by decide +kernel) ⟨(Nat.le_of_ble_eq_true rfl), (Nat.le_of_ble_eq_true rfl)⟩) ⟨fun a U g mk q => by obtain ⟨q0, q1, qP, qK, qD⟩ := q; exact ⟨q0, q1, qP, va_K.moved (u := U) (U := U.calling g mk a) (Vm.Alike.refl U.vm) qK, qD⟩, va_recv hKc hPc (ci := 17) (q0 := 0) rfl rfl, fun U hU hW => ⟨rfl, by rw [hU], by rw [hU]; exact hPc, va_K.moved hW.alike hKc, hDc.weaken (fun _ _ _ _ => trivial)⟩⟩ rfl rfl hl.1 rfl (lv_room (Nat.le_of_ble_eq_true rfl)) dJ0_init_db425_10 ⟨(Nat.zero_le _), (Nat.zero_le _)⟩) hS (fun q _ h => hFc q h) hFc (fun r_2 u t H1 locs ht hvm hw hB hz1 hk1 hS => ?_)
  obtain ⟨hP1, hK1, hD1⟩ := hB
  rw [ht] at hP1
  have hK1 := va_K.moved hvm.symm hK1
  obtain ⟨hP, hD⟩ := va_join (wr := [(h0, .inr (22, [.null, .int 0, .int 0, .int 0]))]) (w1 := [(hs, .inr (17, [.ref q_sv, .int 0, .int r40_maybeLatin1, .int (zI (z40_count))])), (q_sv, .inl (cB, nb, .inl (fun j : Nat => zI (a_sb (j : Int)))))]) hP hD [1, 2] [0] rfl rfl (by decide) (by decide) hk1 hFc hP1 hD1
  have hK := (hK.sub (tys' := []) [] rfl).app hK1
  generalize H1 = H at hP hS ⊢
  have hP : va_P (dC, dI) vwQ [(h0, .inr (22, [.null, .int 0, .int 0, .int 0])), (hs, .inr (17, [.ref q_sv, .int 0, .int r40_maybeLatin1, .int (zI (z40_count))])), (q_sv, .inl (cB, nb, .inl (fun j : Nat => zI (a_sb (j : Int)))))] H := hP
  have hD : va_D A [(h0, .inr (22, [.null, .int 0, .int 0, .int 0])), (hs, .inr (17, [.ref q_sv, .int 0, .int r40_maybeLatin1, .int (zI (z40_count))])), (q_sv, .inl (cB, nb, .inl (fun j : Nat => zI (a_sb (j : Int)))))] := hD
  have hK : va_K (dC, dI) vwQ [(cB, .byte)] s := hK
  refine W.widen (k := 0) (n := 0) (Nat.le_of_ble_eq_true rfl) (Nat.le_of_ble_eq_true rfl) ?_
  obtain rfl : r_2 = (zI (z40_count)) := hw
  refine lv_istore (lv' := [(4, .int (zI (z40_count))), (3, .ref q_sv), (0, .ref h0), (1, .ref hs), (2, .null)]) hx hb dJ0_init_db425_13 hl (by decide) rfl (fun ls hl => ?_)
  refine lv_aload_n hx hb dJ0_init_db425_15 rfl (lv_at hl 3 rfl) ?_
  have hPc := hP.sub (ws' := [(hs, .inr (17, [.ref q_sv, .int 0, .int r40_maybeLatin1, .int (zI (z40_count))])), (q_sv, .inl (cB, nb, .inl (fun j : Nat => zI (a_sb (j : Int)))))]) [1, 2] rfl
  have hDc := hD.sub (ws' := [(hs, .inr (17, [.ref q_sv, .int 0, .int r40_maybeLatin1, .int (zI (z40_count))])), (q_sv, .inl (cB, nb, .inl (fun j : Nat => zI (a_sb (j : Int)))))]) [1, 2] (by decide) rfl
  have hKc := hK.sub (tys' := [(cB, .byte)]) [0] rfl
  have hFc := va_free (wc := [(hs, .inr (17, [.ref q_sv, .int 0, .int r40_maybeLatin1, .int (zI (z40_count))])), (q_sv, .inl (cB, nb, .inl (fun j : Nat => zI (a_sb (j : Int)))))]) hD hS hA [1, 2] rfl
  refine va_calli (va_runU (As := []) (rest := []) ⟨hx, hb, hml, hown, hts⟩ (c_J5_isLatin1 l dC dI hs r40_maybeLatin1 z40_count q_sv cB nb a_sb M (by omega) (by omega) hR_a_sb H.size) (va_cwU (C := RJ4) (owner := RJ5) (x := ⟨"java/lang/AbstractStringBuilder", "isLatin1", "()Z"⟩) 0 hts g_J0_initA_J5_isLatin1 rfl rfl rfl rfl (by decide +kernel) ⟨(Nat.le_of_ble_eq_true rfl), (Nat.le_of_ble_eq_true rfl)⟩) ⟨fun a U g mk q => by obtain ⟨q0, q1, qP, qK, qD, e0⟩ := q; exact ⟨q0, q1, qP, va_K.moved (u := U) (U := U.calling g mk a) (Vm.Alike.refl U.vm) qK, qD, va_Z.moved (u := U) (U := U.calling g mk a) (Vm.Alike.refl U.vm) e0⟩, va_recv hKc hPc (ci := 17) (q0 := 0) rfl rfl, fun U hU hW => ⟨rfl, by rw [hU], by rw [hU]; exact hPc, va_K.moved hW.alike hKc, hDc.weaken (fun _ _ _ _ => trivial), by rw [hU]; exact va_Z.narrow (va_Z.moved hW.alike (va_Z.kept hp0 hS.2.1)) hFc⟩⟩ rfl rfl hl.1 rfl (lv_room (Nat.le_of_ble_eq_true rfl)) dJ0_init_db425_16 ⟨(Nat.zero_le _), (Nat.zero_le _)⟩) hS (fun q _ h => hFc q h) hFc (fun r_3 u t H1 locs ht hvm hw hB hz1 hk1 hS => ?_)
  obtain ⟨hP1, hK1, hD1⟩ := hB
  rw [ht] at hP1
  have hK1 := va_K.moved hvm.symm hK1
  obtain ⟨hP, hD⟩ := va_join (wr := [(h0, .inr (22, [.null, .int 0, .int 0, .int 0]))]) (w1 := [(hs, .inr (17, [.ref q_sv, .int 0, .int r40_maybeLatin1, .int (zI (z40_count))])), (q_sv, .inl (cB, nb, .inl (fun j : Nat => zI (a_sb (j : Int)))))]) hP hD [1, 2] [0] rfl rfl (by decide) (by decide) hk1 hFc hP1 hD1
  have hK := (hK.sub (tys' := []) [] rfl).app hK1
  generalize H1 = H at hP hS ⊢
  have hP : va_P (dC, dI) vwQ [(h0, .inr (22, [.null, .int 0, .int 0, .int 0])), (hs, .inr (17, [.ref q_sv, .int 0, .int r40_maybeLatin1, .int (zI (z40_count))])), (q_sv, .inl (cB, nb, .inl (fun j : Nat => zI (a_sb (j : Int)))))] H := hP
  have hD : va_D A [(h0, .inr (22, [.null, .int 0, .int 0, .int 0])), (hs, .inr (17, [.ref q_sv, .int 0, .int r40_maybeLatin1, .int (zI (z40_count))])), (q_sv, .inl (cB, nb, .inl (fun j : Nat => zI (a_sb (j : Int)))))] := hD
  have hK : va_K (dC, dI) vwQ [(cB, .byte)] s := hK
  refine W.widen (k := 0) (n := 0) (Nat.le_of_ble_eq_true rfl) (Nat.le_of_ble_eq_true rfl) ?_
  obtain rfl : r_3 = (1) := hw
  refine lv_if_eq (tgt := 41) hx hb dJ0_init_db425_19 (by decide) (fun h9 => absurd h9 (by decide)) (fun _ => ?_)
  refine lv_aload_n hx hb dJ0_init_db425_22 rfl (lv_at hl 2 rfl) ?_
  refine lv_iconst (v := 0) hx hb dJ0_init_db425_23 (by decide) ?_
  refine va_putF (D := (dC, dI)) (ci := 22) (v := .int 0) (ty := .byte) (C := RJ0) (T := TJ0) (N := 4) hx hb hts mem_J0_initA_3 tyJ0 tyJ0_ok nmJ0 hown hK hP hD hS 0 rfl rfl 1 (by decide) (ow (k := 19) rfl) (fun _ h9 => h9) rfl hin rfl (by decide +kernel) rfl rfl (by first | exact Nat.le_of_ble_eq_true rfl | exact (show 0 ≤ 1 from (by omega)) | exact (show 0 ≤ (z40_count).toNat from (by omega))) dJ0_init_db425_24 (fun H locs hP hD hS => ?_)
  have hP : va_P (dC, dI) vwQ [(h0, .inr (22, [.null, .int 0, .int 0, .int 0])), (hs, .inr (17, [.ref q_sv, .int 0, .int r40_maybeLatin1, .int (zI (z40_count))])), (q_sv, .inl (cB, nb, .inl (fun j : Nat => zI (a_sb (j : Int)))))] H := hP
  have hD : va_D A [(h0, .inr (22, [.null, .int 0, .int 0, .int 0])), (hs, .inr (17, [.ref q_sv, .int 0, .int r40_maybeLatin1, .int (zI (z40_count))])), (q_sv, .inl (cB, nb, .inl (fun j : Nat => zI (a_sb (j : Int)))))] := hD
  refine lv_aload_n hx hb dJ0_init_db425_27 rfl (lv_at hl 2 rfl) ?_
  refine lv_aload_n hx hb dJ0_init_db425_28 rfl (lv_at hl 1 rfl) ?_
  refine lv_iconst (v := 0) hx hb dJ0_init_db425_29 (by decide) ?_
  refine lv_iload hx hb dJ0_init_db425_30 (lv_at hl 0 rfl) ?_
  have hPc := hP.sub (ws' := [(q_sv, .inl (cB, nb, .inl (fun j : Nat => zI (a_sb (j : Int)))))]) [2] rfl
  have hDc := hD.sub (ws' := [(q_sv, .inl (cB, nb, .inl (fun j : Nat => zI (a_sb (j : Int)))))]) [2] (by decide) rfl
  have hKc := hK.sub (tys' := [(cB, .byte)]) [0] rfl
  have hFc := va_free (wc := [(q_sv, .inl (cB, nb, .inl (fun j : Nat => zI (a_sb (j : Int)))))]) hD hS hA [2] rfl
  refine va_callr (va_runS (As := [.ref q_sv, .int 0, .int (zI (z40_count))]) (rest := [.ref h0]) ⟨hx, hb, hml, hown, hts⟩ (c_J7_copyOfRange l dC dI q_sv cB nb a_sb z40_count (by omega) hR_a_sb (by omega) H.size) (va_cwS 3 hts g_J0_initA_J7_copyOfRange rfl rfl rfl (by decide +kernel) ⟨(Nat.le_of_ble_eq_true rfl), (Nat.le_of_ble_eq_true rfl)⟩) ⟨fun a U g mk q => by obtain ⟨q0, q1, qP, qK, qD, e0⟩ := q; exact ⟨q0, q1, qP, va_K.moved (u := U) (U := U.calling g mk a) (Vm.Alike.refl U.vm) qK, qD, va_Nw.same rfl (u := U) (U := U.calling g mk a) rfl e0⟩, fun U hU hW => ⟨rfl, by rw [hU], by rw [hU]; exact hPc, va_K.moved hW.alike hKc, hDc.weaken (fun _ _ _ _ => trivial), va_Nw.warmC hW hp1⟩⟩ rfl rfl hl.1 rfl (lv_room (Nat.le_of_ble_eq_true rfl)) dJ0_init_db425_32 ⟨(show 0 + (1) ≤ 1 from (by omega)), (show 0 + ((z40_count).toNat) ≤ (z40_count).toNat from (by omega))⟩) hS (fun q _ h => hFc q h) hFc (fun u q_4 t H1 locs ht hvm hw hB hz1 hk1 hS => ?_)
  obtain ⟨nn_5, fn_6, hxt_6, hP1, hK1, hD1⟩ := hB
  rw [ht] at hP1
  have hK1 := va_K.moved hvm.symm hK1
  obtain ⟨hP, hD⟩ := va_join (wr := [(h0, .inr (22, [.null, .int 0, .int 0, .int 0])), (hs, .inr (17, [.ref q_sv, .int 0, .int r40_maybeLatin1, .int (zI (z40_count))]))]) (w1 := [(q_sv, .inl (cB, nb, .inl (fun j : Nat => zI (a_sb (j : Int))))), (q_4, .inl (cB, nn_5, .inl (fun j : Nat => zI (fn_6 (j : Int)))))]) hP hD [2] [0, 1] rfl rfl (by decide) (by decide) hk1 hFc hP1 hD1
  have hK := (hK.sub (tys' := []) [] rfl).app hK1
  generalize H1 = H at hP hS ⊢
  have hP : va_P (dC, dI) vwQ [(h0, .inr (22, [.null, .int 0, .int 0, .int 0])), (hs, .inr (17, [.ref q_sv, .int 0, .int r40_maybeLatin1, .int (zI (z40_count))])), (q_sv, .inl (cB, nb, .inl (fun j : Nat => zI (a_sb (j : Int))))), (q_4, .inl (cB, nn_5, .inl (fun j : Nat => zI (fn_6 (j : Int)))))] H := hP
  have hD : va_D A [(h0, .inr (22, [.null, .int 0, .int 0, .int 0])), (hs, .inr (17, [.ref q_sv, .int 0, .int r40_maybeLatin1, .int (zI (z40_count))])), (q_sv, .inl (cB, nb, .inl (fun j : Nat => zI (a_sb (j : Int))))), (q_4, .inl (cB, nn_5, .inl (fun j : Nat => zI (fn_6 (j : Int)))))] := hD
  have hK : va_K (dC, dI) vwQ [(cB, .byte)] s := hK
  refine W.widen (k := (0 + (1))) (n := (0 + ((z40_count).toNat))) (by omega) (by omega) ?_
  have hcb := hxt_6
  have hcn := hcb.1
  skip
  refine va_putF (D := (dC, dI)) (ci := 22) (v := .ref q_4) (ty := .array .byte) (C := RJ0) (T := TJ0) (N := 4) hx hb hts mem_J0_initA_3 tyJ0 tyJ0_ok nmJ0 hown hK hP hD hS 0 rfl rfl 0 (by decide) (ow (k := 23) rfl) (fun _ h9 => h9) rfl hin rfl (by decide +kernel) rfl rfl (by first | exact Nat.le_of_ble_eq_true rfl | exact (show (0 + (1)) ≤ 1 from (by omega)) | exact (show (0 + ((z40_count).toNat)) ≤ (z40_count).toNat from (by omega))) dJ0_init_db425_35 (fun H locs hP hD hS => ?_)
  have hP : va_P (dC, dI) vwQ [(h0, .inr (22, [.ref q_4, .int 0, .int 0, .int 0])), (hs, .inr (17, [.ref q_sv, .int 0, .int r40_maybeLatin1, .int (zI (z40_count))])), (q_sv, .inl (cB, nb, .inl (fun j : Nat => zI (a_sb (j : Int))))), (q_4, .inl (cB, nn_5, .inl (fun j : Nat => zI (fn_6 (j : Int)))))] H := hP
  have hD : va_D A [(h0, .inr (22, [.ref q_4, .int 0, .int 0, .int 0])), (hs, .inr (17, [.ref q_sv, .int 0, .int r40_maybeLatin1, .int (zI (z40_count))])), (q_sv, .inl (cB, nb, .inl (fun j : Nat => zI (a_sb (j : Int))))), (q_4, .inl (cB, nn_5, .inl (fun j : Nat => zI (fn_6 (j : Int)))))] := hD
  refine lv_goto (tgt := 97) hx hb dJ0_init_db425_38 (by decide) ?_
  subst hQ
  refine W.widen (k := (1)) (n := ((z40_count).toNat)) (by omega) (by omega) ?_
  exact W.vret hx hb hr (fun t ht hW => ⟨⟨(), rfl, trivial, q_4, nn_5, fn_6, ⟨hcb.2.1, ⟨hcb.1, hcb.2.2⟩⟩, by rw [ht]; exact hP, va_K.moved hW.alike hK, hD⟩, hS.F ht⟩) hS.2.2 dJ0_init_db425_97
theorem dJ0_init_81219_0 : decode cJ0_init_81219 0 = .ok (.aload_n 0, 1) := by decide +kernel
theorem dJ0_init_81219_1 : decode cJ0_init_81219 1 = .ok (.aload_n 1, 1) := by decide +kernel
theorem dJ0_init_81219_2 : decode cJ0_init_81219 2 = .ok (.aconst_null, 1) := by decide +kernel
theorem dJ0_init_81219_3 : decode cJ0_init_81219 3 = .ok (.invokespecial 489, 3) := by decide +kernel
theorem dJ0_init_81219_6 : decode cJ0_init_81219 6 = .ok (.return_, 1) := by decide +kernel
def o_J0_initS : List Cond := [.initialized RJ0, .methodLink RJ0 489 yJ0_init_db425, .instanceMethod yJ0_init_db425]
def v_J0_initS : List Cond := .code yJ0_init_81219 cJ0_init_81219 2 none :: (o_J0_initS ++ (v_J0_initA ++ []))
theorem mow_J0_initS : ∀ w ∈ o_J0_initS, w ∈ v_J0_initS := fun _ h => List.mem_cons_of_mem _ (List.mem_append_left _ h)
theorem mem_J0_initS_0 : ∀ w ∈ v_J0_initA, w ∈ v_J0_initS := fun _ h => List.mem_cons_of_mem _ (List.mem_append_right _ (List.mem_append_left _ h))
set_option maxRecDepth 20000 in
theorem gw_J0_initS : v_J0_initS.all goodWord = true := by decide +kernel
set_option maxHeartbeats 4000000 in
set_option maxRecDepth 100000 in
theorem c_J0_initS (l : Launch) (dC : Nat → ClassId) (dI : Nat → Nat → Nat) (h0 : Nat) (hs : Nat) (r40_maybeLatin1 : Int32) (z40_count : Int) (q_sv : Nat) (cB : ClassId) (nb : Nat) (a_sb : Int → Int) (M : Int) (hNz40_count : 0 ≤ z40_count ∧ z40_count ≤ 1000000) (hNnb : 16 ≤ nb ∧ nb ≤ M ∧ z40_count ≤ nb ∧ M ≤ 2000000) (hR_a_sb : ∀ j : Int, -128 ≤ a_sb j ∧ a_sb j ≤ 127) (hNc : z40_count ≤ 900000) (sz : Nat) : Met l yJ0_init_81219 v_J0_initS ({ frames := 4, cells := (1), slots := ((z40_count).toNat), locals := 130 }) (va_Pc [.ref h0, .ref hs] (fun U => U.heap.size = sz ∧ va_P (dC, dI) vwQ [(h0, .inr (22, [.null, .int 0, .int 0, .int 0])), (hs, .inr (17, [.ref q_sv, .int 0, .int r40_maybeLatin1, .int (zI (z40_count))])), (q_sv, .inl (cB, nb, .inl (fun j : Nat => zI (a_sb (j : Int)))))] U.heap ∧ va_K (dC, dI) vwQ [(cB, .byte)] U ∧ va_D (fun _ => True) [(h0, .inr (22, [.null, .int 0, .int 0, .int 0])), (hs, .inr (17, [.ref q_sv, .int 0, .int r40_maybeLatin1, .int (zI (z40_count))])), (q_sv, .inl (cB, nb, .inl (fun j : Nat => zI (a_sb (j : Int)))))] ∧ va_Z "java/lang/String" "COMPACT_STRINGS" "Z" (.int 1) (va_A [(h0, .inr (22, [.null, .int 0, .int 0, .int 0])), (hs, .inr (17, [.ref q_sv, .int 0, .int r40_maybeLatin1, .int (zI (z40_count))])), (q_sv, .inl (cB, nb, .inl (fun j : Nat => zI (a_sb (j : Int)))))] sz) U U.heap ∧ va_Nw (.castable "[B" "java/lang/Cloneable") U)) (va_Qv (fun _ : Unit => True) (fun (_ : Unit) (t : State) => ∃ (qn0_9 : Nat) (nn0_9 : Nat) (an0_9 : Int → Int), ((∀ j : Int, -128 ≤ an0_9 j ∧ an0_9 j ≤ 127) ∧ ((nn0_9 : Int) = z40_count ∧ ∀ j : Int, 0 ≤ j → j < z40_count → an0_9 j = a_sb j)) ∧ va_P (dC, dI) vwQ [(h0, .inr (22, [.ref qn0_9, .int 0, .int 0, .int 0])), (hs, .inr (17, [.ref q_sv, .int 0, .int r40_maybeLatin1, .int (zI (z40_count))])), (q_sv, .inl (cB, nb, .inl (fun j : Nat => zI (a_sb (j : Int))))), (qn0_9, .inl (cB, nn0_9, .inl (fun j : Nat => zI (an0_9 (j : Int)))))] t.heap ∧ va_K (dC, dI) vwQ [(cB, .byte)] t ∧ va_D (va_A [(h0, .inr (22, [.null, .int 0, .int 0, .int 0])), (hs, .inr (17, [.ref q_sv, .int 0, .int r40_maybeLatin1, .int (zI (z40_count))])), (q_sv, .inl (cB, nb, .inl (fun j : Nat => zI (a_sb (j : Int)))))] sz) [(h0, .inr (22, [.ref qn0_9, .int 0, .int 0, .int 0])), (hs, .inr (17, [.ref q_sv, .int 0, .int r40_maybeLatin1, .int (zI (z40_count))])), (q_sv, .inl (cB, nb, .inl (fun j : Nat => zI (a_sb (j : Int))))), (qn0_9, .inl (cB, nn0_9, .inl (fun j : Nat => zI (an0_9 (j : Int)))))]) (va_A [(h0, .inr (22, [.null, .int 0, .int 0, .int 0])), (hs, .inr (17, [.ref q_sv, .int 0, .int r40_maybeLatin1, .int (zI (z40_count))])), (q_sv, .inl (cB, nb, .inl (fun j : Nat => zI (a_sb (j : Int)))))] sz)) (1) ((z40_count).toNat) (va_A [(h0, .inr (22, [.null, .int 0, .int 0, .int 0])), (hs, .inr (17, [.ref q_sv, .int 0, .int r40_maybeLatin1, .int (zI (z40_count))])), (q_sv, .inl (cB, nb, .inl (fun j : Nat => zI (a_sb (j : Int)))))] sz) := by
  refine Met.ofW (cc := cJ0_init_81219) (maxL := 2) (ret := none) (by decide) rfl ?_
  intro p e s m args below meth c s₁ B hml hv
  obtain ⟨rfl, hsz, hP, hK, hD0, hp0, hp1⟩ := hv
  have hx := B.exec
  have hb := B.bytes
  have hr := B.returns
  have hts := atoms_spec (ws := v_J0_initS) B.pre
  have hown : s.vm.findClass RJ0 = some m.cls := findClass_of_methodNamed B.named
  have hlocks := B.notSynchronized
  have ow : ∀ {k : Nat} {w : Cond}, o_J0_initS[k]? = some w → w.before ([.ref h0, .ref hs] : List Value).toArray s = true := fun h => hts _ (mow_J0_initS _ (List.mem_of_getElem? h))
  have hin : meth.name = "<init>" := (name_of_methodNamed B.named B.method).1
  subst hsz
  have hD := hD0.self (sz := s.heap.size)
  generalize hAe : va_A [(h0, .inr (22, [.null, .int 0, .int 0, .int 0])), (hs, .inr (17, [.ref q_sv, .int 0, .int r40_maybeLatin1, .int (zI (z40_count))])), (q_sv, .inl (cB, nb, .inl (fun j : Nat => zI (a_sb (j : Int)))))] s.heap.size = A at hD hp0 ⊢
  have hA : ∀ q : Nat, s.heap.size ≤ q → A q := fun q h => by rw [← hAe]; exact Or.inr h
  have hS : va_S A s.heap s.heap [] := va_S.rf
  have hP : va_P (dC, dI) vwQ [(h0, .inr (22, [.null, .int 0, .int 0, .int 0])), (hs, .inr (17, [.ref q_sv, .int 0, .int r40_maybeLatin1, .int (zI (z40_count))])), (q_sv, .inl (cB, nb, .inl (fun j : Nat => zI (a_sb (j : Int)))))] s.heap := hP
  have hl := lv_entry ([.ref h0, .ref hs]) (n := 2) (Nat.le_of_ble_eq_true rfl)
  rw [lg_entry_eq]
  generalize (lg_sl ([.ref h0, .ref hs]) ++ List.replicate (2 - (lg_sl ([.ref h0, .ref hs])).length) Slot.unset).toArray = ls at hl ⊢
  have hl : lv_has ls 2 [(0, .ref h0), (1, .ref hs)] := hl
  obtain ⟨H, hH⟩ : ∃ H, H = s.heap := ⟨_, rfl⟩
  rw [← hH] at hP
  have hS : va_S A s.heap H [] := by rw [hH]; exact hS
  rw [← hH]
  refine zW_cap (fun Q hQ => ?_)
  refine lv_aload_n hx hb dJ0_init_81219_0 rfl (lv_at hl 0 rfl) ?_
  refine lv_aload_n hx hb dJ0_init_81219_1 rfl (lv_at hl 1 rfl) ?_
  refine lv_null hx hb dJ0_init_81219_2 ?_
  have hPc := hP.sub (ws' := [(h0, .inr (22, [.null, .int 0, .int 0, .int 0])), (hs, .inr (17, [.ref q_sv, .int 0, .int r40_maybeLatin1, .int (zI (z40_count))])), (q_sv, .inl (cB, nb, .inl (fun j : Nat => zI (a_sb (j : Int)))))]) [0, 1, 2] rfl
  have hDc := hD.sub (ws' := [(h0, .inr (22, [.null, .int 0, .int 0, .int 0])), (hs, .inr (17, [.ref q_sv, .int 0, .int r40_maybeLatin1, .int (zI (z40_count))])), (q_sv, .inl (cB, nb, .inl (fun j : Nat => zI (a_sb (j : Int)))))]) [0, 1, 2] (by decide) rfl
  have hKc := hK.sub (tys' := [(cB, .byte)]) [0] rfl
  have hFc := va_free (wc := [(h0, .inr (22, [.null, .int 0, .int 0, .int 0])), (hs, .inr (17, [.ref q_sv, .int 0, .int r40_maybeLatin1, .int (zI (z40_count))])), (q_sv, .inl (cB, nb, .inl (fun j : Nat => zI (a_sb (j : Int)))))]) hD hS hA [0, 1, 2] rfl
  refine va_callv (va_runI (As := [.ref hs, .null]) (rest := []) ⟨hx, hb, hml, hown, hts⟩ (c_J0_initA l dC dI h0 hs r40_maybeLatin1 z40_count q_sv cB nb a_sb M (by omega) (by omega) hR_a_sb (by omega) H.size) (cwI 2 hts (goodIn_sub mem_J0_initS_0 gw_J0_initA) rfl rfl rfl (ow (k := 0) rfl) (ow (k := 1) rfl) (ow (k := 2) rfl) rfl (by decide +kernel) ⟨(Nat.le_of_ble_eq_true rfl), (Nat.le_of_ble_eq_true rfl)⟩) ⟨fun a U g mk q => by obtain ⟨q0, q1, qP, qK, qD, e0, e1⟩ := q; exact ⟨q0, q1, qP, va_K.moved (u := U) (U := U.calling g mk a) (Vm.Alike.refl U.vm) qK, qD, va_Z.moved (u := U) (U := U.calling g mk a) (Vm.Alike.refl U.vm) e0, va_Nw.same rfl (u := U) (U := U.calling g mk a) rfl e1⟩, fun U hU hW => ⟨rfl, by rw [hU], by rw [hU]; exact hPc, va_K.moved hW.alike hKc, hDc.weaken (fun _ _ _ _ => trivial), by rw [hU]; exact va_Z.narrow (va_Z.moved hW.alike (va_Z.kept hp0 hS.2.1)) hFc, va_Nw.warmC hW hp1⟩⟩ rfl rfl hl.1 rfl (lv_room (Nat.le_of_ble_eq_true rfl)) dJ0_init_81219_3 ⟨(show 0 + (1) ≤ 1 from (by omega)), (show 0 + ((z40_count).toNat) ≤ (z40_count).toNat from (by omega))⟩) hS (fun q _ h => hFc q h) hFc (fun  u t H1 locs ht hvm hw hB hz1 hk1 hS => ?_)
  obtain ⟨qn0_1, nn0_2, an0_3, hxt_3, hP1, hK1, hD1⟩ := hB
  rw [ht] at hP1
  have hK1 := va_K.moved hvm.symm hK1
  obtain ⟨hP, hD⟩ := va_join (wr := []) (w1 := [(h0, .inr (22, [.ref qn0_1, .int 0, .int 0, .int 0])), (hs, .inr (17, [.ref q_sv, .int 0, .int r40_maybeLatin1, .int (zI (z40_count))])), (q_sv, .inl (cB, nb, .inl (fun j : Nat => zI (a_sb (j : Int))))), (qn0_1, .inl (cB, nn0_2, .inl (fun j : Nat => zI (an0_3 (j : Int)))))]) hP hD [0, 1, 2] [] rfl rfl (by decide) (by decide) hk1 hFc hP1 hD1
  have hK := (hK.sub (tys' := []) [] rfl).app hK1
  generalize H1 = H at hP hS ⊢
  have hP : va_P (dC, dI) vwQ [(h0, .inr (22, [.ref qn0_1, .int 0, .int 0, .int 0])), (hs, .inr (17, [.ref q_sv, .int 0, .int r40_maybeLatin1, .int (zI (z40_count))])), (q_sv, .inl (cB, nb, .inl (fun j : Nat => zI (a_sb (j : Int))))), (qn0_1, .inl (cB, nn0_2, .inl (fun j : Nat => zI (an0_3 (j : Int)))))] H := hP
  have hD : va_D A [(h0, .inr (22, [.ref qn0_1, .int 0, .int 0, .int 0])), (hs, .inr (17, [.ref q_sv, .int 0, .int r40_maybeLatin1, .int (zI (z40_count))])), (q_sv, .inl (cB, nb, .inl (fun j : Nat => zI (a_sb (j : Int))))), (qn0_1, .inl (cB, nn0_2, .inl (fun j : Nat => zI (an0_3 (j : Int)))))] := hD
  have hK : va_K (dC, dI) vwQ [(cB, .byte)] s := hK
  refine W.widen (k := (0 + (1))) (n := (0 + ((z40_count).toNat))) (by omega) (by omega) ?_
  obtain ⟨rk_4, hu_4⟩ := hxt_3
  subst hQ
  refine W.widen (k := (1)) (n := ((z40_count).toNat)) (by omega) (by omega) ?_
  exact W.vret hx hb hr (fun t ht hW => ⟨⟨(), rfl, trivial, qn0_1, nn0_2, an0_3, ⟨rk_4, hu_4⟩, by rw [ht]; exact hP, va_K.moved hW.alike hK, hD⟩, hS.F ht⟩) hS.2.2 dJ0_init_81219_6
theorem dJ4_toString_0e30d_0 : decode cJ4_toString_0e30d 0 = .ok (.new 18, 3) := by decide +kernel
theorem dJ4_toString_0e30d_3 : decode cJ4_toString_0e30d 3 = .ok (.dup, 1) := by decide +kernel
theorem dJ4_toString_0e30d_4 : decode cJ4_toString_0e30d 4 = .ok (.aload_n 0, 1) := by decide +kernel
theorem dJ4_toString_0e30d_5 : decode cJ4_toString_0e30d 5 = .ok (.invokespecial 137, 3) := by decide +kernel
theorem dJ4_toString_0e30d_8 : decode cJ4_toString_0e30d 8 = .ok (.areturn, 1) := by decide +kernel
def o_J4_toString : List Cond := [.classLink RJ4 18 RJ0, .instantiable RJ0 4, .initialized RJ0, .methodLink RJ4 137 yJ0_init_81219, .instanceMethod yJ0_init_81219]
def v_J4_toString : List Cond := .code yJ4_toString_0e30d cJ4_toString_0e30d 1 (some (.object "java/lang/String")) :: (o_J4_toString ++ (wsJ00 ++ (v_J0_initS ++ [])))
theorem mow_J4_toString : ∀ w ∈ o_J4_toString, w ∈ v_J4_toString := fun _ h => List.mem_cons_of_mem _ (List.mem_append_left _ h)
theorem mem_J4_toString_0 : ∀ w ∈ wsJ00, w ∈ v_J4_toString := fun _ h => List.mem_cons_of_mem _ (List.mem_append_right _ (List.mem_append_left _ h))
theorem mem_J4_toString_1 : ∀ w ∈ v_J0_initS, w ∈ v_J4_toString := fun _ h => List.mem_cons_of_mem _ (List.mem_append_right _ (List.mem_append_right _ (List.mem_append_left _ h)))
set_option maxRecDepth 20000 in
theorem gw_J4_toString : v_J4_toString.all goodWord = true := by decide +kernel
set_option maxHeartbeats 4000000 in
set_option maxRecDepth 100000 in
theorem c_J4_toString (l : Launch) (dC : Nat → ClassId) (dI : Nat → Nat → Nat) (h0 : Nat) (r40_maybeLatin1 : Int32) (z40_count : Int) (q_sv : Nat) (cB : ClassId) (nb : Nat) (a_sb : Int → Int) (M : Int) (hNz40_count : 0 ≤ z40_count ∧ z40_count ≤ 1000000) (hNnb : 16 ≤ nb ∧ nb ≤ M ∧ z40_count ≤ nb ∧ M ≤ 2000000) (hR_a_sb : ∀ j : Int, -128 ≤ a_sb j ∧ a_sb j ≤ 127) (hNc : z40_count ≤ 900000) (sz : Nat) : Met l yJ4_toString_0e30d v_J4_toString ({ frames := 5, cells := (2), slots := ((z40_count + 4).toNat), locals := 151 }) (va_Pc [.ref h0] (fun U => U.heap.size = sz ∧ va_P (dC, dI) vwQ [(h0, .inr (17, [.ref q_sv, .int 0, .int r40_maybeLatin1, .int (zI (z40_count))])), (q_sv, .inl (cB, nb, .inl (fun j : Nat => zI (a_sb (j : Int)))))] U.heap ∧ va_K (dC, dI) vwQ [(cB, .byte)] U ∧ va_D (fun _ => True) [(h0, .inr (17, [.ref q_sv, .int 0, .int r40_maybeLatin1, .int (zI (z40_count))])), (q_sv, .inl (cB, nb, .inl (fun j : Nat => zI (a_sb (j : Int)))))] ∧ va_Z "java/lang/String" "COMPACT_STRINGS" "Z" (.int 1) (va_A [(h0, .inr (17, [.ref q_sv, .int 0, .int r40_maybeLatin1, .int (zI (z40_count))])), (q_sv, .inl (cB, nb, .inl (fun j : Nat => zI (a_sb (j : Int)))))] sz) U U.heap ∧ va_Nw (.castable "[B" "java/lang/Cloneable") U)) (va_Qr (fun _ : Unit => True) (fun (_ : Unit) (rq : Nat) (t : State) => ∃ (qn_9 : Nat) (nn_9 : Nat) (fn_9 : Int → Int), (((nn_9 : Int) = z40_count ∧ (∀ j : Int, -128 ≤ fn_9 j ∧ fn_9 j ≤ 127) ∧ ∀ j : Int, 0 ≤ j → j < z40_count → fn_9 j = a_sb j)) ∧ va_P (dC, dI) vwQ [(h0, .inr (17, [.ref q_sv, .int 0, .int r40_maybeLatin1, .int (zI (z40_count))])), (q_sv, .inl (cB, nb, .inl (fun j : Nat => zI (a_sb (j : Int))))), (rq, .inr (22, [.ref qn_9, .int 0, .int 0, .int 0])), (qn_9, .inl (cB, nn_9, .inl (fun j : Nat => zI (fn_9 (j : Int)))))] t.heap ∧ va_K (dC, dI) vwQ [(cB, .byte)] t ∧ va_D (va_A [(h0, .inr (17, [.ref q_sv, .int 0, .int r40_maybeLatin1, .int (zI (z40_count))])), (q_sv, .inl (cB, nb, .inl (fun j : Nat => zI (a_sb (j : Int)))))] sz) [(h0, .inr (17, [.ref q_sv, .int 0, .int r40_maybeLatin1, .int (zI (z40_count))])), (q_sv, .inl (cB, nb, .inl (fun j : Nat => zI (a_sb (j : Int))))), (rq, .inr (22, [.ref qn_9, .int 0, .int 0, .int 0])), (qn_9, .inl (cB, nn_9, .inl (fun j : Nat => zI (fn_9 (j : Int)))))]) (va_A [(h0, .inr (17, [.ref q_sv, .int 0, .int r40_maybeLatin1, .int (zI (z40_count))])), (q_sv, .inl (cB, nb, .inl (fun j : Nat => zI (a_sb (j : Int)))))] sz)) (2) ((z40_count + 4).toNat) (va_A [(h0, .inr (17, [.ref q_sv, .int 0, .int r40_maybeLatin1, .int (zI (z40_count))])), (q_sv, .inl (cB, nb, .inl (fun j : Nat => zI (a_sb (j : Int)))))] sz) := by
  refine Met.ofW (cc := cJ4_toString_0e30d) (maxL := 1) (ret := (some (.object "java/lang/String"))) (by decide) rfl ?_
  intro p e s m args below meth c s₁ B hml hv
  obtain ⟨rfl, hsz, hP, hK, hD0, hp0, hp1⟩ := hv
  have hx := B.exec
  have hb := B.bytes
  have hr := B.returns
  have hts := atoms_spec (ws := v_J4_toString) B.pre
  have hown : s.vm.findClass RJ4 = some m.cls := findClass_of_methodNamed B.named
  have hlocks := B.notSynchronized
  have ow : ∀ {k : Nat} {w : Cond}, o_J4_toString[k]? = some w → w.before ([.ref h0] : List Value).toArray s = true := fun h => hts _ (mow_J4_toString _ (List.mem_of_getElem? h))
  subst hsz
  have hD := hD0.self (sz := s.heap.size)
  generalize hAe : va_A [(h0, .inr (17, [.ref q_sv, .int 0, .int r40_maybeLatin1, .int (zI (z40_count))])), (q_sv, .inl (cB, nb, .inl (fun j : Nat => zI (a_sb (j : Int)))))] s.heap.size = A at hD hp0 ⊢
  have hA : ∀ q : Nat, s.heap.size ≤ q → A q := fun q h => by rw [← hAe]; exact Or.inr h
  have hS : va_S A s.heap s.heap [] := va_S.rf
  have hP : va_P (dC, dI) vwQ [(h0, .inr (17, [.ref q_sv, .int 0, .int r40_maybeLatin1, .int (zI (z40_count))])), (q_sv, .inl (cB, nb, .inl (fun j : Nat => zI (a_sb (j : Int)))))] s.heap := hP
  have hl := lv_entry ([.ref h0]) (n := 1) (Nat.le_of_ble_eq_true rfl)
  rw [lg_entry_eq]
  generalize (lg_sl ([.ref h0]) ++ List.replicate (1 - (lg_sl ([.ref h0])).length) Slot.unset).toArray = ls at hl ⊢
  have hl : lv_has ls 1 [(0, .ref h0)] := hl
  obtain ⟨H, hH⟩ : ∃ H, H = s.heap := ⟨_, rfl⟩
  rw [← hH] at hP
  have hS : va_S A s.heap H [] := by rw [hH]; exact hS
  rw [← hH]
  refine zW_cap (fun Q hQ => ?_)
  refine va_new (ci := 22) (fs := [.null, .int 0, .int 0, .int 0]) (C := RJ0) (T := TJ0) (N := 4) hx hb hts mem_J4_toString_0 tyJ0 tyJ0_ok hown (ow (k := 0) rfl) (ow (k := 1) rfl) (ow (k := 2) rfl) hK hP hD hS hA rfl (df_J0) (show 0 + 1 ≤ 2 from (by omega)) (show 0 + 4 ≤ (z40_count + 4).toNat from (by omega)) dJ4_toString_0e30d_0 (fun q_1 H hP hD hS => ?_)
  have hP : va_P (dC, dI) vwQ [(h0, .inr (17, [.ref q_sv, .int 0, .int r40_maybeLatin1, .int (zI (z40_count))])), (q_sv, .inl (cB, nb, .inl (fun j : Nat => zI (a_sb (j : Int))))), (q_1, .inr (22, [.null, .int 0, .int 0, .int 0]))] H := hP
  have hD : va_D A [(h0, .inr (17, [.ref q_sv, .int 0, .int r40_maybeLatin1, .int (zI (z40_count))])), (q_sv, .inl (cB, nb, .inl (fun j : Nat => zI (a_sb (j : Int))))), (q_1, .inr (22, [.null, .int 0, .int 0, .int 0]))] := hD
  refine lv_dup hx hb dJ4_toString_0e30d_3 rfl ?_
  refine lv_aload_n hx hb dJ4_toString_0e30d_4 rfl (lv_at hl 0 rfl) ?_
  have hPc := hP.sub (ws' := [(q_1, .inr (22, [.null, .int 0, .int 0, .int 0])), (h0, .inr (17, [.ref q_sv, .int 0, .int r40_maybeLatin1, .int (zI (z40_count))])), (q_sv, .inl (cB, nb, .inl (fun j : Nat => zI (a_sb (j : Int)))))]) [2, 0, 1] rfl
  have hDc := hD.sub (ws' := [(q_1, .inr (22, [.null, .int 0, .int 0, .int 0])), (h0, .inr (17, [.ref q_sv, .int 0, .int r40_maybeLatin1, .int (zI (z40_count))])), (q_sv, .inl (cB, nb, .inl (fun j : Nat => zI (a_sb (j : Int)))))]) [2, 0, 1] (by decide) rfl
  have hKc := hK.sub (tys' := [(cB, .byte)]) [0] rfl
  have hFc := va_free (wc := [(q_1, .inr (22, [.null, .int 0, .int 0, .int 0])), (h0, .inr (17, [.ref q_sv, .int 0, .int r40_maybeLatin1, .int (zI (z40_count))])), (q_sv, .inl (cB, nb, .inl (fun j : Nat => zI (a_sb (j : Int)))))]) hD hS hA [2, 0, 1] rfl
  refine va_callv (va_runI (As := [.ref h0]) (rest := [.ref q_1]) ⟨hx, hb, hml, hown, hts⟩ (c_J0_initS l dC dI q_1 h0 r40_maybeLatin1 z40_count q_sv cB nb a_sb M (by omega) (by omega) hR_a_sb (by omega) H.size) (cwI 1 hts (goodIn_sub mem_J4_toString_1 gw_J0_initS) rfl rfl rfl (ow (k := 2) rfl) (ow (k := 3) rfl) (ow (k := 4) rfl) rfl (by decide +kernel) ⟨(Nat.le_of_ble_eq_true rfl), (Nat.le_of_ble_eq_true rfl)⟩) ⟨fun a U g mk q => by obtain ⟨q0, q1, qP, qK, qD, e0, e1⟩ := q; exact ⟨q0, q1, qP, va_K.moved (u := U) (U := U.calling g mk a) (Vm.Alike.refl U.vm) qK, qD, va_Z.moved (u := U) (U := U.calling g mk a) (Vm.Alike.refl U.vm) e0, va_Nw.same rfl (u := U) (U := U.calling g mk a) rfl e1⟩, fun U hU hW => ⟨rfl, by rw [hU], by rw [hU]; exact hPc, va_K.moved hW.alike hKc, hDc.weaken (fun _ _ _ _ => trivial), by rw [hU]; exact va_Z.narrow (va_Z.moved hW.alike (va_Z.kept hp0 hS.2.1)) hFc, va_Nw.warmC hW hp1⟩⟩ rfl rfl hl.1 rfl (lv_room (Nat.le_of_ble_eq_true rfl)) dJ4_toString_0e30d_5 ⟨(show 1 + (1) ≤ 2 from (by omega)), (show 4 + ((z40_count).toNat) ≤ (z40_count + 4).toNat from (by omega))⟩) hS (fun q _ h => hFc q h) hFc (fun  u t H1 locs ht hvm hw hB hz1 hk1 hS => ?_)
  obtain ⟨qn0_2, nn0_3, an0_4, hxt_4, hP1, hK1, hD1⟩ := hB
  rw [ht] at hP1
  have hK1 := va_K.moved hvm.symm hK1
  obtain ⟨hP, hD⟩ := va_join (wr := []) (w1 := [(q_1, .inr (22, [.ref qn0_2, .int 0, .int 0, .int 0])), (h0, .inr (17, [.ref q_sv, .int 0, .int r40_maybeLatin1, .int (zI (z40_count))])), (q_sv, .inl (cB, nb, .inl (fun j : Nat => zI (a_sb (j : Int))))), (qn0_2, .inl (cB, nn0_3, .inl (fun j : Nat => zI (an0_4 (j : Int)))))]) hP hD [2, 0, 1] [] rfl rfl (by decide) (by decide) hk1 hFc hP1 hD1
  have hK := (hK.sub (tys' := []) [] rfl).app hK1
  generalize H1 = H at hP hS ⊢
  have hP : va_P (dC, dI) vwQ [(q_1, .inr (22, [.ref qn0_2, .int 0, .int 0, .int 0])), (h0, .inr (17, [.ref q_sv, .int 0, .int r40_maybeLatin1, .int (zI (z40_count))])), (q_sv, .inl (cB, nb, .inl (fun j : Nat => zI (a_sb (j : Int))))), (qn0_2, .inl (cB, nn0_3, .inl (fun j : Nat => zI (an0_4 (j : Int)))))] H := hP
  have hD : va_D A [(q_1, .inr (22, [.ref qn0_2, .int 0, .int 0, .int 0])), (h0, .inr (17, [.ref q_sv, .int 0, .int r40_maybeLatin1, .int (zI (z40_count))])), (q_sv, .inl (cB, nb, .inl (fun j : Nat => zI (a_sb (j : Int))))), (qn0_2, .inl (cB, nn0_3, .inl (fun j : Nat => zI (an0_4 (j : Int)))))] := hD
  have hK : va_K (dC, dI) vwQ [(cB, .byte)] s := hK
  refine W.widen (k := (1 + (1))) (n := (4 + ((z40_count).toNat))) (by omega) (by omega) ?_
  obtain ⟨rk_5, hu_5⟩ := hxt_4
  subst hQ
  have hP := hP.sub (ws' := [(h0, .inr (17, [.ref q_sv, .int 0, .int r40_maybeLatin1, .int (zI (z40_count))])), (q_sv, .inl (cB, nb, .inl (fun j : Nat => zI (a_sb (j : Int))))), (q_1, .inr (22, [.ref qn0_2, .int 0, .int 0, .int 0])), (qn0_2, .inl (cB, nn0_3, .inl (fun j : Nat => zI (an0_4 (j : Int)))))]) [1, 2, 0, 3] rfl
  have hD := hD.sub (ws' := [(h0, .inr (17, [.ref q_sv, .int 0, .int r40_maybeLatin1, .int (zI (z40_count))])), (q_sv, .inl (cB, nb, .inl (fun j : Nat => zI (a_sb (j : Int))))), (q_1, .inr (22, [.ref qn0_2, .int 0, .int 0, .int 0])), (qn0_2, .inl (cB, nn0_3, .inl (fun j : Nat => zI (an0_4 (j : Int)))))]) [1, 2, 0, 3] (by decide) rfl
  refine W.widen (k := (2)) (n := ((z40_count + 4).toNat)) (by omega) (by omega) ?_
  exact W.aret (v := .ref q_1) hx hb hr (Or.inl ⟨_, rfl⟩) (Or.inr ⟨_, rfl⟩) (fun t ht hW => ⟨⟨(), q_1, rfl, trivial, qn0_2, nn0_3, an0_4, ⟨hu_5.1, rk_5, hu_5.2⟩, by rw [ht]; exact hP, va_K.moved hW.alike hK, hD⟩, hS.F ht⟩) hS.2.2 dJ4_toString_0e30d_8
