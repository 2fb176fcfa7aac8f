theorem dJ5_length_8abf5_0 : decode cJ5_length_8abf5 0 = .ok (.aload_n 0, 1) := by decide +kernel
theorem dJ5_length_8abf5_1 : decode cJ5_length_8abf5 1 = .ok (.getfield 79, 3) := by decide +kernel
theorem dJ5_length_8abf5_4 : decode cJ5_length_8abf5 4 = .ok (.ireturn, 1) := by decide +kernel
def o_J5_length : List Cond := [.fieldLink RJ5 79 "java/lang/AbstractStringBuilder" "count" "I"]
def v_J5_length : List Cond := .code yJ5_length_8abf5 cJ5_length_8abf5 1 (some .int) :: (o_J5_length ++ (wsJ40 ++ []))
theorem mow_J5_length : ∀ w ∈ o_J5_length, w ∈ v_J5_length := fun _ h => List.mem_cons_of_mem _ (List.mem_append_left _ h)
theorem mem_J5_length_0 : ∀ w ∈ wsJ40, w ∈ v_J5_length := fun _ h => List.mem_cons_of_mem _ (List.mem_append_right _ (List.mem_append_left _ h))
set_option maxRecDepth 20000 in
theorem gw_J5_length : v_J5_length.all goodWord = true := by decide +kernel
set_option maxHeartbeats 4000000 in
set_option maxRecDepth 100000 in
theorem c_J5_length (l : Launch) (dC : Nat → ClassId) (dI : Nat → Nat → Nat) (h0 : Nat) (r40_maybeLatin1 : Int32) (z40_count : Int) (q_sv : Nat) (cB : ClassId) (nb : Nat) (a_sb : Int → Int) (M : Int) (hNz40_count : 0 ≤ z40_count ∧ z40_count ≤ 1000000) (hNnb : 16 ≤ nb ∧ nb ≤ M ∧ z40_count ≤ nb ∧ M ≤ 2000000) (hR_a_sb : ∀ j : Int, -128 ≤ a_sb j ∧ a_sb j ≤ 127) (sz : Nat) : Met l yJ5_length_8abf5 v_J5_length ({ frames := 0, cells := 0, slots := 0, locals := 0 }) (va_Pc [.ref h0] (fun U => U.heap.size = sz ∧ va_P (dC, dI) vwQ [(h0, .inr (17, [.ref q_sv, .int 0, .int r40_maybeLatin1, .int (zI (z40_count))])), (q_sv, .inl (cB, nb, .inl (fun j : Nat => zI (a_sb (j : Int)))))] U.heap ∧ va_K (dC, dI) vwQ [(cB, .byte)] U ∧ va_D (fun _ => True) [(h0, .inr (17, [.ref q_sv, .int 0, .int r40_maybeLatin1, .int (zI (z40_count))])), (q_sv, .inl (cB, nb, .inl (fun j : Nat => zI (a_sb (j : Int)))))])) (va_Qi (fun (r : Int32) (_ : Unit) => r = zI (z40_count)) (fun (_ : Unit) (t : State) => va_P (dC, dI) vwQ [(h0, .inr (17, [.ref q_sv, .int 0, .int r40_maybeLatin1, .int (zI (z40_count))])), (q_sv, .inl (cB, nb, .inl (fun j : Nat => zI (a_sb (j : Int)))))] t.heap ∧ va_K (dC, dI) vwQ [(cB, .byte)] t ∧ va_D (va_A [(h0, .inr (17, [.ref q_sv, .int 0, .int r40_maybeLatin1, .int (zI (z40_count))])), (q_sv, .inl (cB, nb, .inl (fun j : Nat => zI (a_sb (j : Int)))))] sz) [(h0, .inr (17, [.ref q_sv, .int 0, .int r40_maybeLatin1, .int (zI (z40_count))])), (q_sv, .inl (cB, nb, .inl (fun j : Nat => zI (a_sb (j : Int)))))]) (va_A [(h0, .inr (17, [.ref q_sv, .int 0, .int r40_maybeLatin1, .int (zI (z40_count))])), (q_sv, .inl (cB, nb, .inl (fun j : Nat => zI (a_sb (j : Int)))))] sz)) 0 0 (va_A [(h0, .inr (17, [.ref q_sv, .int 0, .int r40_maybeLatin1, .int (zI (z40_count))])), (q_sv, .inl (cB, nb, .inl (fun j : Nat => zI (a_sb (j : Int)))))] sz) := by
  refine Met.ofW (cc := cJ5_length_8abf5) (maxL := 1) (ret := (some .int)) (by decide) rfl ?_
  intro p e s m args below meth c s₁ B hml hv
  obtain ⟨rfl, hsz, hP, hK, hD0⟩ := hv
  have hx := B.exec
  have hb := B.bytes
  have hr := B.returns
  have hts := atoms_spec (ws := v_J5_length) B.pre
  have hown : s.vm.findClass RJ5 = some m.cls := findClass_of_methodNamed B.named
  have hlocks := B.notSynchronized
  have ow : ∀ {k : Nat} {w : Cond}, o_J5_length[k]? = some w → w.before ([.ref h0] : List Value).toArray s = true := fun h => hts _ (mow_J5_length _ (List.mem_of_getElem? h))
  subst hsz
  have hD := hD0.self (sz := s.heap.size)
  generalize hAe : va_A [(h0, .inr (17, [.ref q_sv, .int 0, .int r40_maybeLatin1, .int (zI (z40_count))])), (q_sv, .inl (cB, nb, .inl (fun j : Nat => zI (a_sb (j : Int)))))] s.heap.size = A at hD ⊢
  have hA : ∀ q : Nat, s.heap.size ≤ q → A q := fun q h => by rw [← hAe]; exact Or.inr h
  have hS : va_S A s.heap s.heap [] := va_S.rf
  have hP : va_P (dC, dI) vwQ [(h0, .inr (17, [.ref q_sv, .int 0, .int r40_maybeLatin1, .int (zI (z40_count))])), (q_sv, .inl (cB, nb, .inl (fun j : Nat => zI (a_sb (j : Int)))))] s.heap := hP
  have hl := lv_entry ([.ref h0]) (n := 1) (Nat.le_of_ble_eq_true rfl)
  rw [lg_entry_eq]
  generalize (lg_sl ([.ref h0]) ++ List.replicate (1 - (lg_sl ([.ref h0])).length) Slot.unset).toArray = ls at hl ⊢
  have hl : lv_has ls 1 [(0, .ref h0)] := hl
  obtain ⟨H, hH⟩ : ∃ H, H = s.heap := ⟨_, rfl⟩
  rw [← hH] at hP
  have hS : va_S A s.heap H [] := by rw [hH]; exact hS
  rw [← hH]
  refine zW_cap (fun Q hQ => ?_)
  refine lv_aload_n hx hb dJ5_length_8abf5_0 rfl (lv_at hl 0 rfl) ?_
  refine va_get (D := (dC, dI)) (ci := 17) (v := .int (zI (z40_count))) (C := RJ4) (T := TJ4) (N := 4) hx hb hts mem_J5_length_0 hown hK hP 0 rfl rfl 3 (by decide) (ow (k := 0) rfl) (fun _ h9 => h9) rfl dJ5_length_8abf5_1 ?_
  subst hQ
  refine W.widen (k := 0) (n := 0) (Nat.le_of_ble_eq_true rfl) (Nat.le_of_ble_eq_true rfl) ?_
  exact W.iret (v := (zI (z40_count))) hx hb hr (fun t ht hW => ⟨⟨(zI (z40_count)), (), rfl, rfl, by rw [ht]; exact hP, va_K.moved hW.alike hK, hD⟩, hS.F ht⟩) hS.2.2 dJ5_length_8abf5_4
theorem dJ4_length_8abf5_0 : decode cJ4_length_8abf5 0 = .ok (.aload_n 0, 1) := by decide +kernel
theorem dJ4_length_8abf5_1 : decode cJ4_length_8abf5 1 = .ok (.invokespecial 343, 3) := by decide +kernel
theorem dJ4_length_8abf5_4 : decode cJ4_length_8abf5 4 = .ok (.ireturn, 1) := by decide +kernel
def o_J4_length : List Cond := [.methodLink RJ4 343 yJ5_length_8abf5, .sameMethod "java/lang/AbstractStringBuilder" "java/lang/AbstractStringBuilder" "length" "()I", .superclass RJ4 RJ5, .instanceMethod yJ5_length_8abf5, .initialized RJ5]
def v_J4_length : List Cond := .code yJ4_length_8abf5 cJ4_length_8abf5 1 (some .int) :: (o_J4_length ++ (v_J5_length ++ []))
theorem mow_J4_length : ∀ w ∈ o_J4_length, w ∈ v_J4_length := fun _ h => List.mem_cons_of_mem _ (List.mem_append_left _ h)
theorem mem_J4_length_0 : ∀ w ∈ v_J5_length, w ∈ v_J4_length := fun _ h => List.mem_cons_of_mem _ (List.mem_append_right _ (List.mem_append_left _ h))
set_option maxRecDepth 20000 in
theorem gw_J4_length : v_J4_length.all goodWord = true := by decide +kernel
set_option maxRecDepth 20000 in
theorem g_J4_length_J5_length : GoodIn v_J4_length (va_wsSU RJ4 343 yJ5_length_8abf5 v_J5_length) := goodIn_app (goodIn_sub (fun w h => mow_J4_length w (by revert w h; decide +kernel)) (by decide +kernel)) (goodIn_sub mem_J4_length_0 gw_J5_length)
set_option maxHeartbeats 4000000 in
set_option maxRecDepth 100000 in
theorem c_J4_length (l : Launch) (dC : Nat → ClassId) (dI : Nat → Nat → Nat) (h0 : Nat) (r40_maybeLatin1 : Int32) (z40_count : Int) (q_sv : Nat) (cB : ClassId) (nb : Nat) (a_sb : Int → Int) (M : Int) (hNz40_count : 0 ≤ z40_count ∧ z40_count ≤ 1000000) (hNnb : 16 ≤ nb ∧ nb ≤ M ∧ z40_count ≤ nb ∧ M ≤ 2000000) (hR_a_sb : ∀ j : Int, -128 ≤ a_sb j ∧ a_sb j ≤ 127) (sz : Nat) : Met l yJ4_length_8abf5 v_J4_length ({ frames := 1, cells := 0, slots := 0, locals := 20 }) (va_Pc [.ref h0] (fun U => U.heap.size = sz ∧ va_P (dC, dI) vwQ [(h0, .inr (17, [.ref q_sv, .int 0, .int r40_maybeLatin1, .int (zI (z40_count))])), (q_sv, .inl (cB, nb, .inl (fun j : Nat => zI (a_sb (j : Int)))))] U.heap ∧ va_K (dC, dI) vwQ [(cB, .byte)] U ∧ va_D (fun _ => True) [(h0, .inr (17, [.ref q_sv, .int 0, .int r40_maybeLatin1, .int (zI (z40_count))])), (q_sv, .inl (cB, nb, .inl (fun j : Nat => zI (a_sb (j : Int)))))])) (va_Qi (fun (r : Int32) (_ : Unit) => r = zI (z40_count)) (fun (_ : Unit) (t : State) => va_P (dC, dI) vwQ [(h0, .inr (17, [.ref q_sv, .int 0, .int r40_maybeLatin1, .int (zI (z40_count))])), (q_sv, .inl (cB, nb, .inl (fun j : Nat => zI (a_sb (j : Int)))))] t.heap ∧ va_K (dC, dI) vwQ [(cB, .byte)] t ∧ va_D (va_A [(h0, .inr (17, [.ref q_sv, .int 0, .int r40_maybeLatin1, .int (zI (z40_count))])), (q_sv, .inl (cB, nb, .inl (fun j : Nat => zI (a_sb (j : Int)))))] sz) [(h0, .inr (17, [.ref q_sv, .int 0, .int r40_maybeLatin1, .int (zI (z40_count))])), (q_sv, .inl (cB, nb, .inl (fun j : Nat => zI (a_sb (j : Int)))))]) (va_A [(h0, .inr (17, [.ref q_sv, .int 0, .int r40_maybeLatin1, .int (zI (z40_count))])), (q_sv, .inl (cB, nb, .inl (fun j : Nat => zI (a_sb (j : Int)))))] sz)) 0 0 (va_A [(h0, .inr (17, [.ref q_sv, .int 0, .int r40_maybeLatin1, .int (zI (z40_count))])), (q_sv, .inl (cB, nb, .inl (fun j : Nat => zI (a_sb (j : Int)))))] sz) := by
  refine Met.ofW (cc := cJ4_length_8abf5) (maxL := 1) (ret := (some .int)) (by decide) rfl ?_
  intro p e s m args below meth c s₁ B hml hv
  obtain ⟨rfl, hsz, hP, hK, hD0⟩ := hv
  have hx := B.exec
  have hb := B.bytes
  have hr := B.returns
  have hts := atoms_spec (ws := v_J4_length) B.pre
  have hown : s.vm.findClass RJ4 = some m.cls := findClass_of_methodNamed B.named
  have hlocks := B.notSynchronized
  have ow : ∀ {k : Nat} {w : Cond}, o_J4_length[k]? = some w → w.before ([.ref h0] : List Value).toArray s = true := fun h => hts _ (mow_J4_length _ (List.mem_of_getElem? h))
  subst hsz
  have hD := hD0.self (sz := s.heap.size)
  generalize hAe : va_A [(h0, .inr (17, [.ref q_sv, .int 0, .int r40_maybeLatin1, .int (zI (z40_count))])), (q_sv, .inl (cB, nb, .inl (fun j : Nat => zI (a_sb (j : Int)))))] s.heap.size = A at hD ⊢
  have hA : ∀ q : Nat, s.heap.size ≤ q → A q := fun q h => by rw [← hAe]; exact Or.inr h
  have hS : va_S A s.heap s.heap [] := va_S.rf
  have hP : va_P (dC, dI) vwQ [(h0, .inr (17, [.ref q_sv, .int 0, .int r40_maybeLatin1, .int (zI (z40_count))])), (q_sv, .inl (cB, nb, .inl (fun j : Nat => zI (a_sb (j : Int)))))] s.heap := hP
  have hl := lv_entry ([.ref h0]) (n := 1) (Nat.le_of_ble_eq_true rfl)
  rw [lg_entry_eq]
  generalize (lg_sl ([.ref h0]) ++ List.replicate (1 - (lg_sl ([.ref h0])).length) Slot.unset).toArray = ls at hl ⊢
  have hl : lv_has ls 1 [(0, .ref h0)] := hl
  obtain ⟨H, hH⟩ : ∃ H, H = s.heap := ⟨_, rfl⟩
  rw [← hH] at hP
  have hS : va_S A s.heap H [] := by rw [hH]; exact hS
  rw [← hH]
  refine zW_cap (fun Q hQ => ?_)
  refine lv_aload_n hx hb dJ4_length_8abf5_0 rfl (lv_at hl 0 rfl) ?_
  have hPc := hP.sub (ws' := [(h0, .inr (17, [.ref q_sv, .int 0, .int r40_maybeLatin1, .int (zI (z40_count))])), (q_sv, .inl (cB, nb, .inl (fun j : Nat => zI (a_sb (j : Int)))))]) [0, 1] rfl
  have hDc := hD.sub (ws' := [(h0, .inr (17, [.ref q_sv, .int 0, .int r40_maybeLatin1, .int (zI (z40_count))])), (q_sv, .inl (cB, nb, .inl (fun j : Nat => zI (a_sb (j : Int)))))]) [0, 1] (by decide) rfl
  have hKc := hK.sub (tys' := [(cB, .byte)]) [0] rfl
  have hFc := va_free (wc := [(h0, .inr (17, [.ref q_sv, .int 0, .int r40_maybeLatin1, .int (zI (z40_count))])), (q_sv, .inl (cB, nb, .inl (fun j : Nat => zI (a_sb (j : Int)))))]) hD hS hA [0, 1] rfl
  refine va_calli (va_runSU (As := []) (rest := []) (C := RJ4) (hK.1 17 _ rfl).2 ⟨hx, hb, hml, hown, hts⟩ (c_J5_length l dC dI h0 r40_maybeLatin1 z40_count q_sv cB nb a_sb M (by omega) (by omega) hR_a_sb H.size) (va_cwSU 0 hts g_J4_length_J5_length rfl rfl rfl (by decide +kernel) ⟨(Nat.le_of_ble_eq_true rfl), (Nat.le_of_ble_eq_true rfl)⟩) ⟨fun a U g mk q => by obtain ⟨q0, q1, qP, qK, qD⟩ := q; exact ⟨q0, q1, qP, va_K.moved (u := U) (U := U.calling g mk a) (Vm.Alike.refl U.vm) qK, qD⟩, va_recv hKc hPc (ci := 17) (q0 := 0) rfl rfl, fun U hU hW => ⟨rfl, by rw [hU], by rw [hU]; exact hPc, va_K.moved hW.alike hKc, hDc.weaken (fun _ _ _ _ => trivial)⟩⟩ rfl rfl hl.1 rfl (lv_room (Nat.le_of_ble_eq_true rfl)) dJ4_length_8abf5_1 ⟨(Nat.le_of_ble_eq_true rfl), (Nat.le_of_ble_eq_true rfl)⟩) hS (fun q _ h => hFc q h) hFc (fun r_1 u t H1 locs ht hvm hw hB hz1 hk1 hS => ?_)
  obtain ⟨hP1, hK1, hD1⟩ := hB
  rw [ht] at hP1
  have hK1 := va_K.moved hvm.symm hK1
  obtain ⟨hP, hD⟩ := va_join (wr := []) (w1 := [(h0, .inr (17, [.ref q_sv, .int 0, .int r40_maybeLatin1, .int (zI (z40_count))])), (q_sv, .inl (cB, nb, .inl (fun j : Nat => zI (a_sb (j : Int)))))]) hP hD [0, 1] [] rfl rfl (by decide) (by decide) hk1 hFc hP1 hD1
  have hK := (hK.sub (tys' := []) [] rfl).app hK1
  generalize H1 = H at hP hS ⊢
  have hP : va_P (dC, dI) vwQ [(h0, .inr (17, [.ref q_sv, .int 0, .int r40_maybeLatin1, .int (zI (z40_count))])), (q_sv, .inl (cB, nb, .inl (fun j : Nat => zI (a_sb (j : Int)))))] H := hP
  have hD : va_D A [(h0, .inr (17, [.ref q_sv, .int 0, .int r40_maybeLatin1, .int (zI (z40_count))])), (q_sv, .inl (cB, nb, .inl (fun j : Nat => zI (a_sb (j : Int)))))] := hD
  have hK : va_K (dC, dI) vwQ [(cB, .byte)] s := hK
  refine W.widen (k := 0) (n := 0) (Nat.le_of_ble_eq_true rfl) (Nat.le_of_ble_eq_true rfl) ?_
  obtain rfl : r_1 = (zI (z40_count)) := hw
  subst hQ
  refine W.widen (k := 0) (n := 0) (Nat.le_of_ble_eq_true rfl) (Nat.le_of_ble_eq_true rfl) ?_
  exact W.iret (v := (zI (z40_count))) hx hb hr (fun t ht hW => ⟨⟨(zI (z40_count)), (), rfl, rfl, by rw [ht]; exact hP, va_K.moved hW.alike hK, hD⟩, hS.F ht⟩) hS.2.2 dJ4_length_8abf5_4
theorem dJ5_charAt_5068e_0 : decode cJ5_charAt_5068e 0 = .ok (.aload_n 0, 1) := by decide +kernel
theorem dJ5_charAt_5068e_1 : decode cJ5_charAt_5068e 1 = .ok (.getfield 22, 3) := by decide +kernel
theorem dJ5_charAt_5068e_4 : decode cJ5_charAt_5068e 4 = .ok (.istore_n 2, 1) := by decide +kernel
theorem dJ5_charAt_5068e_5 : decode cJ5_charAt_5068e 5 = .ok (.aload_n 0, 1) := by decide +kernel
theorem dJ5_charAt_5068e_6 : decode cJ5_charAt_5068e 6 = .ok (.getfield 15, 3) := by decide +kernel
theorem dJ5_charAt_5068e_9 : decode cJ5_charAt_5068e 9 = .ok (.astore_n 3, 1) := by decide +kernel
theorem dJ5_charAt_5068e_10 : decode cJ5_charAt_5068e 10 = .ok (.aload_n 0, 1) := by decide +kernel
theorem dJ5_charAt_5068e_11 : decode cJ5_charAt_5068e 11 = .ok (.getfield 79, 3) := by decide +kernel
theorem dJ5_charAt_5068e_14 : decode cJ5_charAt_5068e 14 = .ok (.aload_n 3, 1) := by decide +kernel
theorem dJ5_charAt_5068e_15 : decode cJ5_charAt_5068e 15 = .ok (.arraylength, 1) := by decide +kernel
theorem dJ5_charAt_5068e_16 : decode cJ5_charAt_5068e 16 = .ok (.iload_n 2, 1) := by decide +kernel
theorem dJ5_charAt_5068e_17 : decode cJ5_charAt_5068e 17 = .ok (.ishr, 1) := by decide +kernel
theorem dJ5_charAt_5068e_18 : decode cJ5_charAt_5068e 18 = .ok (.invokestatic 138, 3) := by decide +kernel
theorem dJ5_charAt_5068e_21 : decode cJ5_charAt_5068e 21 = .ok (.istore 4, 2) := by decide +kernel
theorem dJ5_charAt_5068e_23 : decode cJ5_charAt_5068e 23 = .ok (.iload_n 1, 1) := by decide +kernel
theorem dJ5_charAt_5068e_24 : decode cJ5_charAt_5068e 24 = .ok (.iload 4, 2) := by decide +kernel
theorem dJ5_charAt_5068e_26 : decode cJ5_charAt_5068e 26 = .ok (.invokestatic 144, 3) := by decide +kernel
theorem dJ5_charAt_5068e_29 : decode cJ5_charAt_5068e 29 = .ok (.iload_n 2, 1) := by decide +kernel
theorem dJ5_charAt_5068e_30 : decode cJ5_charAt_5068e 30 = .ok (.ifCond .ne 12, 3) := by decide +kernel
theorem dJ5_charAt_5068e_33 : decode cJ5_charAt_5068e 33 = .ok (.aload_n 3, 1) := by decide +kernel
theorem dJ5_charAt_5068e_34 : decode cJ5_charAt_5068e 34 = .ok (.iload_n 1, 1) := by decide +kernel
theorem dJ5_charAt_5068e_35 : decode cJ5_charAt_5068e 35 = .ok (.baload, 1) := by decide +kernel
theorem dJ5_charAt_5068e_36 : decode cJ5_charAt_5068e 36 = .ok (.sipush 255, 3) := by decide +kernel
theorem dJ5_charAt_5068e_39 : decode cJ5_charAt_5068e 39 = .ok (.iand, 1) := by decide +kernel
theorem dJ5_charAt_5068e_40 : decode cJ5_charAt_5068e 40 = .ok (.i2c, 1) := by decide +kernel
theorem dJ5_charAt_5068e_41 : decode cJ5_charAt_5068e 41 = .ok (.ireturn, 1) := by decide +kernel
def o_J5_charAt : List Cond := [.fieldLink RJ5 22 "java/lang/AbstractStringBuilder" "coder" "B", .fieldLink RJ5 15 "java/lang/AbstractStringBuilder" "value" "[B", .fieldLink RJ5 79 "java/lang/AbstractStringBuilder" "count" "I", .methodLink RJ5 138 Lib.Math.min.name, .static Lib.Math.min.name, .initialized "java/lang/Math", .code Lib.Math.min.name Lib.Math.min.code 2 (some .int), .methodLink RJ5 144 yJ0_checkIndex_df160, .static yJ0_checkIndex_df160, .initialized RJ0]
def v_J5_charAt : List Cond := .code yJ5_charAt_5068e cJ5_charAt_5068e 5 (some .char) :: (o_J5_charAt ++ (wsJ40 ++ (v_J0_checkIndexQ ++ [])))
theorem mow_J5_charAt : ∀ w ∈ o_J5_charAt, w ∈ v_J5_charAt := fun _ h => List.mem_cons_of_mem _ (List.mem_append_left _ h)
theorem mem_J5_charAt_0 : ∀ w ∈ wsJ40, w ∈ v_J5_charAt := fun _ h => List.mem_cons_of_mem _ (List.mem_append_right _ (List.mem_append_left _ h))
theorem mem_J5_charAt_1 : ∀ w ∈ v_J0_checkIndexQ, w ∈ v_J5_charAt := fun _ h => List.mem_cons_of_mem _ (List.mem_append_right _ (List.mem_append_right _ (List.mem_append_left _ h)))
set_option maxRecDepth 20000 in
theorem gw_J5_charAt : v_J5_charAt.all goodWord = true := by decide +kernel
set_option maxRecDepth 20000 in
theorem g_J5_charAt_J0_checkIndexQ : GoodIn v_J5_charAt (va_wsS RJ5 144 yJ0_checkIndex_df160 v_J0_checkIndexQ) := goodIn_app (goodIn_sub (fun w h => mow_J5_charAt w (by revert w h; decide +kernel)) (by decide +kernel)) (goodIn_sub mem_J5_charAt_1 gw_J0_checkIndexQ)
set_option maxHeartbeats 4000000 in
set_option maxRecDepth 100000 in
theorem c_J5_charAt (l : Launch) (dC : Nat → ClassId) (dI : Nat → Nat → Nat) (h0 : Nat) (r40_maybeLatin1 : Int32) (z40_count : Int) (q_sv : Nat) (cB : ClassId) (nb : Nat) (a_sb : Int → Int) (M : Int) (i : Int) (hNz40_count : 0 ≤ z40_count ∧ z40_count ≤ 1000000) (hNnb : 16 ≤ nb ∧ nb ≤ M ∧ z40_count ≤ nb ∧ M ≤ 2000000) (hR_a_sb : ∀ j : Int, -128 ≤ a_sb j ∧ a_sb j ≤ 127) (hNi : 0 ≤ i ∧ i < z40_count ∧ z40_count ≤ 900000) (sz : Nat) (sx_fm : Nat) : Met l yJ5_charAt_5068e v_J5_charAt ({ frames := 2, cells := 0, slots := 0, locals := 43 }) (va_Pc [.ref h0, .int (zI (i))] (fun U => U.heap.size = sz ∧ va_P (dC, dI) vwQ [(h0, .inr (17, [.ref q_sv, .int 0, .int r40_maybeLatin1, .int (zI (z40_count))])), (q_sv, .inl (cB, nb, .inl (fun j : Nat => zI (a_sb (j : Int)))))] U.heap ∧ va_K (dC, dI) vwQ [(cB, .byte)] U ∧ va_D (fun _ => True) [(h0, .inr (17, [.ref q_sv, .int 0, .int r40_maybeLatin1, .int (zI (z40_count))])), (q_sv, .inl (cB, nb, .inl (fun j : Nat => zI (a_sb (j : Int)))))] ∧ va_Z "jdk/internal/util/Preconditions" "SIOOBE_FORMATTER" "Ljava/util/function/BiFunction;" (.ref sx_fm) (va_A [(h0, .inr (17, [.ref q_sv, .int 0, .int r40_maybeLatin1, .int (zI (z40_count))])), (q_sv, .inl (cB, nb, .inl (fun j : Nat => zI (a_sb (j : Int)))))] sz) U U.heap)) (va_Qi (fun (r : Int32) (_ : Unit) => ∃ z : Int, r = zI z ∧ (0 ≤ z ∧ z ≤ 255)) (fun (_ : Unit) (t : State) => va_P (dC, dI) vwQ [(h0, .inr (17, [.ref q_sv, .int 0, .int r40_maybeLatin1, .int (zI (z40_count))])), (q_sv, .inl (cB, nb, .inl (fun j : Nat => zI (a_sb (j : Int)))))] t.heap ∧ va_K (dC, dI) vwQ [(cB, .byte)] t ∧ va_D (va_A [(h0, .inr (17, [.ref q_sv, .int 0, .int r40_maybeLatin1, .int (zI (z40_count))])), (q_sv, .inl (cB, nb, .inl (fun j : Nat => zI (a_sb (j : Int)))))] sz) [(h0, .inr (17, [.ref q_sv, .int 0, .int r40_maybeLatin1, .int (zI (z40_count))])), (q_sv, .inl (cB, nb, .inl (fun j : Nat => zI (a_sb (j : Int)))))]) (va_A [(h0, .inr (17, [.ref q_sv, .int 0, .int r40_maybeLatin1, .int (zI (z40_count))])), (q_sv, .inl (cB, nb, .inl (fun j : Nat => zI (a_sb (j : Int)))))] sz)) 0 0 (va_A [(h0, .inr (17, [.ref q_sv, .int 0, .int r40_maybeLatin1, .int (zI (z40_count))])), (q_sv, .inl (cB, nb, .inl (fun j : Nat => zI (a_sb (j : Int)))))] sz) := by
  refine Met.ofW (cc := cJ5_charAt_5068e) (maxL := 5) (ret := (some .char)) (by decide) rfl ?_
  intro p e s m args below meth c s₁ B hml hv
  obtain ⟨rfl, hsz, hP, hK, hD0, hp0⟩ := hv
  have hx := B.exec
  have hb := B.bytes
  have hr := B.returns
  have hts := atoms_spec (ws := v_J5_charAt) B.pre
  have hown : s.vm.findClass RJ5 = some m.cls := findClass_of_methodNamed B.named
  have hlocks := B.notSynchronized
  have ow : ∀ {k : Nat} {w : Cond}, o_J5_charAt[k]? = some w → w.before ([.ref h0, .int (zI (i))] : List Value).toArray s = true := fun h => hts _ (mow_J5_charAt _ (List.mem_of_getElem? h))
  subst hsz
  have hD := hD0.self (sz := s.heap.size)
  generalize hAe : va_A [(h0, .inr (17, [.ref q_sv, .int 0, .int r40_maybeLatin1, .int (zI (z40_count))])), (q_sv, .inl (cB, nb, .inl (fun j : Nat => zI (a_sb (j : Int)))))] s.heap.size = A at hD hp0 ⊢
  have hA : ∀ q : Nat, s.heap.size ≤ q → A q := fun q h => by rw [← hAe]; exact Or.inr h
  have hS : va_S A s.heap s.heap [] := va_S.rf
  have hP : va_P (dC, dI) vwQ [(h0, .inr (17, [.ref q_sv, .int 0, .int r40_maybeLatin1, .int (zI (z40_count))])), (q_sv, .inl (cB, nb, .inl (fun j : Nat => zI (a_sb (j : Int)))))] s.heap := hP
  have hl := lv_entry ([.ref h0, .int (zI (i))]) (n := 5) (Nat.le_of_ble_eq_true rfl)
  rw [lg_entry_eq]
  generalize (lg_sl ([.ref h0, .int (zI (i))]) ++ List.replicate (5 - (lg_sl ([.ref h0, .int (zI (i))])).length) Slot.unset).toArray = ls at hl ⊢
  have hl : lv_has ls 5 [(0, .ref h0), (1, .int (zI (i)))] := hl
  obtain ⟨H, hH⟩ : ∃ H, H = s.heap := ⟨_, rfl⟩
  rw [← hH] at hP
  have hS : va_S A s.heap H [] := by rw [hH]; exact hS
  rw [← hH]
  refine zW_cap (fun Q hQ => ?_)
  refine lv_aload_n hx hb dJ5_charAt_5068e_0 rfl (lv_at hl 0 rfl) ?_
  refine va_get (D := (dC, dI)) (ci := 17) (v := .int 0) (C := RJ4) (T := TJ4) (N := 4) hx hb hts mem_J5_charAt_0 hown hK hP 0 rfl rfl 1 (by decide) (ow (k := 0) rfl) (fun _ h9 => h9) rfl dJ5_charAt_5068e_1 ?_
  refine lv_istore_n (lv' := [(2, .int 0), (0, .ref h0), (1, .int (zI (i)))]) hx hb dJ5_charAt_5068e_4 rfl hl (by decide) rfl (fun ls hl => ?_)
  refine lv_aload_n hx hb dJ5_charAt_5068e_5 rfl (lv_at hl 1 rfl) ?_
  refine va_get (D := (dC, dI)) (ci := 17) (v := .ref q_sv) (C := RJ4) (T := TJ4) (N := 4) hx hb hts mem_J5_charAt_0 hown hK hP 0 rfl rfl 0 (by decide) (ow (k := 1) rfl) (fun _ h9 => h9) rfl dJ5_charAt_5068e_6 ?_
  refine lv_astore_n (lv' := [(3, .ref q_sv), (2, .int 0), (0, .ref h0), (1, .int (zI (i)))]) hx hb dJ5_charAt_5068e_9 rfl hl (by decide) rfl (fun ls hl => ?_)
  refine lv_aload_n hx hb dJ5_charAt_5068e_10 rfl (lv_at hl 2 rfl) ?_
  refine va_get (D := (dC, dI)) (ci := 17) (v := .int (zI (z40_count))) (C := RJ4) (T := TJ4) (N := 4) hx hb hts mem_J5_charAt_0 hown hK hP 0 rfl rfl 3 (by decide) (ow (k := 2) rfl) (fun _ h9 => h9) rfl dJ5_charAt_5068e_11 ?_
  refine lv_aload_n hx hb dJ5_charAt_5068e_14 rfl (lv_at hl 0 rfl) ?_
  refine va_alen (v := zI ((nb : Int))) hx hb hK hP 1 0 rfl rfl (zI_ofNat nb) dJ5_charAt_5068e_15 ?_
  refine lv_iload_n hx hb dJ5_charAt_5068e_16 rfl (lv_at hl 1 rfl) ?_
  refine lv_ishr hx hb dJ5_charAt_5068e_17 ?_
  refine lv_topi (fun z ez => ?_)
  obtain rfl : z = zI (((nb : Int)) / 1) := ez.trans (zI_shr (a := (nb : Int)) (k := 0) (by omega) (by omega) (by decide))
  refine va_mmin hx hb (hml.trans hl.1.symm) hown (ow (k := 3) rfl) (ow (k := 4) rfl) (ow (k := 5) rfl) (ow (k := 6) rfl) (Nat.le_of_ble_eq_true rfl) (Nat.le_of_ble_eq_true rfl) (Nat.le_of_ble_eq_true rfl) (Nat.le_of_ble_eq_true rfl) dJ5_charAt_5068e_18 ?_
  refine lv_topi (fun z9 ez => ?_)
  obtain ⟨z_1, rfl, hzz_1⟩ := zI_min (a := z40_count) (b := ((nb : Int)) / 1) (by omega) (by omega) (by omega) (by omega) ez
  refine lv_istore (lv' := [(4, .int (zI (z_1))), (3, .ref q_sv), (2, .int 0), (0, .ref h0), (1, .int (zI (i)))]) hx hb dJ5_charAt_5068e_21 hl (by decide) rfl (fun ls hl => ?_)
  refine lv_iload_n hx hb dJ5_charAt_5068e_23 rfl (lv_at hl 4 rfl) ?_
  refine lv_iload hx hb dJ5_charAt_5068e_24 (lv_at hl 0 rfl) ?_
  have hPc := hP.sub (ws' := []) [] rfl
  have hDc := hD.sub (ws' := []) [] (by decide) rfl
  have hKc := hK.sub (tys' := []) [] rfl
  have hFc := va_free (wc := []) hD hS hA [] rfl
  refine va_callv (va_runS (As := [.int (zI (i)), .int (zI (z_1))]) (rest := []) ⟨hx, hb, hml, hown, hts⟩ (c_J0_checkIndexQ l dC dI i z_1 (by omega) H.size sx_fm) (va_cwS 2 hts g_J5_charAt_J0_checkIndexQ rfl rfl rfl (by decide +kernel) ⟨(Nat.le_of_ble_eq_true rfl), (Nat.le_of_ble_eq_true rfl)⟩) ⟨fun a U g mk q => by obtain ⟨q0, q1, qP, qK, qD, e0⟩ := q; exact ⟨q0, q1, qP, va_K.moved (u := U) (U := U.calling g mk a) (Vm.Alike.refl U.vm) qK, qD, va_Z.moved (u := U) (U := U.calling g mk a) (Vm.Alike.refl U.vm) e0⟩, fun U hU hW => ⟨rfl, by rw [hU], by rw [hU]; exact hPc, va_K.moved hW.alike hKc, hDc.weaken (fun _ _ _ _ => trivial), by rw [hU]; exact va_Z.narrow (va_Z.moved hW.alike (va_Z.kept hp0 hS.2.1)) hFc⟩⟩ rfl rfl hl.1 rfl (lv_room (Nat.le_of_ble_eq_true rfl)) dJ5_charAt_5068e_26 ⟨(Nat.le_of_ble_eq_true rfl), (Nat.le_of_ble_eq_true rfl)⟩) hS (fun q _ h => hFc q h) hFc (fun  u t H1 locs ht hvm hw hB hz1 hk1 hS => ?_)
  obtain ⟨hP1, hK1, hD1⟩ := hB
  rw [ht] at hP1
  have hK1 := va_K.moved hvm.symm hK1
  obtain ⟨hP, hD⟩ := va_join (wr := [(h0, .inr (17, [.ref q_sv, .int 0, .int r40_maybeLatin1, .int (zI (z40_count))])), (q_sv, .inl (cB, nb, .inl (fun j : Nat => zI (a_sb (j : Int)))))]) (w1 := []) hP hD [] [0, 1] rfl rfl (by decide) (by decide) hk1 hFc hP1 hD1
  have hK := (hK.sub (tys' := [(cB, .byte)]) [0] rfl).app hK1
  generalize H1 = H at hP hS ⊢
  have hP : va_P (dC, dI) vwQ [(h0, .inr (17, [.ref q_sv, .int 0, .int r40_maybeLatin1, .int (zI (z40_count))])), (q_sv, .inl (cB, nb, .inl (fun j : Nat => zI (a_sb (j : Int)))))] H := hP
  have hD : va_D A [(h0, .inr (17, [.ref q_sv, .int 0, .int r40_maybeLatin1, .int (zI (z40_count))])), (q_sv, .inl (cB, nb, .inl (fun j : Nat => zI (a_sb (j : Int)))))] := hD
  have hK : va_K (dC, dI) vwQ [(cB, .byte)] s := hK
  refine W.widen (k := 0) (n := 0) (Nat.le_of_ble_eq_true rfl) (Nat.le_of_ble_eq_true rfl) ?_
  refine lv_iload_n hx hb dJ5_charAt_5068e_29 rfl (lv_at hl 2 rfl) ?_
  refine lv_if_ne (tgt := 42) hx hb dJ5_charAt_5068e_30 (by decide) (fun h9 => absurd h9 (by decide)) (fun _ => ?_)
  refine lv_aload_n hx hb dJ5_charAt_5068e_33 rfl (lv_at hl 1 rfl) ?_
  refine lv_iload_n hx hb dJ5_charAt_5068e_34 rfl (lv_at hl 4 rfl) ?_
  refine va_bald hx hb hK hP 1 0 rfl rfl (zI_in (a := i) (n := nb) (by omega) (by omega) (by omega)) dJ5_charAt_5068e_35 ?_
  refine lv_topi (fun z ez => ?_)
  obtain rfl : z = zI (a_sb (i)) := ez.trans (zI_ld (a_sb) (by omega) (by omega))
  have k1 := hR_a_sb (i)
  refine lv_sipush (v := 255) hx hb dJ5_charAt_5068e_36 (by decide) ?_
  refine lv_iand hx hb dJ5_charAt_5068e_39 ?_
  refine lv_topi (fun z9 ez => ?_)
  obtain ⟨z_2, rfl, hzz_2⟩ := zI_and 8 (m := 255) (by decide) (by decide) ez
  refine lv_i2c (v := zI (z_2)) hx hb dJ5_charAt_5068e_40 (zI_byte (by omega) (by omega)).2 ?_
  subst hQ
  refine W.widen (k := 0) (n := 0) (Nat.le_of_ble_eq_true rfl) (Nat.le_of_ble_eq_true rfl) ?_
  exact W.zret (v := (zI (z_2))) hx hb hr (zI_byte (by omega) (by omega)).1 (fun t ht hW => ⟨⟨(zI (z_2)), (), rfl, ⟨z_2, rfl, by omega⟩, by rw [ht]; exact hP, va_K.moved hW.alike hK, hD⟩, hS.F ht⟩) hS.2.2 dJ5_charAt_5068e_41
theorem dJ4_charAt_5068e_0 : decode cJ4_charAt_5068e 0 = .ok (.aload_n 0, 1) := by decide +kernel
theorem dJ4_charAt_5068e_1 : decode cJ4_charAt_5068e 1 = .ok (.iload_n 1, 1) := by decide +kernel
theorem dJ4_charAt_5068e_2 : decode cJ4_charAt_5068e 2 = .ok (.invokespecial 329, 3) := by decide +kernel
theorem dJ4_charAt_5068e_5 : decode cJ4_charAt_5068e 5 = .ok (.ireturn, 1) := by decide +kernel
def o_J4_charAt : List Cond := [.methodLink RJ4 329 yJ5_charAt_5068e, .sameMethod "java/lang/AbstractStringBuilder" "java/lang/AbstractStringBuilder" "charAt" "(I)C", .superclass RJ4 RJ5, .instanceMethod yJ5_charAt_5068e, .initialized RJ5]
def v_J4_charAt : List Cond := .code yJ4_charAt_5068e cJ4_charAt_5068e 2 (some .char) :: (o_J4_charAt ++ (v_J5_charAt ++ []))
theorem mow_J4_charAt : ∀ w ∈ o_J4_charAt, w ∈ v_J4_charAt := fun _ h => List.mem_cons_of_mem _ (List.mem_append_left _ h)
theorem mem_J4_charAt_0 : ∀ w ∈ v_J5_charAt, w ∈ v_J4_charAt := fun _ h => List.mem_cons_of_mem _ (List.mem_append_right _ (List.mem_append_left _ h))
set_option maxRecDepth 20000 in
theorem gw_J4_charAt : v_J4_charAt.all goodWord = true := by decide +kernel
set_option maxRecDepth 20000 in
theorem g_J4_charAt_J5_charAt : GoodIn v_J4_charAt (va_wsSU RJ4 329 yJ5_charAt_5068e v_J5_charAt) := goodIn_app (goodIn_sub (fun w h => mow_J4_charAt w (by revert w h; decide +kernel)) (by decide +kernel)) (goodIn_sub mem_J4_charAt_0 gw_J5_charAt)
set_option maxHeartbeats 4000000 in
set_option maxRecDepth 100000 in
theorem c_J4_charAt (l : Launch) (dC : Nat → ClassId) (dI : Nat → Nat → Nat) (h0 : Nat) (r40_maybeLatin1 : Int32) (z40_count : Int) (q_sv : Nat) (cB : ClassId) (nb : Nat) (a_sb : Int → Int) (M : Int) (i : Int) (hNz40_count : 0 ≤ z40_count ∧ z40_count ≤ 1000000) (hNnb : 16 ≤ nb ∧ nb ≤ M ∧ z40_count ≤ nb ∧ M ≤ 2000000) (hR_a_sb : ∀ j : Int, -128 ≤ a_sb j ∧ a_sb j ≤ 127) (hNi : 0 ≤ i ∧ i < z40_count ∧ z40_count ≤ 900000) (sz : Nat) (sx_fm : Nat) : Met l yJ4_charAt_5068e v_J4_charAt ({ frames := 3, cells := 0, slots := 0, locals := 67 }) (va_Pc [.ref h0, .int (zI (i))] (fun U => U.heap.size = sz ∧ va_P (dC, dI) vwQ [(h0, .inr (17, [.ref q_sv, .int 0, .int r40_maybeLatin1, .int (zI (z40_count))])), (q_sv, .inl (cB, nb, .inl (fun j : Nat => zI (a_sb (j : Int)))))] U.heap ∧ va_K (dC, dI) vwQ [(cB, .byte)] U ∧ va_D (fun _ => True) [(h0, .inr (17, [.ref q_sv, .int 0, .int r40_maybeLatin1, .int (zI (z40_count))])), (q_sv, .inl (cB, nb, .inl (fun j : Nat => zI (a_sb (j : Int)))))] ∧ va_Z "jdk/internal/util/Preconditions" "SIOOBE_FORMATTER" "Ljava/util/function/BiFunction;" (.ref sx_fm) (va_A [(h0, .inr (17, [.ref q_sv, .int 0, .int r40_maybeLatin1, .int (zI (z40_count))])), (q_sv, .inl (cB, nb, .inl (fun j : Nat => zI (a_sb (j : Int)))))] sz) U U.heap)) (va_Qi (fun (r : Int32) (_ : Unit) => ∃ z : Int, r = zI z ∧ (0 ≤ z ∧ z ≤ 255)) (fun (_ : Unit) (t : State) => va_P (dC, dI) vwQ [(h0, .inr (17, [.ref q_sv, .int 0, .int r40_maybeLatin1, .int (zI (z40_count))])), (q_sv, .inl (cB, nb, .inl (fun j : Nat => zI (a_sb (j : Int)))))] t.heap ∧ va_K (dC, dI) vwQ [(cB, .byte)] t ∧ va_D (va_A [(h0, .inr (17, [.ref q_sv, .int 0, .int r40_maybeLatin1, .int (zI (z40_count))])), (q_sv, .inl (cB, nb, .inl (fun j : Nat => zI (a_sb (j : Int)))))] sz) [(h0, .inr (17, [.ref q_sv, .int 0, .int r40_maybeLatin1, .int (zI (z40_count))])), (q_sv, .inl (cB, nb, .inl (fun j : Nat => zI (a_sb (j : Int)))))]) (va_A [(h0, .inr (17, [.ref q_sv, .int 0, .int r40_maybeLatin1, .int (zI (z40_count))])), (q_sv, .inl (cB, nb, .inl (fun j : Nat => zI (a_sb (j : Int)))))] sz)) 0 0 (va_A [(h0, .inr (17, [.ref q_sv, .int 0, .int r40_maybeLatin1, .int (zI (z40_count))])), (q_sv, .inl (cB, nb, .inl (fun j : Nat => zI (a_sb (j : Int)))))] sz) := by
  refine Met.ofW (cc := cJ4_charAt_5068e) (maxL := 2) (ret := (some .char)) (by decide) rfl ?_
  intro p e s m args below meth c s₁ B hml hv
  obtain ⟨rfl, hsz, hP, hK, hD0, hp0⟩ := hv
  have hx := B.exec
  have hb := B.bytes
  have hr := B.returns
  have hts := atoms_spec (ws := v_J4_charAt) B.pre
  have hown : s.vm.findClass RJ4 = some m.cls := findClass_of_methodNamed B.named
  have hlocks := B.notSynchronized
  have ow : ∀ {k : Nat} {w : Cond}, o_J4_charAt[k]? = some w → w.before ([.ref h0, .int (zI (i))] : List Value).toArray s = true := fun h => hts _ (mow_J4_charAt _ (List.mem_of_getElem? h))
  subst hsz
  have hD := hD0.self (sz := s.heap.size)
  generalize hAe : va_A [(h0, .inr (17, [.ref q_sv, .int 0, .int r40_maybeLatin1, .int (zI (z40_count))])), (q_sv, .inl (cB, nb, .inl (fun j : Nat => zI (a_sb (j : Int)))))] s.heap.size = A at hD hp0 ⊢
  have hA : ∀ q : Nat, s.heap.size ≤ q → A q := fun q h => by rw [← hAe]; exact Or.inr h
  have hS : va_S A s.heap s.heap [] := va_S.rf
  have hP : va_P (dC, dI) vwQ [(h0, .inr (17, [.ref q_sv, .int 0, .int r40_maybeLatin1, .int (zI (z40_count))])), (q_sv, .inl (cB, nb, .inl (fun j : Nat => zI (a_sb (j : Int)))))] s.heap := hP
  have hl := lv_entry ([.ref h0, .int (zI (i))]) (n := 2) (Nat.le_of_ble_eq_true rfl)
  rw [lg_entry_eq]
  generalize (lg_sl ([.ref h0, .int (zI (i))]) ++ List.replicate (2 - (lg_sl ([.ref h0, .int (zI (i))])).length) Slot.unset).toArray = ls at hl ⊢
  have hl : lv_has ls 2 [(0, .ref h0), (1, .int (zI (i)))] := hl
  obtain ⟨H, hH⟩ : ∃ H, H = s.heap := ⟨_, rfl⟩
  rw [← hH] at hP
  have hS : va_S A s.heap H [] := by rw [hH]; exact hS
  rw [← hH]
  refine zW_cap (fun Q hQ => ?_)
  refine lv_aload_n hx hb dJ4_charAt_5068e_0 rfl (lv_at hl 0 rfl) ?_
  refine lv_iload_n hx hb dJ4_charAt_5068e_1 rfl (lv_at hl 1 rfl) ?_
  have hPc := hP.sub (ws' := [(h0, .inr (17, [.ref q_sv, .int 0, .int r40_maybeLatin1, .int (zI (z40_count))])), (q_sv, .inl (cB, nb, .inl (fun j : Nat => zI (a_sb (j : Int)))))]) [0, 1] rfl
  have hDc := hD.sub (ws' := [(h0, .inr (17, [.ref q_sv, .int 0, .int r40_maybeLatin1, .int (zI (z40_count))])), (q_sv, .inl (cB, nb, .inl (fun j : Nat => zI (a_sb (j : Int)))))]) [0, 1] (by decide) rfl
  have hKc := hK.sub (tys' := [(cB, .byte)]) [0] rfl
  have hFc := va_free (wc := [(h0, .inr (17, [.ref q_sv, .int 0, .int r40_maybeLatin1, .int (zI (z40_count))])), (q_sv, .inl (cB, nb, .inl (fun j : Nat => zI (a_sb (j : Int)))))]) hD hS hA [0, 1] rfl
  refine va_calli (va_runSU (As := [.int (zI (i))]) (rest := []) (C := RJ4) (hK.1 17 _ rfl).2 ⟨hx, hb, hml, hown, hts⟩ (c_J5_charAt l dC dI h0 r40_maybeLatin1 z40_count q_sv cB nb a_sb M i (by omega) (by omega) hR_a_sb (by omega) H.size sx_fm) (va_cwSU 1 hts g_J4_charAt_J5_charAt rfl rfl rfl (by decide +kernel) ⟨(Nat.le_of_ble_eq_true rfl), (Nat.le_of_ble_eq_true rfl)⟩) ⟨fun a U g mk q => by obtain ⟨q0, q1, qP, qK, qD, e0⟩ := q; exact ⟨q0, q1, qP, va_K.moved (u := U) (U := U.calling g mk a) (Vm.Alike.refl U.vm) qK, qD, va_Z.moved (u := U) (U := U.calling g mk a) (Vm.Alike.refl U.vm) e0⟩, va_recv hKc hPc (ci := 17) (q0 := 0) rfl rfl, fun U hU hW => ⟨rfl, by rw [hU], by rw [hU]; exact hPc, va_K.moved hW.alike hKc, hDc.weaken (fun _ _ _ _ => trivial), by rw [hU]; exact va_Z.narrow (va_Z.moved hW.alike (va_Z.kept hp0 hS.2.1)) hFc⟩⟩ rfl rfl hl.1 rfl (lv_room (Nat.le_of_ble_eq_true rfl)) dJ4_charAt_5068e_2 ⟨(Nat.le_of_ble_eq_true rfl), (Nat.le_of_ble_eq_true rfl)⟩) hS (fun q _ h => hFc q h) hFc (fun r_1 u t H1 locs ht hvm hw hB hz1 hk1 hS => ?_)
  obtain ⟨hP1, hK1, hD1⟩ := hB
  rw [ht] at hP1
  have hK1 := va_K.moved hvm.symm hK1
  obtain ⟨hP, hD⟩ := va_join (wr := []) (w1 := [(h0, .inr (17, [.ref q_sv, .int 0, .int r40_maybeLatin1, .int (zI (z40_count))])), (q_sv, .inl (cB, nb, .inl (fun j : Nat => zI (a_sb (j : Int)))))]) hP hD [0, 1] [] rfl rfl (by decide) (by decide) hk1 hFc hP1 hD1
  have hK := (hK.sub (tys' := []) [] rfl).app hK1
  generalize H1 = H at hP hS ⊢
  have hP : va_P (dC, dI) vwQ [(h0, .inr (17, [.ref q_sv, .int 0, .int r40_maybeLatin1, .int (zI (z40_count))])), (q_sv, .inl (cB, nb, .inl (fun j : Nat => zI (a_sb (j : Int)))))] H := hP
  have hD : va_D A [(h0, .inr (17, [.ref q_sv, .int 0, .int r40_maybeLatin1, .int (zI (z40_count))])), (q_sv, .inl (cB, nb, .inl (fun j : Nat => zI (a_sb (j : Int)))))] := hD
  have hK : va_K (dC, dI) vwQ [(cB, .byte)] s := hK
  refine W.widen (k := 0) (n := 0) (Nat.le_of_ble_eq_true rfl) (Nat.le_of_ble_eq_true rfl) ?_
  have hw_2 := hw
  obtain ⟨z_3, rfl, hzz_3⟩ := hw_2
  subst hQ
  refine W.widen (k := 0) (n := 0) (Nat.le_of_ble_eq_true rfl) (Nat.le_of_ble_eq_true rfl) ?_
  exact W.zret (v := (zI (z_3))) hx hb hr (zI_byte (by omega) (by omega)).1 (fun t ht hW => ⟨⟨(zI (z_3)), (), rfl, ⟨z_3, rfl, by omega⟩, by rw [ht]; exact hP, va_K.moved hW.alike hK, hD⟩, hS.F ht⟩) hS.2.2 dJ4_charAt_5068e_5
theorem dJ5_setLength_d00df_0 : decode cJ5_setLength_d00df 0 = .ok (.iload_n 1, 1) := by decide +kernel
theorem dJ5_setLength_d00df_1 : decode cJ5_setLength_d00df 1 = .ok (.ifCond .ge 12, 3) := by decide +kernel
theorem dJ5_setLength_d00df_13 : decode cJ5_setLength_d00df 13 = .ok (.aload_n 0, 1) := by decide +kernel
theorem dJ5_setLength_d00df_14 : decode cJ5_setLength_d00df 14 = .ok (.iload_n 1, 1) := by decide +kernel
theorem dJ5_setLength_d00df_15 : decode cJ5_setLength_d00df 15 = .ok (.invokevirtual 100, 3) := by decide +kernel
theorem dJ5_setLength_d00df_18 : decode cJ5_setLength_d00df 18 = .ok (.aload_n 0, 1) := by decide +kernel
theorem dJ5_setLength_d00df_19 : decode cJ5_setLength_d00df 19 = .ok (.getfield 79, 3) := by decide +kernel
theorem dJ5_setLength_d00df_22 : decode cJ5_setLength_d00df 22 = .ok (.iload_n 1, 1) := by decide +kernel
theorem dJ5_setLength_d00df_23 : decode cJ5_setLength_d00df 23 = .ok (.if_icmp .ge 40, 3) := by decide +kernel
theorem dJ5_setLength_d00df_63 : decode cJ5_setLength_d00df 63 = .ok (.aload_n 0, 1) := by decide +kernel
theorem dJ5_setLength_d00df_64 : decode cJ5_setLength_d00df 64 = .ok (.getfield 79, 3) := by decide +kernel
theorem dJ5_setLength_d00df_67 : decode cJ5_setLength_d00df 67 = .ok (.iload_n 1, 1) := by decide +kernel
theorem dJ5_setLength_d00df_68 : decode cJ5_setLength_d00df 68 = .ok (.if_icmp .le 8, 3) := by decide +kernel
theorem dJ5_setLength_d00df_76 : decode cJ5_setLength_d00df 76 = .ok (.aload_n 0, 1) := by decide +kernel
theorem dJ5_setLength_d00df_77 : decode cJ5_setLength_d00df 77 = .ok (.iload_n 1, 1) := by decide +kernel
theorem dJ5_setLength_d00df_78 : decode cJ5_setLength_d00df 78 = .ok (.putfield 79, 3) := by decide +kernel
theorem dJ5_setLength_d00df_81 : decode cJ5_setLength_d00df 81 = .ok (.return_, 1) := by decide +kernel
theorem dJ5_setLength_d00df_71 : decode cJ5_setLength_d00df 71 = .ok (.aload_n 0, 1) := by decide +kernel
theorem dJ5_setLength_d00df_72 : decode cJ5_setLength_d00df 72 = .ok (.iconst 1, 1) := by decide +kernel
theorem dJ5_setLength_d00df_73 : decode cJ5_setLength_d00df 73 = .ok (.putfield 73, 3) := by decide +kernel
def o_J5_setLength0 : List Cond := [.methodLink RJ5 100 ⟨"java/lang/AbstractStringBuilder", "ensureCapacityInternal", "(I)V"⟩, .sameMethod "java/lang/AbstractStringBuilder" "java/lang/AbstractStringBuilder" "ensureCapacityInternal" "(I)V", .selects RJ4 ⟨"java/lang/AbstractStringBuilder", "ensureCapacityInternal", "(I)V"⟩ yJ5_ensureCapacityInternal_d00df, .instanceMethod yJ5_ensureCapacityInternal_d00df, .initialized RJ5, .fieldLink RJ5 79 "java/lang/AbstractStringBuilder" "count" "I", .fieldLink RJ5 73 "java/lang/AbstractStringBuilder" "maybeLatin1" "Z"]
def v_J5_setLength0 : List Cond := .code yJ5_setLength_d00df cJ5_setLength_d00df 2 none :: (o_J5_setLength0 ++ (v_J5_ensure ++ (wsJ40 ++ [])))
theorem mow_J5_setLength0 : ∀ w ∈ o_J5_setLength0, w ∈ v_J5_setLength0 := fun _ h => List.mem_cons_of_mem _ (List.mem_append_left _ h)
theorem mem_J5_setLength0_0 : ∀ w ∈ v_J5_ensure, w ∈ v_J5_setLength0 := fun _ h => List.mem_cons_of_mem _ (List.mem_append_right _ (List.mem_append_left _ h))
theorem mem_J5_setLength0_1 : ∀ w ∈ wsJ40, w ∈ v_J5_setLength0 := fun _ h => List.mem_cons_of_mem _ (List.mem_append_right _ (List.mem_append_right _ (List.mem_append_left _ h)))
set_option maxRecDepth 20000 in
theorem gw_J5_setLength0 : v_J5_setLength0.all goodWord = true := by decide +kernel
set_option maxRecDepth 20000 in
theorem g_J5_setLength0_J5_ensure : GoodIn v_J5_setLength0 (va_wsU RJ5 100 RJ4 RJ5 ⟨"java/lang/AbstractStringBuilder", "ensureCapacityInternal", "(I)V"⟩ yJ5_ensureCapacityInternal_d00df v_J5_ensure) := goodIn_app (goodIn_sub (fun w h => mow_J5_setLength0 w (by revert w h; decide +kernel)) (by decide +kernel)) (goodIn_sub mem_J5_setLength0_0 gw_J5_ensure)
set_option maxHeartbeats 4000000 in
set_option maxRecDepth 100000 in
theorem c_J5_setLength0 (l : Launch) (dC : Nat → ClassId) (dI : Nat → Nat → Nat) (h0 : Nat) (r40_maybeLatin1 : Int32) (z40_count : Int) (q_sv : Nat) (cB : ClassId) (nb : Nat) (a_sb : Int → Int) (M : Int) (hNz40_count : 0 ≤ z40_count ∧ z40_count ≤ 1000000) (hNnb : 16 ≤ nb ∧ nb ≤ M ∧ z40_count ≤ nb ∧ M ≤ 2000000) (hR_a_sb : ∀ j : Int, -128 ≤ a_sb j ∧ a_sb j ≤ 127) (hNm : 0 ≤ M) (sz : Nat) (HU : Heap) : Met l yJ5_setLength_d00df v_J5_setLength0 ({ frames := 4, cells := (((M - (nb : Int)) / 18).toNat), slots := ((2 * (M - (nb : Int))).toNat), locals := 104 }) (va_Pc [.ref h0, .int 0] (fun U => U.heap.size = sz ∧ va_P (dC, dI) vwQ [(h0, .inr (17, [.ref q_sv, .int 0, .int r40_maybeLatin1, .int (zI (z40_count))])), (q_sv, .inl (cB, nb, .inl (fun j : Nat => zI (a_sb (j : Int)))))] U.heap ∧ va_K (dC, dI) vwQ [(cB, .byte)] U ∧ va_D (fun _ => True) [(h0, .inr (17, [.ref q_sv, .int 0, .int r40_maybeLatin1, .int (zI (z40_count))])), (q_sv, .inl (cB, nb, .inl (fun j : Nat => zI (a_sb (j : Int)))))] ∧ U.heap = HU)) (va_Qv (fun _ : Unit => True) (fun (_ : Unit) (t : State) => ∃ (x0_9 : Int32) (z1_9 : Int) (qn0_9 : Nat) (nn0_9 : Nat) (an0_9 : Int → Int) (kc_9 : Nat) (ks_9 : Nat), ((RM HU t.heap kc_9 ks_9 ∧ ((ks_9 : Int) ≤ 2 * ((nn0_9 : Int) - nb) ∧ 18 * (kc_9 : Int) ≤ (nn0_9 : Int) - nb)) ∧ ((0 ≤ z1_9 ∧ z1_9 ≤ 1000000) ∧ (∀ j : Int, -128 ≤ an0_9 j ∧ an0_9 j ≤ 127) ∧ ((nb : Int) ≤ nn0_9 ∧ (nn0_9 : Int) ≤ M ∧ z1_9 = 0))) ∧ va_P (dC, dI) vwQ [(h0, .inr (17, [.ref qn0_9, .int 0, .int x0_9, .int (zI (z1_9))])), (qn0_9, .inl (cB, nn0_9, .inl (fun j : Nat => zI (an0_9 (j : Int)))))] t.heap ∧ va_K (dC, dI) vwQ [(cB, .byte)] t ∧ va_D (va_A [(h0, .inr (17, [.ref q_sv, .int 0, .int r40_maybeLatin1, .int (zI (z40_count))])), (q_sv, .inl (cB, nb, .inl (fun j : Nat => zI (a_sb (j : Int)))))] sz) [(h0, .inr (17, [.ref qn0_9, .int 0, .int x0_9, .int (zI (z1_9))])), (qn0_9, .inl (cB, nn0_9, .inl (fun j : Nat => zI (an0_9 (j : Int)))))]) (va_A [(h0, .inr (17, [.ref q_sv, .int 0, .int r40_maybeLatin1, .int (zI (z40_count))])), (q_sv, .inl (cB, nb, .inl (fun j : Nat => zI (a_sb (j : Int)))))] sz)) (((M - (nb : Int)) / 18).toNat) ((2 * (M - (nb : Int))).toNat) (va_A [(h0, .inr (17, [.ref q_sv, .int 0, .int r40_maybeLatin1, .int (zI (z40_count))])), (q_sv, .inl (cB, nb, .inl (fun j : Nat => zI (a_sb (j : Int)))))] sz) := by
  refine Met.ofW (cc := cJ5_setLength_d00df) (maxL := 2) (ret := none) (by decide) rfl ?_
  intro p e s m args below meth c s₁ B hml hv
  obtain ⟨rfl, hsz, hP, hK, hD0, hp0⟩ := hv
  have hx := B.exec
  have hb := B.bytes
  have hr := B.returns
  have hts := atoms_spec (ws := v_J5_setLength0) B.pre
  have hown : s.vm.findClass RJ5 = some m.cls := findClass_of_methodNamed B.named
  have hlocks := B.notSynchronized
  have ow : ∀ {k : Nat} {w : Cond}, o_J5_setLength0[k]? = some w → w.before ([.ref h0, .int 0] : List Value).toArray s = true := fun h => hts _ (mow_J5_setLength0 _ (List.mem_of_getElem? h))
  subst hsz
  have hD := hD0.self (sz := s.heap.size)
  generalize hAe : va_A [(h0, .inr (17, [.ref q_sv, .int 0, .int r40_maybeLatin1, .int (zI (z40_count))])), (q_sv, .inl (cB, nb, .inl (fun j : Nat => zI (a_sb (j : Int)))))] s.heap.size = A at hD ⊢
  have hA : ∀ q : Nat, s.heap.size ≤ q → A q := fun q h => by rw [← hAe]; exact Or.inr h
  have hS : va_S A s.heap s.heap [] := va_S.rf
  have hP : va_P (dC, dI) vwQ [(h0, .inr (17, [.ref q_sv, .int 0, .int r40_maybeLatin1, .int (zI (z40_count))])), (q_sv, .inl (cB, nb, .inl (fun j : Nat => zI (a_sb (j : Int)))))] s.heap := hP
  have hl := lv_entry ([.ref h0, .int 0]) (n := 2) (Nat.le_of_ble_eq_true rfl)
  rw [lg_entry_eq]
  generalize (lg_sl ([.ref h0, .int 0]) ++ List.replicate (2 - (lg_sl ([.ref h0, .int 0])).length) Slot.unset).toArray = ls at hl ⊢
  have hl : lv_has ls 2 [(0, .ref h0), (1, .int 0)] := hl
  obtain ⟨H, hH⟩ : ∃ H, H = s.heap := ⟨_, rfl⟩
  rw [← hH] at hP
  have hS : va_S A s.heap H [] := by rw [hH]; exact hS
  rw [← hH]
  refine zW_cap (fun Q hQ => ?_)
  refine lv_iload_n hx hb dJ5_setLength_d00df_0 rfl (lv_at hl 1 rfl) ?_
  refine lv_if_ge (tgt := 13) hx hb dJ5_setLength_d00df_1 (by decide) (fun _ => ?_) (fun h9 => absurd h9 (by decide))
  refine lv_aload_n hx hb dJ5_setLength_d00df_13 rfl (lv_at hl 0 rfl) ?_
  refine lv_iload_n hx hb dJ5_setLength_d00df_14 rfl (lv_at hl 1 rfl) ?_
  have hPc := hP.sub (ws' := [(h0, .inr (17, [.ref q_sv, .int 0, .int r40_maybeLatin1, .int (zI (z40_count))])), (q_sv, .inl (cB, nb, .inl (fun j : Nat => zI (a_sb (j : Int)))))]) [0, 1] rfl
  have hDc := hD.sub (ws' := [(h0, .inr (17, [.ref q_sv, .int 0, .int r40_maybeLatin1, .int (zI (z40_count))])), (q_sv, .inl (cB, nb, .inl (fun j : Nat => zI (a_sb (j : Int)))))]) [0, 1] (by decide) rfl
  have hKc := hK.sub (tys' := [(cB, .byte)]) [0] rfl
  have hFc := va_free (wc := [(h0, .inr (17, [.ref q_sv, .int 0, .int r40_maybeLatin1, .int (zI (z40_count))])), (q_sv, .inl (cB, nb, .inl (fun j : Nat => zI (a_sb (j : Int)))))]) hD hS hA [0, 1] rfl
  refine W_knowS (fun hrmA => ?_)
  refine va_callv (va_runU (As := [.int 0]) (rest := []) ⟨hx, hb, hml, hown, hts⟩ (c_J5_ensure l dC dI h0 r40_maybeLatin1 z40_count q_sv cB nb a_sb M 0 (by omega) (by omega) hR_a_sb (by omega) H.size H) (va_cwU (C := RJ4) (owner := RJ5) (x := ⟨"java/lang/AbstractStringBuilder", "ensureCapacityInternal", "(I)V"⟩) 1 hts g_J5_setLength0_J5_ensure rfl rfl rfl rfl (by decide +kernel) ⟨(Nat.le_of_ble_eq_true rfl), (Nat.le_of_ble_eq_true rfl)⟩) ⟨fun a U g mk q => by obtain ⟨q0, q1, qP, qK, qD, e0⟩ := q; exact ⟨q0, q1, qP, va_K.moved (u := U) (U := U.calling g mk a) (Vm.Alike.refl U.vm) qK, qD, e0⟩, va_recv hKc hPc (ci := 17) (q0 := 0) rfl rfl, fun U hU hW => ⟨rfl, by rw [hU], by rw [hU]; exact hPc, va_K.moved hW.alike hKc, hDc.weaken (fun _ _ _ _ => trivial), hU⟩⟩ rfl rfl hl.1 rfl (lv_room (Nat.le_of_ble_eq_true rfl)) dJ5_setLength_d00df_15 ⟨(show 0 + (((M - (nb : Int)) / 18).toNat) ≤ ((M - (nb : Int)) / 18).toNat from (by omega)), (show 0 + ((2 * (M - (nb : Int))).toNat) ≤ (2 * (M - (nb : Int))).toNat from (by omega))⟩) hS (fun q _ h => hFc q h) hFc (fun  u t H1 locs ht hvm hw hB hz1 hk1 hS => ?_)
  obtain ⟨qn0_1, nn0_2, an0_3, kc_4, ks_5, hxt_5, hP1, hK1, hD1⟩ := hB
  rw [ht] at hP1
  have hK1 := va_K.moved hvm.symm hK1
  obtain ⟨hP, hD⟩ := va_join (wr := []) (w1 := [(h0, .inr (17, [.ref qn0_1, .int 0, .int r40_maybeLatin1, .int (zI (z40_count))])), (qn0_1, .inl (cB, nn0_2, .inl (fun j : Nat => zI (an0_3 (j : Int)))))]) hP hD [0, 1] [] rfl rfl (by decide) (by decide) hk1 hFc hP1 hD1
  have hK := (hK.sub (tys' := []) [] rfl).app hK1
  have hrmC := hxt_5.1.1
  rw [ht] at hrmC
  refine W_tightS (hrmA.trans hrmC) ?_
  have hrb := hxt_5.1.2
  generalize H1 = H at hP hS ⊢
  have hP : va_P (dC, dI) vwQ [(h0, .inr (17, [.ref qn0_1, .int 0, .int r40_maybeLatin1, .int (zI (z40_count))])), (qn0_1, .inl (cB, nn0_2, .inl (fun j : Nat => zI (an0_3 (j : Int)))))] H := hP
  have hD : va_D A [(h0, .inr (17, [.ref qn0_1, .int 0, .int r40_maybeLatin1, .int (zI (z40_count))])), (qn0_1, .inl (cB, nn0_2, .inl (fun j : Nat => zI (an0_3 (j : Int)))))] := hD
  have hK : va_K (dC, dI) vwQ [(cB, .byte)] s := hK
  refine W.widen (k := (0 + kc_4)) (n := (0 + ks_5)) (by omega) (by omega) ?_
  obtain ⟨rk_6, hu_6⟩ := hxt_5.2
  refine lv_aload_n hx hb dJ5_setLength_d00df_18 rfl (lv_at hl 0 rfl) ?_
  refine va_get (D := (dC, dI)) (ci := 17) (v := .int (zI (z40_count))) (C := RJ4) (T := TJ4) (N := 4) hx hb hts mem_J5_setLength0_1 hown hK hP 0 rfl rfl 3 (by decide) (ow (k := 5) rfl) (fun _ h9 => h9) rfl dJ5_setLength_d00df_19 ?_
  refine lv_iload_n hx hb dJ5_setLength_d00df_22 rfl (lv_at hl 1 rfl) ?_
  refine lv_icmp_ge (tgt := 63) hx hb dJ5_setLength_d00df_23 (by decide) (fun b23 => ?_) (fun b23 => ?_)
  · have yb23 : (0 : Int) ≤ (z40_count : Int) := (zI_le (a := 0) (b := z40_count) (by omega) (by omega) (by omega) (by omega)).mp b23
    refine lv_aload_n hx hb dJ5_setLength_d00df_63 rfl (lv_at hl 0 rfl) ?_
    refine va_get (D := (dC, dI)) (ci := 17) (v := .int (zI (z40_count))) (C := RJ4) (T := TJ4) (N := 4) hx hb hts mem_J5_setLength0_1 hown hK hP 0 rfl rfl 3 (by decide) (ow (k := 5) rfl) (fun _ h9 => h9) rfl dJ5_setLength_d00df_64 ?_
    refine lv_iload_n hx hb dJ5_setLength_d00df_67 rfl (lv_at hl 1 rfl) ?_
    refine lv_icmp_le (tgt := 76) hx hb dJ5_setLength_d00df_68 (by decide) (fun b68 => ?_) (fun b68 => ?_)
    · have yb68 : (z40_count : Int) ≤ (0 : Int) := (zI_le (a := z40_count) (b := 0) (by omega) (by omega) (by omega) (by omega)).mp b68
      refine lv_aload_n hx hb dJ5_setLength_d00df_76 rfl (lv_at hl 0 rfl) ?_
      refine lv_iload_n hx hb dJ5_setLength_d00df_77 rfl (lv_at hl 1 rfl) ?_
      refine va_put (D := (dC, dI)) (ci := 17) (v := .int 0) (ty := .int) (C := RJ4) (T := TJ4) (N := 4) hx hb hts mem_J5_setLength0_1 tyJ4 tyJ4_ok nmJ4 hown hK hP hD hS 0 rfl rfl 3 (by decide) (ow (k := 5) rfl) (fun _ h9 => h9) rfl (by decide +kernel) rfl rfl (by first | exact Nat.le_of_ble_eq_true rfl | exact (show (0 + kc_4) ≤ ((M - (nb : Int)) / 18).toNat from (by omega)) | exact (show (0 + ks_5) ≤ (2 * (M - (nb : Int))).toNat from (by omega))) dJ5_setLength_d00df_78 (fun H locs hP hD hS => ?_)
      have hP : va_P (dC, dI) vwQ [(h0, .inr (17, [.ref qn0_1, .int 0, .int r40_maybeLatin1, .int 0])), (qn0_1, .inl (cB, nn0_2, .inl (fun j : Nat => zI (an0_3 (j : Int)))))] H := hP
      have hD : va_D A [(h0, .inr (17, [.ref qn0_1, .int 0, .int r40_maybeLatin1, .int 0])), (qn0_1, .inl (cB, nn0_2, .inl (fun j : Nat => zI (an0_3 (j : Int)))))] := hD
      subst hQ
      refine W_knowS (fun hrm9 => ?_)
      refine W.widen (k := (((M - (nb : Int)) / 18).toNat)) (n := ((2 * (M - (nb : Int))).toNat)) (by omega) (by omega) ?_
      exact W.vret hx hb hr (fun t ht hW => ⟨⟨(), rfl, trivial, r40_maybeLatin1, 0, qn0_1, nn0_2, an0_3, (0 + kc_4), (0 + ks_5), ⟨⟨(by rw [ht, ← hp0]; exact hrm9), (by omega)⟩, ⟨(by omega), rk_6, ⟨by omega, by omega, by omega⟩⟩⟩, by rw [ht]; exact hP, va_K.moved hW.alike hK, hD⟩, hS.F ht⟩) hS.2.2 dJ5_setLength_d00df_81
    · have yb68 : ¬ (z40_count : Int) ≤ (0 : Int) := fun q => b68 ((zI_le (a := z40_count) (b := 0) (by omega) (by omega) (by omega) (by omega)).mpr q)
      refine lv_aload_n hx hb dJ5_setLength_d00df_71 rfl (lv_at hl 0 rfl) ?_
      refine lv_iconst (v := 1) hx hb dJ5_setLength_d00df_72 (by decide) ?_
      refine va_put (D := (dC, dI)) (ci := 17) (v := .int 1) (ty := .boolean) (C := RJ4) (T := TJ4) (N := 4) hx hb hts mem_J5_setLength0_1 tyJ4 tyJ4_ok nmJ4 hown hK hP hD hS 0 rfl rfl 2 (by decide) (ow (k := 6) rfl) (fun _ h9 => h9) rfl (by decide +kernel) rfl rfl (by first | exact Nat.le_of_ble_eq_true rfl | exact (show (0 + kc_4) ≤ ((M - (nb : Int)) / 18).toNat from (by omega)) | exact (show (0 + ks_5) ≤ (2 * (M - (nb : Int))).toNat from (by omega))) dJ5_setLength_d00df_73 (fun H locs hP hD hS => ?_)
      have hP : va_P (dC, dI) vwQ [(h0, .inr (17, [.ref qn0_1, .int 0, .int 1, .int (zI (z40_count))])), (qn0_1, .inl (cB, nn0_2, .inl (fun j : Nat => zI (an0_3 (j : Int)))))] H := hP
      have hD : va_D A [(h0, .inr (17, [.ref qn0_1, .int 0, .int 1, .int (zI (z40_count))])), (qn0_1, .inl (cB, nn0_2, .inl (fun j : Nat => zI (an0_3 (j : Int)))))] := hD
      refine lv_aload_n hx hb dJ5_setLength_d00df_76 rfl (lv_at hl 0 rfl) ?_
      refine lv_iload_n hx hb dJ5_setLength_d00df_77 rfl (lv_at hl 1 rfl) ?_
      refine va_put (D := (dC, dI)) (ci := 17) (v := .int 0) (ty := .int) (C := RJ4) (T := TJ4) (N := 4) hx hb hts mem_J5_setLength0_1 tyJ4 tyJ4_ok nmJ4 hown hK hP hD hS 0 rfl rfl 3 (by decide) (ow (k := 5) rfl) (fun _ h9 => h9) rfl (by decide +kernel) rfl rfl (by first | exact Nat.le_of_ble_eq_true rfl | exact (show (0 + kc_4) ≤ ((M - (nb : Int)) / 18).toNat from (by omega)) | exact (show (0 + ks_5) ≤ (2 * (M - (nb : Int))).toNat from (by omega))) dJ5_setLength_d00df_78 (fun H locs hP hD hS => ?_)
      have hP : va_P (dC, dI) vwQ [(h0, .inr (17, [.ref qn0_1, .int 0, .int 1, .int 0])), (qn0_1, .inl (cB, nn0_2, .inl (fun j : Nat => zI (an0_3 (j : Int)))))] H := hP
      have hD : va_D A [(h0, .inr (17, [.ref qn0_1, .int 0, .int 1, .int 0])), (qn0_1, .inl (cB, nn0_2, .inl (fun j : Nat => zI (an0_3 (j : Int)))))] := hD
      subst hQ
      refine W_knowS (fun hrm9 => ?_)
      refine W.widen (k := (((M - (nb : Int)) / 18).toNat)) (n := ((2 * (M - (nb : Int))).toNat)) (by omega) (by omega) ?_
      exact W.vret hx hb hr (fun t ht hW => ⟨⟨(), rfl, trivial, 1, 0, qn0_1, nn0_2, an0_3, (0 + kc_4), (0 + ks_5), ⟨⟨(by rw [ht, ← hp0]; exact hrm9), (by omega)⟩, ⟨(by omega), rk_6, ⟨by omega, by omega, by omega⟩⟩⟩, by rw [ht]; exact hP, va_K.moved hW.alike hK, hD⟩, hS.F ht⟩) hS.2.2 dJ5_setLength_d00df_81
  · have yb23 : ¬ (0 : Int) ≤ (z40_count : Int) := fun q => b23 ((zI_le (a := 0) (b := z40_count) (by omega) (by omega) (by omega) (by omega)).mpr q)
    exfalso
    omega
theorem dJ4_setLength_d00df_0 : decode cJ4_setLength_d00df 0 = .ok (.aload_n 0, 1) := by decide +kernel
theorem dJ4_setLength_d00df_1 : decode cJ4_setLength_d00df 1 = .ok (.iload_n 1, 1) := by decide +kernel
theorem dJ4_setLength_d00df_2 : decode cJ4_setLength_d00df 2 = .ok (.invokespecial 333, 3) := by decide +kernel
theorem dJ4_setLength_d00df_5 : decode cJ4_setLength_d00df 5 = .ok (.return_, 1) := by decide +kernel
def o_J4_setLength0 : List Cond := [.methodLink RJ4 333 yJ5_setLength_d00df, .sameMethod "java/lang/AbstractStringBuilder" "java/lang/AbstractStringBuilder" "setLength" "(I)V", .superclass RJ4 RJ5, .instanceMethod yJ5_setLength_d00df, .initialized RJ5]
def v_J4_setLength0 : List Cond := .code yJ4_setLength_d00df cJ4_setLength_d00df 2 none :: (o_J4_setLength0 ++ (v_J5_setLength0 ++ []))
theorem mow_J4_setLength0 : ∀ w ∈ o_J4_setLength0, w ∈ v_J4_setLength0 := fun _ h => List.mem_cons_of_mem _ (List.mem_append_left _ h)
theorem mem_J4_setLength0_0 : ∀ w ∈ v_J5_setLength0, w ∈ v_J4_setLength0 := fun _ h => List.mem_cons_of_mem _ (List.mem_append_right _ (List.mem_append_left _ h))
set_option maxRecDepth 20000 in
theorem gw_J4_setLength0 : v_J4_setLength0.all goodWord = true := by decide +kernel
set_option maxRecDepth 20000 in
theorem g_J4_setLength0_J5_setLength0 : GoodIn v_J4_setLength0 (va_wsSU RJ4 333 yJ5_setLength_d00df v_J5_setLength0) := goodIn_app (goodIn_sub (fun w h => mow_J4_setLength0 w (by revert w h; decide +kernel)) (by decide +kernel)) (goodIn_sub mem_J4_setLength0_0 gw_J5_setLength0)
set_option maxHeartbeats 4000000 in
set_option maxRecDepth 100000 in
theorem c_J4_setLength0 (l : Launch) (dC : Nat → ClassId) (dI : Nat → Nat → Nat) (h0 : Nat) (r40_maybeLatin1 : Int32) (z40_count : Int) (q_sv : Nat) (cB : ClassId) (nb : Nat) (a_sb : Int → Int) (M : Int) (hNz40_count : 0 ≤ z40_count ∧ z40_count ≤ 1000000) (hNnb : 16 ≤ nb ∧ nb ≤ M ∧ z40_count ≤ nb ∧ M ≤ 2000000) (hR_a_sb : ∀ j : Int, -128 ≤ a_sb j ∧ a_sb j ≤ 127) (hNm : 0 ≤ M) (sz : Nat) (HU : Heap) : Met l yJ4_setLength_d00df v_J4_setLength0 ({ frames := 5, cells := (((M - (nb : Int)) / 18).toNat), slots := ((2 * (M - (nb : Int))).toNat), locals := 125 }) (va_Pc [.ref h0, .int 0] (fun U => U.heap.size = sz ∧ va_P (dC, dI) vwQ [(h0, .inr (17, [.ref q_sv, .int 0, .int r40_maybeLatin1, .int (zI (z40_count))])), (q_sv, .inl (cB, nb, .inl (fun j : Nat => zI (a_sb (j : Int)))))] U.heap ∧ va_K (dC, dI) vwQ [(cB, .byte)] U ∧ va_D (fun _ => True) [(h0, .inr (17, [.ref q_sv, .int 0, .int r40_maybeLatin1, .int (zI (z40_count))])), (q_sv, .inl (cB, nb, .inl (fun j : Nat => zI (a_sb (j : Int)))))] ∧ U.heap = HU)) (va_Qv (fun _ : Unit => True) (fun (_ : Unit) (t : State) => ∃ (x0_9 : Int32) (z1_9 : Int) (qn0_9 : Nat) (nn0_9 : Nat) (an0_9 : Int → Int) (kc_9 : Nat) (ks_9 : Nat), ((RM HU t.heap kc_9 ks_9 ∧ ((ks_9 : Int) ≤ 2 * ((nn0_9 : Int) - nb) ∧ 18 * (kc_9 : Int) ≤ (nn0_9 : Int) - nb)) ∧ ((0 ≤ z1_9 ∧ z1_9 ≤ 1000000) ∧ (∀ j : Int, -128 ≤ an0_9 j ∧ an0_9 j ≤ 127) ∧ ((nb : Int) ≤ nn0_9 ∧ (nn0_9 : Int) ≤ M ∧ z1_9 = 0))) ∧ va_P (dC, dI) vwQ [(h0, .inr (17, [.ref qn0_9, .int 0, .int x0_9, .int (zI (z1_9))])), (qn0_9, .inl (cB, nn0_9, .inl (fun j : Nat => zI (an0_9 (j : Int)))))] t.heap ∧ va_K (dC, dI) vwQ [(cB, .byte)] t ∧ va_D (va_A [(h0, .inr (17, [.ref q_sv, .int 0, .int r40_maybeLatin1, .int (zI (z40_count))])), (q_sv, .inl (cB, nb, .inl (fun j : Nat => zI (a_sb (j : Int)))))] sz) [(h0, .inr (17, [.ref qn0_9, .int 0, .int x0_9, .int (zI (z1_9))])), (qn0_9, .inl (cB, nn0_9, .inl (fun j : Nat => zI (an0_9 (j : Int)))))]) (va_A [(h0, .inr (17, [.ref q_sv, .int 0, .int r40_maybeLatin1, .int (zI (z40_count))])), (q_sv, .inl (cB, nb, .inl (fun j : Nat => zI (a_sb (j : Int)))))] sz)) (((M - (nb : Int)) / 18).toNat) ((2 * (M - (nb : Int))).toNat) (va_A [(h0, .inr (17, [.ref q_sv, .int 0, .int r40_maybeLatin1, .int (zI (z40_count))])), (q_sv, .inl (cB, nb, .inl (fun j : Nat => zI (a_sb (j : Int)))))] sz) := by
  refine Met.ofW (cc := cJ4_setLength_d00df) (maxL := 2) (ret := none) (by decide) rfl ?_
  intro p e s m args below meth c s₁ B hml hv
  obtain ⟨rfl, hsz, hP, hK, hD0, hp0⟩ := hv
  have hx := B.exec
  have hb := B.bytes
  have hr := B.returns
  have hts := atoms_spec (ws := v_J4_setLength0) B.pre
  have hown : s.vm.findClass RJ4 = some m.cls := findClass_of_methodNamed B.named
  have hlocks := B.notSynchronized
  have ow : ∀ {k : Nat} {w : Cond}, o_J4_setLength0[k]? = some w → w.before ([.ref h0, .int 0] : List Value).toArray s = true := fun h => hts _ (mow_J4_setLength0 _ (List.mem_of_getElem? h))
  subst hsz
  have hD := hD0.self (sz := s.heap.size)
  generalize hAe : va_A [(h0, .inr (17, [.ref q_sv, .int 0, .int r40_maybeLatin1, .int (zI (z40_count))])), (q_sv, .inl (cB, nb, .inl (fun j : Nat => zI (a_sb (j : Int)))))] s.heap.size = A at hD ⊢
  have hA : ∀ q : Nat, s.heap.size ≤ q → A q := fun q h => by rw [← hAe]; exact Or.inr h
  have hS : va_S A s.heap s.heap [] := va_S.rf
  have hP : va_P (dC, dI) vwQ [(h0, .inr (17, [.ref q_sv, .int 0, .int r40_maybeLatin1, .int (zI (z40_count))])), (q_sv, .inl (cB, nb, .inl (fun j : Nat => zI (a_sb (j : Int)))))] s.heap := hP
  have hl := lv_entry ([.ref h0, .int 0]) (n := 2) (Nat.le_of_ble_eq_true rfl)
  rw [lg_entry_eq]
  generalize (lg_sl ([.ref h0, .int 0]) ++ List.replicate (2 - (lg_sl ([.ref h0, .int 0])).length) Slot.unset).toArray = ls at hl ⊢
  have hl : lv_has ls 2 [(0, .ref h0), (1, .int 0)] := hl
  obtain ⟨H, hH⟩ : ∃ H, H = s.heap := ⟨_, rfl⟩
  rw [← hH] at hP
  have hS : va_S A s.heap H [] := by rw [hH]; exact hS
  rw [← hH]
  refine zW_cap (fun Q hQ => ?_)
  refine lv_aload_n hx hb dJ4_setLength_d00df_0 rfl (lv_at hl 0 rfl) ?_
  refine lv_iload_n hx hb dJ4_setLength_d00df_1 rfl (lv_at hl 1 rfl) ?_
  have hPc := hP.sub (ws' := [(h0, .inr (17, [.ref q_sv, .int 0, .int r40_maybeLatin1, .int (zI (z40_count))])), (q_sv, .inl (cB, nb, .inl (fun j : Nat => zI (a_sb (j : Int)))))]) [0, 1] rfl
  have hDc := hD.sub (ws' := [(h0, .inr (17, [.ref q_sv, .int 0, .int r40_maybeLatin1, .int (zI (z40_count))])), (q_sv, .inl (cB, nb, .inl (fun j : Nat => zI (a_sb (j : Int)))))]) [0, 1] (by decide) rfl
  have hKc := hK.sub (tys' := [(cB, .byte)]) [0] rfl
  have hFc := va_free (wc := [(h0, .inr (17, [.ref q_sv, .int 0, .int r40_maybeLatin1, .int (zI (z40_count))])), (q_sv, .inl (cB, nb, .inl (fun j : Nat => zI (a_sb (j : Int)))))]) hD hS hA [0, 1] rfl
  refine W_knowS (fun hrmA => ?_)
  refine va_callv (va_runSU (As := [.int 0]) (rest := []) (C := RJ4) (hK.1 17 _ rfl).2 ⟨hx, hb, hml, hown, hts⟩ (c_J5_setLength0 l dC dI h0 r40_maybeLatin1 z40_count q_sv cB nb a_sb M (by omega) (by omega) hR_a_sb (by omega) H.size H) (va_cwSU 1 hts g_J4_setLength0_J5_setLength0 rfl rfl rfl (by decide +kernel) ⟨(Nat.le_of_ble_eq_true rfl), (Nat.le_of_ble_eq_true rfl)⟩) ⟨fun a U g mk q => by obtain ⟨q0, q1, qP, qK, qD, e0⟩ := q; exact ⟨q0, q1, qP, va_K.moved (u := U) (U := U.calling g mk a) (Vm.Alike.refl U.vm) qK, qD, e0⟩, va_recv hKc hPc (ci := 17) (q0 := 0) rfl rfl, fun U hU hW => ⟨rfl, by rw [hU], by rw [hU]; exact hPc, va_K.moved hW.alike hKc, hDc.weaken (fun _ _ _ _ => trivial), hU⟩⟩ rfl rfl hl.1 rfl (lv_room (Nat.le_of_ble_eq_true rfl)) dJ4_setLength_d00df_2 ⟨(show 0 + (((M - (nb : Int)) / 18).toNat) ≤ ((M - (nb : Int)) / 18).toNat from (by omega)), (show 0 + ((2 * (M - (nb : Int))).toNat) ≤ (2 * (M - (nb : Int))).toNat from (by omega))⟩) hS (fun q _ h => hFc q h) hFc (fun  u t H1 locs ht hvm hw hB hz1 hk1 hS => ?_)
  obtain ⟨x0_1, z1_2, qn0_3, nn0_4, an0_5, kc_6, ks_7, hxt_7, hP1, hK1, hD1⟩ := hB
  rw [ht] at hP1
  have hK1 := va_K.moved hvm.symm hK1
  obtain ⟨hP, hD⟩ := va_join (wr := []) (w1 := [(h0, .inr (17, [.ref qn0_3, .int 0, .int x0_1, .int (zI (z1_2))])), (qn0_3, .inl (cB, nn0_4, .inl (fun j : Nat => zI (an0_5 (j : Int)))))]) hP hD [0, 1] [] rfl rfl (by decide) (by decide) hk1 hFc hP1 hD1
  have hK := (hK.sub (tys' := []) [] rfl).app hK1
  have hrmC := hxt_7.1.1
  rw [ht] at hrmC
  refine W_tightS (hrmA.trans hrmC) ?_
  have hrb := hxt_7.1.2
  generalize H1 = H at hP hS ⊢
  have hP : va_P (dC, dI) vwQ [(h0, .inr (17, [.ref qn0_3, .int 0, .int x0_1, .int (zI (z1_2))])), (qn0_3, .inl (cB, nn0_4, .inl (fun j : Nat => zI (an0_5 (j : Int)))))] H := hP
  have hD : va_D A [(h0, .inr (17, [.ref qn0_3, .int 0, .int x0_1, .int (zI (z1_2))])), (qn0_3, .inl (cB, nn0_4, .inl (fun j : Nat => zI (an0_5 (j : Int)))))] := hD
  have hK : va_K (dC, dI) vwQ [(cB, .byte)] s := hK
  refine W.widen (k := (0 + kc_6)) (n := (0 + ks_7)) (by omega) (by omega) ?_
  obtain ⟨rk_8, rk_9, hu_9⟩ := hxt_7.2
  subst hQ
  refine W_knowS (fun hrm9 => ?_)
  refine W.widen (k := (((M - (nb : Int)) / 18).toNat)) (n := ((2 * (M - (nb : Int))).toNat)) (by omega) (by omega) ?_
  exact W.vret hx hb hr (fun t ht hW => ⟨⟨(), rfl, trivial, x0_1, z1_2, qn0_3, nn0_4, an0_5, (0 + kc_6), (0 + ks_7), ⟨⟨(by rw [ht, ← hp0]; exact hrm9), (by omega)⟩, ⟨(by omega), rk_9, ⟨by omega, by omega, by omega⟩⟩⟩, by rw [ht]; exact hP, va_K.moved hW.alike hK, hD⟩, hS.F ht⟩) hS.2.2 dJ4_setLength_d00df_5
