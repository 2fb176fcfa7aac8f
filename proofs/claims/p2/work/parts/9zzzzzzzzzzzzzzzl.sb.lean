def o_J5_appendID : List Cond := [.fieldLink RJ5 79 "java/lang/AbstractStringBuilder" "count" "I", .methodLink RJ5 245 yJ6_stringSize_0f7a4, .static yJ6_stringSize_0f7a4, .initialized RJ6, .methodLink RJ5 100 ⟨"java/lang/AbstractStringBuilder", "ensureCapacityInternal", "(I)V"⟩, .sameMethod "java/lang/AbstractStringBuilder" "java/lang/AbstractStringBuilder" "ensureCapacityInternal" "(I)V", .selects RJ4 ⟨"java/lang/AbstractStringBuilder", "ensureCapacityInternal", "(I)V"⟩ yJ5_ensureCapacityInternal_d00df, .instanceMethod yJ5_ensureCapacityInternal_d00df, .initialized RJ5, .methodLink RJ5 83 ⟨"java/lang/AbstractStringBuilder", "isLatin1", "()Z"⟩, .sameMethod "java/lang/AbstractStringBuilder" "java/lang/AbstractStringBuilder" "isLatin1" "()Z", .selects RJ4 ⟨"java/lang/AbstractStringBuilder", "isLatin1", "()Z"⟩ yJ5_isLatin1_aae02, .instanceMethod yJ5_isLatin1_aae02, .fieldLink RJ5 15 "java/lang/AbstractStringBuilder" "value" "[B", .methodLink RJ5 248 yJ6_getChars_ba4f3, .static yJ6_getChars_ba4f3]
def v_J5_appendID : List Cond := .code yJ5_append_c97b9 cJ5_append_c97b9 4 (some (.object "java/lang/AbstractStringBuilder")) :: (o_J5_appendID ++ (wsJ40 ++ (v_J6_stringSizeD ++ (v_J5_ensureD ++ (v_J5_isLatin1 ++ (v_J6_getChars ++ []))))))
theorem mow_J5_appendID : ∀ w ∈ o_J5_appendID, w ∈ v_J5_appendID := fun _ h => List.mem_cons_of_mem _ (List.mem_append_left _ h)
theorem mem_J5_appendID_0 : ∀ w ∈ wsJ40, w ∈ v_J5_appendID := fun _ h => List.mem_cons_of_mem _ (List.mem_append_right _ (List.mem_append_left _ h))
theorem mem_J5_appendID_1 : ∀ w ∈ v_J6_stringSizeD, w ∈ v_J5_appendID := fun _ h => List.mem_cons_of_mem _ (List.mem_append_right _ (List.mem_append_right _ (List.mem_append_left _ h)))
theorem mem_J5_appendID_2 : ∀ w ∈ v_J5_ensureD, w ∈ v_J5_appendID := fun _ h => List.mem_cons_of_mem _ (List.mem_append_right _ (List.mem_append_right _ (List.mem_append_right _ (List.mem_append_left _ h))))
theorem mem_J5_appendID_3 : ∀ w ∈ v_J5_isLatin1, w ∈ v_J5_appendID := fun _ h => List.mem_cons_of_mem _ (List.mem_append_right _ (List.mem_append_right _ (List.mem_append_right _ (List.mem_append_right _ (List.mem_append_left _ h)))))
theorem mem_J5_appendID_4 : ∀ w ∈ v_J6_getChars, w ∈ v_J5_appendID := fun _ h => List.mem_cons_of_mem _ (List.mem_append_right _ (List.mem_append_right _ (List.mem_append_right _ (List.mem_append_right _ (List.mem_append_right _ (List.mem_append_left _ h))))))
set_option maxRecDepth 20000 in
theorem gw_J5_appendID : v_J5_appendID.all goodWord = true := by decide +kernel
set_option maxRecDepth 20000 in
theorem g_J5_appendID_J6_stringSizeD : GoodIn v_J5_appendID (va_wsS RJ5 245 yJ6_stringSize_0f7a4 v_J6_stringSizeD) := goodIn_app (goodIn_sub (fun w h => mow_J5_appendID w (by revert w h; decide +kernel)) (by decide +kernel)) (goodIn_sub mem_J5_appendID_1 gw_J6_stringSizeD)
set_option maxRecDepth 20000 in
theorem g_J5_appendID_J5_ensureD : GoodIn v_J5_appendID (va_wsU RJ5 100 RJ4 RJ5 ⟨"java/lang/AbstractStringBuilder", "ensureCapacityInternal", "(I)V"⟩ yJ5_ensureCapacityInternal_d00df v_J5_ensureD) := goodIn_app (goodIn_sub (fun w h => mow_J5_appendID w (by revert w h; decide +kernel)) (by decide +kernel)) (goodIn_sub mem_J5_appendID_2 gw_J5_ensureD)
set_option maxRecDepth 20000 in
theorem g_J5_appendID_J5_isLatin1 : GoodIn v_J5_appendID (va_wsU RJ5 83 RJ4 RJ5 ⟨"java/lang/AbstractStringBuilder", "isLatin1", "()Z"⟩ yJ5_isLatin1_aae02 v_J5_isLatin1) := goodIn_app (goodIn_sub (fun w h => mow_J5_appendID w (by revert w h; decide +kernel)) (by decide +kernel)) (goodIn_sub mem_J5_appendID_3 gw_J5_isLatin1)
set_option maxRecDepth 20000 in
theorem g_J5_appendID_J6_getChars : GoodIn v_J5_appendID (va_wsS RJ5 248 yJ6_getChars_ba4f3 v_J6_getChars) := goodIn_app (goodIn_sub (fun w h => mow_J5_appendID w (by revert w h; decide +kernel)) (by decide +kernel)) (goodIn_sub mem_J5_appendID_4 gw_J6_getChars)
set_option maxHeartbeats 4000000 in
set_option maxRecDepth 100000 in
theorem c_J5_appendID (l : Launch) (dC : Nat → ClassId) (dI : Nat → Nat → Nat) (h0 : Nat) (r40_maybeLatin1 : Int32) (z40_count : Int) (q_sv : Nat) (cB : ClassId) (nb : Nat) (a_sb : Int → Int) (M : Int) (LB : Int) (x0 : Int) (hNz40_count : 0 ≤ z40_count ∧ z40_count ≤ 1000000) (hNnb : 16 ≤ nb ∧ nb ≤ M ∧ z40_count ≤ nb ∧ M ≤ 2000000 ∧ LB ≤ 900000) (hR_a_sb : ∀ j : Int, -128 ≤ a_sb j ∧ a_sb j ≤ 127) (hX_sc : SBC nb LB M) (hNx : -2147483648 ≤ x0 ∧ x0 ≤ 2147483647) (hNm : z40_count + 11 ≤ LB) (sz : Nat) (sx_d1 : Nat) (fsx_d1 : Nat → Int32) (sx_d2 : Nat) (fsx_d2 : Nat → Int32) (HU : Heap) : Met l yJ5_append_c97b9 v_J5_appendID ({ frames := 4, cells := (((M - (nb : Int)) / 18).toNat), slots := ((2 * (M - (nb : Int))).toNat), locals := 104 }) (va_Pc [.ref h0, .int (zI (x0))] (fun U => U.heap.size = sz ∧ va_P (dC, dI) vwQ [(h0, .inr (17, [.ref q_sv, .int 0, .int r40_maybeLatin1, .int (zI (z40_count))])), (q_sv, .inl (cB, nb, .inl (fun j : Nat => zI (a_sb (j : Int)))))] U.heap ∧ va_K (dC, dI) vwQ [(cB, .byte)] U ∧ va_D (fun _ => True) [(h0, .inr (17, [.ref q_sv, .int 0, .int r40_maybeLatin1, .int (zI (z40_count))])), (q_sv, .inl (cB, nb, .inl (fun j : Nat => zI (a_sb (j : Int)))))] ∧ va_Z "java/lang/String" "COMPACT_STRINGS" "Z" (.int 1) (va_A [(h0, .inr (17, [.ref q_sv, .int 0, .int r40_maybeLatin1, .int (zI (z40_count))])), (q_sv, .inl (cB, nb, .inl (fun j : Nat => zI (a_sb (j : Int)))))] sz) U U.heap ∧ va_Z "java/lang/Integer" "DigitOnes" "[B" (.ref sx_d1) (va_A [(h0, .inr (17, [.ref q_sv, .int 0, .int r40_maybeLatin1, .int (zI (z40_count))])), (q_sv, .inl (cB, nb, .inl (fun j : Nat => zI (a_sb (j : Int)))))] sz) U U.heap ∧ va_T .byte sx_d1 100 (fun j => .int (fsx_d1 j)) (va_A [(h0, .inr (17, [.ref q_sv, .int 0, .int r40_maybeLatin1, .int (zI (z40_count))])), (q_sv, .inl (cB, nb, .inl (fun j : Nat => zI (a_sb (j : Int)))))] sz) U U.heap ∧ va_Z "java/lang/Integer" "DigitTens" "[B" (.ref sx_d2) (va_A [(h0, .inr (17, [.ref q_sv, .int 0, .int r40_maybeLatin1, .int (zI (z40_count))])), (q_sv, .inl (cB, nb, .inl (fun j : Nat => zI (a_sb (j : Int)))))] sz) U U.heap ∧ va_T .byte sx_d2 100 (fun j => .int (fsx_d2 j)) (va_A [(h0, .inr (17, [.ref q_sv, .int 0, .int r40_maybeLatin1, .int (zI (z40_count))])), (q_sv, .inl (cB, nb, .inl (fun j : Nat => zI (a_sb (j : Int)))))] sz) U U.heap ∧ U.heap = HU)) (va_Qr (fun _ : Unit => True) (fun (_ : Unit) (rq : Nat) (t : State) => ∃ (z0_9 : Int) (qn0_9 : Nat) (nn0_9 : Nat) (an0_9 : Int → Int) (kc_9 : Nat) (ks_9 : Nat), (rq = h0 ∧ ((RM HU t.heap kc_9 ks_9 ∧ ((ks_9 : Int) ≤ 2 * ((nn0_9 : Int) - nb) ∧ 18 * (kc_9 : Int) ≤ (nn0_9 : Int) - nb)) ∧ ((0 ≤ z0_9 ∧ z0_9 ≤ 1000000) ∧ (∀ j : Int, -128 ≤ an0_9 j ∧ an0_9 j ≤ 127) ∧ ((nb : Int) ≤ nn0_9 ∧ (nn0_9 : Int) ≤ M ∧ (z40_count + 1 ≤ z0_9 ∧ z0_9 ≤ z40_count + 11) ∧ z0_9 ≤ nn0_9 ∧ SBC nn0_9 LB M ∧ SM3 x0 (z0_9 - z40_count))))) ∧ va_P (dC, dI) vwQ [(h0, .inr (17, [.ref qn0_9, .int 0, .int r40_maybeLatin1, .int (zI (z0_9))])), (qn0_9, .inl (cB, nn0_9, .inl (fun j : Nat => zI (an0_9 (j : Int)))))] t.heap ∧ va_K (dC, dI) vwQ [(cB, .byte)] t ∧ va_D (va_A [(h0, .inr (17, [.ref q_sv, .int 0, .int r40_maybeLatin1, .int (zI (z40_count))])), (q_sv, .inl (cB, nb, .inl (fun j : Nat => zI (a_sb (j : Int)))))] sz) [(h0, .inr (17, [.ref qn0_9, .int 0, .int r40_maybeLatin1, .int (zI (z0_9))])), (qn0_9, .inl (cB, nn0_9, .inl (fun j : Nat => zI (an0_9 (j : Int)))))]) (va_A [(h0, .inr (17, [.ref q_sv, .int 0, .int r40_maybeLatin1, .int (zI (z40_count))])), (q_sv, .inl (cB, nb, .inl (fun j : Nat => zI (a_sb (j : Int)))))] sz)) (((M - (nb : Int)) / 18).toNat) ((2 * (M - (nb : Int))).toNat) (va_A [(h0, .inr (17, [.ref q_sv, .int 0, .int r40_maybeLatin1, .int (zI (z40_count))])), (q_sv, .inl (cB, nb, .inl (fun j : Nat => zI (a_sb (j : Int)))))] sz) := by
  refine Met.ofW (cc := cJ5_append_c97b9) (maxL := 4) (ret := (some (.object "java/lang/AbstractStringBuilder"))) (by decide) rfl ?_
  intro p e s m args below meth c s₁ B hml hv
  obtain ⟨rfl, hsz, hP, hK, hD0, hp0, hp1, hp2, hp3, hp4, hp5⟩ := hv
  have hx := B.exec
  have hb := B.bytes
  have hr := B.returns
  have hts := atoms_spec (ws := v_J5_appendID) B.pre
  have hown : s.vm.findClass RJ5 = some m.cls := findClass_of_methodNamed B.named
  have hlocks := B.notSynchronized
  have ow : ∀ {k : Nat} {w : Cond}, o_J5_appendID[k]? = some w → w.before ([.ref h0, .int (zI (x0))] : List Value).toArray s = true := fun h => hts _ (mow_J5_appendID _ (List.mem_of_getElem? h))
  subst hsz
  have hD := hD0.self (sz := s.heap.size)
  generalize hAe : va_A [(h0, .inr (17, [.ref q_sv, .int 0, .int r40_maybeLatin1, .int (zI (z40_count))])), (q_sv, .inl (cB, nb, .inl (fun j : Nat => zI (a_sb (j : Int)))))] s.heap.size = A at hD hp0 hp1 hp2 hp3 hp4 ⊢
  have hA : ∀ q : Nat, s.heap.size ≤ q → A q := fun q h => by rw [← hAe]; exact Or.inr h
  have hS : va_S A s.heap s.heap [] := va_S.rf
  have hP : va_P (dC, dI) vwQ [(h0, .inr (17, [.ref q_sv, .int 0, .int r40_maybeLatin1, .int (zI (z40_count))])), (q_sv, .inl (cB, nb, .inl (fun j : Nat => zI (a_sb (j : Int)))))] s.heap := hP
  have hl := lv_entry ([.ref h0, .int (zI (x0))]) (n := 4) (Nat.le_of_ble_eq_true rfl)
  rw [lg_entry_eq]
  generalize (lg_sl ([.ref h0, .int (zI (x0))]) ++ List.replicate (4 - (lg_sl ([.ref h0, .int (zI (x0))])).length) Slot.unset).toArray = ls at hl ⊢
  have hl : lv_has ls 4 [(0, .ref h0), (1, .int (zI (x0)))] := hl
  obtain ⟨H, hH⟩ : ∃ H, H = s.heap := ⟨_, rfl⟩
  rw [← hH] at hP
  have hS : va_S A s.heap H [] := by rw [hH]; exact hS
  rw [← hH]
  refine zW_cap (fun Q hQ => ?_)
  have hX_sc0 := hX_sc
  have hsn0 := hX_sc.now
  refine lv_aload_n hx hb dJ5_append_c97b9_0 rfl (lv_at hl 0 rfl) ?_
  refine va_get (D := (dC, dI)) (ci := 17) (v := .int (zI (z40_count))) (C := RJ4) (T := TJ4) (N := 4) hx hb hts mem_J5_appendID_0 hown hK hP 0 rfl rfl 3 (by decide) (ow (k := 0) rfl) (fun _ h9 => h9) rfl dJ5_append_c97b9_1 ?_
  refine lv_istore_n (lv' := [(2, .int (zI (z40_count))), (0, .ref h0), (1, .int (zI (x0)))]) hx hb dJ5_append_c97b9_4 rfl hl (by decide) rfl (fun ls hl => ?_)
  refine lv_iload_n hx hb dJ5_append_c97b9_5 rfl (lv_at hl 0 rfl) ?_
  refine lv_iload_n hx hb dJ5_append_c97b9_6 rfl (lv_at hl 2 rfl) ?_
  have hPc := hP.sub (ws' := []) [] rfl
  have hDc := hD.sub (ws' := []) [] (by decide) rfl
  have hKc := hK.sub (tys' := []) [] rfl
  have hFc := va_free (wc := []) hD hS hA [] rfl
  refine va_calli (va_runS (As := [.int (zI (x0))]) (rest := [.int (zI (z40_count))]) ⟨hx, hb, hml, hown, hts⟩ (c_J6_stringSizeD l dC dI x0 (by omega) H.size) (va_cwS 1 hts g_J5_appendID_J6_stringSizeD rfl rfl rfl (by decide +kernel) ⟨(Nat.le_of_ble_eq_true rfl), (Nat.le_of_ble_eq_true rfl)⟩) ⟨fun a U g mk q => by obtain ⟨q0, q1, qP, qK, qD⟩ := q; exact ⟨q0, q1, qP, va_K.moved (u := U) (U := U.calling g mk a) (Vm.Alike.refl U.vm) qK, qD⟩, fun U hU hW => ⟨rfl, by rw [hU], by rw [hU]; exact hPc, va_K.moved hW.alike hKc, hDc.weaken (fun _ _ _ _ => trivial)⟩⟩ rfl rfl hl.1 rfl (lv_room (Nat.le_of_ble_eq_true rfl)) dJ5_append_c97b9_7 ⟨(Nat.zero_le _), (Nat.zero_le _)⟩) hS (fun q _ h => hFc q h) hFc (fun r_1 u t H1 locs ht hvm hw hB hz1 hk1 hS => ?_)
  obtain ⟨hP1, hK1, hD1⟩ := hB
  rw [ht] at hP1
  have hK1 := va_K.moved hvm.symm hK1
  obtain ⟨hP, hD⟩ := va_join (wr := [(h0, .inr (17, [.ref q_sv, .int 0, .int r40_maybeLatin1, .int (zI (z40_count))])), (q_sv, .inl (cB, nb, .inl (fun j : Nat => zI (a_sb (j : Int)))))]) (w1 := []) hP hD [] [0, 1] rfl rfl (by decide) (by decide) hk1 hFc hP1 hD1
  have hK := (hK.sub (tys' := [(cB, .byte)]) [0] rfl).app hK1
  generalize H1 = H at hP hS ⊢
  have hP : va_P (dC, dI) vwQ [(h0, .inr (17, [.ref q_sv, .int 0, .int r40_maybeLatin1, .int (zI (z40_count))])), (q_sv, .inl (cB, nb, .inl (fun j : Nat => zI (a_sb (j : Int)))))] H := hP
  have hD : va_D A [(h0, .inr (17, [.ref q_sv, .int 0, .int r40_maybeLatin1, .int (zI (z40_count))])), (q_sv, .inl (cB, nb, .inl (fun j : Nat => zI (a_sb (j : Int)))))] := hD
  have hK : va_K (dC, dI) vwQ [(cB, .byte)] s := hK
  refine W.widen (k := 0) (n := 0) (Nat.le_of_ble_eq_true rfl) (Nat.le_of_ble_eq_true rfl) ?_
  have hw_2 := hw
  obtain ⟨z_3, rfl, hzz_3⟩ := hw_2
  obtain ⟨k0, hk1, hk2, hX_dg, hk4⟩ := hzz_3
  have hsg := rSg_spec (x0)
  have hk3 := hX_dg.2.1
  refine lv_iadd hx hb dJ5_append_c97b9_10 ?_
  refine lv_topi (fun z ez => ?_)
  obtain rfl : z = zI (z40_count + z_3) := ez.trans (zI_add (z40_count) (z_3))
  refine lv_istore_n (lv' := [(3, .int (zI (z40_count + z_3))), (2, .int (zI (z40_count))), (0, .ref h0), (1, .int (zI (x0)))]) hx hb dJ5_append_c97b9_11 rfl hl (by decide) rfl (fun ls hl => ?_)
  refine lv_aload_n hx hb dJ5_append_c97b9_12 rfl (lv_at hl 2 rfl) ?_
  refine lv_iload_n hx hb dJ5_append_c97b9_13 rfl (lv_at hl 0 rfl) ?_
  have hX_sc := hX_sc0
  have hPc := hP.sub (ws' := [(h0, .inr (17, [.ref q_sv, .int 0, .int r40_maybeLatin1, .int (zI (z40_count))])), (q_sv, .inl (cB, nb, .inl (fun j : Nat => zI (a_sb (j : Int)))))]) [0, 1] rfl
  have hDc := hD.sub (ws' := [(h0, .inr (17, [.ref q_sv, .int 0, .int r40_maybeLatin1, .int (zI (z40_count))])), (q_sv, .inl (cB, nb, .inl (fun j : Nat => zI (a_sb (j : Int)))))]) [0, 1] (by decide) rfl
  have hKc := hK.sub (tys' := [(cB, .byte)]) [0] rfl
  have hFc := va_free (wc := [(h0, .inr (17, [.ref q_sv, .int 0, .int r40_maybeLatin1, .int (zI (z40_count))])), (q_sv, .inl (cB, nb, .inl (fun j : Nat => zI (a_sb (j : Int)))))]) hD hS hA [0, 1] rfl
  refine W_knowS (fun hrmA => ?_)
  refine va_callv (va_runU (As := [.int (zI (z40_count + z_3))]) (rest := []) ⟨hx, hb, hml, hown, hts⟩ (c_J5_ensureD l dC dI h0 r40_maybeLatin1 z40_count q_sv cB nb a_sb M LB (z40_count + z_3) (by omega) (by omega) hR_a_sb hX_sc (by omega) H.size H) (va_cwU (C := RJ4) (owner := RJ5) (x := ⟨"java/lang/AbstractStringBuilder", "ensureCapacityInternal", "(I)V"⟩) 1 hts g_J5_appendID_J5_ensureD rfl rfl rfl rfl (by decide +kernel) ⟨(Nat.le_of_ble_eq_true rfl), (Nat.le_of_ble_eq_true rfl)⟩) ⟨fun a U g mk q => by obtain ⟨q0, q1, qP, qK, qD, e0⟩ := q; exact ⟨q0, q1, qP, va_K.moved (u := U) (U := U.calling g mk a) (Vm.Alike.refl U.vm) qK, qD, e0⟩, va_recv hKc hPc (ci := 17) (q0 := 0) rfl rfl, fun U hU hW => ⟨rfl, by rw [hU], by rw [hU]; exact hPc, va_K.moved hW.alike hKc, hDc.weaken (fun _ _ _ _ => trivial), hU⟩⟩ rfl rfl hl.1 rfl (lv_room (Nat.le_of_ble_eq_true rfl)) dJ5_append_c97b9_14 ⟨(show 0 + (((M - (nb : Int)) / 18).toNat) ≤ ((M - (nb : Int)) / 18).toNat from (by omega)), (show 0 + ((2 * (M - (nb : Int))).toNat) ≤ (2 * (M - (nb : Int))).toNat from (by omega))⟩) hS (fun q _ h => hFc q h) hFc (fun  u t H1 locs ht hvm hw hB hz1 hk1 hS => ?_)
  obtain ⟨qn0_4, nn0_5, an0_6, kc_7, ks_8, hxt_8, hP1, hK1, hD1⟩ := hB
  rw [ht] at hP1
  have hK1 := va_K.moved hvm.symm hK1
  obtain ⟨hP, hD⟩ := va_join (wr := []) (w1 := [(h0, .inr (17, [.ref qn0_4, .int 0, .int r40_maybeLatin1, .int (zI (z40_count))])), (qn0_4, .inl (cB, nn0_5, .inl (fun j : Nat => zI (an0_6 (j : Int)))))]) hP hD [0, 1] [] rfl rfl (by decide) (by decide) hk1 hFc hP1 hD1
  have hK := (hK.sub (tys' := []) [] rfl).app hK1
  have hrmC := hxt_8.1.1
  rw [ht] at hrmC
  refine W_tightS (hrmA.trans hrmC) ?_
  have hrb := hxt_8.1.2
  generalize H1 = H at hP hS ⊢
  have hP : va_P (dC, dI) vwQ [(h0, .inr (17, [.ref qn0_4, .int 0, .int r40_maybeLatin1, .int (zI (z40_count))])), (qn0_4, .inl (cB, nn0_5, .inl (fun j : Nat => zI (an0_6 (j : Int)))))] H := hP
  have hD : va_D A [(h0, .inr (17, [.ref qn0_4, .int 0, .int r40_maybeLatin1, .int (zI (z40_count))])), (qn0_4, .inl (cB, nn0_5, .inl (fun j : Nat => zI (an0_6 (j : Int)))))] := hD
  have hK : va_K (dC, dI) vwQ [(cB, .byte)] s := hK
  refine W.widen (k := (0 + kc_7)) (n := (0 + ks_8)) (by omega) (by omega) ?_
  obtain ⟨rk_9, hu_9⟩ := hxt_8.2
  have hsc_10 := hu_9.2.2.2.1
  refine lv_aload_n hx hb dJ5_append_c97b9_17 rfl (lv_at hl 2 rfl) ?_
  have hPc := hP.sub (ws' := [(h0, .inr (17, [.ref qn0_4, .int 0, .int r40_maybeLatin1, .int (zI (z40_count))])), (qn0_4, .inl (cB, nn0_5, .inl (fun j : Nat => zI (an0_6 (j : Int)))))]) [0, 1] rfl
  have hDc := hD.sub (ws' := [(h0, .inr (17, [.ref qn0_4, .int 0, .int r40_maybeLatin1, .int (zI (z40_count))])), (qn0_4, .inl (cB, nn0_5, .inl (fun j : Nat => zI (an0_6 (j : Int)))))]) [0, 1] (by decide) rfl
  have hKc := hK.sub (tys' := [(cB, .byte)]) [0] rfl
  have hFc := va_free (wc := [(h0, .inr (17, [.ref qn0_4, .int 0, .int r40_maybeLatin1, .int (zI (z40_count))])), (qn0_4, .inl (cB, nn0_5, .inl (fun j : Nat => zI (an0_6 (j : Int)))))]) hD hS hA [0, 1] rfl
  refine va_calli (va_runU (As := []) (rest := []) ⟨hx, hb, hml, hown, hts⟩ (c_J5_isLatin1 l dC dI h0 r40_maybeLatin1 z40_count qn0_4 cB nn0_5 an0_6 M (by omega) (by omega) rk_9 H.size) (va_cwU (C := RJ4) (owner := RJ5) (x := ⟨"java/lang/AbstractStringBuilder", "isLatin1", "()Z"⟩) 0 hts g_J5_appendID_J5_isLatin1 rfl rfl rfl rfl (by decide +kernel) ⟨(Nat.le_of_ble_eq_true rfl), (Nat.le_of_ble_eq_true rfl)⟩) ⟨fun a U g mk q => by obtain ⟨q0, q1, qP, qK, qD, e0⟩ := q; exact ⟨q0, q1, qP, va_K.moved (u := U) (U := U.calling g mk a) (Vm.Alike.refl U.vm) qK, qD, va_Z.moved (u := U) (U := U.calling g mk a) (Vm.Alike.refl U.vm) e0⟩, va_recv hKc hPc (ci := 17) (q0 := 0) rfl rfl, fun U hU hW => ⟨rfl, by rw [hU], by rw [hU]; exact hPc, va_K.moved hW.alike hKc, hDc.weaken (fun _ _ _ _ => trivial), by rw [hU]; exact va_Z.narrow (va_Z.moved hW.alike (va_Z.kept hp0 hS.2.1)) hFc⟩⟩ rfl rfl hl.1 rfl (lv_room (Nat.le_of_ble_eq_true rfl)) dJ5_append_c97b9_18 ⟨(show (0 + kc_7) + 0 ≤ ((M - (nb : Int)) / 18).toNat from (by omega)), (show (0 + ks_8) + 0 ≤ (2 * (M - (nb : Int))).toNat from (by omega))⟩) hS (fun q _ h => hFc q h) hFc (fun r_11 u t H1 locs ht hvm hw hB hz1 hk1 hS => ?_)
  obtain ⟨hP1, hK1, hD1⟩ := hB
  rw [ht] at hP1
  have hK1 := va_K.moved hvm.symm hK1
  obtain ⟨hP, hD⟩ := va_join (wr := []) (w1 := [(h0, .inr (17, [.ref qn0_4, .int 0, .int r40_maybeLatin1, .int (zI (z40_count))])), (qn0_4, .inl (cB, nn0_5, .inl (fun j : Nat => zI (an0_6 (j : Int)))))]) hP hD [0, 1] [] rfl rfl (by decide) (by decide) hk1 hFc hP1 hD1
  have hK := (hK.sub (tys' := []) [] rfl).app hK1
  generalize H1 = H at hP hS ⊢
  have hP : va_P (dC, dI) vwQ [(h0, .inr (17, [.ref qn0_4, .int 0, .int r40_maybeLatin1, .int (zI (z40_count))])), (qn0_4, .inl (cB, nn0_5, .inl (fun j : Nat => zI (an0_6 (j : Int)))))] H := hP
  have hD : va_D A [(h0, .inr (17, [.ref qn0_4, .int 0, .int r40_maybeLatin1, .int (zI (z40_count))])), (qn0_4, .inl (cB, nn0_5, .inl (fun j : Nat => zI (an0_6 (j : Int)))))] := hD
  have hK : va_K (dC, dI) vwQ [(cB, .byte)] s := hK
  refine W.widen (k := (0 + kc_7)) (n := (0 + ks_8)) (by omega) (by omega) ?_
  obtain rfl : r_11 = (1) := hw
  refine lv_if_eq (tgt := 37) hx hb dJ5_append_c97b9_21 (by decide) (fun h9 => absurd h9 (by decide)) (fun _ => ?_)
  refine lv_iload_n hx hb dJ5_append_c97b9_24 rfl (lv_at hl 3 rfl) ?_
  refine lv_iload_n hx hb dJ5_append_c97b9_25 rfl (lv_at hl 0 rfl) ?_
  refine lv_aload_n hx hb dJ5_append_c97b9_26 rfl (lv_at hl 2 rfl) ?_
  refine va_get (D := (dC, dI)) (ci := 17) (v := .ref qn0_4) (C := RJ4) (T := TJ4) (N := 4) hx hb hts mem_J5_appendID_0 hown hK hP 0 rfl rfl 0 (by decide) (ow (k := 13) rfl) (fun _ h9 => h9) rfl dJ5_append_c97b9_27 ?_
  have hPc := hP.sub (ws' := [(qn0_4, .inl (cB, nn0_5, .inl (fun j : Nat => zI (an0_6 (j : Int)))))]) [1] rfl
  have hDc := hD.sub (ws' := [(qn0_4, .inl (cB, nn0_5, .inl (fun j : Nat => zI (an0_6 (j : Int)))))]) [1] (by decide) rfl
  have hKc := hK.sub (tys' := [(cB, .byte)]) [0] rfl
  have hFc := va_free (wc := [(qn0_4, .inl (cB, nn0_5, .inl (fun j : Nat => zI (an0_6 (j : Int)))))]) hD hS hA [1] rfl
  refine va_calli (va_runS (As := [.int (zI (x0)), .int (zI (z40_count + z_3)), .ref qn0_4]) (rest := []) ⟨hx, hb, hml, hown, hts⟩ (c_J6_getChars l dC dI qn0_4 cB nn0_5 an0_6 x0 (z40_count + z_3) k0 (by omega) rk_9 (by omega) hX_dg (by omega) H.size sx_d1 fsx_d1 sx_d2 fsx_d2) (va_cwS 3 hts g_J5_appendID_J6_getChars rfl rfl rfl (by decide +kernel) ⟨(Nat.le_of_ble_eq_true rfl), (Nat.le_of_ble_eq_true rfl)⟩) ⟨fun a U g mk q => by obtain ⟨q0, q1, qP, qK, qD, e0, e1, e2, e3⟩ := q; exact ⟨q0, q1, qP, va_K.moved (u := U) (U := U.calling g mk a) (Vm.Alike.refl U.vm) qK, qD, va_Z.moved (u := U) (U := U.calling g mk a) (Vm.Alike.refl U.vm) e0, va_T.moved (u := U) (U := U.calling g mk a) (Vm.Alike.refl U.vm) e1, va_Z.moved (u := U) (U := U.calling g mk a) (Vm.Alike.refl U.vm) e2, va_T.moved (u := U) (U := U.calling g mk a) (Vm.Alike.refl U.vm) e3⟩, fun U hU hW => ⟨rfl, by rw [hU], by rw [hU]; exact hPc, va_K.moved hW.alike hKc, hDc.weaken (fun _ _ _ _ => trivial), by rw [hU]; exact va_Z.narrow (va_Z.moved hW.alike (va_Z.kept hp1 hS.2.1)) hFc, by rw [hU]; exact va_T.narrow (va_T.moved hW.alike (va_T.kept hp2 hS.2.1)) hFc, by rw [hU]; exact va_Z.narrow (va_Z.moved hW.alike (va_Z.kept hp3 hS.2.1)) hFc, by rw [hU]; exact va_T.narrow (va_T.moved hW.alike (va_T.kept hp4 hS.2.1)) hFc⟩⟩ rfl rfl hl.1 rfl (lv_room (Nat.le_of_ble_eq_true rfl)) dJ5_append_c97b9_30 ⟨(show (0 + kc_7) + 0 ≤ ((M - (nb : Int)) / 18).toNat from (by omega)), (show (0 + ks_8) + 0 ≤ (2 * (M - (nb : Int))).toNat from (by omega))⟩) hS (fun q _ h => hFc q h) hFc (fun r_12 u t H1 locs ht hvm hw hB hz1 hk1 hS => ?_)
  obtain ⟨a0_13, hxt_13, hP1, hK1, hD1⟩ := hB
  rw [ht] at hP1
  have hK1 := va_K.moved hvm.symm hK1
  obtain ⟨hP, hD⟩ := va_join (wr := [(h0, .inr (17, [.ref qn0_4, .int 0, .int r40_maybeLatin1, .int (zI (z40_count))]))]) (w1 := [(qn0_4, .inl (cB, nn0_5, .inl (fun j : Nat => zI (a0_13 (j : Int)))))]) hP hD [1] [0] rfl rfl (by decide) (by decide) hk1 hFc hP1 hD1
  have hK := (hK.sub (tys' := []) [] rfl).app hK1
  generalize H1 = H at hP hS ⊢
  have hP : va_P (dC, dI) vwQ [(h0, .inr (17, [.ref qn0_4, .int 0, .int r40_maybeLatin1, .int (zI (z40_count))])), (qn0_4, .inl (cB, nn0_5, .inl (fun j : Nat => zI (a0_13 (j : Int)))))] H := hP
  have hD : va_D A [(h0, .inr (17, [.ref qn0_4, .int 0, .int r40_maybeLatin1, .int (zI (z40_count))])), (qn0_4, .inl (cB, nn0_5, .inl (fun j : Nat => zI (a0_13 (j : Int)))))] := hD
  have hK : va_K (dC, dI) vwQ [(cB, .byte)] s := hK
  refine W.widen (k := (0 + kc_7)) (n := (0 + ks_8)) (by omega) (by omega) ?_
  have hw_14 := hw
  have rk_15 := hxt_13
  obtain ⟨z_16, rfl, hzz_16⟩ := hw_14
  refine lv_pop hx hb dJ5_append_c97b9_33 rfl ?_
  refine lv_goto (tgt := 48) hx hb dJ5_append_c97b9_34 (by decide) ?_
  refine lv_aload_n hx hb dJ5_append_c97b9_48 rfl (lv_at hl 2 rfl) ?_
  refine lv_iload_n hx hb dJ5_append_c97b9_49 rfl (lv_at hl 0 rfl) ?_
  refine va_put (D := (dC, dI)) (ci := 17) (v := .int (zI (z40_count + z_3))) (ty := .int) (C := RJ4) (T := TJ4) (N := 4) hx hb hts mem_J5_appendID_0 tyJ4 tyJ4_ok nmJ4 hown hK hP hD hS 0 rfl rfl 3 (by decide) (ow (k := 0) rfl) (fun _ h9 => h9) rfl (by decide +kernel) rfl rfl (by first | exact Nat.le_of_ble_eq_true rfl | exact (show (0 + kc_7) ≤ ((M - (nb : Int)) / 18).toNat from (by omega)) | exact (show (0 + ks_8) ≤ (2 * (M - (nb : Int))).toNat from (by omega))) dJ5_append_c97b9_50 (fun H locs hP hD hS => ?_)
  have hP : va_P (dC, dI) vwQ [(h0, .inr (17, [.ref qn0_4, .int 0, .int r40_maybeLatin1, .int (zI (z40_count + z_3))])), (qn0_4, .inl (cB, nn0_5, .inl (fun j : Nat => zI (a0_13 (j : Int)))))] H := hP
  have hD : va_D A [(h0, .inr (17, [.ref qn0_4, .int 0, .int r40_maybeLatin1, .int (zI (z40_count + z_3))])), (qn0_4, .inl (cB, nn0_5, .inl (fun j : Nat => zI (a0_13 (j : Int)))))] := hD
  obtain ⟨z_17, ez_17⟩ : ∃ z9 : Int, z9 = z40_count + z_3 := ⟨_, rfl⟩
  rw [← ez_17] at hP hD
  have hP : va_P (dC, dI) vwQ [(h0, .inr (17, [.ref qn0_4, .int 0, .int r40_maybeLatin1, .int (zI (z_17))])), (qn0_4, .inl (cB, nn0_5, .inl (fun j : Nat => zI (a0_13 (j : Int)))))] H := hP
  have hD : va_D A [(h0, .inr (17, [.ref qn0_4, .int 0, .int r40_maybeLatin1, .int (zI (z_17))])), (qn0_4, .inl (cB, nn0_5, .inl (fun j : Nat => zI (a0_13 (j : Int)))))] := hD
  refine lv_aload_n hx hb dJ5_append_c97b9_53 rfl (lv_at hl 2 rfl) ?_
  subst hQ
  refine W_knowS (fun hrm9 => ?_)
  refine W.widen (k := (((M - (nb : Int)) / 18).toNat)) (n := ((2 * (M - (nb : Int))).toNat)) (by omega) (by omega) ?_
  exact W.aret (v := .ref h0) hx hb hr (Or.inl ⟨_, rfl⟩) (Or.inr ⟨_, rfl⟩) (fun t ht hW => ⟨⟨(), h0, rfl, trivial, z_17, qn0_4, nn0_5, a0_13, (0 + kc_7), (0 + ks_8), ⟨rfl, ⟨⟨(by rw [ht, ← hp5]; exact hrm9), (by omega)⟩, ⟨(by omega), rk_15, ⟨by omega, by omega, ⟨by omega, by omega⟩, by omega, hsc_10, (fun q9 q8 => by omega)⟩⟩⟩⟩, by rw [ht]; exact hP, va_K.moved hW.alike hK, hD⟩, hS.F ht⟩) hS.2.2 dJ5_append_c97b9_54
def o_J4_appendID : List Cond := [.methodLink RJ4 53 yJ5_append_c97b9, .sameMethod "java/lang/AbstractStringBuilder" "java/lang/AbstractStringBuilder" "append" "(I)Ljava/lang/AbstractStringBuilder;", .superclass RJ4 RJ5, .instanceMethod yJ5_append_c97b9, .initialized RJ5]
def v_J4_appendID : List Cond := .code yJ4_append_bf812 cJ4_append_bf812 2 (some (.object "java/lang/StringBuilder")) :: (o_J4_appendID ++ (v_J5_appendID ++ []))
theorem mow_J4_appendID : ∀ w ∈ o_J4_appendID, w ∈ v_J4_appendID := fun _ h => List.mem_cons_of_mem _ (List.mem_append_left _ h)
theorem mem_J4_appendID_0 : ∀ w ∈ v_J5_appendID, w ∈ v_J4_appendID := fun _ h => List.mem_cons_of_mem _ (List.mem_append_right _ (List.mem_append_left _ h))
set_option maxRecDepth 20000 in
theorem gw_J4_appendID : v_J4_appendID.all goodWord = true := by decide +kernel
set_option maxRecDepth 20000 in
theorem g_J4_appendID_J5_appendID : GoodIn v_J4_appendID (va_wsSU RJ4 53 yJ5_append_c97b9 v_J5_appendID) := goodIn_app (goodIn_sub (fun w h => mow_J4_appendID w (by revert w h; decide +kernel)) (by decide +kernel)) (goodIn_sub mem_J4_appendID_0 gw_J5_appendID)
set_option maxHeartbeats 4000000 in
set_option maxRecDepth 100000 in
theorem c_J4_appendID (l : Launch) (dC : Nat → ClassId) (dI : Nat → Nat → Nat) (h0 : Nat) (r40_maybeLatin1 : Int32) (z40_count : Int) (q_sv : Nat) (cB : ClassId) (nb : Nat) (a_sb : Int → Int) (M : Int) (LB : Int) (x0 : Int) (hNz40_count : 0 ≤ z40_count ∧ z40_count ≤ 1000000) (hNnb : 16 ≤ nb ∧ nb ≤ M ∧ z40_count ≤ nb ∧ M ≤ 2000000 ∧ LB ≤ 900000) (hR_a_sb : ∀ j : Int, -128 ≤ a_sb j ∧ a_sb j ≤ 127) (hX_sc : SBC nb LB M) (hNx : -2147483648 ≤ x0 ∧ x0 ≤ 2147483647) (hNm : z40_count + 11 ≤ LB) (sz : Nat) (sx_d1 : Nat) (fsx_d1 : Nat → Int32) (sx_d2 : Nat) (fsx_d2 : Nat → Int32) (HU : Heap) : Met l yJ4_append_bf812 v_J4_appendID ({ frames := 5, cells := (((M - (nb : Int)) / 18).toNat), slots := ((2 * (M - (nb : Int))).toNat), locals := 127 }) (va_Pc [.ref h0, .int (zI (x0))] (fun U => U.heap.size = sz ∧ va_P (dC, dI) vwQ [(h0, .inr (17, [.ref q_sv, .int 0, .int r40_maybeLatin1, .int (zI (z40_count))])), (q_sv, .inl (cB, nb, .inl (fun j : Nat => zI (a_sb (j : Int)))))] U.heap ∧ va_K (dC, dI) vwQ [(cB, .byte)] U ∧ va_D (fun _ => True) [(h0, .inr (17, [.ref q_sv, .int 0, .int r40_maybeLatin1, .int (zI (z40_count))])), (q_sv, .inl (cB, nb, .inl (fun j : Nat => zI (a_sb (j : Int)))))] ∧ va_Z "java/lang/String" "COMPACT_STRINGS" "Z" (.int 1) (va_A [(h0, .inr (17, [.ref q_sv, .int 0, .int r40_maybeLatin1, .int (zI (z40_count))])), (q_sv, .inl (cB, nb, .inl (fun j : Nat => zI (a_sb (j : Int)))))] sz) U U.heap ∧ va_Z "java/lang/Integer" "DigitOnes" "[B" (.ref sx_d1) (va_A [(h0, .inr (17, [.ref q_sv, .int 0, .int r40_maybeLatin1, .int (zI (z40_count))])), (q_sv, .inl (cB, nb, .inl (fun j : Nat => zI (a_sb (j : Int)))))] sz) U U.heap ∧ va_T .byte sx_d1 100 (fun j => .int (fsx_d1 j)) (va_A [(h0, .inr (17, [.ref q_sv, .int 0, .int r40_maybeLatin1, .int (zI (z40_count))])), (q_sv, .inl (cB, nb, .inl (fun j : Nat => zI (a_sb (j : Int)))))] sz) U U.heap ∧ va_Z "java/lang/Integer" "DigitTens" "[B" (.ref sx_d2) (va_A [(h0, .inr (17, [.ref q_sv, .int 0, .int r40_maybeLatin1, .int (zI (z40_count))])), (q_sv, .inl (cB, nb, .inl (fun j : Nat => zI (a_sb (j : Int)))))] sz) U U.heap ∧ va_T .byte sx_d2 100 (fun j => .int (fsx_d2 j)) (va_A [(h0, .inr (17, [.ref q_sv, .int 0, .int r40_maybeLatin1, .int (zI (z40_count))])), (q_sv, .inl (cB, nb, .inl (fun j : Nat => zI (a_sb (j : Int)))))] sz) U U.heap ∧ U.heap = HU)) (va_Qr (fun _ : Unit => True) (fun (_ : Unit) (rq : Nat) (t : State) => ∃ (z0_9 : Int) (qn0_9 : Nat) (nn0_9 : Nat) (an0_9 : Int → Int) (kc_9 : Nat) (ks_9 : Nat), (rq = h0 ∧ ((RM HU t.heap kc_9 ks_9 ∧ ((ks_9 : Int) ≤ 2 * ((nn0_9 : Int) - nb) ∧ 18 * (kc_9 : Int) ≤ (nn0_9 : Int) - nb)) ∧ ((0 ≤ z0_9 ∧ z0_9 ≤ 1000000) ∧ (∀ j : Int, -128 ≤ an0_9 j ∧ an0_9 j ≤ 127) ∧ ((nb : Int) ≤ nn0_9 ∧ (nn0_9 : Int) ≤ M ∧ (z40_count + 1 ≤ z0_9 ∧ z0_9 ≤ z40_count + 11) ∧ z0_9 ≤ nn0_9 ∧ SBC nn0_9 LB M ∧ SM3 x0 (z0_9 - z40_count))))) ∧ va_P (dC, dI) vwQ [(h0, .inr (17, [.ref qn0_9, .int 0, .int r40_maybeLatin1, .int (zI (z0_9))])), (qn0_9, .inl (cB, nn0_9, .inl (fun j : Nat => zI (an0_9 (j : Int)))))] t.heap ∧ va_K (dC, dI) vwQ [(cB, .byte)] t ∧ va_D (va_A [(h0, .inr (17, [.ref q_sv, .int 0, .int r40_maybeLatin1, .int (zI (z40_count))])), (q_sv, .inl (cB, nb, .inl (fun j : Nat => zI (a_sb (j : Int)))))] sz) [(h0, .inr (17, [.ref qn0_9, .int 0, .int r40_maybeLatin1, .int (zI (z0_9))])), (qn0_9, .inl (cB, nn0_9, .inl (fun j : Nat => zI (an0_9 (j : Int)))))]) (va_A [(h0, .inr (17, [.ref q_sv, .int 0, .int r40_maybeLatin1, .int (zI (z40_count))])), (q_sv, .inl (cB, nb, .inl (fun j : Nat => zI (a_sb (j : Int)))))] sz)) (((M - (nb : Int)) / 18).toNat) ((2 * (M - (nb : Int))).toNat) (va_A [(h0, .inr (17, [.ref q_sv, .int 0, .int r40_maybeLatin1, .int (zI (z40_count))])), (q_sv, .inl (cB, nb, .inl (fun j : Nat => zI (a_sb (j : Int)))))] sz) := by
  refine Met.ofW (cc := cJ4_append_bf812) (maxL := 2) (ret := (some (.object "java/lang/StringBuilder"))) (by decide) rfl ?_
  intro p e s m args below meth c s₁ B hml hv
  obtain ⟨rfl, hsz, hP, hK, hD0, hp0, hp1, hp2, hp3, hp4, hp5⟩ := hv
  have hx := B.exec
  have hb := B.bytes
  have hr := B.returns
  have hts := atoms_spec (ws := v_J4_appendID) B.pre
  have hown : s.vm.findClass RJ4 = some m.cls := findClass_of_methodNamed B.named
  have hlocks := B.notSynchronized
  have ow : ∀ {k : Nat} {w : Cond}, o_J4_appendID[k]? = some w → w.before ([.ref h0, .int (zI (x0))] : List Value).toArray s = true := fun h => hts _ (mow_J4_appendID _ (List.mem_of_getElem? h))
  subst hsz
  have hD := hD0.self (sz := s.heap.size)
  generalize hAe : va_A [(h0, .inr (17, [.ref q_sv, .int 0, .int r40_maybeLatin1, .int (zI (z40_count))])), (q_sv, .inl (cB, nb, .inl (fun j : Nat => zI (a_sb (j : Int)))))] s.heap.size = A at hD hp0 hp1 hp2 hp3 hp4 ⊢
  have hA : ∀ q : Nat, s.heap.size ≤ q → A q := fun q h => by rw [← hAe]; exact Or.inr h
  have hS : va_S A s.heap s.heap [] := va_S.rf
  have hP : va_P (dC, dI) vwQ [(h0, .inr (17, [.ref q_sv, .int 0, .int r40_maybeLatin1, .int (zI (z40_count))])), (q_sv, .inl (cB, nb, .inl (fun j : Nat => zI (a_sb (j : Int)))))] s.heap := hP
  have hl := lv_entry ([.ref h0, .int (zI (x0))]) (n := 2) (Nat.le_of_ble_eq_true rfl)
  rw [lg_entry_eq]
  generalize (lg_sl ([.ref h0, .int (zI (x0))]) ++ List.replicate (2 - (lg_sl ([.ref h0, .int (zI (x0))])).length) Slot.unset).toArray = ls at hl ⊢
  have hl : lv_has ls 2 [(0, .ref h0), (1, .int (zI (x0)))] := hl
  obtain ⟨H, hH⟩ : ∃ H, H = s.heap := ⟨_, rfl⟩
  rw [← hH] at hP
  have hS : va_S A s.heap H [] := by rw [hH]; exact hS
  rw [← hH]
  refine zW_cap (fun Q hQ => ?_)
  have hX_sc0 := hX_sc
  have hsn0 := hX_sc.now
  refine lv_aload_n hx hb dJ4_append_bf812_0 rfl (lv_at hl 0 rfl) ?_
  refine lv_iload_n hx hb dJ4_append_bf812_1 rfl (lv_at hl 1 rfl) ?_
  have hX_sc := hX_sc0
  have hPc := hP.sub (ws' := [(h0, .inr (17, [.ref q_sv, .int 0, .int r40_maybeLatin1, .int (zI (z40_count))])), (q_sv, .inl (cB, nb, .inl (fun j : Nat => zI (a_sb (j : Int)))))]) [0, 1] rfl
  have hDc := hD.sub (ws' := [(h0, .inr (17, [.ref q_sv, .int 0, .int r40_maybeLatin1, .int (zI (z40_count))])), (q_sv, .inl (cB, nb, .inl (fun j : Nat => zI (a_sb (j : Int)))))]) [0, 1] (by decide) rfl
  have hKc := hK.sub (tys' := [(cB, .byte)]) [0] rfl
  have hFc := va_free (wc := [(h0, .inr (17, [.ref q_sv, .int 0, .int r40_maybeLatin1, .int (zI (z40_count))])), (q_sv, .inl (cB, nb, .inl (fun j : Nat => zI (a_sb (j : Int)))))]) hD hS hA [0, 1] rfl
  refine W_knowS (fun hrmA => ?_)
  refine va_callr (va_runSU (As := [.int (zI (x0))]) (rest := []) (C := RJ4) (hK.1 17 _ rfl).2 ⟨hx, hb, hml, hown, hts⟩ (c_J5_appendID l dC dI h0 r40_maybeLatin1 z40_count q_sv cB nb a_sb M LB x0 (by omega) (by omega) hR_a_sb hX_sc (by omega) (by omega) H.size sx_d1 fsx_d1 sx_d2 fsx_d2 H) (va_cwSU 1 hts g_J4_appendID_J5_appendID rfl rfl rfl (by decide +kernel) ⟨(Nat.le_of_ble_eq_true rfl), (Nat.le_of_ble_eq_true rfl)⟩) ⟨fun a U g mk q => by obtain ⟨q0, q1, qP, qK, qD, e0, e1, e2, e3, e4, e5⟩ := q; exact ⟨q0, q1, qP, va_K.moved (u := U) (U := U.calling g mk a) (Vm.Alike.refl U.vm) qK, qD, va_Z.moved (u := U) (U := U.calling g mk a) (Vm.Alike.refl U.vm) e0, va_Z.moved (u := U) (U := U.calling g mk a) (Vm.Alike.refl U.vm) e1, va_T.moved (u := U) (U := U.calling g mk a) (Vm.Alike.refl U.vm) e2, va_Z.moved (u := U) (U := U.calling g mk a) (Vm.Alike.refl U.vm) e3, va_T.moved (u := U) (U := U.calling g mk a) (Vm.Alike.refl U.vm) e4, e5⟩, va_recv hKc hPc (ci := 17) (q0 := 0) rfl rfl, fun U hU hW => ⟨rfl, by rw [hU], by rw [hU]; exact hPc, va_K.moved hW.alike hKc, hDc.weaken (fun _ _ _ _ => trivial), by rw [hU]; exact va_Z.narrow (va_Z.moved hW.alike (va_Z.kept hp0 hS.2.1)) hFc, by rw [hU]; exact va_Z.narrow (va_Z.moved hW.alike (va_Z.kept hp1 hS.2.1)) hFc, by rw [hU]; exact va_T.narrow (va_T.moved hW.alike (va_T.kept hp2 hS.2.1)) hFc, by rw [hU]; exact va_Z.narrow (va_Z.moved hW.alike (va_Z.kept hp3 hS.2.1)) hFc, by rw [hU]; exact va_T.narrow (va_T.moved hW.alike (va_T.kept hp4 hS.2.1)) hFc, hU⟩⟩ rfl rfl hl.1 rfl (lv_room (Nat.le_of_ble_eq_true rfl)) dJ4_append_bf812_2 ⟨(show 0 + (((M - (nb : Int)) / 18).toNat) ≤ ((M - (nb : Int)) / 18).toNat from (by omega)), (show 0 + ((2 * (M - (nb : Int))).toNat) ≤ (2 * (M - (nb : Int))).toNat from (by omega))⟩) hS (fun q _ h => hFc q h) hFc (fun u q_1 t H1 locs ht hvm hw hB hz1 hk1 hS => ?_)
  obtain ⟨z0_2, qn0_3, nn0_4, an0_5, kc_6, ks_7, hxt_7, hP1, hK1, hD1⟩ := hB
  rw [ht] at hP1
  have hK1 := va_K.moved hvm.symm hK1
  obtain ⟨hP, hD⟩ := va_join (wr := []) (w1 := [(h0, .inr (17, [.ref qn0_3, .int 0, .int r40_maybeLatin1, .int (zI (z0_2))])), (qn0_3, .inl (cB, nn0_4, .inl (fun j : Nat => zI (an0_5 (j : Int)))))]) hP hD [0, 1] [] rfl rfl (by decide) (by decide) hk1 hFc hP1 hD1
  have hK := (hK.sub (tys' := []) [] rfl).app hK1
  have hrx_8 := hxt_7.1
  have hrmC := hxt_7.2.1.1
  rw [ht] at hrmC
  refine W_tightS (hrmA.trans hrmC) ?_
  have hrb := hxt_7.2.1.2
  generalize H1 = H at hP hS ⊢
  have hP : va_P (dC, dI) vwQ [(h0, .inr (17, [.ref qn0_3, .int 0, .int r40_maybeLatin1, .int (zI (z0_2))])), (qn0_3, .inl (cB, nn0_4, .inl (fun j : Nat => zI (an0_5 (j : Int)))))] H := hP
  have hD : va_D A [(h0, .inr (17, [.ref qn0_3, .int 0, .int r40_maybeLatin1, .int (zI (z0_2))])), (qn0_3, .inl (cB, nn0_4, .inl (fun j : Nat => zI (an0_5 (j : Int)))))] := hD
  have hK : va_K (dC, dI) vwQ [(cB, .byte)] s := hK
  refine W.widen (k := (0 + kc_6)) (n := (0 + ks_7)) (by omega) (by omega) ?_
  obtain ⟨rk_9, rk_10, hu_10⟩ := hxt_7.2.2
  rw [hrx_8]
  have hsc_11 := hu_10.2.2.2.2.1
  refine lv_pop hx hb dJ4_append_bf812_5 rfl ?_
  refine lv_aload_n hx hb dJ4_append_bf812_6 rfl (lv_at hl 0 rfl) ?_
  subst hQ
  refine W_knowS (fun hrm9 => ?_)
  refine W.widen (k := (((M - (nb : Int)) / 18).toNat)) (n := ((2 * (M - (nb : Int))).toNat)) (by omega) (by omega) ?_
  exact W.aret (v := .ref h0) hx hb hr (Or.inl ⟨_, rfl⟩) (Or.inr ⟨_, rfl⟩) (fun t ht hW => ⟨⟨(), h0, rfl, trivial, z0_2, qn0_3, nn0_4, an0_5, (0 + kc_6), (0 + ks_7), ⟨rfl, ⟨⟨(by rw [ht, ← hp5]; exact hrm9), (by omega)⟩, ⟨(by omega), rk_10, ⟨by omega, by omega, ⟨by omega, by omega⟩, by omega, hsc_11, (fun q9 q8 => by have q7 := hu_10.2.2.2.2.2 q9 q8; omega)⟩⟩⟩⟩, by rw [ht]; exact hP, va_K.moved hW.alike hK, hD⟩, hS.F ht⟩) hS.2.2 dJ4_append_bf812_7
