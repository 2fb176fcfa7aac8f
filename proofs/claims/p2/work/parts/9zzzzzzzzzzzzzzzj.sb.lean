def o_J5_appendCD : List Cond := [.fieldLink RJ5 79 "java/lang/AbstractStringBuilder" "count" "I", .methodLink RJ5 100 ⟨"java/lang/AbstractStringBuilder", "ensureCapacityInternal", "(I)V"⟩, .sameMethod "java/lang/AbstractStringBuilder" "java/lang/AbstractStringBuilder" "ensureCapacityInternal" "(I)V", .selects RJ4 ⟨"java/lang/AbstractStringBuilder", "ensureCapacityInternal", "(I)V"⟩ yJ5_ensureCapacityInternal_d00df, .instanceMethod yJ5_ensureCapacityInternal_d00df, .initialized RJ5, .methodLink RJ5 83 ⟨"java/lang/AbstractStringBuilder", "isLatin1", "()Z"⟩, .sameMethod "java/lang/AbstractStringBuilder" "java/lang/AbstractStringBuilder" "isLatin1" "()Z", .selects RJ4 ⟨"java/lang/AbstractStringBuilder", "isLatin1", "()Z"⟩ yJ5_isLatin1_aae02, .instanceMethod yJ5_isLatin1_aae02, .methodLink RJ5 191 yJ1_canEncode_fc78d, .static yJ1_canEncode_fc78d, .initialized RJ1, .fieldLink RJ5 15 "java/lang/AbstractStringBuilder" "value" "[B"]
def v_J5_appendCD : List Cond := .code yJ5_append_3fe6f cJ5_append_3fe6f 2 (some (.object "java/lang/AbstractStringBuilder")) :: (o_J5_appendCD ++ (wsJ40 ++ (v_J5_ensureD ++ (v_J5_isLatin1 ++ (v_J1_canEncodeC ++ [])))))
theorem mow_J5_appendCD : ∀ w ∈ o_J5_appendCD, w ∈ v_J5_appendCD := fun _ h => List.mem_cons_of_mem _ (List.mem_append_left _ h)
theorem mem_J5_appendCD_0 : ∀ w ∈ wsJ40, w ∈ v_J5_appendCD := fun _ h => List.mem_cons_of_mem _ (List.mem_append_right _ (List.mem_append_left _ h))
theorem mem_J5_appendCD_1 : ∀ w ∈ v_J5_ensureD, w ∈ v_J5_appendCD := fun _ h => List.mem_cons_of_mem _ (List.mem_append_right _ (List.mem_append_right _ (List.mem_append_left _ h)))
theorem mem_J5_appendCD_2 : ∀ w ∈ v_J5_isLatin1, w ∈ v_J5_appendCD := fun _ h => List.mem_cons_of_mem _ (List.mem_append_right _ (List.mem_append_right _ (List.mem_append_right _ (List.mem_append_left _ h))))
theorem mem_J5_appendCD_3 : ∀ w ∈ v_J1_canEncodeC, w ∈ v_J5_appendCD := fun _ h => List.mem_cons_of_mem _ (List.mem_append_right _ (List.mem_append_right _ (List.mem_append_right _ (List.mem_append_right _ (List.mem_append_left _ h)))))
set_option maxRecDepth 20000 in
theorem gw_J5_appendCD : v_J5_appendCD.all goodWord = true := by decide +kernel
set_option maxRecDepth 20000 in
theorem g_J5_appendCD_J5_ensureD : GoodIn v_J5_appendCD (va_wsU RJ5 100 RJ4 RJ5 ⟨"java/lang/AbstractStringBuilder", "ensureCapacityInternal", "(I)V"⟩ yJ5_ensureCapacityInternal_d00df v_J5_ensureD) := goodIn_app (goodIn_sub (fun w h => mow_J5_appendCD w (by revert w h; decide +kernel)) (by decide +kernel)) (goodIn_sub mem_J5_appendCD_1 gw_J5_ensureD)
set_option maxRecDepth 20000 in
theorem g_J5_appendCD_J5_isLatin1 : GoodIn v_J5_appendCD (va_wsU RJ5 83 RJ4 RJ5 ⟨"java/lang/AbstractStringBuilder", "isLatin1", "()Z"⟩ yJ5_isLatin1_aae02 v_J5_isLatin1) := goodIn_app (goodIn_sub (fun w h => mow_J5_appendCD w (by revert w h; decide +kernel)) (by decide +kernel)) (goodIn_sub mem_J5_appendCD_2 gw_J5_isLatin1)
set_option maxRecDepth 20000 in
theorem g_J5_appendCD_J1_canEncodeC : GoodIn v_J5_appendCD (va_wsS RJ5 191 yJ1_canEncode_fc78d v_J1_canEncodeC) := goodIn_app (goodIn_sub (fun w h => mow_J5_appendCD w (by revert w h; decide +kernel)) (by decide +kernel)) (goodIn_sub mem_J5_appendCD_3 gw_J1_canEncodeC)
set_option maxHeartbeats 4000000 in
set_option maxRecDepth 100000 in
theorem c_J5_appendCD (l : Launch) (dC : Nat → ClassId) (dI : Nat → Nat → Nat) (h0 : Nat) (r40_maybeLatin1 : Int32) (z40_count : Int) (q_sv : Nat) (cB : ClassId) (nb : Nat) (a_sb : Int → Int) (M : Int) (LB : Int) (c0 : Int) (hNz40_count : 0 ≤ z40_count ∧ z40_count ≤ 1000000) (hNnb : 16 ≤ nb ∧ nb ≤ M ∧ z40_count ≤ nb ∧ M ≤ 2000000 ∧ LB ≤ 900000) (hR_a_sb : ∀ j : Int, -128 ≤ a_sb j ∧ a_sb j ≤ 127) (hX_sc : SBC nb LB M) (hNc : 0 ≤ c0 ∧ c0 ≤ 127) (hNm : z40_count + 1 ≤ LB) (sz : Nat) (HU : Heap) : Met l yJ5_append_3fe6f v_J5_appendCD ({ frames := 4, cells := (((M - (nb : Int)) / 18).toNat), slots := ((2 * (M - (nb : Int))).toNat), locals := 104 }) (va_Pc [.ref h0, .int (zI (c0))] (fun U => U.heap.size = sz ∧ va_P (dC, dI) vwQ [(h0, .inr (17, [.ref q_sv, .int 0, .int r40_maybeLatin1, .int (zI (z40_count))])), (q_sv, .inl (cB, nb, .inl (fun j : Nat => zI (a_sb (j : Int)))))] U.heap ∧ va_K (dC, dI) vwQ [(cB, .byte)] U ∧ va_D (fun _ => True) [(h0, .inr (17, [.ref q_sv, .int 0, .int r40_maybeLatin1, .int (zI (z40_count))])), (q_sv, .inl (cB, nb, .inl (fun j : Nat => zI (a_sb (j : Int)))))] ∧ va_Z "java/lang/String" "COMPACT_STRINGS" "Z" (.int 1) (va_A [(h0, .inr (17, [.ref q_sv, .int 0, .int r40_maybeLatin1, .int (zI (z40_count))])), (q_sv, .inl (cB, nb, .inl (fun j : Nat => zI (a_sb (j : Int)))))] sz) U U.heap ∧ U.heap = HU)) (va_Qr (fun _ : Unit => True) (fun (_ : Unit) (rq : Nat) (t : State) => ∃ (z0_9 : Int) (qn0_9 : Nat) (nn0_9 : Nat) (an0_9 : Int → Int) (kc_9 : Nat) (ks_9 : Nat), (rq = h0 ∧ ((RM HU t.heap kc_9 ks_9 ∧ ((ks_9 : Int) ≤ 2 * ((nn0_9 : Int) - nb) ∧ 18 * (kc_9 : Int) ≤ (nn0_9 : Int) - nb)) ∧ ((0 ≤ z0_9 ∧ z0_9 ≤ 1000000) ∧ (∀ j : Int, -128 ≤ an0_9 j ∧ an0_9 j ≤ 127) ∧ ((nb : Int) ≤ nn0_9 ∧ (nn0_9 : Int) ≤ M ∧ z0_9 = z40_count + 1 ∧ z0_9 ≤ nn0_9 ∧ SBC nn0_9 LB M)))) ∧ va_P (dC, dI) vwQ [(h0, .inr (17, [.ref qn0_9, .int 0, .int r40_maybeLatin1, .int (zI (z0_9))])), (qn0_9, .inl (cB, nn0_9, .inl (fun j : Nat => zI (an0_9 (j : Int)))))] t.heap ∧ va_K (dC, dI) vwQ [(cB, .byte)] t ∧ va_D (va_A [(h0, .inr (17, [.ref q_sv, .int 0, .int r40_maybeLatin1, .int (zI (z40_count))])), (q_sv, .inl (cB, nb, .inl (fun j : Nat => zI (a_sb (j : Int)))))] sz) [(h0, .inr (17, [.ref qn0_9, .int 0, .int r40_maybeLatin1, .int (zI (z0_9))])), (qn0_9, .inl (cB, nn0_9, .inl (fun j : Nat => zI (an0_9 (j : Int)))))]) (va_A [(h0, .inr (17, [.ref q_sv, .int 0, .int r40_maybeLatin1, .int (zI (z40_count))])), (q_sv, .inl (cB, nb, .inl (fun j : Nat => zI (a_sb (j : Int)))))] sz)) (((M - (nb : Int)) / 18).toNat) ((2 * (M - (nb : Int))).toNat) (va_A [(h0, .inr (17, [.ref q_sv, .int 0, .int r40_maybeLatin1, .int (zI (z40_count))])), (q_sv, .inl (cB, nb, .inl (fun j : Nat => zI (a_sb (j : Int)))))] sz) := by
  refine Met.ofW (cc := cJ5_append_3fe6f) (maxL := 2) (ret := (some (.object "java/lang/AbstractStringBuilder"))) (by decide) rfl ?_
  intro p e s m args below meth c s₁ B hml hv
  obtain ⟨rfl, hsz, hP, hK, hD0, hp0, hp1⟩ := hv
  have hx := B.exec
  have hb := B.bytes
  have hr := B.returns
  have hts := atoms_spec (ws := v_J5_appendCD) B.pre
  have hown : s.vm.findClass RJ5 = some m.cls := findClass_of_methodNamed B.named
  have hlocks := B.notSynchronized
  have ow : ∀ {k : Nat} {w : Cond}, o_J5_appendCD[k]? = some w → w.before ([.ref h0, .int (zI (c0))] : List Value).toArray s = true := fun h => hts _ (mow_J5_appendCD _ (List.mem_of_getElem? h))
  subst hsz
  have hD := hD0.self (sz := s.heap.size)
  generalize hAe : va_A [(h0, .inr (17, [.ref q_sv, .int 0, .int r40_maybeLatin1, .int (zI (z40_count))])), (q_sv, .inl (cB, nb, .inl (fun j : Nat => zI (a_sb (j : Int)))))] s.heap.size = A at hD hp0 ⊢
  have hA : ∀ q : Nat, s.heap.size ≤ q → A q := fun q h => by rw [← hAe]; exact Or.inr h
  have hS : va_S A s.heap s.heap [] := va_S.rf
  have hP : va_P (dC, dI) vwQ [(h0, .inr (17, [.ref q_sv, .int 0, .int r40_maybeLatin1, .int (zI (z40_count))])), (q_sv, .inl (cB, nb, .inl (fun j : Nat => zI (a_sb (j : Int)))))] s.heap := hP
  have hl := lv_entry ([.ref h0, .int (zI (c0))]) (n := 2) (Nat.le_of_ble_eq_true rfl)
  rw [lg_entry_eq]
  generalize (lg_sl ([.ref h0, .int (zI (c0))]) ++ List.replicate (2 - (lg_sl ([.ref h0, .int (zI (c0))])).length) Slot.unset).toArray = ls at hl ⊢
  have hl : lv_has ls 2 [(0, .ref h0), (1, .int (zI (c0)))] := hl
  obtain ⟨H, hH⟩ : ∃ H, H = s.heap := ⟨_, rfl⟩
  rw [← hH] at hP
  have hS : va_S A s.heap H [] := by rw [hH]; exact hS
  rw [← hH]
  refine zW_cap (fun Q hQ => ?_)
  have hX_sc0 := hX_sc
  have hsn0 := hX_sc.now
  refine lv_aload_n hx hb dJ5_append_3fe6f_0 rfl (lv_at hl 0 rfl) ?_
  refine lv_aload_n hx hb dJ5_append_3fe6f_1 rfl (lv_at hl 0 rfl) ?_
  refine va_get (D := (dC, dI)) (ci := 17) (v := .int (zI (z40_count))) (C := RJ4) (T := TJ4) (N := 4) hx hb hts mem_J5_appendCD_0 hown hK hP 0 rfl rfl 3 (by decide) (ow (k := 0) rfl) (fun _ h9 => h9) rfl dJ5_append_3fe6f_2 ?_
  refine lv_iconst (v := 1) hx hb dJ5_append_3fe6f_5 (by decide) ?_
  refine lv_iadd hx hb dJ5_append_3fe6f_6 ?_
  refine lv_topi (fun z ez => ?_)
  obtain rfl : z = zI (z40_count + 1) := ez.trans (zI_add (z40_count) (1))
  have hX_sc := hX_sc0
  have hPc := hP.sub (ws' := [(h0, .inr (17, [.ref q_sv, .int 0, .int r40_maybeLatin1, .int (zI (z40_count))])), (q_sv, .inl (cB, nb, .inl (fun j : Nat => zI (a_sb (j : Int)))))]) [0, 1] rfl
  have hDc := hD.sub (ws' := [(h0, .inr (17, [.ref q_sv, .int 0, .int r40_maybeLatin1, .int (zI (z40_count))])), (q_sv, .inl (cB, nb, .inl (fun j : Nat => zI (a_sb (j : Int)))))]) [0, 1] (by decide) rfl
  have hKc := hK.sub (tys' := [(cB, .byte)]) [0] rfl
  have hFc := va_free (wc := [(h0, .inr (17, [.ref q_sv, .int 0, .int r40_maybeLatin1, .int (zI (z40_count))])), (q_sv, .inl (cB, nb, .inl (fun j : Nat => zI (a_sb (j : Int)))))]) hD hS hA [0, 1] rfl
  refine W_knowS (fun hrmA => ?_)
  refine va_callv (va_runU (As := [.int (zI (z40_count + 1))]) (rest := []) ⟨hx, hb, hml, hown, hts⟩ (c_J5_ensureD l dC dI h0 r40_maybeLatin1 z40_count q_sv cB nb a_sb M LB (z40_count + 1) (by omega) (by omega) hR_a_sb hX_sc (by omega) H.size H) (va_cwU (C := RJ4) (owner := RJ5) (x := ⟨"java/lang/AbstractStringBuilder", "ensureCapacityInternal", "(I)V"⟩) 1 hts g_J5_appendCD_J5_ensureD rfl rfl rfl rfl (by decide +kernel) ⟨(Nat.le_of_ble_eq_true rfl), (Nat.le_of_ble_eq_true rfl)⟩) ⟨fun a U g mk q => by obtain ⟨q0, q1, qP, qK, qD, e0⟩ := q; exact ⟨q0, q1, qP, va_K.moved (u := U) (U := U.calling g mk a) (Vm.Alike.refl U.vm) qK, qD, e0⟩, va_recv hKc hPc (ci := 17) (q0 := 0) rfl rfl, fun U hU hW => ⟨rfl, by rw [hU], by rw [hU]; exact hPc, va_K.moved hW.alike hKc, hDc.weaken (fun _ _ _ _ => trivial), hU⟩⟩ rfl rfl hl.1 rfl (lv_room (Nat.le_of_ble_eq_true rfl)) dJ5_append_3fe6f_7 ⟨(show 0 + (((M - (nb : Int)) / 18).toNat) ≤ ((M - (nb : Int)) / 18).toNat from (by omega)), (show 0 + ((2 * (M - (nb : Int))).toNat) ≤ (2 * (M - (nb : Int))).toNat from (by omega))⟩) hS (fun q _ h => hFc q h) hFc (fun  u t H1 locs ht hvm hw hB hz1 hk1 hS => ?_)
  obtain ⟨qn0_1, nn0_2, an0_3, kc_4, ks_5, hxt_5, hP1, hK1, hD1⟩ := hB
  rw [ht] at hP1
  have hK1 := va_K.moved hvm.symm hK1
  obtain ⟨hP, hD⟩ := va_join (wr := []) (w1 := [(h0, .inr (17, [.ref qn0_1, .int 0, .int r40_maybeLatin1, .int (zI (z40_count))])), (qn0_1, .inl (cB, nn0_2, .inl (fun j : Nat => zI (an0_3 (j : Int)))))]) hP hD [0, 1] [] rfl rfl (by decide) (by decide) hk1 hFc hP1 hD1
  have hK := (hK.sub (tys' := []) [] rfl).app hK1
  have hrmC := hxt_5.1.1
  rw [ht] at hrmC
  refine W_tightS (hrmA.trans hrmC) ?_
  have hrb := hxt_5.1.2
  generalize H1 = H at hP hS ⊢
  have hP : va_P (dC, dI) vwQ [(h0, .inr (17, [.ref qn0_1, .int 0, .int r40_maybeLatin1, .int (zI (z40_count))])), (qn0_1, .inl (cB, nn0_2, .inl (fun j : Nat => zI (an0_3 (j : Int)))))] H := hP
  have hD : va_D A [(h0, .inr (17, [.ref qn0_1, .int 0, .int r40_maybeLatin1, .int (zI (z40_count))])), (qn0_1, .inl (cB, nn0_2, .inl (fun j : Nat => zI (an0_3 (j : Int)))))] := hD
  have hK : va_K (dC, dI) vwQ [(cB, .byte)] s := hK
  refine W.widen (k := (0 + kc_4)) (n := (0 + ks_5)) (by omega) (by omega) ?_
  obtain ⟨rk_6, hu_6⟩ := hxt_5.2
  have hsc_7 := hu_6.2.2.2.1
  refine lv_aload_n hx hb dJ5_append_3fe6f_10 rfl (lv_at hl 0 rfl) ?_
  have hPc := hP.sub (ws' := [(h0, .inr (17, [.ref qn0_1, .int 0, .int r40_maybeLatin1, .int (zI (z40_count))])), (qn0_1, .inl (cB, nn0_2, .inl (fun j : Nat => zI (an0_3 (j : Int)))))]) [0, 1] rfl
  have hDc := hD.sub (ws' := [(h0, .inr (17, [.ref qn0_1, .int 0, .int r40_maybeLatin1, .int (zI (z40_count))])), (qn0_1, .inl (cB, nn0_2, .inl (fun j : Nat => zI (an0_3 (j : Int)))))]) [0, 1] (by decide) rfl
  have hKc := hK.sub (tys' := [(cB, .byte)]) [0] rfl
  have hFc := va_free (wc := [(h0, .inr (17, [.ref qn0_1, .int 0, .int r40_maybeLatin1, .int (zI (z40_count))])), (qn0_1, .inl (cB, nn0_2, .inl (fun j : Nat => zI (an0_3 (j : Int)))))]) hD hS hA [0, 1] rfl
  refine va_calli (va_runU (As := []) (rest := []) ⟨hx, hb, hml, hown, hts⟩ (c_J5_isLatin1 l dC dI h0 r40_maybeLatin1 z40_count qn0_1 cB nn0_2 an0_3 M (by omega) (by omega) rk_6 H.size) (va_cwU (C := RJ4) (owner := RJ5) (x := ⟨"java/lang/AbstractStringBuilder", "isLatin1", "()Z"⟩) 0 hts g_J5_appendCD_J5_isLatin1 rfl rfl rfl rfl (by decide +kernel) ⟨(Nat.le_of_ble_eq_true rfl), (Nat.le_of_ble_eq_true rfl)⟩) ⟨fun a U g mk q => by obtain ⟨q0, q1, qP, qK, qD, e0⟩ := q; exact ⟨q0, q1, qP, va_K.moved (u := U) (U := U.calling g mk a) (Vm.Alike.refl U.vm) qK, qD, va_Z.moved (u := U) (U := U.calling g mk a) (Vm.Alike.refl U.vm) e0⟩, va_recv hKc hPc (ci := 17) (q0 := 0) rfl rfl, fun U hU hW => ⟨rfl, by rw [hU], by rw [hU]; exact hPc, va_K.moved hW.alike hKc, hDc.weaken (fun _ _ _ _ => trivial), by rw [hU]; exact va_Z.narrow (va_Z.moved hW.alike (va_Z.kept hp0 hS.2.1)) hFc⟩⟩ rfl rfl hl.1 rfl (lv_room (Nat.le_of_ble_eq_true rfl)) dJ5_append_3fe6f_11 ⟨(show (0 + kc_4) + 0 ≤ ((M - (nb : Int)) / 18).toNat from (by omega)), (show (0 + ks_5) + 0 ≤ (2 * (M - (nb : Int))).toNat from (by omega))⟩) hS (fun q _ h => hFc q h) hFc (fun r_8 u t H1 locs ht hvm hw hB hz1 hk1 hS => ?_)
  obtain ⟨hP1, hK1, hD1⟩ := hB
  rw [ht] at hP1
  have hK1 := va_K.moved hvm.symm hK1
  obtain ⟨hP, hD⟩ := va_join (wr := []) (w1 := [(h0, .inr (17, [.ref qn0_1, .int 0, .int r40_maybeLatin1, .int (zI (z40_count))])), (qn0_1, .inl (cB, nn0_2, .inl (fun j : Nat => zI (an0_3 (j : Int)))))]) hP hD [0, 1] [] rfl rfl (by decide) (by decide) hk1 hFc hP1 hD1
  have hK := (hK.sub (tys' := []) [] rfl).app hK1
  generalize H1 = H at hP hS ⊢
  have hP : va_P (dC, dI) vwQ [(h0, .inr (17, [.ref qn0_1, .int 0, .int r40_maybeLatin1, .int (zI (z40_count))])), (qn0_1, .inl (cB, nn0_2, .inl (fun j : Nat => zI (an0_3 (j : Int)))))] H := hP
  have hD : va_D A [(h0, .inr (17, [.ref qn0_1, .int 0, .int r40_maybeLatin1, .int (zI (z40_count))])), (qn0_1, .inl (cB, nn0_2, .inl (fun j : Nat => zI (an0_3 (j : Int)))))] := hD
  have hK : va_K (dC, dI) vwQ [(cB, .byte)] s := hK
  refine W.widen (k := (0 + kc_4)) (n := (0 + ks_5)) (by omega) (by omega) ?_
  obtain rfl : r_8 = (1) := hw
  refine lv_if_eq (tgt := 45) hx hb dJ5_append_3fe6f_14 (by decide) (fun h9 => absurd h9 (by decide)) (fun _ => ?_)
  refine lv_iload_n hx hb dJ5_append_3fe6f_17 rfl (lv_at hl 1 rfl) ?_
  have hPc := hP.sub (ws' := []) [] rfl
  have hDc := hD.sub (ws' := []) [] (by decide) rfl
  have hKc := hK.sub (tys' := []) [] rfl
  have hFc := va_free (wc := []) hD hS hA [] rfl
  refine va_calli (va_runS (As := [.int (zI (c0))]) (rest := []) ⟨hx, hb, hml, hown, hts⟩ (c_J1_canEncodeC l dC dI c0 (by omega) H.size) (va_cwS 1 hts g_J5_appendCD_J1_canEncodeC rfl rfl rfl (by decide +kernel) ⟨(Nat.le_of_ble_eq_true rfl), (Nat.le_of_ble_eq_true rfl)⟩) ⟨fun a U g mk q => by obtain ⟨q0, q1, qP, qK, qD⟩ := q; exact ⟨q0, q1, qP, va_K.moved (u := U) (U := U.calling g mk a) (Vm.Alike.refl U.vm) qK, qD⟩, fun U hU hW => ⟨rfl, by rw [hU], by rw [hU]; exact hPc, va_K.moved hW.alike hKc, hDc.weaken (fun _ _ _ _ => trivial)⟩⟩ rfl rfl hl.1 rfl (lv_room (Nat.le_of_ble_eq_true rfl)) dJ5_append_3fe6f_18 ⟨(show (0 + kc_4) + 0 ≤ ((M - (nb : Int)) / 18).toNat from (by omega)), (show (0 + ks_5) + 0 ≤ (2 * (M - (nb : Int))).toNat from (by omega))⟩) hS (fun q _ h => hFc q h) hFc (fun r_9 u t H1 locs ht hvm hw hB hz1 hk1 hS => ?_)
  obtain ⟨hP1, hK1, hD1⟩ := hB
  rw [ht] at hP1
  have hK1 := va_K.moved hvm.symm hK1
  obtain ⟨hP, hD⟩ := va_join (wr := [(h0, .inr (17, [.ref qn0_1, .int 0, .int r40_maybeLatin1, .int (zI (z40_count))])), (qn0_1, .inl (cB, nn0_2, .inl (fun j : Nat => zI (an0_3 (j : Int)))))]) (w1 := []) hP hD [] [0, 1] rfl rfl (by decide) (by decide) hk1 hFc hP1 hD1
  have hK := (hK.sub (tys' := [(cB, .byte)]) [0] rfl).app hK1
  generalize H1 = H at hP hS ⊢
  have hP : va_P (dC, dI) vwQ [(h0, .inr (17, [.ref qn0_1, .int 0, .int r40_maybeLatin1, .int (zI (z40_count))])), (qn0_1, .inl (cB, nn0_2, .inl (fun j : Nat => zI (an0_3 (j : Int)))))] H := hP
  have hD : va_D A [(h0, .inr (17, [.ref qn0_1, .int 0, .int r40_maybeLatin1, .int (zI (z40_count))])), (qn0_1, .inl (cB, nn0_2, .inl (fun j : Nat => zI (an0_3 (j : Int)))))] := hD
  have hK : va_K (dC, dI) vwQ [(cB, .byte)] s := hK
  refine W.widen (k := (0 + kc_4)) (n := (0 + ks_5)) (by omega) (by omega) ?_
  obtain rfl : r_9 = (1) := hw
  refine lv_if_eq (tgt := 45) hx hb dJ5_append_3fe6f_21 (by decide) (fun h9 => absurd h9 (by decide)) (fun _ => ?_)
  refine lv_aload_n hx hb dJ5_append_3fe6f_24 rfl (lv_at hl 0 rfl) ?_
  refine va_get (D := (dC, dI)) (ci := 17) (v := .ref qn0_1) (C := RJ4) (T := TJ4) (N := 4) hx hb hts mem_J5_appendCD_0 hown hK hP 0 rfl rfl 0 (by decide) (ow (k := 13) rfl) (fun _ h9 => h9) rfl dJ5_append_3fe6f_25 ?_
  refine lv_aload_n hx hb dJ5_append_3fe6f_28 rfl (lv_at hl 0 rfl) ?_
  refine lv_dup hx hb dJ5_append_3fe6f_29 rfl ?_
  refine va_get (D := (dC, dI)) (ci := 17) (v := .int (zI (z40_count))) (C := RJ4) (T := TJ4) (N := 4) hx hb hts mem_J5_appendCD_0 hown hK hP 0 rfl rfl 3 (by decide) (ow (k := 0) rfl) (fun _ h9 => h9) rfl dJ5_append_3fe6f_30 ?_
  refine lv_dup_x1 hx hb dJ5_append_3fe6f_33 rfl rfl ?_
  refine lv_iconst (v := 1) hx hb dJ5_append_3fe6f_34 (by decide) ?_
  refine lv_iadd hx hb dJ5_append_3fe6f_35 ?_
  refine lv_topi (fun z ez => ?_)
  obtain rfl : z = zI (z40_count + 1) := ez.trans (zI_add (z40_count) (1))
  refine va_put (D := (dC, dI)) (ci := 17) (v := .int (zI (z40_count + 1))) (ty := .int) (C := RJ4) (T := TJ4) (N := 4) hx hb hts mem_J5_appendCD_0 tyJ4 tyJ4_ok nmJ4 hown hK hP hD hS 0 rfl rfl 3 (by decide) (ow (k := 0) rfl) (fun _ h9 => h9) rfl (by decide +kernel) rfl rfl (by first | exact Nat.le_of_ble_eq_true rfl | exact (show (0 + kc_4) ≤ ((M - (nb : Int)) / 18).toNat from (by omega)) | exact (show (0 + ks_5) ≤ (2 * (M - (nb : Int))).toNat from (by omega))) dJ5_append_3fe6f_36 (fun H locs hP hD hS => ?_)
  have hP : va_P (dC, dI) vwQ [(h0, .inr (17, [.ref qn0_1, .int 0, .int r40_maybeLatin1, .int (zI (z40_count + 1))])), (qn0_1, .inl (cB, nn0_2, .inl (fun j : Nat => zI (an0_3 (j : Int)))))] H := hP
  have hD : va_D A [(h0, .inr (17, [.ref qn0_1, .int 0, .int r40_maybeLatin1, .int (zI (z40_count + 1))])), (qn0_1, .inl (cB, nn0_2, .inl (fun j : Nat => zI (an0_3 (j : Int)))))] := hD
  obtain ⟨z_10, ez_10⟩ : ∃ z9 : Int, z9 = z40_count + 1 := ⟨_, rfl⟩
  rw [← ez_10] at hP hD
  have hP : va_P (dC, dI) vwQ [(h0, .inr (17, [.ref qn0_1, .int 0, .int r40_maybeLatin1, .int (zI (z_10))])), (qn0_1, .inl (cB, nn0_2, .inl (fun j : Nat => zI (an0_3 (j : Int)))))] H := hP
  have hD : va_D A [(h0, .inr (17, [.ref qn0_1, .int 0, .int r40_maybeLatin1, .int (zI (z_10))])), (qn0_1, .inl (cB, nn0_2, .inl (fun j : Nat => zI (an0_3 (j : Int)))))] := hD
  refine lv_iload_n hx hb dJ5_append_3fe6f_39 rfl (lv_at hl 1 rfl) ?_
  refine lv_i2b (v := zI (c0)) hx hb dJ5_append_3fe6f_40 (zI_i2b (by omega) (by omega)) ?_
  refine va_bast (i := zI (z40_count)) hx hb hK hP hD hS 1 0 rfl rfl (zI_in (a := z40_count) (n := nn0_2) (by omega) (by omega) (by omega)) dJ5_append_3fe6f_41 (fun H locs hP hD hS => ?_)
  rw [show vp_nar .byte (zI (c0)) = zI (c0) from zI_narB (by omega) (by omega)] at hP hD
  have eQ : upd (fun j : Nat => zI (an0_3 (j : Int))) (zI (z40_count)).toNatClampNeg (zI (c0)) = (fun j : Nat => zI (zup an0_3 (z40_count) (c0) (j : Int))) := zI_st an0_3 (e := z40_count) (v := c0) (by omega) (by omega)
  rw [eQ] at hP hD
  clear eQ
  have ra_11 : ∀ j : Int, -128 ≤ zup an0_3 (z40_count) (c0) j ∧ zup an0_3 (z40_count) (c0) j ≤ 127 := zup_P (P := fun x9 => -128 ≤ x9 ∧ x9 ≤ 127) rk_6 (show -128 ≤ (c0) ∧ (c0) ≤ 127 by omega)
  generalize zup an0_3 (z40_count) (c0) = a_11 at hP hD ra_11
  have hP : va_P (dC, dI) vwQ [(h0, .inr (17, [.ref qn0_1, .int 0, .int r40_maybeLatin1, .int (zI (z_10))])), (qn0_1, .inl (cB, nn0_2, .inl (fun j : Nat => zI (a_11 (j : Int)))))] H := hP
  have hD : va_D A [(h0, .inr (17, [.ref qn0_1, .int 0, .int r40_maybeLatin1, .int (zI (z_10))])), (qn0_1, .inl (cB, nn0_2, .inl (fun j : Nat => zI (a_11 (j : Int)))))] := hD
  refine lv_goto (tgt := 75) hx hb dJ5_append_3fe6f_42 (by decide) ?_
  refine lv_aload_n hx hb dJ5_append_3fe6f_75 rfl (lv_at hl 0 rfl) ?_
  subst hQ
  refine W_knowS (fun hrm9 => ?_)
  refine W.widen (k := (((M - (nb : Int)) / 18).toNat)) (n := ((2 * (M - (nb : Int))).toNat)) (by omega) (by omega) ?_
  exact W.aret (v := .ref h0) hx hb hr (Or.inl ⟨_, rfl⟩) (Or.inr ⟨_, rfl⟩) (fun t ht hW => ⟨⟨(), h0, rfl, trivial, z_10, qn0_1, nn0_2, a_11, (0 + kc_4), (0 + ks_5), ⟨rfl, ⟨⟨(by rw [ht, ← hp1]; exact hrm9), (by omega)⟩, ⟨(by omega), ra_11, ⟨by omega, by omega, by omega, by omega, hsc_7⟩⟩⟩⟩, by rw [ht]; exact hP, va_K.moved hW.alike hK, hD⟩, hS.F ht⟩) hS.2.2 dJ5_append_3fe6f_76
def o_J4_appendCD : List Cond := [.methodLink RJ4 50 yJ5_append_3fe6f, .sameMethod "java/lang/AbstractStringBuilder" "java/lang/AbstractStringBuilder" "append" "(C)Ljava/lang/AbstractStringBuilder;", .superclass RJ4 RJ5, .instanceMethod yJ5_append_3fe6f, .initialized RJ5]
def v_J4_appendCD : List Cond := .code yJ4_append_cf468 cJ4_append_cf468 2 (some (.object "java/lang/StringBuilder")) :: (o_J4_appendCD ++ (v_J5_appendCD ++ []))
theorem mow_J4_appendCD : ∀ w ∈ o_J4_appendCD, w ∈ v_J4_appendCD := fun _ h => List.mem_cons_of_mem _ (List.mem_append_left _ h)
theorem mem_J4_appendCD_0 : ∀ w ∈ v_J5_appendCD, w ∈ v_J4_appendCD := fun _ h => List.mem_cons_of_mem _ (List.mem_append_right _ (List.mem_append_left _ h))
set_option maxRecDepth 20000 in
theorem gw_J4_appendCD : v_J4_appendCD.all goodWord = true := by decide +kernel
set_option maxRecDepth 20000 in
theorem g_J4_appendCD_J5_appendCD : GoodIn v_J4_appendCD (va_wsSU RJ4 50 yJ5_append_3fe6f v_J5_appendCD) := goodIn_app (goodIn_sub (fun w h => mow_J4_appendCD w (by revert w h; decide +kernel)) (by decide +kernel)) (goodIn_sub mem_J4_appendCD_0 gw_J5_appendCD)
set_option maxHeartbeats 4000000 in
set_option maxRecDepth 100000 in
theorem c_J4_appendCD (l : Launch) (dC : Nat → ClassId) (dI : Nat → Nat → Nat) (h0 : Nat) (r40_maybeLatin1 : Int32) (z40_count : Int) (q_sv : Nat) (cB : ClassId) (nb : Nat) (a_sb : Int → Int) (M : Int) (LB : Int) (c0 : Int) (hNz40_count : 0 ≤ z40_count ∧ z40_count ≤ 1000000) (hNnb : 16 ≤ nb ∧ nb ≤ M ∧ z40_count ≤ nb ∧ M ≤ 2000000 ∧ LB ≤ 900000) (hR_a_sb : ∀ j : Int, -128 ≤ a_sb j ∧ a_sb j ≤ 127) (hX_sc : SBC nb LB M) (hNc : 0 ≤ c0 ∧ c0 ≤ 127) (hNm : z40_count + 1 ≤ LB) (sz : Nat) (HU : Heap) : Met l yJ4_append_cf468 v_J4_appendCD ({ frames := 5, cells := (((M - (nb : Int)) / 18).toNat), slots := ((2 * (M - (nb : Int))).toNat), locals := 125 }) (va_Pc [.ref h0, .int (zI (c0))] (fun U => U.heap.size = sz ∧ va_P (dC, dI) vwQ [(h0, .inr (17, [.ref q_sv, .int 0, .int r40_maybeLatin1, .int (zI (z40_count))])), (q_sv, .inl (cB, nb, .inl (fun j : Nat => zI (a_sb (j : Int)))))] U.heap ∧ va_K (dC, dI) vwQ [(cB, .byte)] U ∧ va_D (fun _ => True) [(h0, .inr (17, [.ref q_sv, .int 0, .int r40_maybeLatin1, .int (zI (z40_count))])), (q_sv, .inl (cB, nb, .inl (fun j : Nat => zI (a_sb (j : Int)))))] ∧ va_Z "java/lang/String" "COMPACT_STRINGS" "Z" (.int 1) (va_A [(h0, .inr (17, [.ref q_sv, .int 0, .int r40_maybeLatin1, .int (zI (z40_count))])), (q_sv, .inl (cB, nb, .inl (fun j : Nat => zI (a_sb (j : Int)))))] sz) U U.heap ∧ U.heap = HU)) (va_Qr (fun _ : Unit => True) (fun (_ : Unit) (rq : Nat) (t : State) => ∃ (z0_9 : Int) (qn0_9 : Nat) (nn0_9 : Nat) (an0_9 : Int → Int) (kc_9 : Nat) (ks_9 : Nat), (rq = h0 ∧ ((RM HU t.heap kc_9 ks_9 ∧ ((ks_9 : Int) ≤ 2 * ((nn0_9 : Int) - nb) ∧ 18 * (kc_9 : Int) ≤ (nn0_9 : Int) - nb)) ∧ ((0 ≤ z0_9 ∧ z0_9 ≤ 1000000) ∧ (∀ j : Int, -128 ≤ an0_9 j ∧ an0_9 j ≤ 127) ∧ ((nb : Int) ≤ nn0_9 ∧ (nn0_9 : Int) ≤ M ∧ z0_9 = z40_count + 1 ∧ z0_9 ≤ nn0_9 ∧ SBC nn0_9 LB M)))) ∧ va_P (dC, dI) vwQ [(h0, .inr (17, [.ref qn0_9, .int 0, .int r40_maybeLatin1, .int (zI (z0_9))])), (qn0_9, .inl (cB, nn0_9, .inl (fun j : Nat => zI (an0_9 (j : Int)))))] t.heap ∧ va_K (dC, dI) vwQ [(cB, .byte)] t ∧ va_D (va_A [(h0, .inr (17, [.ref q_sv, .int 0, .int r40_maybeLatin1, .int (zI (z40_count))])), (q_sv, .inl (cB, nb, .inl (fun j : Nat => zI (a_sb (j : Int)))))] sz) [(h0, .inr (17, [.ref qn0_9, .int 0, .int r40_maybeLatin1, .int (zI (z0_9))])), (qn0_9, .inl (cB, nn0_9, .inl (fun j : Nat => zI (an0_9 (j : Int)))))]) (va_A [(h0, .inr (17, [.ref q_sv, .int 0, .int r40_maybeLatin1, .int (zI (z40_count))])), (q_sv, .inl (cB, nb, .inl (fun j : Nat => zI (a_sb (j : Int)))))] sz)) (((M - (nb : Int)) / 18).toNat) ((2 * (M - (nb : Int))).toNat) (va_A [(h0, .inr (17, [.ref q_sv, .int 0, .int r40_maybeLatin1, .int (zI (z40_count))])), (q_sv, .inl (cB, nb, .inl (fun j : Nat => zI (a_sb (j : Int)))))] sz) := by
  refine Met.ofW (cc := cJ4_append_cf468) (maxL := 2) (ret := (some (.object "java/lang/StringBuilder"))) (by decide) rfl ?_
  intro p e s m args below meth c s₁ B hml hv
  obtain ⟨rfl, hsz, hP, hK, hD0, hp0, hp1⟩ := hv
  have hx := B.exec
  have hb := B.bytes
  have hr := B.returns
  have hts := atoms_spec (ws := v_J4_appendCD) B.pre
  have hown : s.vm.findClass RJ4 = some m.cls := findClass_of_methodNamed B.named
  have hlocks := B.notSynchronized
  have ow : ∀ {k : Nat} {w : Cond}, o_J4_appendCD[k]? = some w → w.before ([.ref h0, .int (zI (c0))] : List Value).toArray s = true := fun h => hts _ (mow_J4_appendCD _ (List.mem_of_getElem? h))
  subst hsz
  have hD := hD0.self (sz := s.heap.size)
  generalize hAe : va_A [(h0, .inr (17, [.ref q_sv, .int 0, .int r40_maybeLatin1, .int (zI (z40_count))])), (q_sv, .inl (cB, nb, .inl (fun j : Nat => zI (a_sb (j : Int)))))] s.heap.size = A at hD hp0 ⊢
  have hA : ∀ q : Nat, s.heap.size ≤ q → A q := fun q h => by rw [← hAe]; exact Or.inr h
  have hS : va_S A s.heap s.heap [] := va_S.rf
  have hP : va_P (dC, dI) vwQ [(h0, .inr (17, [.ref q_sv, .int 0, .int r40_maybeLatin1, .int (zI (z40_count))])), (q_sv, .inl (cB, nb, .inl (fun j : Nat => zI (a_sb (j : Int)))))] s.heap := hP
  have hl := lv_entry ([.ref h0, .int (zI (c0))]) (n := 2) (Nat.le_of_ble_eq_true rfl)
  rw [lg_entry_eq]
  generalize (lg_sl ([.ref h0, .int (zI (c0))]) ++ List.replicate (2 - (lg_sl ([.ref h0, .int (zI (c0))])).length) Slot.unset).toArray = ls at hl ⊢
  have hl : lv_has ls 2 [(0, .ref h0), (1, .int (zI (c0)))] := hl
  obtain ⟨H, hH⟩ : ∃ H, H = s.heap := ⟨_, rfl⟩
  rw [← hH] at hP
  have hS : va_S A s.heap H [] := by rw [hH]; exact hS
  rw [← hH]
  refine zW_cap (fun Q hQ => ?_)
  have hX_sc0 := hX_sc
  have hsn0 := hX_sc.now
  refine lv_aload_n hx hb dJ4_append_cf468_0 rfl (lv_at hl 0 rfl) ?_
  refine lv_iload_n hx hb dJ4_append_cf468_1 rfl (lv_at hl 1 rfl) ?_
  have hX_sc := hX_sc0
  have hPc := hP.sub (ws' := [(h0, .inr (17, [.ref q_sv, .int 0, .int r40_maybeLatin1, .int (zI (z40_count))])), (q_sv, .inl (cB, nb, .inl (fun j : Nat => zI (a_sb (j : Int)))))]) [0, 1] rfl
  have hDc := hD.sub (ws' := [(h0, .inr (17, [.ref q_sv, .int 0, .int r40_maybeLatin1, .int (zI (z40_count))])), (q_sv, .inl (cB, nb, .inl (fun j : Nat => zI (a_sb (j : Int)))))]) [0, 1] (by decide) rfl
  have hKc := hK.sub (tys' := [(cB, .byte)]) [0] rfl
  have hFc := va_free (wc := [(h0, .inr (17, [.ref q_sv, .int 0, .int r40_maybeLatin1, .int (zI (z40_count))])), (q_sv, .inl (cB, nb, .inl (fun j : Nat => zI (a_sb (j : Int)))))]) hD hS hA [0, 1] rfl
  refine W_knowS (fun hrmA => ?_)
  refine va_callr (va_runSU (As := [.int (zI (c0))]) (rest := []) (C := RJ4) (hK.1 17 _ rfl).2 ⟨hx, hb, hml, hown, hts⟩ (c_J5_appendCD l dC dI h0 r40_maybeLatin1 z40_count q_sv cB nb a_sb M LB c0 (by omega) (by omega) hR_a_sb hX_sc (by omega) (by omega) H.size H) (va_cwSU 1 hts g_J4_appendCD_J5_appendCD rfl rfl rfl (by decide +kernel) ⟨(Nat.le_of_ble_eq_true rfl), (Nat.le_of_ble_eq_true rfl)⟩) ⟨fun a U g mk q => by obtain ⟨q0, q1, qP, qK, qD, e0, e1⟩ := q; exact ⟨q0, q1, qP, va_K.moved (u := U) (U := U.calling g mk a) (Vm.Alike.refl U.vm) qK, qD, va_Z.moved (u := U) (U := U.calling g mk a) (Vm.Alike.refl U.vm) e0, e1⟩, va_recv hKc hPc (ci := 17) (q0 := 0) rfl rfl, fun U hU hW => ⟨rfl, by rw [hU], by rw [hU]; exact hPc, va_K.moved hW.alike hKc, hDc.weaken (fun _ _ _ _ => trivial), by rw [hU]; exact va_Z.narrow (va_Z.moved hW.alike (va_Z.kept hp0 hS.2.1)) hFc, hU⟩⟩ rfl rfl hl.1 rfl (lv_room (Nat.le_of_ble_eq_true rfl)) dJ4_append_cf468_2 ⟨(show 0 + (((M - (nb : Int)) / 18).toNat) ≤ ((M - (nb : Int)) / 18).toNat from (by omega)), (show 0 + ((2 * (M - (nb : Int))).toNat) ≤ (2 * (M - (nb : Int))).toNat from (by omega))⟩) hS (fun q _ h => hFc q h) hFc (fun u q_1 t H1 locs ht hvm hw hB hz1 hk1 hS => ?_)
  obtain ⟨z0_2, qn0_3, nn0_4, an0_5, kc_6, ks_7, hxt_7, hP1, hK1, hD1⟩ := hB
  rw [ht] at hP1
  have hK1 := va_K.moved hvm.symm hK1
  obtain ⟨hP, hD⟩ := va_join (wr := []) (w1 := [(h0, .inr (17, [.ref qn0_3, .int 0, .int r40_maybeLatin1, .int (zI (z0_2))])), (qn0_3, .inl (cB, nn0_4, .inl (fun j : Nat => zI (an0_5 (j : Int)))))]) hP hD [0, 1] [] rfl rfl (by decide) (by decide) hk1 hFc hP1 hD1
  have hK := (hK.sub (tys' := []) [] rfl).app hK1
  have hrx_8 := hxt_7.1
  have hrmC := hxt_7.2.1.1
  rw [ht] at hrmC
  refine W_tightS (hrmA.trans hrmC) ?_
  have hrb := hxt_7.2.1.2
  generalize H1 = H at hP hS ⊢
  have hP : va_P (dC, dI) vwQ [(h0, .inr (17, [.ref qn0_3, .int 0, .int r40_maybeLatin1, .int (zI (z0_2))])), (qn0_3, .inl (cB, nn0_4, .inl (fun j : Nat => zI (an0_5 (j : Int)))))] H := hP
  have hD : va_D A [(h0, .inr (17, [.ref qn0_3, .int 0, .int r40_maybeLatin1, .int (zI (z0_2))])), (qn0_3, .inl (cB, nn0_4, .inl (fun j : Nat => zI (an0_5 (j : Int)))))] := hD
  have hK : va_K (dC, dI) vwQ [(cB, .byte)] s := hK
  refine W.widen (k := (0 + kc_6)) (n := (0 + ks_7)) (by omega) (by omega) ?_
  obtain ⟨rk_9, rk_10, hu_10⟩ := hxt_7.2.2
  rw [hrx_8]
  have hsc_11 := hu_10.2.2.2.2
  refine lv_pop hx hb dJ4_append_cf468_5 rfl ?_
  refine lv_aload_n hx hb dJ4_append_cf468_6 rfl (lv_at hl 0 rfl) ?_
  subst hQ
  refine W_knowS (fun hrm9 => ?_)
  refine W.widen (k := (((M - (nb : Int)) / 18).toNat)) (n := ((2 * (M - (nb : Int))).toNat)) (by omega) (by omega) ?_
  exact W.aret (v := .ref h0) hx hb hr (Or.inl ⟨_, rfl⟩) (Or.inr ⟨_, rfl⟩) (fun t ht hW => ⟨⟨(), h0, rfl, trivial, z0_2, qn0_3, nn0_4, an0_5, (0 + kc_6), (0 + ks_7), ⟨rfl, ⟨⟨(by rw [ht, ← hp1]; exact hrm9), (by omega)⟩, ⟨(by omega), rk_10, ⟨by omega, by omega, by omega, by omega, hsc_11⟩⟩⟩⟩, by rw [ht]; exact hP, va_K.moved hW.alike hK, hD⟩, hS.F ht⟩) hS.2.2 dJ4_append_cf468_7
