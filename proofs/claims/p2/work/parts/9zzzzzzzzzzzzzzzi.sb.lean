def o_J5_ensureD : List Cond := [.fieldLink RJ5 15 "java/lang/AbstractStringBuilder" "value" "[B", .fieldLink RJ5 22 "java/lang/AbstractStringBuilder" "coder" "B", .methodLink RJ5 104 ⟨"java/lang/AbstractStringBuilder", "newCapacity", "(I)I"⟩, .sameMethod "java/lang/AbstractStringBuilder" "java/lang/AbstractStringBuilder" "newCapacity" "(I)I", .selects RJ4 ⟨"java/lang/AbstractStringBuilder", "newCapacity", "(I)I"⟩ yJ5_newCapacity_0f7a4, .instanceMethod yJ5_newCapacity_0f7a4, .initialized RJ5, .methodLink RJ5 108 yJ7_copyOf_9075b, .static yJ7_copyOf_9075b, .initialized RJ7]
def v_J5_ensureD : List Cond := .code yJ5_ensureCapacityInternal_d00df cJ5_ensureCapacityInternal_d00df 3 none :: (o_J5_ensureD ++ (wsJ40 ++ (v_J5_newCapacity ++ (v_J7_copyOfB ++ []))))
theorem mow_J5_ensureD : ∀ w ∈ o_J5_ensureD, w ∈ v_J5_ensureD := fun _ h => List.mem_cons_of_mem _ (List.mem_append_left _ h)
theorem mem_J5_ensureD_0 : ∀ w ∈ wsJ40, w ∈ v_J5_ensureD := fun _ h => List.mem_cons_of_mem _ (List.mem_append_right _ (List.mem_append_left _ h))
theorem mem_J5_ensureD_1 : ∀ w ∈ v_J5_newCapacity, w ∈ v_J5_ensureD := fun _ h => List.mem_cons_of_mem _ (List.mem_append_right _ (List.mem_append_right _ (List.mem_append_left _ h)))
theorem mem_J5_ensureD_2 : ∀ w ∈ v_J7_copyOfB, w ∈ v_J5_ensureD := fun _ h => List.mem_cons_of_mem _ (List.mem_append_right _ (List.mem_append_right _ (List.mem_append_right _ (List.mem_append_left _ h))))
set_option maxRecDepth 20000 in
theorem gw_J5_ensureD : v_J5_ensureD.all goodWord = true := by decide +kernel
set_option maxRecDepth 20000 in
theorem g_J5_ensureD_J5_newCapacity : GoodIn v_J5_ensureD (va_wsU RJ5 104 RJ4 RJ5 ⟨"java/lang/AbstractStringBuilder", "newCapacity", "(I)I"⟩ yJ5_newCapacity_0f7a4 v_J5_newCapacity) := goodIn_app (goodIn_sub (fun w h => mow_J5_ensureD w (by revert w h; decide +kernel)) (by decide +kernel)) (goodIn_sub mem_J5_ensureD_1 gw_J5_newCapacity)
set_option maxRecDepth 20000 in
theorem g_J5_ensureD_J7_copyOfB : GoodIn v_J5_ensureD (va_wsS RJ5 108 yJ7_copyOf_9075b v_J7_copyOfB) := goodIn_app (goodIn_sub (fun w h => mow_J5_ensureD w (by revert w h; decide +kernel)) (by decide +kernel)) (goodIn_sub mem_J5_ensureD_2 gw_J7_copyOfB)
set_option maxHeartbeats 4000000 in
set_option maxRecDepth 100000 in
theorem c_J5_ensureD (l : Launch) (dC : Nat → ClassId) (dI : Nat → Nat → Nat) (h0 : Nat) (r40_maybeLatin1 : Int32) (z40_count : Int) (q_sv : Nat) (cB : ClassId) (nb : Nat) (a_sb : Int → Int) (M : Int) (LB : Int) (mn : Int) (hNz40_count : 0 ≤ z40_count ∧ z40_count ≤ 1000000) (hNnb : 16 ≤ nb ∧ nb ≤ M ∧ z40_count ≤ nb ∧ M ≤ 2000000 ∧ LB ≤ 900000) (hR_a_sb : ∀ j : Int, -128 ≤ a_sb j ∧ a_sb j ≤ 127) (hX_sc : SBC nb LB M) (hNm : 0 ≤ mn ∧ mn ≤ LB ∧ mn ≤ (nb : Int) + 18) (sz : Nat) (HU : Heap) : Met l yJ5_ensureCapacityInternal_d00df v_J5_ensureD ({ frames := 3, cells := (((M - (nb : Int)) / 18).toNat), slots := ((2 * (M - (nb : Int))).toNat), locals := 82 }) (va_Pc [.ref h0, .int (zI (mn))] (fun U => U.heap.size = sz ∧ va_P (dC, dI) vwQ [(h0, .inr (17, [.ref q_sv, .int 0, .int r40_maybeLatin1, .int (zI (z40_count))])), (q_sv, .inl (cB, nb, .inl (fun j : Nat => zI (a_sb (j : Int)))))] U.heap ∧ va_K (dC, dI) vwQ [(cB, .byte)] U ∧ va_D (fun _ => True) [(h0, .inr (17, [.ref q_sv, .int 0, .int r40_maybeLatin1, .int (zI (z40_count))])), (q_sv, .inl (cB, nb, .inl (fun j : Nat => zI (a_sb (j : Int)))))] ∧ U.heap = HU)) (va_Qv (fun _ : Unit => True) (fun (_ : Unit) (t : State) => ∃ (qn0_9 : Nat) (nn0_9 : Nat) (an0_9 : Int → Int) (kc_9 : Nat) (ks_9 : Nat), ((RM HU t.heap kc_9 ks_9 ∧ ((ks_9 : Int) ≤ 2 * ((nn0_9 : Int) - nb) ∧ 18 * (kc_9 : Int) ≤ (nn0_9 : Int) - nb)) ∧ ((∀ j : Int, -128 ≤ an0_9 j ∧ an0_9 j ≤ 127) ∧ ((nb : Int) ≤ nn0_9 ∧ (nn0_9 : Int) ≤ M ∧ mn ≤ nn0_9 ∧ SBC nn0_9 LB M ∧ (∀ j : Int, 0 ≤ j → j < z40_count → an0_9 j = a_sb j)))) ∧ va_P (dC, dI) vwQ [(h0, .inr (17, [.ref qn0_9, .int 0, .int r40_maybeLatin1, .int (zI (z40_count))])), (qn0_9, .inl (cB, nn0_9, .inl (fun j : Nat => zI (an0_9 (j : Int)))))] t.heap ∧ va_K (dC, dI) vwQ [(cB, .byte)] t ∧ va_D (va_A [(h0, .inr (17, [.ref q_sv, .int 0, .int r40_maybeLatin1, .int (zI (z40_count))])), (q_sv, .inl (cB, nb, .inl (fun j : Nat => zI (a_sb (j : Int)))))] sz) [(h0, .inr (17, [.ref qn0_9, .int 0, .int r40_maybeLatin1, .int (zI (z40_count))])), (qn0_9, .inl (cB, nn0_9, .inl (fun j : Nat => zI (an0_9 (j : Int)))))]) (va_A [(h0, .inr (17, [.ref q_sv, .int 0, .int r40_maybeLatin1, .int (zI (z40_count))])), (q_sv, .inl (cB, nb, .inl (fun j : Nat => zI (a_sb (j : Int)))))] sz)) (((M - (nb : Int)) / 18).toNat) ((2 * (M - (nb : Int))).toNat) (va_A [(h0, .inr (17, [.ref q_sv, .int 0, .int r40_maybeLatin1, .int (zI (z40_count))])), (q_sv, .inl (cB, nb, .inl (fun j : Nat => zI (a_sb (j : Int)))))] sz) := by
  refine Met.ofW (cc := cJ5_ensureCapacityInternal_d00df) (maxL := 3) (ret := none) (by decide) rfl ?_
  intro p e s m args below meth c s₁ B hml hv
  obtain ⟨rfl, hsz, hP, hK, hD0, hp0⟩ := hv
  have hx := B.exec
  have hb := B.bytes
  have hr := B.returns
  have hts := atoms_spec (ws := v_J5_ensureD) B.pre
  have hown : s.vm.findClass RJ5 = some m.cls := findClass_of_methodNamed B.named
  have hlocks := B.notSynchronized
  have ow : ∀ {k : Nat} {w : Cond}, o_J5_ensureD[k]? = some w → w.before ([.ref h0, .int (zI (mn))] : List Value).toArray s = true := fun h => hts _ (mow_J5_ensureD _ (List.mem_of_getElem? h))
  subst hsz
  have hD := hD0.self (sz := s.heap.size)
  generalize hAe : va_A [(h0, .inr (17, [.ref q_sv, .int 0, .int r40_maybeLatin1, .int (zI (z40_count))])), (q_sv, .inl (cB, nb, .inl (fun j : Nat => zI (a_sb (j : Int)))))] s.heap.size = A at hD ⊢
  have hA : ∀ q : Nat, s.heap.size ≤ q → A q := fun q h => by rw [← hAe]; exact Or.inr h
  have hS : va_S A s.heap s.heap [] := va_S.rf
  have hP : va_P (dC, dI) vwQ [(h0, .inr (17, [.ref q_sv, .int 0, .int r40_maybeLatin1, .int (zI (z40_count))])), (q_sv, .inl (cB, nb, .inl (fun j : Nat => zI (a_sb (j : Int)))))] s.heap := hP
  have hl := lv_entry ([.ref h0, .int (zI (mn))]) (n := 3) (Nat.le_of_ble_eq_true rfl)
  rw [lg_entry_eq]
  generalize (lg_sl ([.ref h0, .int (zI (mn))]) ++ List.replicate (3 - (lg_sl ([.ref h0, .int (zI (mn))])).length) Slot.unset).toArray = ls at hl ⊢
  have hl : lv_has ls 3 [(0, .ref h0), (1, .int (zI (mn)))] := hl
  obtain ⟨H, hH⟩ : ∃ H, H = s.heap := ⟨_, rfl⟩
  rw [← hH] at hP
  have hS : va_S A s.heap H [] := by rw [hH]; exact hS
  rw [← hH]
  refine zW_cap (fun Q hQ => ?_)
  have hX_sc0 := hX_sc
  have hsn0 := hX_sc.now
  refine lv_aload_n hx hb dJ5_ensureCapacityInternal_d00df_0 rfl (lv_at hl 0 rfl) ?_
  refine va_get (D := (dC, dI)) (ci := 17) (v := .ref q_sv) (C := RJ4) (T := TJ4) (N := 4) hx hb hts mem_J5_ensureD_0 hown hK hP 0 rfl rfl 0 (by decide) (ow (k := 0) rfl) (fun _ h9 => h9) rfl dJ5_ensureCapacityInternal_d00df_1 ?_
  refine va_alen (v := zI ((nb : Int))) hx hb hK hP 1 0 rfl rfl (zI_ofNat nb) dJ5_ensureCapacityInternal_d00df_4 ?_
  refine lv_aload_n hx hb dJ5_ensureCapacityInternal_d00df_5 rfl (lv_at hl 0 rfl) ?_
  refine va_get (D := (dC, dI)) (ci := 17) (v := .int 0) (C := RJ4) (T := TJ4) (N := 4) hx hb hts mem_J5_ensureD_0 hown hK hP 0 rfl rfl 1 (by decide) (ow (k := 1) rfl) (fun _ h9 => h9) rfl dJ5_ensureCapacityInternal_d00df_6 ?_
  refine lv_ishr hx hb dJ5_ensureCapacityInternal_d00df_9 ?_
  refine lv_topi (fun z ez => ?_)
  obtain rfl : z = zI (((nb : Int)) / 1) := ez.trans (zI_shr (a := (nb : Int)) (k := 0) (by omega) (by omega) (by decide))
  refine lv_istore_n (lv' := [(2, .int (zI (((nb : Int)) / 1))), (0, .ref h0), (1, .int (zI (mn)))]) hx hb dJ5_ensureCapacityInternal_d00df_10 rfl hl (by decide) rfl (fun ls hl => ?_)
  refine lv_iload_n hx hb dJ5_ensureCapacityInternal_d00df_11 rfl (lv_at hl 2 rfl) ?_
  refine lv_iload_n hx hb dJ5_ensureCapacityInternal_d00df_12 rfl (lv_at hl 0 rfl) ?_
  refine lv_isub hx hb dJ5_ensureCapacityInternal_d00df_13 ?_
  refine lv_topi (fun z ez => ?_)
  obtain rfl : z = zI (mn - (((nb : Int)) / 1)) := ez.trans (zI_sub (mn) (((nb : Int)) / 1))
  refine lv_if_le (tgt := 38) hx hb dJ5_ensureCapacityInternal_d00df_14 (by decide) (fun b14 => ?_) (fun b14 => ?_)
  · have yb14 : (mn - (((nb : Int)) / 1) : Int) ≤ (0 : Int) := (zI_le (a := mn - (((nb : Int)) / 1)) (b := 0) (by omega) (by omega) (by omega) (by omega)).mp b14
    subst hQ
    refine W_knowS (fun hrm9 => ?_)
    refine W.widen (k := (((M - (nb : Int)) / 18).toNat)) (n := ((2 * (M - (nb : Int))).toNat)) (by omega) (by omega) ?_
    exact W.vret hx hb hr (fun t ht hW => ⟨⟨(), rfl, trivial, q_sv, nb, a_sb, 0, 0, ⟨⟨(by rw [ht, ← hp0]; exact hrm9), (by omega)⟩, ⟨hR_a_sb, ⟨by omega, by omega, by omega, hX_sc0.step (by omega), fun j _ _ => rfl⟩⟩⟩, by rw [ht]; exact hP, va_K.moved hW.alike hK, hD⟩, hS.F ht⟩) hS.2.2 dJ5_ensureCapacityInternal_d00df_38
  · have yb14 : ¬ (mn - (((nb : Int)) / 1) : Int) ≤ (0 : Int) := fun q => b14 ((zI_le (a := mn - (((nb : Int)) / 1)) (b := 0) (by omega) (by omega) (by omega) (by omega)).mpr q)
    refine lv_aload_n hx hb dJ5_ensureCapacityInternal_d00df_17 rfl (lv_at hl 1 rfl) ?_
    refine lv_aload_n hx hb dJ5_ensureCapacityInternal_d00df_18 rfl (lv_at hl 1 rfl) ?_
    refine va_get (D := (dC, dI)) (ci := 17) (v := .ref q_sv) (C := RJ4) (T := TJ4) (N := 4) hx hb hts mem_J5_ensureD_0 hown hK hP 0 rfl rfl 0 (by decide) (ow (k := 0) rfl) (fun _ h9 => h9) rfl dJ5_ensureCapacityInternal_d00df_19 ?_
    refine lv_aload_n hx hb dJ5_ensureCapacityInternal_d00df_22 rfl (lv_at hl 1 rfl) ?_
    refine lv_iload_n hx hb dJ5_ensureCapacityInternal_d00df_23 rfl (lv_at hl 2 rfl) ?_
    have hPc := hP.sub (ws' := [(h0, .inr (17, [.ref q_sv, .int 0, .int r40_maybeLatin1, .int (zI (z40_count))])), (q_sv, .inl (cB, nb, .inl (fun j : Nat => zI (a_sb (j : Int)))))]) [0, 1] rfl
    have hDc := hD.sub (ws' := [(h0, .inr (17, [.ref q_sv, .int 0, .int r40_maybeLatin1, .int (zI (z40_count))])), (q_sv, .inl (cB, nb, .inl (fun j : Nat => zI (a_sb (j : Int)))))]) [0, 1] (by decide) rfl
    have hKc := hK.sub (tys' := [(cB, .byte)]) [0] rfl
    have hFc := va_free (wc := [(h0, .inr (17, [.ref q_sv, .int 0, .int r40_maybeLatin1, .int (zI (z40_count))])), (q_sv, .inl (cB, nb, .inl (fun j : Nat => zI (a_sb (j : Int)))))]) hD hS hA [0, 1] rfl
    refine va_calli (va_runU (As := [.int (zI (mn))]) (rest := [.ref q_sv, .ref h0]) ⟨hx, hb, hml, hown, hts⟩ (c_J5_newCapacity l dC dI h0 r40_maybeLatin1 z40_count q_sv cB nb a_sb M mn (by omega) (by omega) hR_a_sb (by omega) H.size) (va_cwU (C := RJ4) (owner := RJ5) (x := ⟨"java/lang/AbstractStringBuilder", "newCapacity", "(I)I"⟩) 1 hts g_J5_ensureD_J5_newCapacity rfl rfl rfl rfl (by decide +kernel) ⟨(Nat.le_of_ble_eq_true rfl), (Nat.le_of_ble_eq_true rfl)⟩) ⟨fun a U g mk q => by obtain ⟨q0, q1, qP, qK, qD⟩ := q; exact ⟨q0, q1, qP, va_K.moved (u := U) (U := U.calling g mk a) (Vm.Alike.refl U.vm) qK, qD⟩, va_recv hKc hPc (ci := 17) (q0 := 0) rfl rfl, fun U hU hW => ⟨rfl, by rw [hU], by rw [hU]; exact hPc, va_K.moved hW.alike hKc, hDc.weaken (fun _ _ _ _ => trivial)⟩⟩ rfl rfl hl.1 rfl (lv_room (Nat.le_of_ble_eq_true rfl)) dJ5_ensureCapacityInternal_d00df_24 ⟨(Nat.zero_le _), (Nat.zero_le _)⟩) hS (fun q _ h => hFc q h) hFc (fun r_1 u t H1 locs ht hvm hw hB hz1 hk1 hS => ?_)
    obtain ⟨hP1, hK1, hD1⟩ := hB
    rw [ht] at hP1
    have hK1 := va_K.moved hvm.symm hK1
    obtain ⟨hP, hD⟩ := va_join (wr := []) (w1 := [(h0, .inr (17, [.ref q_sv, .int 0, .int r40_maybeLatin1, .int (zI (z40_count))])), (q_sv, .inl (cB, nb, .inl (fun j : Nat => zI (a_sb (j : Int)))))]) hP hD [0, 1] [] rfl rfl (by decide) (by decide) hk1 hFc hP1 hD1
    have hK := (hK.sub (tys' := []) [] rfl).app hK1
    generalize H1 = H at hP hS ⊢
    have hP : va_P (dC, dI) vwQ [(h0, .inr (17, [.ref q_sv, .int 0, .int r40_maybeLatin1, .int (zI (z40_count))])), (q_sv, .inl (cB, nb, .inl (fun j : Nat => zI (a_sb (j : Int)))))] H := hP
    have hD : va_D A [(h0, .inr (17, [.ref q_sv, .int 0, .int r40_maybeLatin1, .int (zI (z40_count))])), (q_sv, .inl (cB, nb, .inl (fun j : Nat => zI (a_sb (j : Int)))))] := hD
    have hK : va_K (dC, dI) vwQ [(cB, .byte)] s := hK
    refine W.widen (k := 0) (n := 0) (Nat.le_of_ble_eq_true rfl) (Nat.le_of_ble_eq_true rfl) ?_
    have hw_2 := hw
    obtain ⟨z_3, rfl, hzz_3⟩ := hw_2
    refine lv_aload_n hx hb dJ5_ensureCapacityInternal_d00df_27 rfl (lv_at hl 1 rfl) ?_
    refine va_get (D := (dC, dI)) (ci := 17) (v := .int 0) (C := RJ4) (T := TJ4) (N := 4) hx hb hts mem_J5_ensureD_0 hown hK hP 0 rfl rfl 1 (by decide) (ow (k := 1) rfl) (fun _ h9 => h9) rfl dJ5_ensureCapacityInternal_d00df_28 ?_
    refine lv_ishl hx hb dJ5_ensureCapacityInternal_d00df_31 ?_
    refine lv_topi (fun z ez => ?_)
    obtain rfl : z = zI (z_3) := ez.trans (sb_shl0 _)
    have hPc := hP.sub (ws' := [(q_sv, .inl (cB, nb, .inl (fun j : Nat => zI (a_sb (j : Int)))))]) [1] rfl
    have hDc := hD.sub (ws' := [(q_sv, .inl (cB, nb, .inl (fun j : Nat => zI (a_sb (j : Int)))))]) [1] (by decide) rfl
    have hKc := hK.sub (tys' := [(cB, .byte)]) [0] rfl
    have hFc := va_free (wc := [(q_sv, .inl (cB, nb, .inl (fun j : Nat => zI (a_sb (j : Int)))))]) hD hS hA [1] rfl
    refine va_callr (va_runS (As := [.ref q_sv, .int (zI (z_3))]) (rest := [.ref h0]) ⟨hx, hb, hml, hown, hts⟩ (c_J7_copyOfB l dC dI q_sv cB nb a_sb z_3 (by omega) hR_a_sb (by omega) H.size) (va_cwS 2 hts g_J5_ensureD_J7_copyOfB rfl rfl rfl (by decide +kernel) ⟨(Nat.le_of_ble_eq_true rfl), (Nat.le_of_ble_eq_true rfl)⟩) ⟨fun a U g mk q => by obtain ⟨q0, q1, qP, qK, qD⟩ := q; exact ⟨q0, q1, qP, va_K.moved (u := U) (U := U.calling g mk a) (Vm.Alike.refl U.vm) qK, qD⟩, fun U hU hW => ⟨rfl, by rw [hU], by rw [hU]; exact hPc, va_K.moved hW.alike hKc, hDc.weaken (fun _ _ _ _ => trivial)⟩⟩ rfl rfl hl.1 rfl (lv_room (Nat.le_of_ble_eq_true rfl)) dJ5_ensureCapacityInternal_d00df_32 ⟨(show 0 + (1) ≤ ((M - (nb : Int)) / 18).toNat from (by omega)), (show 0 + ((z_3).toNat) ≤ (2 * (M - (nb : Int))).toNat from (by omega))⟩) hS (fun q _ h => hFc q h) hFc (fun u q_4 t H1 locs ht hvm hw hB hz1 hk1 hS => ?_)
    obtain ⟨cn_5, nn_6, fn_7, hxt_7, hP1, hK1, hD1⟩ := hB
    rw [ht] at hP1
    have hK1 := va_K.moved hvm.symm hK1
    obtain ⟨hP, hD⟩ := va_join (wr := [(h0, .inr (17, [.ref q_sv, .int 0, .int r40_maybeLatin1, .int (zI (z40_count))]))]) (w1 := [(q_sv, .inl (cB, nb, .inl (fun j : Nat => zI (a_sb (j : Int))))), (q_4, .inl (cn_5, nn_6, .inl (fun j : Nat => zI (fn_7 (j : Int)))))]) hP hD [1] [0] rfl rfl (by decide) (by decide) hk1 hFc hP1 hD1
    have hK := (hK.sub (tys' := []) [] rfl).app hK1
    generalize H1 = H at hP hS ⊢
    have hP : va_P (dC, dI) vwQ [(h0, .inr (17, [.ref q_sv, .int 0, .int r40_maybeLatin1, .int (zI (z40_count))])), (q_sv, .inl (cB, nb, .inl (fun j : Nat => zI (a_sb (j : Int))))), (q_4, .inl (cn_5, nn_6, .inl (fun j : Nat => zI (fn_7 (j : Int)))))] H := hP
    have hD : va_D A [(h0, .inr (17, [.ref q_sv, .int 0, .int r40_maybeLatin1, .int (zI (z40_count))])), (q_sv, .inl (cB, nb, .inl (fun j : Nat => zI (a_sb (j : Int))))), (q_4, .inl (cn_5, nn_6, .inl (fun j : Nat => zI (fn_7 (j : Int)))))] := hD
    have hK : va_K (dC, dI) vwQ [(cB, .byte), (cn_5, .byte)] s := hK
    refine W.widen (k := (0 + (1))) (n := (0 + ((z_3).toNat))) (by omega) (by omega) ?_
    have hcb := hxt_7
    have hcn := hcb.1
    skip
    refine va_put (D := (dC, dI)) (ci := 17) (v := .ref q_4) (ty := .array .byte) (C := RJ4) (T := TJ4) (N := 4) hx hb hts mem_J5_ensureD_0 tyJ4 tyJ4_ok nmJ4 hown hK hP hD hS 0 rfl rfl 0 (by decide) (ow (k := 0) rfl) (fun _ h9 => h9) rfl (by decide +kernel) rfl rfl (by first | exact Nat.le_of_ble_eq_true rfl | exact (show (0 + (1)) ≤ ((M - (nb : Int)) / 18).toNat from (by omega)) | exact (show (0 + ((z_3).toNat)) ≤ (2 * (M - (nb : Int))).toNat from (by omega))) dJ5_ensureCapacityInternal_d00df_35 (fun H locs hP hD hS => ?_)
    have hP : va_P (dC, dI) vwQ [(h0, .inr (17, [.ref q_4, .int 0, .int r40_maybeLatin1, .int (zI (z40_count))])), (q_sv, .inl (cB, nb, .inl (fun j : Nat => zI (a_sb (j : Int))))), (q_4, .inl (cn_5, nn_6, .inl (fun j : Nat => zI (fn_7 (j : Int)))))] H := hP
    have hD : va_D A [(h0, .inr (17, [.ref q_4, .int 0, .int r40_maybeLatin1, .int (zI (z40_count))])), (q_sv, .inl (cB, nb, .inl (fun j : Nat => zI (a_sb (j : Int))))), (q_4, .inl (cn_5, nn_6, .inl (fun j : Nat => zI (fn_7 (j : Int)))))] := hD
    subst hQ
    obtain rfl : cB = cn_5 := cls_eqB hK 0 1 rfl rfl
    have hP : va_P (dC, dI) vwQ [(h0, .inr (17, [.ref q_4, .int 0, .int r40_maybeLatin1, .int (zI (z40_count))])), (q_sv, .inl (cB, nb, .inl (fun j : Nat => zI (a_sb (j : Int))))), (q_4, .inl (cB, nn_6, .inl (fun j : Nat => zI (fn_7 (j : Int)))))] H := hP
    have hD : va_D A [(h0, .inr (17, [.ref q_4, .int 0, .int r40_maybeLatin1, .int (zI (z40_count))])), (q_sv, .inl (cB, nb, .inl (fun j : Nat => zI (a_sb (j : Int))))), (q_4, .inl (cB, nn_6, .inl (fun j : Nat => zI (fn_7 (j : Int)))))] := hD
    have hK := hK.sub (tys' := [(cB, .byte)]) [0] rfl
    have hP := hP.sub (ws' := [(h0, .inr (17, [.ref q_4, .int 0, .int r40_maybeLatin1, .int (zI (z40_count))])), (q_4, .inl (cB, nn_6, .inl (fun j : Nat => zI (fn_7 (j : Int)))))]) [0, 2] rfl
    have hD := hD.sub (ws' := [(h0, .inr (17, [.ref q_4, .int 0, .int r40_maybeLatin1, .int (zI (z40_count))])), (q_4, .inl (cB, nn_6, .inl (fun j : Nat => zI (fn_7 (j : Int)))))]) [0, 2] (by decide) rfl
    refine W_knowS (fun hrm9 => ?_)
    refine W.widen (k := (((M - (nb : Int)) / 18).toNat)) (n := ((2 * (M - (nb : Int))).toNat)) (by omega) (by omega) ?_
    exact W.vret hx hb hr (fun t ht hW => ⟨⟨(), rfl, trivial, q_4, nn_6, fn_7, (0 + (1)), (0 + ((z_3).toNat)), ⟨⟨(by rw [ht, ← hp0]; exact hrm9), (by omega)⟩, ⟨hcb.2.1, ⟨by omega, by omega, by omega, hX_sc0.step (by omega), fun j j0 j1 => hcb.2.2 j j0 (by omega)⟩⟩⟩, by rw [ht]; exact hP, va_K.moved hW.alike hK, hD⟩, hS.F ht⟩) hS.2.2 dJ5_ensureCapacityInternal_d00df_38
