def o_J5_setLengthD : List Cond := [.methodLink RJ5 100 ⟨"java/lang/AbstractStringBuilder", "ensureCapacityInternal", "(I)V"⟩, .sameMethod "java/lang/AbstractStringBuilder" "java/lang/AbstractStringBuilder" "ensureCapacityInternal" "(I)V", .selects RJ4 ⟨"java/lang/AbstractStringBuilder", "ensureCapacityInternal", "(I)V"⟩ yJ5_ensureCapacityInternal_d00df, .instanceMethod yJ5_ensureCapacityInternal_d00df, .initialized RJ5, .fieldLink RJ5 79 "java/lang/AbstractStringBuilder" "count" "I", .fieldLink RJ5 73 "java/lang/AbstractStringBuilder" "maybeLatin1" "Z"]
def v_J5_setLengthD : List Cond := .code yJ5_setLength_d00df cJ5_setLength_d00df 2 none :: (o_J5_setLengthD ++ (v_J5_ensureD ++ (wsJ40 ++ [])))
theorem mow_J5_setLengthD : ∀ w ∈ o_J5_setLengthD, w ∈ v_J5_setLengthD := fun _ h => List.mem_cons_of_mem _ (List.mem_append_left _ h)
theorem mem_J5_setLengthD_0 : ∀ w ∈ v_J5_ensureD, w ∈ v_J5_setLengthD := fun _ h => List.mem_cons_of_mem _ (List.mem_append_right _ (List.mem_append_left _ h))
theorem mem_J5_setLengthD_1 : ∀ w ∈ wsJ40, w ∈ v_J5_setLengthD := fun _ h => List.mem_cons_of_mem _ (List.mem_append_right _ (List.mem_append_right _ (List.mem_append_left _ h)))
set_option maxRecDepth 20000 in
theorem gw_J5_setLengthD : v_J5_setLengthD.all goodWord = true := by decide +kernel
set_option maxRecDepth 20000 in
theorem g_J5_setLengthD_J5_ensureD : GoodIn v_J5_setLengthD (va_wsU RJ5 100 RJ4 RJ5 ⟨"java/lang/AbstractStringBuilder", "ensureCapacityInternal", "(I)V"⟩ yJ5_ensureCapacityInternal_d00df v_J5_ensureD) := goodIn_app (goodIn_sub (fun w h => mow_J5_setLengthD w (by revert w h; decide +kernel)) (by decide +kernel)) (goodIn_sub mem_J5_setLengthD_0 gw_J5_ensureD)
set_option maxHeartbeats 4000000 in
set_option maxRecDepth 100000 in
theorem c_J5_setLengthD (l : Launch) (dC : Nat → ClassId) (dI : Nat → Nat → Nat) (h0 : Nat) (r40_maybeLatin1 : Int32) (z40_count : Int) (q_sv : Nat) (cB : ClassId) (nb : Nat) (a_sb : Int → Int) (M : Int) (LB : Int) (hNz40_count : 0 ≤ z40_count ∧ z40_count ≤ 1000000) (hNnb : 16 ≤ nb ∧ nb ≤ M ∧ z40_count ≤ nb ∧ M ≤ 2000000 ∧ LB ≤ 900000) (hR_a_sb : ∀ j : Int, -128 ≤ a_sb j ∧ a_sb j ≤ 127) (hX_sc : SBC nb LB M) (hNm : 0 ≤ LB) (sz : Nat) (HU : Heap) : Met l yJ5_setLength_d00df v_J5_setLengthD ({ frames := 4, cells := (((M - (nb : Int)) / 18).toNat), slots := ((2 * (M - (nb : Int))).toNat), locals := 104 }) (va_Pc [.ref h0, .int 0] (fun U => U.heap.size = sz ∧ va_P (dC, dI) vwQ [(h0, .inr (17, [.ref q_sv, .int 0, .int r40_maybeLatin1, .int (zI (z40_count))])), (q_sv, .inl (cB, nb, .inl (fun j : Nat => zI (a_sb (j : Int)))))] U.heap ∧ va_K (dC, dI) vwQ [(cB, .byte)] U ∧ va_D (fun _ => True) [(h0, .inr (17, [.ref q_sv, .int 0, .int r40_maybeLatin1, .int (zI (z40_count))])), (q_sv, .inl (cB, nb, .inl (fun j : Nat => zI (a_sb (j : Int)))))] ∧ U.heap = HU)) (va_Qv (fun _ : Unit => True) (fun (_ : Unit) (t : State) => ∃ (x0_9 : Int32) (z1_9 : Int) (qn0_9 : Nat) (nn0_9 : Nat) (an0_9 : Int → Int) (kc_9 : Nat) (ks_9 : Nat), ((RM HU t.heap kc_9 ks_9 ∧ ((ks_9 : Int) ≤ 2 * ((nn0_9 : Int) - nb) ∧ 18 * (kc_9 : Int) ≤ (nn0_9 : Int) - nb)) ∧ ((0 ≤ z1_9 ∧ z1_9 ≤ 1000000) ∧ (∀ j : Int, -128 ≤ an0_9 j ∧ an0_9 j ≤ 127) ∧ ((nb : Int) ≤ nn0_9 ∧ (nn0_9 : Int) ≤ M ∧ z1_9 = 0 ∧ SBC nn0_9 LB M))) ∧ va_P (dC, dI) vwQ [(h0, .inr (17, [.ref qn0_9, .int 0, .int x0_9, .int (zI (z1_9))])), (qn0_9, .inl (cB, nn0_9, .inl (fun j : Nat => zI (an0_9 (j : Int)))))] t.heap ∧ va_K (dC, dI) vwQ [(cB, .byte)] t ∧ va_D (va_A [(h0, .inr (17, [.ref q_sv, .int 0, .int r40_maybeLatin1, .int (zI (z40_count))])), (q_sv, .inl (cB, nb, .inl (fun j : Nat => zI (a_sb (j : Int)))))] sz) [(h0, .inr (17, [.ref qn0_9, .int 0, .int x0_9, .int (zI (z1_9))])), (qn0_9, .inl (cB, nn0_9, .inl (fun j : Nat => zI (an0_9 (j : Int)))))]) (va_A [(h0, .inr (17, [.ref q_sv, .int 0, .int r40_maybeLatin1, .int (zI (z40_count))])), (q_sv, .inl (cB, nb, .inl (fun j : Nat => zI (a_sb (j : Int)))))] sz)) (((M - (nb : Int)) / 18).toNat) ((2 * (M - (nb : Int))).toNat) (va_A [(h0, .inr (17, [.ref q_sv, .int 0, .int r40_maybeLatin1, .int (zI (z40_count))])), (q_sv, .inl (cB, nb, .inl (fun j : Nat => zI (a_sb (j : Int)))))] sz) := by
  refine Met.ofW (cc := cJ5_setLength_d00df) (maxL := 2) (ret := none) (by decide) rfl ?_
  intro p e s m args below meth c s₁ B hml hv
  obtain ⟨rfl, hsz, hP, hK, hD0, hp0⟩ := hv
  have hx := B.exec
  have hb := B.bytes
  have hr := B.returns
  have hts := atoms_spec (ws := v_J5_setLengthD) B.pre
  have hown : s.vm.findClass RJ5 = some m.cls := findClass_of_methodNamed B.named
  have hlocks := B.notSynchronized
  have ow : ∀ {k : Nat} {w : Cond}, o_J5_setLengthD[k]? = some w → w.before ([.ref h0, .int 0] : List Value).toArray s = true := fun h => hts _ (mow_J5_setLengthD _ (List.mem_of_getElem? h))
  subst hsz
  have hD := hD0.self (sz := s.heap.size)
  generalize hAe : va_A [(h0, .inr (17, [.ref q_sv, .int 0, .int r40_maybeLatin1, .int (zI (z40_count))])), (q_sv, .inl (cB, nb, .inl (fun j : Nat => zI (a_sb (j : Int)))))] s.heap.size = A at hD ⊢
  have hA : ∀ q : Nat, s.heap.size ≤ q → A q := fun q h => by rw [← hAe]; exact Or.inr h
  have hS : va_S A s.heap s.heap [] := va_S.rf
  have hP : va_P (dC, dI) vwQ [(h0, .inr (17, [.ref q_sv, .int 0, .int r40_maybeLatin1, .int (zI (z40_count))])), (q_sv, .inl (cB, nb, .inl (fun j : Nat => zI (a_sb (j : Int)))))] s.heap := hP
  have hl := lv_entry ([.ref h0, .int 0]) (n := 2) (Nat.le_of_ble_eq_true rfl)
  rw [lg_entry_eq]
  generalize (lg_sl ([.ref h0, .int 0]) ++ List.replicate (2 - (lg_sl ([.ref h0, .int 0])).length) Slot.unset).toArray = ls at hl ⊢
  have hl : lv_has ls 2 [(0, .ref h0), (1, .int 0)] := hl
  obtain ⟨H, hH⟩ : ∃ H, H = s.heap := ⟨_, rfl⟩
  rw [← hH] at hP
  have hS : va_S A s.heap H [] := by rw [hH]; exact hS
  rw [← hH]
  refine zW_cap (fun Q hQ => ?_)
  have hX_sc0 := hX_sc
  have hsn0 := hX_sc.now
  refine lv_iload_n hx hb dJ5_setLength_d00df_0 rfl (lv_at hl 1 rfl) ?_
  refine lv_if_ge (tgt := 13) hx hb dJ5_setLength_d00df_1 (by decide) (fun _ => ?_) (fun h9 => absurd h9 (by decide))
  refine lv_aload_n hx hb dJ5_setLength_d00df_13 rfl (lv_at hl 0 rfl) ?_
  refine lv_iload_n hx hb dJ5_setLength_d00df_14 rfl (lv_at hl 1 rfl) ?_
  have hX_sc := hX_sc0
  have hPc := hP.sub (ws' := [(h0, .inr (17, [.ref q_sv, .int 0, .int r40_maybeLatin1, .int (zI (z40_count))])), (q_sv, .inl (cB, nb, .inl (fun j : Nat => zI (a_sb (j : Int)))))]) [0, 1] rfl
  have hDc := hD.sub (ws' := [(h0, .inr (17, [.ref q_sv, .int 0, .int r40_maybeLatin1, .int (zI (z40_count))])), (q_sv, .inl (cB, nb, .inl (fun j : Nat => zI (a_sb (j : Int)))))]) [0, 1] (by decide) rfl
  have hKc := hK.sub (tys' := [(cB, .byte)]) [0] rfl
  have hFc := va_free (wc := [(h0, .inr (17, [.ref q_sv, .int 0, .int r40_maybeLatin1, .int (zI (z40_count))])), (q_sv, .inl (cB, nb, .inl (fun j : Nat => zI (a_sb (j : Int)))))]) hD hS hA [0, 1] rfl
  refine W_knowS (fun hrmA => ?_)
  refine va_callv (va_runU (As := [.int 0]) (rest := []) ⟨hx, hb, hml, hown, hts⟩ (c_J5_ensureD l dC dI h0 r40_maybeLatin1 z40_count q_sv cB nb a_sb M LB 0 (by omega) (by omega) hR_a_sb hX_sc (by omega) H.size H) (va_cwU (C := RJ4) (owner := RJ5) (x := ⟨"java/lang/AbstractStringBuilder", "ensureCapacityInternal", "(I)V"⟩) 1 hts g_J5_setLengthD_J5_ensureD rfl rfl rfl rfl (by decide +kernel) ⟨(Nat.le_of_ble_eq_true rfl), (Nat.le_of_ble_eq_true rfl)⟩) ⟨fun a U g mk q => by obtain ⟨q0, q1, qP, qK, qD, e0⟩ := q; exact ⟨q0, q1, qP, va_K.moved (u := U) (U := U.calling g mk a) (Vm.Alike.refl U.vm) qK, qD, e0⟩, va_recv hKc hPc (ci := 17) (q0 := 0) rfl rfl, fun U hU hW => ⟨rfl, by rw [hU], by rw [hU]; exact hPc, va_K.moved hW.alike hKc, hDc.weaken (fun _ _ _ _ => trivial), hU⟩⟩ rfl rfl hl.1 rfl (lv_room (Nat.le_of_ble_eq_true rfl)) dJ5_setLength_d00df_15 ⟨(show 0 + (((M - (nb : Int)) / 18).toNat) ≤ ((M - (nb : Int)) / 18).toNat from (by omega)), (show 0 + ((2 * (M - (nb : Int))).toNat) ≤ (2 * (M - (nb : Int))).toNat from (by omega))⟩) hS (fun q _ h => hFc q h) hFc (fun  u t H1 locs ht hvm hw hB hz1 hk1 hS => ?_)
  obtain ⟨qn0_1, nn0_2, an0_3, kc_4, ks_5, hxt_5, hP1, hK1, hD1⟩ := hB
  rw [ht] at hP1
  have hK1 := va_K.moved hvm.symm hK1
  obtain ⟨hP, hD⟩ := va_join (wr := []) (w1 := [(h0, .inr (17, [.ref qn0_1, .int 0, .int r40_maybeLatin1, .int (zI (z40_count))])), (qn0_1, .inl (cB, nn0_2, .inl (fun j : Nat => zI (an0_3 (j : Int)))))]) hP hD [0, 1] [] rfl rfl (by decide) (by decide) hk1 hFc hP1 hD1
  have hK := (hK.sub (tys' := []) [] rfl).app hK1
  have hrmC := hxt_5.1.1
  rw [ht] at hrmC
  refine W_tightS (hrmA.trans hrmC) ?_
  have hrb := hxt_5.1.2
  generalize H1 = H at hP hS ⊢
  have hP : va_P (dC, dI) vwQ [(h0, .inr (17, [.ref qn0_1, .int 0, .int r40_maybeLatin1, .int (zI (z40_count))])), (qn0_1, .inl (cB, nn0_2, .inl (fun j : Nat => zI (an0_3 (j : Int)))))] H := hP
  have hD : va_D A [(h0, .inr (17, [.ref qn0_1, .int 0, .int r40_maybeLatin1, .int (zI (z40_count))])), (qn0_1, .inl (cB, nn0_2, .inl (fun j : Nat => zI (an0_3 (j : Int)))))] := hD
  have hK : va_K (dC, dI) vwQ [(cB, .byte)] s := hK
  refine W.widen (k := (0 + kc_4)) (n := (0 + ks_5)) (by omega) (by omega) ?_
  obtain ⟨rk_6, hu_6⟩ := hxt_5.2
  have hsc_7 := hu_6.2.2.2.1
  refine lv_aload_n hx hb dJ5_setLength_d00df_18 rfl (lv_at hl 0 rfl) ?_
  refine va_get (D := (dC, dI)) (ci := 17) (v := .int (zI (z40_count))) (C := RJ4) (T := TJ4) (N := 4) hx hb hts mem_J5_setLengthD_1 hown hK hP 0 rfl rfl 3 (by decide) (ow (k := 5) rfl) (fun _ h9 => h9) rfl dJ5_setLength_d00df_19 ?_
  refine lv_iload_n hx hb dJ5_setLength_d00df_22 rfl (lv_at hl 1 rfl) ?_
  refine lv_icmp_ge (tgt := 63) hx hb dJ5_setLength_d00df_23 (by decide) (fun b23 => ?_) (fun b23 => ?_)
  · have yb23 : (0 : Int) ≤ (z40_count : Int) := (zI_le (a := 0) (b := z40_count) (by omega) (by omega) (by omega) (by omega)).mp b23
    refine lv_aload_n hx hb dJ5_setLength_d00df_63 rfl (lv_at hl 0 rfl) ?_
    refine va_get (D := (dC, dI)) (ci := 17) (v := .int (zI (z40_count))) (C := RJ4) (T := TJ4) (N := 4) hx hb hts mem_J5_setLengthD_1 hown hK hP 0 rfl rfl 3 (by decide) (ow (k := 5) rfl) (fun _ h9 => h9) rfl dJ5_setLength_d00df_64 ?_
    refine lv_iload_n hx hb dJ5_setLength_d00df_67 rfl (lv_at hl 1 rfl) ?_
    refine lv_icmp_le (tgt := 76) hx hb dJ5_setLength_d00df_68 (by decide) (fun b68 => ?_) (fun b68 => ?_)
    · have yb68 : (z40_count : Int) ≤ (0 : Int) := (zI_le (a := z40_count) (b := 0) (by omega) (by omega) (by omega) (by omega)).mp b68
      refine lv_aload_n hx hb dJ5_setLength_d00df_76 rfl (lv_at hl 0 rfl) ?_
      refine lv_iload_n hx hb dJ5_setLength_d00df_77 rfl (lv_at hl 1 rfl) ?_
      refine va_put (D := (dC, dI)) (ci := 17) (v := .int 0) (ty := .int) (C := RJ4) (T := TJ4) (N := 4) hx hb hts mem_J5_setLengthD_1 tyJ4 tyJ4_ok nmJ4 hown hK hP hD hS 0 rfl rfl 3 (by decide) (ow (k := 5) rfl) (fun _ h9 => h9) rfl (by decide +kernel) rfl rfl (by first | exact Nat.le_of_ble_eq_true rfl | exact (show (0 + kc_4) ≤ ((M - (nb : Int)) / 18).toNat from (by omega)) | exact (show (0 + ks_5) ≤ (2 * (M - (nb : Int))).toNat from (by omega))) dJ5_setLength_d00df_78 (fun H locs hP hD hS => ?_)
      have hP : va_P (dC, dI) vwQ [(h0, .inr (17, [.ref qn0_1, .int 0, .int r40_maybeLatin1, .int 0])), (qn0_1, .inl (cB, nn0_2, .inl (fun j : Nat => zI (an0_3 (j : Int)))))] H := hP
      have hD : va_D A [(h0, .inr (17, [.ref qn0_1, .int 0, .int r40_maybeLatin1, .int 0])), (qn0_1, .inl (cB, nn0_2, .inl (fun j : Nat => zI (an0_3 (j : Int)))))] := hD
      subst hQ
      refine W_knowS (fun hrm9 => ?_)
      refine W.widen (k := (((M - (nb : Int)) / 18).toNat)) (n := ((2 * (M - (nb : Int))).toNat)) (by omega) (by omega) ?_
      exact W.vret hx hb hr (fun t ht hW => ⟨⟨(), rfl, trivial, r40_maybeLatin1, 0, qn0_1, nn0_2, an0_3, (0 + kc_4), (0 + ks_5), ⟨⟨(by rw [ht, ← hp0]; exact hrm9), (by omega)⟩, ⟨(by omega), rk_6, ⟨by omega, by omega, by omega, hsc_7⟩⟩⟩, by rw [ht]; exact hP, va_K.moved hW.alike hK, hD⟩, hS.F ht⟩) hS.2.2 dJ5_setLength_d00df_81
    · have yb68 : ¬ (z40_count : Int) ≤ (0 : Int) := fun q => b68 ((zI_le (a := z40_count) (b := 0) (by omega) (by omega) (by omega) (by omega)).mpr q)
      refine lv_aload_n hx hb dJ5_setLength_d00df_71 rfl (lv_at hl 0 rfl) ?_
      refine lv_iconst (v := 1) hx hb dJ5_setLength_d00df_72 (by decide) ?_
      refine va_put (D := (dC, dI)) (ci := 17) (v := .int 1) (ty := .boolean) (C := RJ4) (T := TJ4) (N := 4) hx hb hts mem_J5_setLengthD_1 tyJ4 tyJ4_ok nmJ4 hown hK hP hD hS 0 rfl rfl 2 (by decide) (ow (k := 6) rfl) (fun _ h9 => h9) rfl (by decide +kernel) rfl rfl (by first | exact Nat.le_of_ble_eq_true rfl | exact (show (0 + kc_4) ≤ ((M - (nb : Int)) / 18).toNat from (by omega)) | exact (show (0 + ks_5) ≤ (2 * (M - (nb : Int))).toNat from (by omega))) dJ5_setLength_d00df_73 (fun H locs hP hD hS => ?_)
      have hP : va_P (dC, dI) vwQ [(h0, .inr (17, [.ref qn0_1, .int 0, .int 1, .int (zI (z40_count))])), (qn0_1, .inl (cB, nn0_2, .inl (fun j : Nat => zI (an0_3 (j : Int)))))] H := hP
      have hD : va_D A [(h0, .inr (17, [.ref qn0_1, .int 0, .int 1, .int (zI (z40_count))])), (qn0_1, .inl (cB, nn0_2, .inl (fun j : Nat => zI (an0_3 (j : Int)))))] := hD
      refine lv_aload_n hx hb dJ5_setLength_d00df_76 rfl (lv_at hl 0 rfl) ?_
      refine lv_iload_n hx hb dJ5_setLength_d00df_77 rfl (lv_at hl 1 rfl) ?_
      refine va_put (D := (dC, dI)) (ci := 17) (v := .int 0) (ty := .int) (C := RJ4) (T := TJ4) (N := 4) hx hb hts mem_J5_setLengthD_1 tyJ4 tyJ4_ok nmJ4 hown hK hP hD hS 0 rfl rfl 3 (by decide) (ow (k := 5) rfl) (fun _ h9 => h9) rfl (by decide +kernel) rfl rfl (by first | exact Nat.le_of_ble_eq_true rfl | exact (show (0 + kc_4) ≤ ((M - (nb : Int)) / 18).toNat from (by omega)) | exact (show (0 + ks_5) ≤ (2 * (M - (nb : Int))).toNat from (by omega))) dJ5_setLength_d00df_78 (fun H locs hP hD hS => ?_)
      have hP : va_P (dC, dI) vwQ [(h0, .inr (17, [.ref qn0_1, .int 0, .int 1, .int 0])), (qn0_1, .inl (cB, nn0_2, .inl (fun j : Nat => zI (an0_3 (j : Int)))))] H := hP
      have hD : va_D A [(h0, .inr (17, [.ref qn0_1, .int 0, .int 1, .int 0])), (qn0_1, .inl (cB, nn0_2, .inl (fun j : Nat => zI (an0_3 (j : Int)))))] := hD
      subst hQ
      refine W_knowS (fun hrm9 => ?_)
      refine W.widen (k := (((M - (nb : Int)) / 18).toNat)) (n := ((2 * (M - (nb : Int))).toNat)) (by omega) (by omega) ?_
      exact W.vret hx hb hr (fun t ht hW => ⟨⟨(), rfl, trivial, 1, 0, qn0_1, nn0_2, an0_3, (0 + kc_4), (0 + ks_5), ⟨⟨(by rw [ht, ← hp0]; exact hrm9), (by omega)⟩, ⟨(by omega), rk_6, ⟨by omega, by omega, by omega, hsc_7⟩⟩⟩, by rw [ht]; exact hP, va_K.moved hW.alike hK, hD⟩, hS.F ht⟩) hS.2.2 dJ5_setLength_d00df_81
  · have yb23 : ¬ (0 : Int) ≤ (z40_count : Int) := fun q => b23 ((zI_le (a := 0) (b := z40_count) (by omega) (by omega) (by omega) (by omega)).mpr q)
    exfalso
    omega
def o_J4_setLengthD : List Cond := [.methodLink RJ4 333 yJ5_setLength_d00df, .sameMethod "java/lang/AbstractStringBuilder" "java/lang/AbstractStringBuilder" "setLength" "(I)V", .superclass RJ4 RJ5, .instanceMethod yJ5_setLength_d00df, .initialized RJ5]
def v_J4_setLengthD : List Cond := .code yJ4_setLength_d00df cJ4_setLength_d00df 2 none :: (o_J4_setLengthD ++ (v_J5_setLengthD ++ []))
theorem mow_J4_setLengthD : ∀ w ∈ o_J4_setLengthD, w ∈ v_J4_setLengthD := fun _ h => List.mem_cons_of_mem _ (List.mem_append_left _ h)
theorem mem_J4_setLengthD_0 : ∀ w ∈ v_J5_setLengthD, w ∈ v_J4_setLengthD := fun _ h => List.mem_cons_of_mem _ (List.mem_append_right _ (List.mem_append_left _ h))
set_option maxRecDepth 20000 in
theorem gw_J4_setLengthD : v_J4_setLengthD.all goodWord = true := by decide +kernel
set_option maxRecDepth 20000 in
theorem g_J4_setLengthD_J5_setLengthD : GoodIn v_J4_setLengthD (va_wsSU RJ4 333 yJ5_setLength_d00df v_J5_setLengthD) := goodIn_app (goodIn_sub (fun w h => mow_J4_setLengthD w (by revert w h; decide +kernel)) (by decide +kernel)) (goodIn_sub mem_J4_setLengthD_0 gw_J5_setLengthD)
set_option maxHeartbeats 4000000 in
set_option maxRecDepth 100000 in
theorem c_J4_setLengthD (l : Launch) (dC : Nat → ClassId) (dI : Nat → Nat → Nat) (h0 : Nat) (r40_maybeLatin1 : Int32) (z40_count : Int) (q_sv : Nat) (cB : ClassId) (nb : Nat) (a_sb : Int → Int) (M : Int) (LB : Int) (hNz40_count : 0 ≤ z40_count ∧ z40_count ≤ 1000000) (hNnb : 16 ≤ nb ∧ nb ≤ M ∧ z40_count ≤ nb ∧ M ≤ 2000000 ∧ LB ≤ 900000) (hR_a_sb : ∀ j : Int, -128 ≤ a_sb j ∧ a_sb j ≤ 127) (hX_sc : SBC nb LB M) (hNm : 0 ≤ LB) (sz : Nat) (HU : Heap) : Met l yJ4_setLength_d00df v_J4_setLengthD ({ frames := 5, cells := (((M - (nb : Int)) / 18).toNat), slots := ((2 * (M - (nb : Int))).toNat), locals := 125 }) (va_Pc [.ref h0, .int 0] (fun U => U.heap.size = sz ∧ va_P (dC, dI) vwQ [(h0, .inr (17, [.ref q_sv, .int 0, .int r40_maybeLatin1, .int (zI (z40_count))])), (q_sv, .inl (cB, nb, .inl (fun j : Nat => zI (a_sb (j : Int)))))] U.heap ∧ va_K (dC, dI) vwQ [(cB, .byte)] U ∧ va_D (fun _ => True) [(h0, .inr (17, [.ref q_sv, .int 0, .int r40_maybeLatin1, .int (zI (z40_count))])), (q_sv, .inl (cB, nb, .inl (fun j : Nat => zI (a_sb (j : Int)))))] ∧ U.heap = HU)) (va_Qv (fun _ : Unit => True) (fun (_ : Unit) (t : State) => ∃ (x0_9 : Int32) (z1_9 : Int) (qn0_9 : Nat) (nn0_9 : Nat) (an0_9 : Int → Int) (kc_9 : Nat) (ks_9 : Nat), ((RM HU t.heap kc_9 ks_9 ∧ ((ks_9 : Int) ≤ 2 * ((nn0_9 : Int) - nb) ∧ 18 * (kc_9 : Int) ≤ (nn0_9 : Int) - nb)) ∧ ((0 ≤ z1_9 ∧ z1_9 ≤ 1000000) ∧ (∀ j : Int, -128 ≤ an0_9 j ∧ an0_9 j ≤ 127) ∧ ((nb : Int) ≤ nn0_9 ∧ (nn0_9 : Int) ≤ M ∧ z1_9 = 0 ∧ SBC nn0_9 LB M))) ∧ va_P (dC, dI) vwQ [(h0, .inr (17, [.ref qn0_9, .int 0, .int x0_9, .int (zI (z1_9))])), (qn0_9, .inl (cB, nn0_9, .inl (fun j : Nat => zI (an0_9 (j : Int)))))] t.heap ∧ va_K (dC, dI) vwQ [(cB, .byte)] t ∧ va_D (va_A [(h0, .inr (17, [.ref q_sv, .int 0, .int r40_maybeLatin1, .int (zI (z40_count))])), (q_sv, .inl (cB, nb, .inl (fun j : Nat => zI (a_sb (j : Int)))))] sz) [(h0, .inr (17, [.ref qn0_9, .int 0, .int x0_9, .int (zI (z1_9))])), (qn0_9, .inl (cB, nn0_9, .inl (fun j : Nat => zI (an0_9 (j : Int)))))]) (va_A [(h0, .inr (17, [.ref q_sv, .int 0, .int r40_maybeLatin1, .int (zI (z40_count))])), (q_sv, .inl (cB, nb, .inl (fun j : Nat => zI (a_sb (j : Int)))))] sz)) (((M - (nb : Int)) / 18).toNat) ((2 * (M - (nb : Int))).toNat) (va_A [(h0, .inr (17, [.ref q_sv, .int 0, .int r40_maybeLatin1, .int (zI (z40_count))])), (q_sv, .inl (cB, nb, .inl (fun j : Nat => zI (a_sb (j : Int)))))] sz) := by
  refine Met.ofW (cc := cJ4_setLength_d00df) (maxL := 2) (ret := none) (by decide) rfl ?_
  intro p e s m args below meth c s₁ B hml hv
  obtain ⟨rfl, hsz, hP, hK, hD0, hp0⟩ := hv
  have hx := B.exec
  have hb := B.bytes
  have hr := B.returns
  have hts := atoms_spec (ws := v_J4_setLengthD) B.pre
  have hown : s.vm.findClass RJ4 = some m.cls := findClass_of_methodNamed B.named
  have hlocks := B.notSynchronized
  have ow : ∀ {k : Nat} {w : Cond}, o_J4_setLengthD[k]? = some w → w.before ([.ref h0, .int 0] : List Value).toArray s = true := fun h => hts _ (mow_J4_setLengthD _ (List.mem_of_getElem? h))
  subst hsz
  have hD := hD0.self (sz := s.heap.size)
  generalize hAe : va_A [(h0, .inr (17, [.ref q_sv, .int 0, .int r40_maybeLatin1, .int (zI (z40_count))])), (q_sv, .inl (cB, nb, .inl (fun j : Nat => zI (a_sb (j : Int)))))] s.heap.size = A at hD ⊢
  have hA : ∀ q : Nat, s.heap.size ≤ q → A q := fun q h => by rw [← hAe]; exact Or.inr h
  have hS : va_S A s.heap s.heap [] := va_S.rf
  have hP : va_P (dC, dI) vwQ [(h0, .inr (17, [.ref q_sv, .int 0, .int r40_maybeLatin1, .int (zI (z40_count))])), (q_sv, .inl (cB, nb, .inl (fun j : Nat => zI (a_sb (j : Int)))))] s.heap := hP
  have hl := lv_entry ([.ref h0, .int 0]) (n := 2) (Nat.le_of_ble_eq_true rfl)
  rw [lg_entry_eq]
  generalize (lg_sl ([.ref h0, .int 0]) ++ List.replicate (2 - (lg_sl ([.ref h0, .int 0])).length) Slot.unset).toArray = ls at hl ⊢
  have hl : lv_has ls 2 [(0, .ref h0), (1, .int 0)] := hl
  obtain ⟨H, hH⟩ : ∃ H, H = s.heap := ⟨_, rfl⟩
  rw [← hH] at hP
  have hS : va_S A s.heap H [] := by rw [hH]; exact hS
  rw [← hH]
  refine zW_cap (fun Q hQ => ?_)
  have hX_sc0 := hX_sc
  have hsn0 := hX_sc.now
  refine lv_aload_n hx hb dJ4_setLength_d00df_0 rfl (lv_at hl 0 rfl) ?_
  refine lv_iload_n hx hb dJ4_setLength_d00df_1 rfl (lv_at hl 1 rfl) ?_
  have hX_sc := hX_sc0
  have hPc := hP.sub (ws' := [(h0, .inr (17, [.ref q_sv, .int 0, .int r40_maybeLatin1, .int (zI (z40_count))])), (q_sv, .inl (cB, nb, .inl (fun j : Nat => zI (a_sb (j : Int)))))]) [0, 1] rfl
  have hDc := hD.sub (ws' := [(h0, .inr (17, [.ref q_sv, .int 0, .int r40_maybeLatin1, .int (zI (z40_count))])), (q_sv, .inl (cB, nb, .inl (fun j : Nat => zI (a_sb (j : Int)))))]) [0, 1] (by decide) rfl
  have hKc := hK.sub (tys' := [(cB, .byte)]) [0] rfl
  have hFc := va_free (wc := [(h0, .inr (17, [.ref q_sv, .int 0, .int r40_maybeLatin1, .int (zI (z40_count))])), (q_sv, .inl (cB, nb, .inl (fun j : Nat => zI (a_sb (j : Int)))))]) hD hS hA [0, 1] rfl
  refine W_knowS (fun hrmA => ?_)
  refine va_callv (va_runSU (As := [.int 0]) (rest := []) (C := RJ4) (hK.1 17 _ rfl).2 ⟨hx, hb, hml, hown, hts⟩ (c_J5_setLengthD l dC dI h0 r40_maybeLatin1 z40_count q_sv cB nb a_sb M LB (by omega) (by omega) hR_a_sb hX_sc (by omega) H.size H) (va_cwSU 1 hts g_J4_setLengthD_J5_setLengthD rfl rfl rfl (by decide +kernel) ⟨(Nat.le_of_ble_eq_true rfl), (Nat.le_of_ble_eq_true rfl)⟩) ⟨fun a U g mk q => by obtain ⟨q0, q1, qP, qK, qD, e0⟩ := q; exact ⟨q0, q1, qP, va_K.moved (u := U) (U := U.calling g mk a) (Vm.Alike.refl U.vm) qK, qD, e0⟩, va_recv hKc hPc (ci := 17) (q0 := 0) rfl rfl, fun U hU hW => ⟨rfl, by rw [hU], by rw [hU]; exact hPc, va_K.moved hW.alike hKc, hDc.weaken (fun _ _ _ _ => trivial), hU⟩⟩ rfl rfl hl.1 rfl (lv_room (Nat.le_of_ble_eq_true rfl)) dJ4_setLength_d00df_2 ⟨(show 0 + (((M - (nb : Int)) / 18).toNat) ≤ ((M - (nb : Int)) / 18).toNat from (by omega)), (show 0 + ((2 * (M - (nb : Int))).toNat) ≤ (2 * (M - (nb : Int))).toNat from (by omega))⟩) hS (fun q _ h => hFc q h) hFc (fun  u t H1 locs ht hvm hw hB hz1 hk1 hS => ?_)
  obtain ⟨x0_1, z1_2, qn0_3, nn0_4, an0_5, kc_6, ks_7, hxt_7, hP1, hK1, hD1⟩ := hB
  rw [ht] at hP1
  have hK1 := va_K.moved hvm.symm hK1
  obtain ⟨hP, hD⟩ := va_join (wr := []) (w1 := [(h0, .inr (17, [.ref qn0_3, .int 0, .int x0_1, .int (zI (z1_2))])), (qn0_3, .inl (cB, nn0_4, .inl (fun j : Nat => zI (an0_5 (j : Int)))))]) hP hD [0, 1] [] rfl rfl (by decide) (by decide) hk1 hFc hP1 hD1
  have hK := (hK.sub (tys' := []) [] rfl).app hK1
  have hrmC := hxt_7.1.1
  rw [ht] at hrmC
  refine W_tightS (hrmA.trans hrmC) ?_
  have hrb := hxt_7.1.2
  generalize H1 = H at hP hS ⊢
  have hP : va_P (dC, dI) vwQ [(h0, .inr (17, [.ref qn0_3, .int 0, .int x0_1, .int (zI (z1_2))])), (qn0_3, .inl (cB, nn0_4, .inl (fun j : Nat => zI (an0_5 (j : Int)))))] H := hP
  have hD : va_D A [(h0, .inr (17, [.ref qn0_3, .int 0, .int x0_1, .int (zI (z1_2))])), (qn0_3, .inl (cB, nn0_4, .inl (fun j : Nat => zI (an0_5 (j : Int)))))] := hD
  have hK : va_K (dC, dI) vwQ [(cB, .byte)] s := hK
  refine W.widen (k := (0 + kc_6)) (n := (0 + ks_7)) (by omega) (by omega) ?_
  obtain ⟨rk_8, rk_9, hu_9⟩ := hxt_7.2
  have hsc_10 := hu_9.2.2.2
  subst hQ
  refine W_knowS (fun hrm9 => ?_)
  refine W.widen (k := (((M - (nb : Int)) / 18).toNat)) (n := ((2 * (M - (nb : Int))).toNat)) (by omega) (by omega) ?_
  exact W.vret hx hb hr (fun t ht hW => ⟨⟨(), rfl, trivial, x0_1, z1_2, qn0_3, nn0_4, an0_5, (0 + kc_6), (0 + ks_7), ⟨⟨(by rw [ht, ← hp0]; exact hrm9), (by omega)⟩, ⟨(by omega), rk_9, ⟨by omega, by omega, by omega, hsc_10⟩⟩⟩, by rw [ht]; exact hP, va_K.moved hW.alike hK, hD⟩, hS.F ht⟩) hS.2.2 dJ4_setLength_d00df_5
