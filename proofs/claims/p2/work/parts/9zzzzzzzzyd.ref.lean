def o_X19_wordT : List Cond := [.fieldLink RX19 551 "SsaForgeModel" "tape" "[B"]
def v_X19_wordT : List Cond := .code yX19_word cX19_word 4 none :: (o_X19_wordT ++ (wsX190 ++ []))
theorem mow_X19_wordT : ∀ w ∈ o_X19_wordT, w ∈ v_X19_wordT := fun _ h => List.mem_cons_of_mem _ (List.mem_append_left _ h)
theorem mem_X19_wordT_0 : ∀ w ∈ wsX190, w ∈ v_X19_wordT := fun _ h => List.mem_cons_of_mem _ (List.mem_append_right _ (List.mem_append_left _ h))
set_option maxRecDepth 20000 in
theorem gw_X19_wordT : v_X19_wordT.all goodWord = true := by decide +kernel
set_option maxHeartbeats 4000000 in
set_option maxRecDepth 100000 in
theorem c_X19_wordT (l : Launch) (dC : Nat → ClassId) (dI : Nat → Nat → Nat) (h0 : Nat) (v19_0 : Value) (v19_1 : Value) (v19_2 : Value) (v19_3 : Value) (v19_4 : Value) (v19_5 : Value) (v19_6 : Value) (v19_7 : Value) (v19_8 : Value) (v19_9 : Value) (v19_10 : Value) (v19_11 : Value) (v19_12 : Value) (v19_13 : Value) (v19_14 : Value) (v19_15 : Value) (v19_16 : Value) (v19_17 : Value) (v19_18 : Value) (v19_19 : Value) (v19_20 : Value) (v19_21 : Value) (v19_22 : Value) (v19_23 : Value) (v19_24 : Value) (v19_25 : Value) (v19_26 : Value) (v19_27 : Value) (v19_28 : Value) (v19_29 : Value) (v19_30 : Value) (v19_31 : Value) (v19_32 : Value) (v19_33 : Value) (v19_35 : Value) (v19_36 : Value) (v19_37 : Value) (v19_38 : Value) (v19_39 : Value) (v19_40 : Value) (q_tp : Nat) (cT : ClassId) (a_tp : Int → Int) (p0 : Int32) (ta : Int) (hR_a_tp : ∀ j : Int, -128 ≤ a_tp j ∧ a_tp j ≤ 127) (hNat : 0 ≤ ta ∧ ta + 4 ≤ 8192) (sz : Nat) : Met l yX19_word v_X19_wordT ({ frames := 0, cells := 0, slots := 0, locals := 0 }) (va_Pc [.ref h0, .int p0, .int (zI (ta))] (fun U => U.heap.size = sz ∧ va_P (dC, dI) vwQ [(h0, .inr (16, [v19_0, v19_1, v19_2, v19_3, v19_4, v19_5, v19_6, v19_7, v19_8, v19_9, v19_10, v19_11, v19_12, v19_13, v19_14, v19_15, v19_16, v19_17, v19_18, v19_19, v19_20, v19_21, v19_22, v19_23, v19_24, v19_25, v19_26, v19_27, v19_28, v19_29, v19_30, v19_31, v19_32, v19_33, .ref q_tp, v19_35, v19_36, v19_37, v19_38, v19_39, v19_40])), (q_tp, .inl (cT, 8192, .inl (fun j : Nat => zI (a_tp (j : Int)))))] U.heap ∧ va_K (dC, dI) vwQ [(cT, .byte)] U ∧ va_D (fun _ => True) [(h0, .inr (16, [v19_0, v19_1, v19_2, v19_3, v19_4, v19_5, v19_6, v19_7, v19_8, v19_9, v19_10, v19_11, v19_12, v19_13, v19_14, v19_15, v19_16, v19_17, v19_18, v19_19, v19_20, v19_21, v19_22, v19_23, v19_24, v19_25, v19_26, v19_27, v19_28, v19_29, v19_30, v19_31, v19_32, v19_33, .ref q_tp, v19_35, v19_36, v19_37, v19_38, v19_39, v19_40])), (q_tp, .inl (cT, 8192, .inl (fun j : Nat => zI (a_tp (j : Int)))))])) (va_Qv (fun _ : Unit => True) (fun (_ : Unit) (t : State) => ∃ (a0_9 : Int → Int), ((∀ j : Int, -128 ≤ a0_9 j ∧ a0_9 j ≤ 127)) ∧ va_P (dC, dI) vwQ [(h0, .inr (16, [v19_0, v19_1, v19_2, v19_3, v19_4, v19_5, v19_6, v19_7, v19_8, v19_9, v19_10, v19_11, v19_12, v19_13, v19_14, v19_15, v19_16, v19_17, v19_18, v19_19, v19_20, v19_21, v19_22, v19_23, v19_24, v19_25, v19_26, v19_27, v19_28, v19_29, v19_30, v19_31, v19_32, v19_33, .ref q_tp, v19_35, v19_36, v19_37, v19_38, v19_39, v19_40])), (q_tp, .inl (cT, 8192, .inl (fun j : Nat => zI (a0_9 (j : Int)))))] t.heap ∧ va_K (dC, dI) vwQ [(cT, .byte)] t ∧ va_D (va_A [(h0, .inr (16, [v19_0, v19_1, v19_2, v19_3, v19_4, v19_5, v19_6, v19_7, v19_8, v19_9, v19_10, v19_11, v19_12, v19_13, v19_14, v19_15, v19_16, v19_17, v19_18, v19_19, v19_20, v19_21, v19_22, v19_23, v19_24, v19_25, v19_26, v19_27, v19_28, v19_29, v19_30, v19_31, v19_32, v19_33, .ref q_tp, v19_35, v19_36, v19_37, v19_38, v19_39, v19_40])), (q_tp, .inl (cT, 8192, .inl (fun j : Nat => zI (a_tp (j : Int)))))] sz) [(h0, .inr (16, [v19_0, v19_1, v19_2, v19_3, v19_4, v19_5, v19_6, v19_7, v19_8, v19_9, v19_10, v19_11, v19_12, v19_13, v19_14, v19_15, v19_16, v19_17, v19_18, v19_19, v19_20, v19_21, v19_22, v19_23, v19_24, v19_25, v19_26, v19_27, v19_28, v19_29, v19_30, v19_31, v19_32, v19_33, .ref q_tp, v19_35, v19_36, v19_37, v19_38, v19_39, v19_40])), (q_tp, .inl (cT, 8192, .inl (fun j : Nat => zI (a0_9 (j : Int)))))]) (va_A [(h0, .inr (16, [v19_0, v19_1, v19_2, v19_3, v19_4, v19_5, v19_6, v19_7, v19_8, v19_9, v19_10, v19_11, v19_12, v19_13, v19_14, v19_15, v19_16, v19_17, v19_18, v19_19, v19_20, v19_21, v19_22, v19_23, v19_24, v19_25, v19_26, v19_27, v19_28, v19_29, v19_30, v19_31, v19_32, v19_33, .ref q_tp, v19_35, v19_36, v19_37, v19_38, v19_39, v19_40])), (q_tp, .inl (cT, 8192, .inl (fun j : Nat => zI (a_tp (j : Int)))))] sz)) 0 0 (va_A [(h0, .inr (16, [v19_0, v19_1, v19_2, v19_3, v19_4, v19_5, v19_6, v19_7, v19_8, v19_9, v19_10, v19_11, v19_12, v19_13, v19_14, v19_15, v19_16, v19_17, v19_18, v19_19, v19_20, v19_21, v19_22, v19_23, v19_24, v19_25, v19_26, v19_27, v19_28, v19_29, v19_30, v19_31, v19_32, v19_33, .ref q_tp, v19_35, v19_36, v19_37, v19_38, v19_39, v19_40])), (q_tp, .inl (cT, 8192, .inl (fun j : Nat => zI (a_tp (j : Int)))))] sz) := by
  refine Met.ofW (cc := cX19_word) (maxL := 4) (ret := none) (by decide) rfl ?_
  intro p e s m args below meth c s₁ B hml hv
  obtain ⟨rfl, hsz, hP, hK, hD0⟩ := hv
  have hx := B.exec
  have hb := B.bytes
  have hr := B.returns
  have hts := atoms_spec (ws := v_X19_wordT) B.pre
  have hown : s.vm.findClass RX19 = some m.cls := findClass_of_methodNamed B.named
  have hlocks := B.notSynchronized
  have ow : ∀ {k : Nat} {w : Cond}, o_X19_wordT[k]? = some w → w.before ([.ref h0, .int p0, .int (zI (ta))] : List Value).toArray s = true := fun h => hts _ (mow_X19_wordT _ (List.mem_of_getElem? h))
  subst hsz
  have hD := hD0.self (sz := s.heap.size)
  generalize hAe : va_A [(h0, .inr (16, [v19_0, v19_1, v19_2, v19_3, v19_4, v19_5, v19_6, v19_7, v19_8, v19_9, v19_10, v19_11, v19_12, v19_13, v19_14, v19_15, v19_16, v19_17, v19_18, v19_19, v19_20, v19_21, v19_22, v19_23, v19_24, v19_25, v19_26, v19_27, v19_28, v19_29, v19_30, v19_31, v19_32, v19_33, .ref q_tp, v19_35, v19_36, v19_37, v19_38, v19_39, v19_40])), (q_tp, .inl (cT, 8192, .inl (fun j : Nat => zI (a_tp (j : Int)))))] s.heap.size = A at hD ⊢
  have hA : ∀ q : Nat, s.heap.size ≤ q → A q := fun q h => by rw [← hAe]; exact Or.inr h
  have hS : va_S A s.heap s.heap [] := va_S.rf
  have hP : va_P (dC, dI) vwQ [(h0, .inr (16, [v19_0, v19_1, v19_2, v19_3, v19_4, v19_5, v19_6, v19_7, v19_8, v19_9, v19_10, v19_11, v19_12, v19_13, v19_14, v19_15, v19_16, v19_17, v19_18, v19_19, v19_20, v19_21, v19_22, v19_23, v19_24, v19_25, v19_26, v19_27, v19_28, v19_29, v19_30, v19_31, v19_32, v19_33, .ref q_tp, v19_35, v19_36, v19_37, v19_38, v19_39, v19_40])), (q_tp, .inl (cT, 8192, .inl (fun j : Nat => zI (a_tp (j : Int)))))] s.heap := hP
  have hl := lv_entry ([.ref h0, .int p0, .int (zI (ta))]) (n := 4) (Nat.le_of_ble_eq_true rfl)
  rw [lg_entry_eq]
  generalize (lg_sl ([.ref h0, .int p0, .int (zI (ta))]) ++ List.replicate (4 - (lg_sl ([.ref h0, .int p0, .int (zI (ta))])).length) Slot.unset).toArray = ls at hl ⊢
  have hl : lv_has ls 4 [(0, .ref h0), (1, .int p0), (2, .int (zI (ta)))] := hl
  obtain ⟨H, hH⟩ : ∃ H, H = s.heap := ⟨_, rfl⟩
  rw [← hH] at hP
  have hS : va_S A s.heap H [] := by rw [hH]; exact hS
  rw [← hH]
  refine zW_cap (fun Q hQ => ?_)
  refine lv_iconst (v := 0) hx hb dX19_word_0 (by decide) ?_
  refine lv_istore_n (lv' := [(3, .int 0), (0, .ref h0), (1, .int p0), (2, .int (zI (ta)))]) hx hb dX19_word_1 rfl hl (by decide) rfl (fun ls hl => ?_)
  have key2 : ∀ n2 : Nat, ∀ (d2_3 : Int) (w2_tp : Int → Int) (ls : Array Slot) (H : Heap) (locs : List Loc), (0 ≤ d2_3 ∧ d2_3 ≤ 1000000000) → (∀ j : Int, -128 ≤ w2_tp j ∧ w2_tp j ≤ 127) → (((4) - (d2_3) : Int).toNat) < n2 → lv_has ls 4 [(0, .ref h0), (1, .int p0), (2, .int (zI (ta))), (3, .int (zI (d2_3)))] → va_P (dC, dI) vwQ [(h0, .inr (16, [v19_0, v19_1, v19_2, v19_3, v19_4, v19_5, v19_6, v19_7, v19_8, v19_9, v19_10, v19_11, v19_12, v19_13, v19_14, v19_15, v19_16, v19_17, v19_18, v19_19, v19_20, v19_21, v19_22, v19_23, v19_24, v19_25, v19_26, v19_27, v19_28, v19_29, v19_30, v19_31, v19_32, v19_33, .ref q_tp, v19_35, v19_36, v19_37, v19_38, v19_39, v19_40])), (q_tp, .inl (cT, 8192, .inl (fun j : Nat => zI (w2_tp (j : Int)))))] H → va_D A [(h0, .inr (16, [v19_0, v19_1, v19_2, v19_3, v19_4, v19_5, v19_6, v19_7, v19_8, v19_9, v19_10, v19_11, v19_12, v19_13, v19_14, v19_15, v19_16, v19_17, v19_18, v19_19, v19_20, v19_21, v19_22, v19_23, v19_24, v19_25, v19_26, v19_27, v19_28, v19_29, v19_30, v19_31, v19_32, v19_33, .ref q_tp, v19_35, v19_36, v19_37, v19_38, v19_39, v19_40])), (q_tp, .inl (cT, 8192, .inl (fun j : Nat => zI (w2_tp (j : Int)))))] → va_S A s.heap H locs → W p l e (headSpec v_X19_wordT ({ frames := 0, cells := 0, slots := 0, locals := 0 })).room s m ([.ref h0, .int p0, .int (zI (ta))] : List Value).toArray below meth c H locs 0 0 Q (F0 m 2 ls []) := by
    intro n2
    induction n2 with
    | zero => intro d2_3 w2_tp ls H locs jd2_3 jw2_tp hm2; exact absurd hm2 (by omega)
    | succ n2 ih2 =>
      intro d2_3 w2_tp ls H locs jd2_3 jw2_tp hm2 hl hP hD hS
      refine lv_iload_n hx hb dX19_word_2 rfl (lv_at hl 3 rfl) ?_
      refine lv_iconst (v := 4) hx hb dX19_word_3 (by decide) ?_
      refine lv_icmp_ge (tgt := 31) hx hb dX19_word_4 (by decide) (fun b4 => ?_) (fun b4 => ?_)
      · have yb4 : (4 : Int) ≤ (d2_3 : Int) := (zI_le (a := 4) (b := d2_3) (by omega) (by omega) (by omega) (by omega)).mp b4
        subst hQ
        refine W.widen (k := 0) (n := 0) (Nat.le_of_ble_eq_true rfl) (Nat.le_of_ble_eq_true rfl) ?_
        exact W.vret hx hb hr (fun t ht hW => ⟨⟨(), rfl, trivial, w2_tp, jw2_tp, by rw [ht]; exact hP, va_K.moved hW.alike hK, hD⟩, hS.F ht⟩) hS.2.2 dX19_word_31
      · have yb4 : ¬ (4 : Int) ≤ (d2_3 : Int) := fun q => b4 ((zI_le (a := 4) (b := d2_3) (by omega) (by omega) (by omega) (by omega)).mpr q)
        refine lv_aload_n hx hb dX19_word_7 rfl (lv_at hl 0 rfl) ?_
        refine va_get (D := (dC, dI)) (ci := 16) (v := .ref q_tp) (C := RX19) (T := TX19) (N := 41) hx hb hts mem_X19_wordT_0 hown hK hP 0 rfl rfl 34 (by decide) (ow (k := 0) rfl) (fun _ h9 => h9) rfl dX19_word_8 ?_
        refine lv_iload_n hx hb dX19_word_11 rfl (lv_at hl 2 rfl) ?_
        refine lv_iload_n hx hb dX19_word_12 rfl (lv_at hl 3 rfl) ?_
        refine lv_iadd hx hb dX19_word_13 ?_
        refine lv_topi (fun z ez => ?_)
        obtain rfl : z = zI (ta + d2_3) := ez.trans (zI_add (ta) (d2_3))
        refine lv_iload_n hx hb dX19_word_14 rfl (lv_at hl 1 rfl) ?_
        refine lv_bipush (v := 24) hx hb dX19_word_15 (by decide) ?_
        refine lv_bipush (v := 8) hx hb dX19_word_17 (by decide) ?_
        refine lv_iload_n hx hb dX19_word_19 rfl (lv_at hl 3 rfl) ?_
        refine lv_imul hx hb dX19_word_20 ?_
        refine lv_topi (fun z ez => ?_)
        obtain rfl : z = zI (8 * d2_3) := ez.trans (zI_mul (8) (d2_3))
        refine lv_isub hx hb dX19_word_21 ?_
        refine lv_topi (fun z ez => ?_)
        obtain rfl : z = zI (24 - (8 * d2_3)) := ez.trans (zI_sub (24) (8 * d2_3))
        refine lv_ishr hx hb dX19_word_22 ?_
        refine lv_topi (fun x_1 _ => ?_)
        refine lv_i2b hx hb dX19_word_23 rfl ?_
        refine va_bast (i := zI (ta + d2_3)) hx hb hK hP hD hS 1 0 rfl rfl (zI_in (a := ta + d2_3) (n := 8192) (by omega) (by omega) (by omega)) dX19_word_24 (fun H locs hP hD hS => ?_)
        obtain ⟨be_3, ebe_3, hrbe_3⟩ := nar_byte (x_1.toInt8.toInt32)
        rw [ebe_3] at hP hD
        have eQ : upd (fun j : Nat => zI (w2_tp (j : Int))) (zI (ta + d2_3)).toNatClampNeg (zI (be_3)) = (fun j : Nat => zI (zup w2_tp (ta + d2_3) (be_3) (j : Int))) := zI_st w2_tp (e := ta + d2_3) (v := be_3) (by omega) (by omega)
        rw [eQ] at hP hD
        clear eQ
        have ra_2 : ∀ j : Int, -128 ≤ zup w2_tp (ta + d2_3) (be_3) j ∧ zup w2_tp (ta + d2_3) (be_3) j ≤ 127 := zup_P (P := fun x9 => -128 ≤ x9 ∧ x9 ≤ 127) jw2_tp (show -128 ≤ (be_3) ∧ (be_3) ≤ 127 by omega)
        generalize zup w2_tp (ta + d2_3) (be_3) = a_2 at hP hD ra_2
        have hP : va_P (dC, dI) vwQ [(h0, .inr (16, [v19_0, v19_1, v19_2, v19_3, v19_4, v19_5, v19_6, v19_7, v19_8, v19_9, v19_10, v19_11, v19_12, v19_13, v19_14, v19_15, v19_16, v19_17, v19_18, v19_19, v19_20, v19_21, v19_22, v19_23, v19_24, v19_25, v19_26, v19_27, v19_28, v19_29, v19_30, v19_31, v19_32, v19_33, .ref q_tp, v19_35, v19_36, v19_37, v19_38, v19_39, v19_40])), (q_tp, .inl (cT, 8192, .inl (fun j : Nat => zI (a_2 (j : Int)))))] H := hP
        have hD : va_D A [(h0, .inr (16, [v19_0, v19_1, v19_2, v19_3, v19_4, v19_5, v19_6, v19_7, v19_8, v19_9, v19_10, v19_11, v19_12, v19_13, v19_14, v19_15, v19_16, v19_17, v19_18, v19_19, v19_20, v19_21, v19_22, v19_23, v19_24, v19_25, v19_26, v19_27, v19_28, v19_29, v19_30, v19_31, v19_32, v19_33, .ref q_tp, v19_35, v19_36, v19_37, v19_38, v19_39, v19_40])), (q_tp, .inl (cT, 8192, .inl (fun j : Nat => zI (a_2 (j : Int)))))] := hD
        refine lv_iinc (v := zI (d2_3 + 1)) (lv' := [(3, .int (zI (d2_3 + 1))), (0, .ref h0), (1, .int p0), (2, .int (zI (ta)))]) hx hb dX19_word_25 hl (k := 3) rfl (zI_add (d2_3) (1)) (by decide) rfl (fun ls hl => ?_)
        refine lv_goto (tgt := 2) hx hb dX19_word_28 (by decide) ?_
        exact ih2 (d2_3 + 1) a_2 ls H _ (by omega) ra_2 (by omega) (lv_sub hl [1, 2, 3, 0] rfl) hP hD hS
  exact key2 (((4) - (0) : Int).toNat + 1) 0 a_tp ls H _ (by omega) hR_a_tp (by omega) (lv_sub hl [1, 2, 3, 0] rfl) hP hD hS
def o_X19_feedT : List Cond := [.fieldLink RX19 560 "SsaForgeModel" "thrown" "I", .fieldLink RX19 563 "SsaForgeModel" "size" "I", .methodLink RX19 568 yX19_word, .instanceMethod yX19_word, .selects RX19 yX19_word yX19_word, .initialized RX19, .methodLink RX19 565 yX19_no, .instanceMethod yX19_no, .selects RX19 yX19_no yX19_no]
def v_X19_feedT : List Cond := .code yX19_feed cX19_feed 6 (some .int) :: (o_X19_feedT ++ (wsX190 ++ (v_X19_wordT ++ (v_X19_no ++ []))))
theorem mow_X19_feedT : ∀ w ∈ o_X19_feedT, w ∈ v_X19_feedT := fun _ h => List.mem_cons_of_mem _ (List.mem_append_left _ h)
theorem mem_X19_feedT_0 : ∀ w ∈ wsX190, w ∈ v_X19_feedT := fun _ h => List.mem_cons_of_mem _ (List.mem_append_right _ (List.mem_append_left _ h))
theorem mem_X19_feedT_1 : ∀ w ∈ v_X19_wordT, w ∈ v_X19_feedT := fun _ h => List.mem_cons_of_mem _ (List.mem_append_right _ (List.mem_append_right _ (List.mem_append_left _ h)))
theorem mem_X19_feedT_2 : ∀ w ∈ v_X19_no, w ∈ v_X19_feedT := fun _ h => List.mem_cons_of_mem _ (List.mem_append_right _ (List.mem_append_right _ (List.mem_append_right _ (List.mem_append_left _ h))))
set_option maxRecDepth 20000 in
theorem gw_X19_feedT : v_X19_feedT.all goodWord = true := by decide +kernel
set_option maxRecDepth 20000 in
theorem g_X19_feedT_X19_wordT : GoodIn v_X19_feedT (wsV RX19 568 RX19 yX19_word v_X19_wordT) := goodIn_app (goodIn_sub (fun w h => mow_X19_feedT w (by revert w h; decide +kernel)) (by decide +kernel)) (goodIn_sub mem_X19_feedT_1 gw_X19_wordT)
set_option maxRecDepth 20000 in
theorem g_X19_feedT_X19_no : GoodIn v_X19_feedT (wsV RX19 565 RX19 yX19_no v_X19_no) := goodIn_app (goodIn_sub (fun w h => mow_X19_feedT w (by revert w h; decide +kernel)) (by decide +kernel)) (goodIn_sub mem_X19_feedT_2 gw_X19_no)
set_option maxHeartbeats 4000000 in
set_option maxRecDepth 100000 in
theorem c_X19_feedT (l : Launch) (dC : Nat → ClassId) (dI : Nat → Nat → Nat) (h0 : Nat) (v19_0 : Value) (v19_1 : Value) (v19_2 : Value) (v19_3 : Value) (v19_4 : Value) (v19_5 : Value) (v19_6 : Value) (v19_7 : Value) (v19_8 : Value) (v19_9 : Value) (v19_10 : Value) (v19_11 : Value) (v19_12 : Value) (v19_13 : Value) (v19_14 : Value) (v19_15 : Value) (v19_16 : Value) (v19_17 : Value) (v19_18 : Value) (v19_19 : Value) (v19_20 : Value) (v19_21 : Value) (v19_22 : Value) (v19_23 : Value) (v19_24 : Value) (v19_25 : Value) (v19_26 : Value) (v19_27 : Value) (v19_28 : Value) (v19_29 : Value) (v19_30 : Value) (v19_31 : Value) (v19_32 : Value) (z19_thrown : Int) (z19_size : Int) (v19_36 : Value) (v19_37 : Value) (v19_38 : Value) (v19_39 : Value) (v19_40 : Value) (q_tp : Nat) (cT : ClassId) (a_tp : Int → Int) (p0 : Int32) (p1 : Int32) (p2 : Int32) (p3 : Int32) (p4 : Int32) (hNz19_thrown : 0 ≤ z19_thrown ∧ z19_thrown ≤ 2) (hNz19_size : 0 ≤ z19_size ∧ z19_size ≤ 8192) (hR_a_tp : ∀ j : Int, -128 ≤ a_tp j ∧ a_tp j ≤ 127) (sz : Nat) : Met l yX19_feed v_X19_feedT ({ frames := 1, cells := 0, slots := 0, locals := 23 }) (va_Pc [.ref h0, .int p0, .int p1, .int p2, .int p3, .int p4] (fun U => U.heap.size = sz ∧ va_P (dC, dI) vwQ [(h0, .inr (16, [v19_0, v19_1, v19_2, v19_3, v19_4, v19_5, v19_6, v19_7, v19_8, v19_9, v19_10, v19_11, v19_12, v19_13, v19_14, v19_15, v19_16, v19_17, v19_18, v19_19, v19_20, v19_21, v19_22, v19_23, v19_24, v19_25, v19_26, v19_27, v19_28, v19_29, v19_30, v19_31, v19_32, .int (zI (z19_thrown)), .ref q_tp, .int (zI (z19_size)), v19_36, v19_37, v19_38, v19_39, v19_40])), (q_tp, .inl (cT, 8192, .inl (fun j : Nat => zI (a_tp (j : Int)))))] U.heap ∧ va_K (dC, dI) vwQ [(cT, .byte)] U ∧ va_D (fun _ => True) [(h0, .inr (16, [v19_0, v19_1, v19_2, v19_3, v19_4, v19_5, v19_6, v19_7, v19_8, v19_9, v19_10, v19_11, v19_12, v19_13, v19_14, v19_15, v19_16, v19_17, v19_18, v19_19, v19_20, v19_21, v19_22, v19_23, v19_24, v19_25, v19_26, v19_27, v19_28, v19_29, v19_30, v19_31, v19_32, .int (zI (z19_thrown)), .ref q_tp, .int (zI (z19_size)), v19_36, v19_37, v19_38, v19_39, v19_40])), (q_tp, .inl (cT, 8192, .inl (fun j : Nat => zI (a_tp (j : Int)))))])) (va_Qi (fun (r : Int32) (zr : Int) => r = zI zr ∧ (0 ≤ zr ∧ zr ≤ 8192)) (fun (zr : Int) (t : State) => ∃ (z0_9 : Int) (z1_9 : Int) (a2_9 : Int → Int), ((0 ≤ z0_9 ∧ z0_9 ≤ 2) ∧ (0 ≤ z1_9 ∧ z1_9 ≤ 8192) ∧ (∀ j : Int, -128 ≤ a2_9 j ∧ a2_9 j ≤ 127) ∧ ((z19_size + 20 ≤ 8192 → z1_9 = z19_size + 20 ∧ z0_9 = 0 ∧ zr = z19_size + 20) ∧ (8192 < z19_size + 20 → z1_9 = z19_size ∧ z0_9 = 1))) ∧ va_P (dC, dI) vwQ [(h0, .inr (16, [v19_0, v19_1, v19_2, v19_3, v19_4, v19_5, v19_6, v19_7, v19_8, v19_9, v19_10, v19_11, v19_12, v19_13, v19_14, v19_15, v19_16, v19_17, v19_18, v19_19, v19_20, v19_21, v19_22, v19_23, v19_24, v19_25, v19_26, v19_27, v19_28, v19_29, v19_30, v19_31, v19_32, .int (zI (z0_9)), .ref q_tp, .int (zI (z1_9)), v19_36, v19_37, v19_38, v19_39, v19_40])), (q_tp, .inl (cT, 8192, .inl (fun j : Nat => zI (a2_9 (j : Int)))))] t.heap ∧ va_K (dC, dI) vwQ [(cT, .byte)] t ∧ va_D (va_A [(h0, .inr (16, [v19_0, v19_1, v19_2, v19_3, v19_4, v19_5, v19_6, v19_7, v19_8, v19_9, v19_10, v19_11, v19_12, v19_13, v19_14, v19_15, v19_16, v19_17, v19_18, v19_19, v19_20, v19_21, v19_22, v19_23, v19_24, v19_25, v19_26, v19_27, v19_28, v19_29, v19_30, v19_31, v19_32, .int (zI (z19_thrown)), .ref q_tp, .int (zI (z19_size)), v19_36, v19_37, v19_38, v19_39, v19_40])), (q_tp, .inl (cT, 8192, .inl (fun j : Nat => zI (a_tp (j : Int)))))] sz) [(h0, .inr (16, [v19_0, v19_1, v19_2, v19_3, v19_4, v19_5, v19_6, v19_7, v19_8, v19_9, v19_10, v19_11, v19_12, v19_13, v19_14, v19_15, v19_16, v19_17, v19_18, v19_19, v19_20, v19_21, v19_22, v19_23, v19_24, v19_25, v19_26, v19_27, v19_28, v19_29, v19_30, v19_31, v19_32, .int (zI (z0_9)), .ref q_tp, .int (zI (z1_9)), v19_36, v19_37, v19_38, v19_39, v19_40])), (q_tp, .inl (cT, 8192, .inl (fun j : Nat => zI (a2_9 (j : Int)))))]) (va_A [(h0, .inr (16, [v19_0, v19_1, v19_2, v19_3, v19_4, v19_5, v19_6, v19_7, v19_8, v19_9, v19_10, v19_11, v19_12, v19_13, v19_14, v19_15, v19_16, v19_17, v19_18, v19_19, v19_20, v19_21, v19_22, v19_23, v19_24, v19_25, v19_26, v19_27, v19_28, v19_29, v19_30, v19_31, v19_32, .int (zI (z19_thrown)), .ref q_tp, .int (zI (z19_size)), v19_36, v19_37, v19_38, v19_39, v19_40])), (q_tp, .inl (cT, 8192, .inl (fun j : Nat => zI (a_tp (j : Int)))))] sz)) 0 0 (va_A [(h0, .inr (16, [v19_0, v19_1, v19_2, v19_3, v19_4, v19_5, v19_6, v19_7, v19_8, v19_9, v19_10, v19_11, v19_12, v19_13, v19_14, v19_15, v19_16, v19_17, v19_18, v19_19, v19_20, v19_21, v19_22, v19_23, v19_24, v19_25, v19_26, v19_27, v19_28, v19_29, v19_30, v19_31, v19_32, .int (zI (z19_thrown)), .ref q_tp, .int (zI (z19_size)), v19_36, v19_37, v19_38, v19_39, v19_40])), (q_tp, .inl (cT, 8192, .inl (fun j : Nat => zI (a_tp (j : Int)))))] sz) := by
  refine Met.ofW (cc := cX19_feed) (maxL := 6) (ret := (some .int)) (by decide) rfl ?_
  intro p e s m args below meth c s₁ B hml hv
  obtain ⟨rfl, hsz, hP, hK, hD0⟩ := hv
  have hx := B.exec
  have hb := B.bytes
  have hr := B.returns
  have hts := atoms_spec (ws := v_X19_feedT) B.pre
  have hown : s.vm.findClass RX19 = some m.cls := findClass_of_methodNamed B.named
  have hlocks := B.notSynchronized
  have ow : ∀ {k : Nat} {w : Cond}, o_X19_feedT[k]? = some w → w.before ([.ref h0, .int p0, .int p1, .int p2, .int p3, .int p4] : List Value).toArray s = true := fun h => hts _ (mow_X19_feedT _ (List.mem_of_getElem? h))
  subst hsz
  have hD := hD0.self (sz := s.heap.size)
  generalize hAe : va_A [(h0, .inr (16, [v19_0, v19_1, v19_2, v19_3, v19_4, v19_5, v19_6, v19_7, v19_8, v19_9, v19_10, v19_11, v19_12, v19_13, v19_14, v19_15, v19_16, v19_17, v19_18, v19_19, v19_20, v19_21, v19_22, v19_23, v19_24, v19_25, v19_26, v19_27, v19_28, v19_29, v19_30, v19_31, v19_32, .int (zI (z19_thrown)), .ref q_tp, .int (zI (z19_size)), v19_36, v19_37, v19_38, v19_39, v19_40])), (q_tp, .inl (cT, 8192, .inl (fun j : Nat => zI (a_tp (j : Int)))))] s.heap.size = A at hD ⊢
  have hA : ∀ q : Nat, s.heap.size ≤ q → A q := fun q h => by rw [← hAe]; exact Or.inr h
  have hS : va_S A s.heap s.heap [] := va_S.rf
  have hP : va_P (dC, dI) vwQ [(h0, .inr (16, [v19_0, v19_1, v19_2, v19_3, v19_4, v19_5, v19_6, v19_7, v19_8, v19_9, v19_10, v19_11, v19_12, v19_13, v19_14, v19_15, v19_16, v19_17, v19_18, v19_19, v19_20, v19_21, v19_22, v19_23, v19_24, v19_25, v19_26, v19_27, v19_28, v19_29, v19_30, v19_31, v19_32, .int (zI (z19_thrown)), .ref q_tp, .int (zI (z19_size)), v19_36, v19_37, v19_38, v19_39, v19_40])), (q_tp, .inl (cT, 8192, .inl (fun j : Nat => zI (a_tp (j : Int)))))] s.heap := hP
  have hl := lv_entry ([.ref h0, .int p0, .int p1, .int p2, .int p3, .int p4]) (n := 6) (Nat.le_of_ble_eq_true rfl)
  rw [lg_entry_eq]
  generalize (lg_sl ([.ref h0, .int p0, .int p1, .int p2, .int p3, .int p4]) ++ List.replicate (6 - (lg_sl ([.ref h0, .int p0, .int p1, .int p2, .int p3, .int p4])).length) Slot.unset).toArray = ls at hl ⊢
  have hl : lv_has ls 6 [(0, .ref h0), (1, .int p0), (2, .int p1), (3, .int p2), (4, .int p3), (5, .int p4)] := hl
  obtain ⟨H, hH⟩ : ∃ H, H = s.heap := ⟨_, rfl⟩
  rw [← hH] at hP
  have hS : va_S A s.heap H [] := by rw [hH]; exact hS
  rw [← hH]
  refine zW_cap (fun Q hQ => ?_)
  refine lv_aload_n hx hb dX19_feed_0 rfl (lv_at hl 0 rfl) ?_
  refine lv_iconst (v := 0) hx hb dX19_feed_1 (by decide) ?_
  refine va_put (D := (dC, dI)) (ci := 16) (v := .int 0) (ty := .int) (C := RX19) (T := TX19) (N := 41) hx hb hts mem_X19_feedT_0 tyX19 tyX19_ok nmX19 hown hK hP hD hS 0 rfl rfl 33 (by decide) (ow (k := 0) rfl) (fun _ h9 => h9) rfl (by decide +kernel) rfl rfl (Nat.le_of_ble_eq_true rfl) dX19_feed_2 (fun H locs hP hD hS => ?_)
  have hP : va_P (dC, dI) vwQ [(h0, .inr (16, [v19_0, v19_1, v19_2, v19_3, v19_4, v19_5, v19_6, v19_7, v19_8, v19_9, v19_10, v19_11, v19_12, v19_13, v19_14, v19_15, v19_16, v19_17, v19_18, v19_19, v19_20, v19_21, v19_22, v19_23, v19_24, v19_25, v19_26, v19_27, v19_28, v19_29, v19_30, v19_31, v19_32, .int 0, .ref q_tp, .int (zI (z19_size)), v19_36, v19_37, v19_38, v19_39, v19_40])), (q_tp, .inl (cT, 8192, .inl (fun j : Nat => zI (a_tp (j : Int)))))] H := hP
  have hD : va_D A [(h0, .inr (16, [v19_0, v19_1, v19_2, v19_3, v19_4, v19_5, v19_6, v19_7, v19_8, v19_9, v19_10, v19_11, v19_12, v19_13, v19_14, v19_15, v19_16, v19_17, v19_18, v19_19, v19_20, v19_21, v19_22, v19_23, v19_24, v19_25, v19_26, v19_27, v19_28, v19_29, v19_30, v19_31, v19_32, .int 0, .ref q_tp, .int (zI (z19_size)), v19_36, v19_37, v19_38, v19_39, v19_40])), (q_tp, .inl (cT, 8192, .inl (fun j : Nat => zI (a_tp (j : Int)))))] := hD
  refine lv_aload_n hx hb dX19_feed_5 rfl (lv_at hl 0 rfl) ?_
  refine va_get (D := (dC, dI)) (ci := 16) (v := .int (zI (z19_size))) (C := RX19) (T := TX19) (N := 41) hx hb hts mem_X19_feedT_0 hown hK hP 0 rfl rfl 35 (by decide) (ow (k := 1) rfl) (fun _ h9 => h9) rfl dX19_feed_6 ?_
  refine lv_bipush (v := 20) hx hb dX19_feed_9 (by decide) ?_
  refine lv_iadd hx hb dX19_feed_11 ?_
  refine lv_topi (fun z ez => ?_)
  obtain rfl : z = zI (z19_size + 20) := ez.trans (zI_add (z19_size) (20))
  refine lv_sipush (v := 8192) hx hb dX19_feed_12 (by decide) ?_
  refine lv_icmp_le (tgt := 24) hx hb dX19_feed_15 (by decide) (fun b15 => ?_) (fun b15 => ?_)
  · have yb15 : (z19_size + 20 : Int) ≤ (8192 : Int) := (zI_le (a := z19_size + 20) (b := 8192) (by omega) (by omega) (by omega) (by omega)).mp b15
    refine lv_aload_n hx hb dX19_feed_24 rfl (lv_at hl 0 rfl) ?_
    refine lv_iload_n hx hb dX19_feed_25 rfl (lv_at hl 1 rfl) ?_
    refine lv_aload_n hx hb dX19_feed_26 rfl (lv_at hl 0 rfl) ?_
    refine va_get (D := (dC, dI)) (ci := 16) (v := .int (zI (z19_size))) (C := RX19) (T := TX19) (N := 41) hx hb hts mem_X19_feedT_0 hown hK hP 0 rfl rfl 35 (by decide) (ow (k := 1) rfl) (fun _ h9 => h9) rfl dX19_feed_27 ?_
    have hPc := hP.sub (ws' := [(h0, .inr (16, [v19_0, v19_1, v19_2, v19_3, v19_4, v19_5, v19_6, v19_7, v19_8, v19_9, v19_10, v19_11, v19_12, v19_13, v19_14, v19_15, v19_16, v19_17, v19_18, v19_19, v19_20, v19_21, v19_22, v19_23, v19_24, v19_25, v19_26, v19_27, v19_28, v19_29, v19_30, v19_31, v19_32, .int 0, .ref q_tp, .int (zI (z19_size)), v19_36, v19_37, v19_38, v19_39, v19_40])), (q_tp, .inl (cT, 8192, .inl (fun j : Nat => zI (a_tp (j : Int)))))]) [0, 1] rfl
    have hDc := hD.sub (ws' := [(h0, .inr (16, [v19_0, v19_1, v19_2, v19_3, v19_4, v19_5, v19_6, v19_7, v19_8, v19_9, v19_10, v19_11, v19_12, v19_13, v19_14, v19_15, v19_16, v19_17, v19_18, v19_19, v19_20, v19_21, v19_22, v19_23, v19_24, v19_25, v19_26, v19_27, v19_28, v19_29, v19_30, v19_31, v19_32, .int 0, .ref q_tp, .int (zI (z19_size)), v19_36, v19_37, v19_38, v19_39, v19_40])), (q_tp, .inl (cT, 8192, .inl (fun j : Nat => zI (a_tp (j : Int)))))]) [0, 1] (by decide) rfl
    have hKc := hK.sub (tys' := [(cT, .byte)]) [0] rfl
    have hFc := va_free (wc := [(h0, .inr (16, [v19_0, v19_1, v19_2, v19_3, v19_4, v19_5, v19_6, v19_7, v19_8, v19_9, v19_10, v19_11, v19_12, v19_13, v19_14, v19_15, v19_16, v19_17, v19_18, v19_19, v19_20, v19_21, v19_22, v19_23, v19_24, v19_25, v19_26, v19_27, v19_28, v19_29, v19_30, v19_31, v19_32, .int 0, .ref q_tp, .int (zI (z19_size)), v19_36, v19_37, v19_38, v19_39, v19_40])), (q_tp, .inl (cT, 8192, .inl (fun j : Nat => zI (a_tp (j : Int)))))]) hD hS hA [0, 1] rfl
    refine va_callv (va_runV (As := [.int p0, .int (zI (z19_size))]) (rest := []) ⟨hx, hb, hml, hown, hts⟩ (c_X19_wordT l dC dI h0 v19_0 v19_1 v19_2 v19_3 v19_4 v19_5 v19_6 v19_7 v19_8 v19_9 v19_10 v19_11 v19_12 v19_13 v19_14 v19_15 v19_16 v19_17 v19_18 v19_19 v19_20 v19_21 v19_22 v19_23 v19_24 v19_25 v19_26 v19_27 v19_28 v19_29 v19_30 v19_31 v19_32 (.int 0) (.int (zI (z19_size))) v19_36 v19_37 v19_38 v19_39 v19_40 q_tp cT a_tp p0 z19_size hR_a_tp (by omega) H.size) (cwV 2 hts g_X19_feedT_X19_wordT rfl rfl rfl (by decide +kernel) ⟨(Nat.le_of_ble_eq_true rfl), (Nat.le_of_ble_eq_true rfl)⟩) ⟨fun a U g mk q => by obtain ⟨q0, q1, qP, qK, qD⟩ := q; exact ⟨q0, q1, qP, va_K.moved (u := U) (U := U.calling g mk a) (Vm.Alike.refl U.vm) qK, qD⟩, va_recv hKc hPc (ci := 16) (q0 := 0) rfl rfl, fun U hU hW => ⟨rfl, by rw [hU], by rw [hU]; exact hPc, va_K.moved hW.alike hKc, hDc.weaken (fun _ _ _ _ => trivial)⟩⟩ rfl rfl hl.1 rfl (lv_room (Nat.le_of_ble_eq_true rfl)) dX19_feed_30 ⟨(Nat.le_of_ble_eq_true rfl), (Nat.le_of_ble_eq_true rfl)⟩) hS (fun q _ h => hFc q h) hFc (fun  u t H1 locs ht hvm hw hB hz1 hk1 hS => ?_)
    obtain ⟨a0_1, hxt_1, hP1, hK1, hD1⟩ := hB
    rw [ht] at hP1
    have hK1 := va_K.moved hvm.symm hK1
    obtain ⟨hP, hD⟩ := va_join (wr := []) (w1 := [(h0, .inr (16, [v19_0, v19_1, v19_2, v19_3, v19_4, v19_5, v19_6, v19_7, v19_8, v19_9, v19_10, v19_11, v19_12, v19_13, v19_14, v19_15, v19_16, v19_17, v19_18, v19_19, v19_20, v19_21, v19_22, v19_23, v19_24, v19_25, v19_26, v19_27, v19_28, v19_29, v19_30, v19_31, v19_32, .int 0, .ref q_tp, .int (zI (z19_size)), v19_36, v19_37, v19_38, v19_39, v19_40])), (q_tp, .inl (cT, 8192, .inl (fun j : Nat => zI (a0_1 (j : Int)))))]) hP hD [0, 1] [] rfl rfl (by decide) (by decide) hk1 hFc hP1 hD1
    have hK := (hK.sub (tys' := []) [] rfl).app hK1
    generalize H1 = H at hP hS ⊢
    have hP : va_P (dC, dI) vwQ [(h0, .inr (16, [v19_0, v19_1, v19_2, v19_3, v19_4, v19_5, v19_6, v19_7, v19_8, v19_9, v19_10, v19_11, v19_12, v19_13, v19_14, v19_15, v19_16, v19_17, v19_18, v19_19, v19_20, v19_21, v19_22, v19_23, v19_24, v19_25, v19_26, v19_27, v19_28, v19_29, v19_30, v19_31, v19_32, .int 0, .ref q_tp, .int (zI (z19_size)), v19_36, v19_37, v19_38, v19_39, v19_40])), (q_tp, .inl (cT, 8192, .inl (fun j : Nat => zI (a0_1 (j : Int)))))] H := hP
    have hD : va_D A [(h0, .inr (16, [v19_0, v19_1, v19_2, v19_3, v19_4, v19_5, v19_6, v19_7, v19_8, v19_9, v19_10, v19_11, v19_12, v19_13, v19_14, v19_15, v19_16, v19_17, v19_18, v19_19, v19_20, v19_21, v19_22, v19_23, v19_24, v19_25, v19_26, v19_27, v19_28, v19_29, v19_30, v19_31, v19_32, .int 0, .ref q_tp, .int (zI (z19_size)), v19_36, v19_37, v19_38, v19_39, v19_40])), (q_tp, .inl (cT, 8192, .inl (fun j : Nat => zI (a0_1 (j : Int)))))] := hD
    have hK : va_K (dC, dI) vwQ [(cT, .byte)] s := hK
    refine W.widen (k := 0) (n := 0) (Nat.le_of_ble_eq_true rfl) (Nat.le_of_ble_eq_true rfl) ?_
    have rk_2 := hxt_1
    refine lv_aload_n hx hb dX19_feed_33 rfl (lv_at hl 0 rfl) ?_
    refine lv_iload_n hx hb dX19_feed_34 rfl (lv_at hl 2 rfl) ?_
    refine lv_aload_n hx hb dX19_feed_35 rfl (lv_at hl 0 rfl) ?_
    refine va_get (D := (dC, dI)) (ci := 16) (v := .int (zI (z19_size))) (C := RX19) (T := TX19) (N := 41) hx hb hts mem_X19_feedT_0 hown hK hP 0 rfl rfl 35 (by decide) (ow (k := 1) rfl) (fun _ h9 => h9) rfl dX19_feed_36 ?_
    refine lv_iconst (v := 4) hx hb dX19_feed_39 (by decide) ?_
    refine lv_iadd hx hb dX19_feed_40 ?_
    refine lv_topi (fun z ez => ?_)
    obtain rfl : z = zI (z19_size + 4) := ez.trans (zI_add (z19_size) (4))
    have hPc := hP.sub (ws' := [(h0, .inr (16, [v19_0, v19_1, v19_2, v19_3, v19_4, v19_5, v19_6, v19_7, v19_8, v19_9, v19_10, v19_11, v19_12, v19_13, v19_14, v19_15, v19_16, v19_17, v19_18, v19_19, v19_20, v19_21, v19_22, v19_23, v19_24, v19_25, v19_26, v19_27, v19_28, v19_29, v19_30, v19_31, v19_32, .int 0, .ref q_tp, .int (zI (z19_size)), v19_36, v19_37, v19_38, v19_39, v19_40])), (q_tp, .inl (cT, 8192, .inl (fun j : Nat => zI (a0_1 (j : Int)))))]) [0, 1] rfl
    have hDc := hD.sub (ws' := [(h0, .inr (16, [v19_0, v19_1, v19_2, v19_3, v19_4, v19_5, v19_6, v19_7, v19_8, v19_9, v19_10, v19_11, v19_12, v19_13, v19_14, v19_15, v19_16, v19_17, v19_18, v19_19, v19_20, v19_21, v19_22, v19_23, v19_24, v19_25, v19_26, v19_27, v19_28, v19_29, v19_30, v19_31, v19_32, .int 0, .ref q_tp, .int (zI (z19_size)), v19_36, v19_37, v19_38, v19_39, v19_40])), (q_tp, .inl (cT, 8192, .inl (fun j : Nat => zI (a0_1 (j : Int)))))]) [0, 1] (by decide) rfl
    have hKc := hK.sub (tys' := [(cT, .byte)]) [0] rfl
    have hFc := va_free (wc := [(h0, .inr (16, [v19_0, v19_1, v19_2, v19_3, v19_4, v19_5, v19_6, v19_7, v19_8, v19_9, v19_10, v19_11, v19_12, v19_13, v19_14, v19_15, v19_16, v19_17, v19_18, v19_19, v19_20, v19_21, v19_22, v19_23, v19_24, v19_25, v19_26, v19_27, v19_28, v19_29, v19_30, v19_31, v19_32, .int 0, .ref q_tp, .int (zI (z19_size)), v19_36, v19_37, v19_38, v19_39, v19_40])), (q_tp, .inl (cT, 8192, .inl (fun j : Nat => zI (a0_1 (j : Int)))))]) hD hS hA [0, 1] rfl
    refine va_callv (va_runV (As := [.int p1, .int (zI (z19_size + 4))]) (rest := []) ⟨hx, hb, hml, hown, hts⟩ (c_X19_wordT l dC dI h0 v19_0 v19_1 v19_2 v19_3 v19_4 v19_5 v19_6 v19_7 v19_8 v19_9 v19_10 v19_11 v19_12 v19_13 v19_14 v19_15 v19_16 v19_17 v19_18 v19_19 v19_20 v19_21 v19_22 v19_23 v19_24 v19_25 v19_26 v19_27 v19_28 v19_29 v19_30 v19_31 v19_32 (.int 0) (.int (zI (z19_size))) v19_36 v19_37 v19_38 v19_39 v19_40 q_tp cT a0_1 p1 (z19_size + 4) rk_2 (by omega) H.size) (cwV 2 hts g_X19_feedT_X19_wordT rfl rfl rfl (by decide +kernel) ⟨(Nat.le_of_ble_eq_true rfl), (Nat.le_of_ble_eq_true rfl)⟩) ⟨fun a U g mk q => by obtain ⟨q0, q1, qP, qK, qD⟩ := q; exact ⟨q0, q1, qP, va_K.moved (u := U) (U := U.calling g mk a) (Vm.Alike.refl U.vm) qK, qD⟩, va_recv hKc hPc (ci := 16) (q0 := 0) rfl rfl, fun U hU hW => ⟨rfl, by rw [hU], by rw [hU]; exact hPc, va_K.moved hW.alike hKc, hDc.weaken (fun _ _ _ _ => trivial)⟩⟩ rfl rfl hl.1 rfl (lv_room (Nat.le_of_ble_eq_true rfl)) dX19_feed_41 ⟨(Nat.le_of_ble_eq_true rfl), (Nat.le_of_ble_eq_true rfl)⟩) hS (fun q _ h => hFc q h) hFc (fun  u t H1 locs ht hvm hw hB hz1 hk1 hS => ?_)
    obtain ⟨a0_3, hxt_3, hP1, hK1, hD1⟩ := hB
    rw [ht] at hP1
    have hK1 := va_K.moved hvm.symm hK1
    obtain ⟨hP, hD⟩ := va_join (wr := []) (w1 := [(h0, .inr (16, [v19_0, v19_1, v19_2, v19_3, v19_4, v19_5, v19_6, v19_7, v19_8, v19_9, v19_10, v19_11, v19_12, v19_13, v19_14, v19_15, v19_16, v19_17, v19_18, v19_19, v19_20, v19_21, v19_22, v19_23, v19_24, v19_25, v19_26, v19_27, v19_28, v19_29, v19_30, v19_31, v19_32, .int 0, .ref q_tp, .int (zI (z19_size)), v19_36, v19_37, v19_38, v19_39, v19_40])), (q_tp, .inl (cT, 8192, .inl (fun j : Nat => zI (a0_3 (j : Int)))))]) hP hD [0, 1] [] rfl rfl (by decide) (by decide) hk1 hFc hP1 hD1
    have hK := (hK.sub (tys' := []) [] rfl).app hK1
    generalize H1 = H at hP hS ⊢
    have hP : va_P (dC, dI) vwQ [(h0, .inr (16, [v19_0, v19_1, v19_2, v19_3, v19_4, v19_5, v19_6, v19_7, v19_8, v19_9, v19_10, v19_11, v19_12, v19_13, v19_14, v19_15, v19_16, v19_17, v19_18, v19_19, v19_20, v19_21, v19_22, v19_23, v19_24, v19_25, v19_26, v19_27, v19_28, v19_29, v19_30, v19_31, v19_32, .int 0, .ref q_tp, .int (zI (z19_size)), v19_36, v19_37, v19_38, v19_39, v19_40])), (q_tp, .inl (cT, 8192, .inl (fun j : Nat => zI (a0_3 (j : Int)))))] H := hP
    have hD : va_D A [(h0, .inr (16, [v19_0, v19_1, v19_2, v19_3, v19_4, v19_5, v19_6, v19_7, v19_8, v19_9, v19_10, v19_11, v19_12, v19_13, v19_14, v19_15, v19_16, v19_17, v19_18, v19_19, v19_20, v19_21, v19_22, v19_23, v19_24, v19_25, v19_26, v19_27, v19_28, v19_29, v19_30, v19_31, v19_32, .int 0, .ref q_tp, .int (zI (z19_size)), v19_36, v19_37, v19_38, v19_39, v19_40])), (q_tp, .inl (cT, 8192, .inl (fun j : Nat => zI (a0_3 (j : Int)))))] := hD
    have hK : va_K (dC, dI) vwQ [(cT, .byte)] s := hK
    refine W.widen (k := 0) (n := 0) (Nat.le_of_ble_eq_true rfl) (Nat.le_of_ble_eq_true rfl) ?_
    have rk_4 := hxt_3
    refine lv_aload_n hx hb dX19_feed_44 rfl (lv_at hl 0 rfl) ?_
    refine lv_iload_n hx hb dX19_feed_45 rfl (lv_at hl 3 rfl) ?_
    refine lv_aload_n hx hb dX19_feed_46 rfl (lv_at hl 0 rfl) ?_
    refine va_get (D := (dC, dI)) (ci := 16) (v := .int (zI (z19_size))) (C := RX19) (T := TX19) (N := 41) hx hb hts mem_X19_feedT_0 hown hK hP 0 rfl rfl 35 (by decide) (ow (k := 1) rfl) (fun _ h9 => h9) rfl dX19_feed_47 ?_
    refine lv_bipush (v := 8) hx hb dX19_feed_50 (by decide) ?_
    refine lv_iadd hx hb dX19_feed_52 ?_
    refine lv_topi (fun z ez => ?_)
    obtain rfl : z = zI (z19_size + 8) := ez.trans (zI_add (z19_size) (8))
    have hPc := hP.sub (ws' := [(h0, .inr (16, [v19_0, v19_1, v19_2, v19_3, v19_4, v19_5, v19_6, v19_7, v19_8, v19_9, v19_10, v19_11, v19_12, v19_13, v19_14, v19_15, v19_16, v19_17, v19_18, v19_19, v19_20, v19_21, v19_22, v19_23, v19_24, v19_25, v19_26, v19_27, v19_28, v19_29, v19_30, v19_31, v19_32, .int 0, .ref q_tp, .int (zI (z19_size)), v19_36, v19_37, v19_38, v19_39, v19_40])), (q_tp, .inl (cT, 8192, .inl (fun j : Nat => zI (a0_3 (j : Int)))))]) [0, 1] rfl
    have hDc := hD.sub (ws' := [(h0, .inr (16, [v19_0, v19_1, v19_2, v19_3, v19_4, v19_5, v19_6, v19_7, v19_8, v19_9, v19_10, v19_11, v19_12, v19_13, v19_14, v19_15, v19_16, v19_17, v19_18, v19_19, v19_20, v19_21, v19_22, v19_23, v19_24, v19_25, v19_26, v19_27, v19_28, v19_29, v19_30, v19_31, v19_32, .int 0, .ref q_tp, .int (zI (z19_size)), v19_36, v19_37, v19_38, v19_39, v19_40])), (q_tp, .inl (cT, 8192, .inl (fun j : Nat => zI (a0_3 (j : Int)))))]) [0, 1] (by decide) rfl
    have hKc := hK.sub (tys' := [(cT, .byte)]) [0] rfl
    have hFc := va_free (wc := [(h0, .inr (16, [v19_0, v19_1, v19_2, v19_3, v19_4, v19_5, v19_6, v19_7, v19_8, v19_9, v19_10, v19_11, v19_12, v19_13, v19_14, v19_15, v19_16, v19_17, v19_18, v19_19, v19_20, v19_21, v19_22, v19_23, v19_24, v19_25, v19_26, v19_27, v19_28, v19_29, v19_30, v19_31, v19_32, .int 0, .ref q_tp, .int (zI (z19_size)), v19_36, v19_37, v19_38, v19_39, v19_40])), (q_tp, .inl (cT, 8192, .inl (fun j : Nat => zI (a0_3 (j : Int)))))]) hD hS hA [0, 1] rfl
    refine va_callv (va_runV (As := [.int p2, .int (zI (z19_size + 8))]) (rest := []) ⟨hx, hb, hml, hown, hts⟩ (c_X19_wordT l dC dI h0 v19_0 v19_1 v19_2 v19_3 v19_4 v19_5 v19_6 v19_7 v19_8 v19_9 v19_10 v19_11 v19_12 v19_13 v19_14 v19_15 v19_16 v19_17 v19_18 v19_19 v19_20 v19_21 v19_22 v19_23 v19_24 v19_25 v19_26 v19_27 v19_28 v19_29 v19_30 v19_31 v19_32 (.int 0) (.int (zI (z19_size))) v19_36 v19_37 v19_38 v19_39 v19_40 q_tp cT a0_3 p2 (z19_size + 8) rk_4 (by omega) H.size) (cwV 2 hts g_X19_feedT_X19_wordT rfl rfl rfl (by decide +kernel) ⟨(Nat.le_of_ble_eq_true rfl), (Nat.le_of_ble_eq_true rfl)⟩) ⟨fun a U g mk q => by obtain ⟨q0, q1, qP, qK, qD⟩ := q; exact ⟨q0, q1, qP, va_K.moved (u := U) (U := U.calling g mk a) (Vm.Alike.refl U.vm) qK, qD⟩, va_recv hKc hPc (ci := 16) (q0 := 0) rfl rfl, fun U hU hW => ⟨rfl, by rw [hU], by rw [hU]; exact hPc, va_K.moved hW.alike hKc, hDc.weaken (fun _ _ _ _ => trivial)⟩⟩ rfl rfl hl.1 rfl (lv_room (Nat.le_of_ble_eq_true rfl)) dX19_feed_53 ⟨(Nat.le_of_ble_eq_true rfl), (Nat.le_of_ble_eq_true rfl)⟩) hS (fun q _ h => hFc q h) hFc (fun  u t H1 locs ht hvm hw hB hz1 hk1 hS => ?_)
    obtain ⟨a0_5, hxt_5, hP1, hK1, hD1⟩ := hB
    rw [ht] at hP1
    have hK1 := va_K.moved hvm.symm hK1
    obtain ⟨hP, hD⟩ := va_join (wr := []) (w1 := [(h0, .inr (16, [v19_0, v19_1, v19_2, v19_3, v19_4, v19_5, v19_6, v19_7, v19_8, v19_9, v19_10, v19_11, v19_12, v19_13, v19_14, v19_15, v19_16, v19_17, v19_18, v19_19, v19_20, v19_21, v19_22, v19_23, v19_24, v19_25, v19_26, v19_27, v19_28, v19_29, v19_30, v19_31, v19_32, .int 0, .ref q_tp, .int (zI (z19_size)), v19_36, v19_37, v19_38, v19_39, v19_40])), (q_tp, .inl (cT, 8192, .inl (fun j : Nat => zI (a0_5 (j : Int)))))]) hP hD [0, 1] [] rfl rfl (by decide) (by decide) hk1 hFc hP1 hD1
    have hK := (hK.sub (tys' := []) [] rfl).app hK1
    generalize H1 = H at hP hS ⊢
    have hP : va_P (dC, dI) vwQ [(h0, .inr (16, [v19_0, v19_1, v19_2, v19_3, v19_4, v19_5, v19_6, v19_7, v19_8, v19_9, v19_10, v19_11, v19_12, v19_13, v19_14, v19_15, v19_16, v19_17, v19_18, v19_19, v19_20, v19_21, v19_22, v19_23, v19_24, v19_25, v19_26, v19_27, v19_28, v19_29, v19_30, v19_31, v19_32, .int 0, .ref q_tp, .int (zI (z19_size)), v19_36, v19_37, v19_38, v19_39, v19_40])), (q_tp, .inl (cT, 8192, .inl (fun j : Nat => zI (a0_5 (j : Int)))))] H := hP
    have hD : va_D A [(h0, .inr (16, [v19_0, v19_1, v19_2, v19_3, v19_4, v19_5, v19_6, v19_7, v19_8, v19_9, v19_10, v19_11, v19_12, v19_13, v19_14, v19_15, v19_16, v19_17, v19_18, v19_19, v19_20, v19_21, v19_22, v19_23, v19_24, v19_25, v19_26, v19_27, v19_28, v19_29, v19_30, v19_31, v19_32, .int 0, .ref q_tp, .int (zI (z19_size)), v19_36, v19_37, v19_38, v19_39, v19_40])), (q_tp, .inl (cT, 8192, .inl (fun j : Nat => zI (a0_5 (j : Int)))))] := hD
    have hK : va_K (dC, dI) vwQ [(cT, .byte)] s := hK
    refine W.widen (k := 0) (n := 0) (Nat.le_of_ble_eq_true rfl) (Nat.le_of_ble_eq_true rfl) ?_
    have rk_6 := hxt_5
    refine lv_aload_n hx hb dX19_feed_56 rfl (lv_at hl 0 rfl) ?_
    refine lv_iload hx hb dX19_feed_57 (lv_at hl 4 rfl) ?_
    refine lv_aload_n hx hb dX19_feed_59 rfl (lv_at hl 0 rfl) ?_
    refine va_get (D := (dC, dI)) (ci := 16) (v := .int (zI (z19_size))) (C := RX19) (T := TX19) (N := 41) hx hb hts mem_X19_feedT_0 hown hK hP 0 rfl rfl 35 (by decide) (ow (k := 1) rfl) (fun _ h9 => h9) rfl dX19_feed_60 ?_
    refine lv_bipush (v := 12) hx hb dX19_feed_63 (by decide) ?_
    refine lv_iadd hx hb dX19_feed_65 ?_
    refine lv_topi (fun z ez => ?_)
    obtain rfl : z = zI (z19_size + 12) := ez.trans (zI_add (z19_size) (12))
    have hPc := hP.sub (ws' := [(h0, .inr (16, [v19_0, v19_1, v19_2, v19_3, v19_4, v19_5, v19_6, v19_7, v19_8, v19_9, v19_10, v19_11, v19_12, v19_13, v19_14, v19_15, v19_16, v19_17, v19_18, v19_19, v19_20, v19_21, v19_22, v19_23, v19_24, v19_25, v19_26, v19_27, v19_28, v19_29, v19_30, v19_31, v19_32, .int 0, .ref q_tp, .int (zI (z19_size)), v19_36, v19_37, v19_38, v19_39, v19_40])), (q_tp, .inl (cT, 8192, .inl (fun j : Nat => zI (a0_5 (j : Int)))))]) [0, 1] rfl
    have hDc := hD.sub (ws' := [(h0, .inr (16, [v19_0, v19_1, v19_2, v19_3, v19_4, v19_5, v19_6, v19_7, v19_8, v19_9, v19_10, v19_11, v19_12, v19_13, v19_14, v19_15, v19_16, v19_17, v19_18, v19_19, v19_20, v19_21, v19_22, v19_23, v19_24, v19_25, v19_26, v19_27, v19_28, v19_29, v19_30, v19_31, v19_32, .int 0, .ref q_tp, .int (zI (z19_size)), v19_36, v19_37, v19_38, v19_39, v19_40])), (q_tp, .inl (cT, 8192, .inl (fun j : Nat => zI (a0_5 (j : Int)))))]) [0, 1] (by decide) rfl
    have hKc := hK.sub (tys' := [(cT, .byte)]) [0] rfl
    have hFc := va_free (wc := [(h0, .inr (16, [v19_0, v19_1, v19_2, v19_3, v19_4, v19_5, v19_6, v19_7, v19_8, v19_9, v19_10, v19_11, v19_12, v19_13, v19_14, v19_15, v19_16, v19_17, v19_18, v19_19, v19_20, v19_21, v19_22, v19_23, v19_24, v19_25, v19_26, v19_27, v19_28, v19_29, v19_30, v19_31, v19_32, .int 0, .ref q_tp, .int (zI (z19_size)), v19_36, v19_37, v19_38, v19_39, v19_40])), (q_tp, .inl (cT, 8192, .inl (fun j : Nat => zI (a0_5 (j : Int)))))]) hD hS hA [0, 1] rfl
    refine va_callv (va_runV (As := [.int p3, .int (zI (z19_size + 12))]) (rest := []) ⟨hx, hb, hml, hown, hts⟩ (c_X19_wordT l dC dI h0 v19_0 v19_1 v19_2 v19_3 v19_4 v19_5 v19_6 v19_7 v19_8 v19_9 v19_10 v19_11 v19_12 v19_13 v19_14 v19_15 v19_16 v19_17 v19_18 v19_19 v19_20 v19_21 v19_22 v19_23 v19_24 v19_25 v19_26 v19_27 v19_28 v19_29 v19_30 v19_31 v19_32 (.int 0) (.int (zI (z19_size))) v19_36 v19_37 v19_38 v19_39 v19_40 q_tp cT a0_5 p3 (z19_size + 12) rk_6 (by omega) H.size) (cwV 2 hts g_X19_feedT_X19_wordT rfl rfl rfl (by decide +kernel) ⟨(Nat.le_of_ble_eq_true rfl), (Nat.le_of_ble_eq_true rfl)⟩) ⟨fun a U g mk q => by obtain ⟨q0, q1, qP, qK, qD⟩ := q; exact ⟨q0, q1, qP, va_K.moved (u := U) (U := U.calling g mk a) (Vm.Alike.refl U.vm) qK, qD⟩, va_recv hKc hPc (ci := 16) (q0 := 0) rfl rfl, fun U hU hW => ⟨rfl, by rw [hU], by rw [hU]; exact hPc, va_K.moved hW.alike hKc, hDc.weaken (fun _ _ _ _ => trivial)⟩⟩ rfl rfl hl.1 rfl (lv_room (Nat.le_of_ble_eq_true rfl)) dX19_feed_66 ⟨(Nat.le_of_ble_eq_true rfl), (Nat.le_of_ble_eq_true rfl)⟩) hS (fun q _ h => hFc q h) hFc (fun  u t H1 locs ht hvm hw hB hz1 hk1 hS => ?_)
    obtain ⟨a0_7, hxt_7, hP1, hK1, hD1⟩ := hB
    rw [ht] at hP1
    have hK1 := va_K.moved hvm.symm hK1
    obtain ⟨hP, hD⟩ := va_join (wr := []) (w1 := [(h0, .inr (16, [v19_0, v19_1, v19_2, v19_3, v19_4, v19_5, v19_6, v19_7, v19_8, v19_9, v19_10, v19_11, v19_12, v19_13, v19_14, v19_15, v19_16, v19_17, v19_18, v19_19, v19_20, v19_21, v19_22, v19_23, v19_24, v19_25, v19_26, v19_27, v19_28, v19_29, v19_30, v19_31, v19_32, .int 0, .ref q_tp, .int (zI (z19_size)), v19_36, v19_37, v19_38, v19_39, v19_40])), (q_tp, .inl (cT, 8192, .inl (fun j : Nat => zI (a0_7 (j : Int)))))]) hP hD [0, 1] [] rfl rfl (by decide) (by decide) hk1 hFc hP1 hD1
    have hK := (hK.sub (tys' := []) [] rfl).app hK1
    generalize H1 = H at hP hS ⊢
    have hP : va_P (dC, dI) vwQ [(h0, .inr (16, [v19_0, v19_1, v19_2, v19_3, v19_4, v19_5, v19_6, v19_7, v19_8, v19_9, v19_10, v19_11, v19_12, v19_13, v19_14, v19_15, v19_16, v19_17, v19_18, v19_19, v19_20, v19_21, v19_22, v19_23, v19_24, v19_25, v19_26, v19_27, v19_28, v19_29, v19_30, v19_31, v19_32, .int 0, .ref q_tp, .int (zI (z19_size)), v19_36, v19_37, v19_38, v19_39, v19_40])), (q_tp, .inl (cT, 8192, .inl (fun j : Nat => zI (a0_7 (j : Int)))))] H := hP
    have hD : va_D A [(h0, .inr (16, [v19_0, v19_1, v19_2, v19_3, v19_4, v19_5, v19_6, v19_7, v19_8, v19_9, v19_10, v19_11, v19_12, v19_13, v19_14, v19_15, v19_16, v19_17, v19_18, v19_19, v19_20, v19_21, v19_22, v19_23, v19_24, v19_25, v19_26, v19_27, v19_28, v19_29, v19_30, v19_31, v19_32, .int 0, .ref q_tp, .int (zI (z19_size)), v19_36, v19_37, v19_38, v19_39, v19_40])), (q_tp, .inl (cT, 8192, .inl (fun j : Nat => zI (a0_7 (j : Int)))))] := hD
    have hK : va_K (dC, dI) vwQ [(cT, .byte)] s := hK
    refine W.widen (k := 0) (n := 0) (Nat.le_of_ble_eq_true rfl) (Nat.le_of_ble_eq_true rfl) ?_
    have rk_8 := hxt_7
    refine lv_aload_n hx hb dX19_feed_69 rfl (lv_at hl 0 rfl) ?_
    refine lv_iload hx hb dX19_feed_70 (lv_at hl 5 rfl) ?_
    refine lv_aload_n hx hb dX19_feed_72 rfl (lv_at hl 0 rfl) ?_
    refine va_get (D := (dC, dI)) (ci := 16) (v := .int (zI (z19_size))) (C := RX19) (T := TX19) (N := 41) hx hb hts mem_X19_feedT_0 hown hK hP 0 rfl rfl 35 (by decide) (ow (k := 1) rfl) (fun _ h9 => h9) rfl dX19_feed_73 ?_
    refine lv_bipush (v := 16) hx hb dX19_feed_76 (by decide) ?_
    refine lv_iadd hx hb dX19_feed_78 ?_
    refine lv_topi (fun z ez => ?_)
    obtain rfl : z = zI (z19_size + 16) := ez.trans (zI_add (z19_size) (16))
    have hPc := hP.sub (ws' := [(h0, .inr (16, [v19_0, v19_1, v19_2, v19_3, v19_4, v19_5, v19_6, v19_7, v19_8, v19_9, v19_10, v19_11, v19_12, v19_13, v19_14, v19_15, v19_16, v19_17, v19_18, v19_19, v19_20, v19_21, v19_22, v19_23, v19_24, v19_25, v19_26, v19_27, v19_28, v19_29, v19_30, v19_31, v19_32, .int 0, .ref q_tp, .int (zI (z19_size)), v19_36, v19_37, v19_38, v19_39, v19_40])), (q_tp, .inl (cT, 8192, .inl (fun j : Nat => zI (a0_7 (j : Int)))))]) [0, 1] rfl
    have hDc := hD.sub (ws' := [(h0, .inr (16, [v19_0, v19_1, v19_2, v19_3, v19_4, v19_5, v19_6, v19_7, v19_8, v19_9, v19_10, v19_11, v19_12, v19_13, v19_14, v19_15, v19_16, v19_17, v19_18, v19_19, v19_20, v19_21, v19_22, v19_23, v19_24, v19_25, v19_26, v19_27, v19_28, v19_29, v19_30, v19_31, v19_32, .int 0, .ref q_tp, .int (zI (z19_size)), v19_36, v19_37, v19_38, v19_39, v19_40])), (q_tp, .inl (cT, 8192, .inl (fun j : Nat => zI (a0_7 (j : Int)))))]) [0, 1] (by decide) rfl
    have hKc := hK.sub (tys' := [(cT, .byte)]) [0] rfl
    have hFc := va_free (wc := [(h0, .inr (16, [v19_0, v19_1, v19_2, v19_3, v19_4, v19_5, v19_6, v19_7, v19_8, v19_9, v19_10, v19_11, v19_12, v19_13, v19_14, v19_15, v19_16, v19_17, v19_18, v19_19, v19_20, v19_21, v19_22, v19_23, v19_24, v19_25, v19_26, v19_27, v19_28, v19_29, v19_30, v19_31, v19_32, .int 0, .ref q_tp, .int (zI (z19_size)), v19_36, v19_37, v19_38, v19_39, v19_40])), (q_tp, .inl (cT, 8192, .inl (fun j : Nat => zI (a0_7 (j : Int)))))]) hD hS hA [0, 1] rfl
    refine va_callv (va_runV (As := [.int p4, .int (zI (z19_size + 16))]) (rest := []) ⟨hx, hb, hml, hown, hts⟩ (c_X19_wordT l dC dI h0 v19_0 v19_1 v19_2 v19_3 v19_4 v19_5 v19_6 v19_7 v19_8 v19_9 v19_10 v19_11 v19_12 v19_13 v19_14 v19_15 v19_16 v19_17 v19_18 v19_19 v19_20 v19_21 v19_22 v19_23 v19_24 v19_25 v19_26 v19_27 v19_28 v19_29 v19_30 v19_31 v19_32 (.int 0) (.int (zI (z19_size))) v19_36 v19_37 v19_38 v19_39 v19_40 q_tp cT a0_7 p4 (z19_size + 16) rk_8 (by omega) H.size) (cwV 2 hts g_X19_feedT_X19_wordT rfl rfl rfl (by decide +kernel) ⟨(Nat.le_of_ble_eq_true rfl), (Nat.le_of_ble_eq_true rfl)⟩) ⟨fun a U g mk q => by obtain ⟨q0, q1, qP, qK, qD⟩ := q; exact ⟨q0, q1, qP, va_K.moved (u := U) (U := U.calling g mk a) (Vm.Alike.refl U.vm) qK, qD⟩, va_recv hKc hPc (ci := 16) (q0 := 0) rfl rfl, fun U hU hW => ⟨rfl, by rw [hU], by rw [hU]; exact hPc, va_K.moved hW.alike hKc, hDc.weaken (fun _ _ _ _ => trivial)⟩⟩ rfl rfl hl.1 rfl (lv_room (Nat.le_of_ble_eq_true rfl)) dX19_feed_79 ⟨(Nat.le_of_ble_eq_true rfl), (Nat.le_of_ble_eq_true rfl)⟩) hS (fun q _ h => hFc q h) hFc (fun  u t H1 locs ht hvm hw hB hz1 hk1 hS => ?_)
    obtain ⟨a0_9, hxt_9, hP1, hK1, hD1⟩ := hB
    rw [ht] at hP1
    have hK1 := va_K.moved hvm.symm hK1
    obtain ⟨hP, hD⟩ := va_join (wr := []) (w1 := [(h0, .inr (16, [v19_0, v19_1, v19_2, v19_3, v19_4, v19_5, v19_6, v19_7, v19_8, v19_9, v19_10, v19_11, v19_12, v19_13, v19_14, v19_15, v19_16, v19_17, v19_18, v19_19, v19_20, v19_21, v19_22, v19_23, v19_24, v19_25, v19_26, v19_27, v19_28, v19_29, v19_30, v19_31, v19_32, .int 0, .ref q_tp, .int (zI (z19_size)), v19_36, v19_37, v19_38, v19_39, v19_40])), (q_tp, .inl (cT, 8192, .inl (fun j : Nat => zI (a0_9 (j : Int)))))]) hP hD [0, 1] [] rfl rfl (by decide) (by decide) hk1 hFc hP1 hD1
    have hK := (hK.sub (tys' := []) [] rfl).app hK1
    generalize H1 = H at hP hS ⊢
    have hP : va_P (dC, dI) vwQ [(h0, .inr (16, [v19_0, v19_1, v19_2, v19_3, v19_4, v19_5, v19_6, v19_7, v19_8, v19_9, v19_10, v19_11, v19_12, v19_13, v19_14, v19_15, v19_16, v19_17, v19_18, v19_19, v19_20, v19_21, v19_22, v19_23, v19_24, v19_25, v19_26, v19_27, v19_28, v19_29, v19_30, v19_31, v19_32, .int 0, .ref q_tp, .int (zI (z19_size)), v19_36, v19_37, v19_38, v19_39, v19_40])), (q_tp, .inl (cT, 8192, .inl (fun j : Nat => zI (a0_9 (j : Int)))))] H := hP
    have hD : va_D A [(h0, .inr (16, [v19_0, v19_1, v19_2, v19_3, v19_4, v19_5, v19_6, v19_7, v19_8, v19_9, v19_10, v19_11, v19_12, v19_13, v19_14, v19_15, v19_16, v19_17, v19_18, v19_19, v19_20, v19_21, v19_22, v19_23, v19_24, v19_25, v19_26, v19_27, v19_28, v19_29, v19_30, v19_31, v19_32, .int 0, .ref q_tp, .int (zI (z19_size)), v19_36, v19_37, v19_38, v19_39, v19_40])), (q_tp, .inl (cT, 8192, .inl (fun j : Nat => zI (a0_9 (j : Int)))))] := hD
    have hK : va_K (dC, dI) vwQ [(cT, .byte)] s := hK
    refine W.widen (k := 0) (n := 0) (Nat.le_of_ble_eq_true rfl) (Nat.le_of_ble_eq_true rfl) ?_
    have rk_10 := hxt_9
    refine lv_aload_n hx hb dX19_feed_82 rfl (lv_at hl 0 rfl) ?_
    refine lv_dup hx hb dX19_feed_83 rfl ?_
    refine va_get (D := (dC, dI)) (ci := 16) (v := .int (zI (z19_size))) (C := RX19) (T := TX19) (N := 41) hx hb hts mem_X19_feedT_0 hown hK hP 0 rfl rfl 35 (by decide) (ow (k := 1) rfl) (fun _ h9 => h9) rfl dX19_feed_84 ?_
    refine lv_bipush (v := 20) hx hb dX19_feed_87 (by decide) ?_
    refine lv_iadd hx hb dX19_feed_89 ?_
    refine lv_topi (fun z ez => ?_)
    obtain rfl : z = zI (z19_size + 20) := ez.trans (zI_add (z19_size) (20))
    refine va_put (D := (dC, dI)) (ci := 16) (v := .int (zI (z19_size + 20))) (ty := .int) (C := RX19) (T := TX19) (N := 41) hx hb hts mem_X19_feedT_0 tyX19 tyX19_ok nmX19 hown hK hP hD hS 0 rfl rfl 35 (by decide) (ow (k := 1) rfl) (fun _ h9 => h9) rfl (by decide +kernel) rfl rfl (Nat.le_of_ble_eq_true rfl) dX19_feed_90 (fun H locs hP hD hS => ?_)
    have hP : va_P (dC, dI) vwQ [(h0, .inr (16, [v19_0, v19_1, v19_2, v19_3, v19_4, v19_5, v19_6, v19_7, v19_8, v19_9, v19_10, v19_11, v19_12, v19_13, v19_14, v19_15, v19_16, v19_17, v19_18, v19_19, v19_20, v19_21, v19_22, v19_23, v19_24, v19_25, v19_26, v19_27, v19_28, v19_29, v19_30, v19_31, v19_32, .int 0, .ref q_tp, .int (zI (z19_size + 20)), v19_36, v19_37, v19_38, v19_39, v19_40])), (q_tp, .inl (cT, 8192, .inl (fun j : Nat => zI (a0_9 (j : Int)))))] H := hP
    have hD : va_D A [(h0, .inr (16, [v19_0, v19_1, v19_2, v19_3, v19_4, v19_5, v19_6, v19_7, v19_8, v19_9, v19_10, v19_11, v19_12, v19_13, v19_14, v19_15, v19_16, v19_17, v19_18, v19_19, v19_20, v19_21, v19_22, v19_23, v19_24, v19_25, v19_26, v19_27, v19_28, v19_29, v19_30, v19_31, v19_32, .int 0, .ref q_tp, .int (zI (z19_size + 20)), v19_36, v19_37, v19_38, v19_39, v19_40])), (q_tp, .inl (cT, 8192, .inl (fun j : Nat => zI (a0_9 (j : Int)))))] := hD
    obtain ⟨z_11, ez_11⟩ : ∃ z9 : Int, z9 = z19_size + 20 := ⟨_, rfl⟩
    rw [← ez_11] at hP hD
    have hP : va_P (dC, dI) vwQ [(h0, .inr (16, [v19_0, v19_1, v19_2, v19_3, v19_4, v19_5, v19_6, v19_7, v19_8, v19_9, v19_10, v19_11, v19_12, v19_13, v19_14, v19_15, v19_16, v19_17, v19_18, v19_19, v19_20, v19_21, v19_22, v19_23, v19_24, v19_25, v19_26, v19_27, v19_28, v19_29, v19_30, v19_31, v19_32, .int 0, .ref q_tp, .int (zI (z_11)), v19_36, v19_37, v19_38, v19_39, v19_40])), (q_tp, .inl (cT, 8192, .inl (fun j : Nat => zI (a0_9 (j : Int)))))] H := hP
    have hD : va_D A [(h0, .inr (16, [v19_0, v19_1, v19_2, v19_3, v19_4, v19_5, v19_6, v19_7, v19_8, v19_9, v19_10, v19_11, v19_12, v19_13, v19_14, v19_15, v19_16, v19_17, v19_18, v19_19, v19_20, v19_21, v19_22, v19_23, v19_24, v19_25, v19_26, v19_27, v19_28, v19_29, v19_30, v19_31, v19_32, .int 0, .ref q_tp, .int (zI (z_11)), v19_36, v19_37, v19_38, v19_39, v19_40])), (q_tp, .inl (cT, 8192, .inl (fun j : Nat => zI (a0_9 (j : Int)))))] := hD
    refine lv_aload_n hx hb dX19_feed_93 rfl (lv_at hl 0 rfl) ?_
    refine va_get (D := (dC, dI)) (ci := 16) (v := .int (zI (z_11))) (C := RX19) (T := TX19) (N := 41) hx hb hts mem_X19_feedT_0 hown hK hP 0 rfl rfl 35 (by decide) (ow (k := 1) rfl) (fun _ h9 => h9) rfl dX19_feed_94 ?_
    subst hQ
    refine W.widen (k := 0) (n := 0) (Nat.le_of_ble_eq_true rfl) (Nat.le_of_ble_eq_true rfl) ?_
    exact W.iret (v := (zI (z_11))) hx hb hr (fun t ht hW => ⟨⟨(zI (z_11)), (z_11), rfl, ⟨rfl, (by omega)⟩, 0, z_11, a0_9, ⟨(by omega), (by omega), rk_10, ⟨fun q9 => by omega, fun q9 => by omega⟩⟩, by rw [ht]; exact hP, va_K.moved hW.alike hK, hD⟩, hS.F ht⟩) hS.2.2 dX19_feed_97
  · have yb15 : ¬ (z19_size + 20 : Int) ≤ (8192 : Int) := fun q => b15 ((zI_le (a := z19_size + 20) (b := 8192) (by omega) (by omega) (by omega) (by omega)).mpr q)
    refine lv_aload_n hx hb dX19_feed_18 rfl (lv_at hl 0 rfl) ?_
    refine lv_iconst (v := 1) hx hb dX19_feed_19 (by decide) ?_
    have hPc := hP.sub (ws' := [(h0, .inr (16, [v19_0, v19_1, v19_2, v19_3, v19_4, v19_5, v19_6, v19_7, v19_8, v19_9, v19_10, v19_11, v19_12, v19_13, v19_14, v19_15, v19_16, v19_17, v19_18, v19_19, v19_20, v19_21, v19_22, v19_23, v19_24, v19_25, v19_26, v19_27, v19_28, v19_29, v19_30, v19_31, v19_32, .int (zI (0)), .ref q_tp, .int (zI (z19_size)), v19_36, v19_37, v19_38, v19_39, v19_40]))]) [0] rfl
    have hDc := hD.sub (ws' := [(h0, .inr (16, [v19_0, v19_1, v19_2, v19_3, v19_4, v19_5, v19_6, v19_7, v19_8, v19_9, v19_10, v19_11, v19_12, v19_13, v19_14, v19_15, v19_16, v19_17, v19_18, v19_19, v19_20, v19_21, v19_22, v19_23, v19_24, v19_25, v19_26, v19_27, v19_28, v19_29, v19_30, v19_31, v19_32, .int (zI (0)), .ref q_tp, .int (zI (z19_size)), v19_36, v19_37, v19_38, v19_39, v19_40]))]) [0] (by decide) rfl
    have hKc := hK.sub (tys' := []) [] rfl
    have hFc := va_free (wc := [(h0, .inr (16, [v19_0, v19_1, v19_2, v19_3, v19_4, v19_5, v19_6, v19_7, v19_8, v19_9, v19_10, v19_11, v19_12, v19_13, v19_14, v19_15, v19_16, v19_17, v19_18, v19_19, v19_20, v19_21, v19_22, v19_23, v19_24, v19_25, v19_26, v19_27, v19_28, v19_29, v19_30, v19_31, v19_32, .int (zI (0)), .ref q_tp, .int (zI (z19_size)), v19_36, v19_37, v19_38, v19_39, v19_40]))]) hD hS hA [0] rfl
    refine va_calli (va_runV (As := [.int 1]) (rest := []) ⟨hx, hb, hml, hown, hts⟩ (c_X19_no l dC dI h0 v19_0 v19_1 v19_2 v19_3 v19_4 v19_5 v19_6 v19_7 v19_8 v19_9 v19_10 v19_11 v19_12 v19_13 v19_14 v19_15 v19_16 v19_17 v19_18 v19_19 v19_20 v19_21 v19_22 v19_23 v19_24 v19_25 v19_26 v19_27 v19_28 v19_29 v19_30 v19_31 v19_32 0 (.ref q_tp) (.int (zI (z19_size))) v19_36 v19_37 v19_38 v19_39 v19_40 1 (by omega) (by omega) H.size) (cwV 1 hts g_X19_feedT_X19_no rfl rfl rfl (by decide +kernel) ⟨(Nat.le_of_ble_eq_true rfl), (Nat.le_of_ble_eq_true rfl)⟩) ⟨fun a U g mk q => by obtain ⟨q0, q1, qP, qK, qD⟩ := q; exact ⟨q0, q1, qP, va_K.moved (u := U) (U := U.calling g mk a) (Vm.Alike.refl U.vm) qK, qD⟩, va_recv hKc hPc (ci := 16) (q0 := 0) rfl rfl, fun U hU hW => ⟨rfl, by rw [hU], by rw [hU]; exact hPc, va_K.moved hW.alike hKc, hDc.weaken (fun _ _ _ _ => trivial)⟩⟩ rfl rfl hl.1 rfl (lv_room (Nat.le_of_ble_eq_true rfl)) dX19_feed_20 ⟨(Nat.le_of_ble_eq_true rfl), (Nat.le_of_ble_eq_true rfl)⟩) hS (fun q _ h => hFc q h) hFc (fun r_12 z_13 t H1 locs ht hvm hw hB hz1 hk1 hS => ?_)
    obtain ⟨z0_14, hxt_14, hP1, hK1, hD1⟩ := hB
    rw [ht] at hP1
    have hK1 := va_K.moved hvm.symm hK1
    obtain ⟨hP, hD⟩ := va_join (wr := [(q_tp, .inl (cT, 8192, .inl (fun j : Nat => zI (a_tp (j : Int)))))]) (w1 := [(h0, .inr (16, [v19_0, v19_1, v19_2, v19_3, v19_4, v19_5, v19_6, v19_7, v19_8, v19_9, v19_10, v19_11, v19_12, v19_13, v19_14, v19_15, v19_16, v19_17, v19_18, v19_19, v19_20, v19_21, v19_22, v19_23, v19_24, v19_25, v19_26, v19_27, v19_28, v19_29, v19_30, v19_31, v19_32, .int (zI (z0_14)), .ref q_tp, .int (zI (z19_size)), v19_36, v19_37, v19_38, v19_39, v19_40]))]) hP hD [0] [1] rfl rfl (by decide) (by decide) hk1 hFc hP1 hD1
    have hK := (hK.sub (tys' := [(cT, .byte)]) [0] rfl).app hK1
    generalize H1 = H at hP hS ⊢
    have hP : va_P (dC, dI) vwQ [(q_tp, .inl (cT, 8192, .inl (fun j : Nat => zI (a_tp (j : Int))))), (h0, .inr (16, [v19_0, v19_1, v19_2, v19_3, v19_4, v19_5, v19_6, v19_7, v19_8, v19_9, v19_10, v19_11, v19_12, v19_13, v19_14, v19_15, v19_16, v19_17, v19_18, v19_19, v19_20, v19_21, v19_22, v19_23, v19_24, v19_25, v19_26, v19_27, v19_28, v19_29, v19_30, v19_31, v19_32, .int (zI (z0_14)), .ref q_tp, .int (zI (z19_size)), v19_36, v19_37, v19_38, v19_39, v19_40]))] H := hP
    have hD : va_D A [(q_tp, .inl (cT, 8192, .inl (fun j : Nat => zI (a_tp (j : Int))))), (h0, .inr (16, [v19_0, v19_1, v19_2, v19_3, v19_4, v19_5, v19_6, v19_7, v19_8, v19_9, v19_10, v19_11, v19_12, v19_13, v19_14, v19_15, v19_16, v19_17, v19_18, v19_19, v19_20, v19_21, v19_22, v19_23, v19_24, v19_25, v19_26, v19_27, v19_28, v19_29, v19_30, v19_31, v19_32, .int (zI (z0_14)), .ref q_tp, .int (zI (z19_size)), v19_36, v19_37, v19_38, v19_39, v19_40]))] := hD
    have hK : va_K (dC, dI) vwQ [(cT, .byte)] s := hK
    refine W.widen (k := 0) (n := 0) (Nat.le_of_ble_eq_true rfl) (Nat.le_of_ble_eq_true rfl) ?_
    obtain ⟨rfl, hzz_13⟩ := hw
    obtain ⟨rk_15, hu_15⟩ := hxt_14
    subst hQ
    have hP := hP.sub (ws' := [(h0, .inr (16, [v19_0, v19_1, v19_2, v19_3, v19_4, v19_5, v19_6, v19_7, v19_8, v19_9, v19_10, v19_11, v19_12, v19_13, v19_14, v19_15, v19_16, v19_17, v19_18, v19_19, v19_20, v19_21, v19_22, v19_23, v19_24, v19_25, v19_26, v19_27, v19_28, v19_29, v19_30, v19_31, v19_32, .int (zI (z0_14)), .ref q_tp, .int (zI (z19_size)), v19_36, v19_37, v19_38, v19_39, v19_40])), (q_tp, .inl (cT, 8192, .inl (fun j : Nat => zI (a_tp (j : Int)))))]) [1, 0] rfl
    have hD := hD.sub (ws' := [(h0, .inr (16, [v19_0, v19_1, v19_2, v19_3, v19_4, v19_5, v19_6, v19_7, v19_8, v19_9, v19_10, v19_11, v19_12, v19_13, v19_14, v19_15, v19_16, v19_17, v19_18, v19_19, v19_20, v19_21, v19_22, v19_23, v19_24, v19_25, v19_26, v19_27, v19_28, v19_29, v19_30, v19_31, v19_32, .int (zI (z0_14)), .ref q_tp, .int (zI (z19_size)), v19_36, v19_37, v19_38, v19_39, v19_40])), (q_tp, .inl (cT, 8192, .inl (fun j : Nat => zI (a_tp (j : Int)))))]) [1, 0] (by decide) rfl
    refine W.widen (k := 0) (n := 0) (Nat.le_of_ble_eq_true rfl) (Nat.le_of_ble_eq_true rfl) ?_
    exact W.iret (v := (zI (z_13))) hx hb hr (fun t ht hW => ⟨⟨(zI (z_13)), (z_13), rfl, ⟨rfl, (by omega)⟩, z0_14, z19_size, a_tp, ⟨(by omega), (by omega), hR_a_tp, ⟨fun q9 => by omega, fun q9 => by omega⟩⟩, by rw [ht]; exact hP, va_K.moved hW.alike hK, hD⟩, hS.F ht⟩) hS.2.2 dX19_feed_23
