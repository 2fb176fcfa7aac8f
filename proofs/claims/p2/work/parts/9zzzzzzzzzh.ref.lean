def o_X19_isOperandE : List Cond := [.fieldLink RX19 404 "SsaForgeModel" "moves" "I", .fieldLink RX19 419 "SsaForgeModel" "movesReg" "[Z", .fieldLink RX19 416 "SsaForgeModel" "movesOf" "[I"]
def v_X19_isOperandE : List Cond := .code yX19_isOperand cX19_isOperand 3 (some .boolean) :: (o_X19_isOperandE ++ (wsX190 ++ []))
theorem mow_X19_isOperandE : ∀ w ∈ o_X19_isOperandE, w ∈ v_X19_isOperandE := fun _ h => List.mem_cons_of_mem _ (List.mem_append_left _ h)
theorem mem_X19_isOperandE_0 : ∀ w ∈ wsX190, w ∈ v_X19_isOperandE := fun _ h => List.mem_cons_of_mem _ (List.mem_append_right _ (List.mem_append_left _ h))
set_option maxRecDepth 20000 in
theorem gw_X19_isOperandE : v_X19_isOperandE.all goodWord = true := by decide +kernel
set_option maxHeartbeats 4000000 in
set_option maxRecDepth 100000 in
theorem c_X19_isOperandE (l : Launch) (dC : Nat → ClassId) (dI : Nat → Nat → Nat) (h0 : Nat) (v19_0 : Value) (v19_1 : Value) (v19_2 : Value) (v19_3 : Value) (v19_4 : Value) (v19_5 : Value) (v19_6 : Value) (v19_7 : Value) (v19_8 : Value) (v19_9 : Value) (v19_10 : Value) (v19_11 : Value) (v19_12 : Value) (v19_13 : Value) (v19_14 : Value) (v19_15 : Value) (v19_16 : Value) (v19_17 : Value) (v19_18 : Value) (v19_19 : Value) (v19_20 : Value) (z19_moves : Int) (v19_24 : Value) (v19_25 : Value) (v19_26 : Value) (v19_27 : Value) (v19_28 : Value) (v19_29 : Value) (v19_30 : Value) (v19_31 : Value) (v19_32 : Value) (v19_33 : Value) (v19_34 : Value) (v19_35 : Value) (v19_36 : Value) (v19_37 : Value) (v19_38 : Value) (v19_39 : Value) (v19_40 : Value) (q_1921 : Nat) (cA_1921 : ClassId) (n19_movesOf : Nat) (a19_movesOf : Int → Int) (q_1922 : Nat) (cA_1922 : ClassId) (n19_movesReg : Nat) (a19_movesReg : Int → Int) (r0 : Int) (hNz19_moves : 0 ≤ z19_moves ∧ z19_moves ≤ 4000) (hNn19_movesOf : n19_movesOf ≤ 10000) (hR_a19_movesOf : ∀ j : Int, -2147483648 ≤ a19_movesOf j ∧ a19_movesOf j ≤ 2147483647) (hNn19_movesReg : n19_movesReg ≤ 10000) (hR_a19_movesReg : ∀ j : Int, 0 ≤ a19_movesReg j ∧ a19_movesReg j ≤ 1) (hNr : 0 ≤ r0 ∧ r0 ≤ 1001 ∧ z19_moves ≤ n19_movesOf ∧ z19_moves ≤ n19_movesReg) (sz : Nat) : Met l yX19_isOperand v_X19_isOperandE ({ frames := 0, cells := 0, slots := 0, locals := 0 }) (va_Pc [.ref h0, .int (zI (r0))] (fun U => U.heap.size = sz ∧ va_P (dC, dI) vwQ [(h0, .inr (16, [v19_0, v19_1, v19_2, v19_3, v19_4, v19_5, v19_6, v19_7, v19_8, v19_9, v19_10, v19_11, v19_12, v19_13, v19_14, v19_15, v19_16, v19_17, v19_18, v19_19, v19_20, .ref q_1921, .ref q_1922, .int (zI (z19_moves)), v19_24, v19_25, v19_26, v19_27, v19_28, v19_29, v19_30, v19_31, v19_32, v19_33, v19_34, v19_35, v19_36, v19_37, v19_38, v19_39, v19_40])), (q_1921, .inl (cA_1921, n19_movesOf, .inl (fun j : Nat => zI (a19_movesOf (j : Int))))), (q_1922, .inl (cA_1922, n19_movesReg, .inl (fun j : Nat => zI (a19_movesReg (j : Int)))))] U.heap ∧ va_K (dC, dI) vwQ [(cA_1921, .int), (cA_1922, .boolean)] U ∧ va_D (fun _ => True) [(h0, .inr (16, [v19_0, v19_1, v19_2, v19_3, v19_4, v19_5, v19_6, v19_7, v19_8, v19_9, v19_10, v19_11, v19_12, v19_13, v19_14, v19_15, v19_16, v19_17, v19_18, v19_19, v19_20, .ref q_1921, .ref q_1922, .int (zI (z19_moves)), v19_24, v19_25, v19_26, v19_27, v19_28, v19_29, v19_30, v19_31, v19_32, v19_33, v19_34, v19_35, v19_36, v19_37, v19_38, v19_39, v19_40])), (q_1921, .inl (cA_1921, n19_movesOf, .inl (fun j : Nat => zI (a19_movesOf (j : Int))))), (q_1922, .inl (cA_1922, n19_movesReg, .inl (fun j : Nat => zI (a19_movesReg (j : Int)))))])) (va_Qi (fun (r : Int32) (_ : Unit) => ∃ z : Int, r = zI z ∧ ((0 ≤ z ∧ z ≤ 1) ∧ (z = 1 → IOP a19_movesReg a19_movesOf z19_moves r0) ∧ (z = 0 → ¬ IOP a19_movesReg a19_movesOf z19_moves r0))) (fun (_ : Unit) (t : State) => va_P (dC, dI) vwQ [(h0, .inr (16, [v19_0, v19_1, v19_2, v19_3, v19_4, v19_5, v19_6, v19_7, v19_8, v19_9, v19_10, v19_11, v19_12, v19_13, v19_14, v19_15, v19_16, v19_17, v19_18, v19_19, v19_20, .ref q_1921, .ref q_1922, .int (zI (z19_moves)), v19_24, v19_25, v19_26, v19_27, v19_28, v19_29, v19_30, v19_31, v19_32, v19_33, v19_34, v19_35, v19_36, v19_37, v19_38, v19_39, v19_40])), (q_1921, .inl (cA_1921, n19_movesOf, .inl (fun j : Nat => zI (a19_movesOf (j : Int))))), (q_1922, .inl (cA_1922, n19_movesReg, .inl (fun j : Nat => zI (a19_movesReg (j : Int)))))] t.heap ∧ va_K (dC, dI) vwQ [(cA_1921, .int), (cA_1922, .boolean)] t ∧ va_D (va_A [(h0, .inr (16, [v19_0, v19_1, v19_2, v19_3, v19_4, v19_5, v19_6, v19_7, v19_8, v19_9, v19_10, v19_11, v19_12, v19_13, v19_14, v19_15, v19_16, v19_17, v19_18, v19_19, v19_20, .ref q_1921, .ref q_1922, .int (zI (z19_moves)), v19_24, v19_25, v19_26, v19_27, v19_28, v19_29, v19_30, v19_31, v19_32, v19_33, v19_34, v19_35, v19_36, v19_37, v19_38, v19_39, v19_40])), (q_1921, .inl (cA_1921, n19_movesOf, .inl (fun j : Nat => zI (a19_movesOf (j : Int))))), (q_1922, .inl (cA_1922, n19_movesReg, .inl (fun j : Nat => zI (a19_movesReg (j : Int)))))] sz) [(h0, .inr (16, [v19_0, v19_1, v19_2, v19_3, v19_4, v19_5, v19_6, v19_7, v19_8, v19_9, v19_10, v19_11, v19_12, v19_13, v19_14, v19_15, v19_16, v19_17, v19_18, v19_19, v19_20, .ref q_1921, .ref q_1922, .int (zI (z19_moves)), v19_24, v19_25, v19_26, v19_27, v19_28, v19_29, v19_30, v19_31, v19_32, v19_33, v19_34, v19_35, v19_36, v19_37, v19_38, v19_39, v19_40])), (q_1921, .inl (cA_1921, n19_movesOf, .inl (fun j : Nat => zI (a19_movesOf (j : Int))))), (q_1922, .inl (cA_1922, n19_movesReg, .inl (fun j : Nat => zI (a19_movesReg (j : Int)))))]) (va_A [(h0, .inr (16, [v19_0, v19_1, v19_2, v19_3, v19_4, v19_5, v19_6, v19_7, v19_8, v19_9, v19_10, v19_11, v19_12, v19_13, v19_14, v19_15, v19_16, v19_17, v19_18, v19_19, v19_20, .ref q_1921, .ref q_1922, .int (zI (z19_moves)), v19_24, v19_25, v19_26, v19_27, v19_28, v19_29, v19_30, v19_31, v19_32, v19_33, v19_34, v19_35, v19_36, v19_37, v19_38, v19_39, v19_40])), (q_1921, .inl (cA_1921, n19_movesOf, .inl (fun j : Nat => zI (a19_movesOf (j : Int))))), (q_1922, .inl (cA_1922, n19_movesReg, .inl (fun j : Nat => zI (a19_movesReg (j : Int)))))] sz)) 0 0 (va_A [(h0, .inr (16, [v19_0, v19_1, v19_2, v19_3, v19_4, v19_5, v19_6, v19_7, v19_8, v19_9, v19_10, v19_11, v19_12, v19_13, v19_14, v19_15, v19_16, v19_17, v19_18, v19_19, v19_20, .ref q_1921, .ref q_1922, .int (zI (z19_moves)), v19_24, v19_25, v19_26, v19_27, v19_28, v19_29, v19_30, v19_31, v19_32, v19_33, v19_34, v19_35, v19_36, v19_37, v19_38, v19_39, v19_40])), (q_1921, .inl (cA_1921, n19_movesOf, .inl (fun j : Nat => zI (a19_movesOf (j : Int))))), (q_1922, .inl (cA_1922, n19_movesReg, .inl (fun j : Nat => zI (a19_movesReg (j : Int)))))] sz) := by
  refine Met.ofW (cc := cX19_isOperand) (maxL := 3) (ret := (some .boolean)) (by decide) rfl ?_
  intro p e s m args below meth c s₁ B hml hv
  obtain ⟨rfl, hsz, hP, hK, hD0⟩ := hv
  have hx := B.exec
  have hb := B.bytes
  have hr := B.returns
  have hts := atoms_spec (ws := v_X19_isOperandE) B.pre
  have hown : s.vm.findClass RX19 = some m.cls := findClass_of_methodNamed B.named
  have hlocks := B.notSynchronized
  have ow : ∀ {k : Nat} {w : Cond}, o_X19_isOperandE[k]? = some w → w.before ([.ref h0, .int (zI (r0))] : List Value).toArray s = true := fun h => hts _ (mow_X19_isOperandE _ (List.mem_of_getElem? h))
  subst hsz
  have hD := hD0.self (sz := s.heap.size)
  generalize hAe : va_A [(h0, .inr (16, [v19_0, v19_1, v19_2, v19_3, v19_4, v19_5, v19_6, v19_7, v19_8, v19_9, v19_10, v19_11, v19_12, v19_13, v19_14, v19_15, v19_16, v19_17, v19_18, v19_19, v19_20, .ref q_1921, .ref q_1922, .int (zI (z19_moves)), v19_24, v19_25, v19_26, v19_27, v19_28, v19_29, v19_30, v19_31, v19_32, v19_33, v19_34, v19_35, v19_36, v19_37, v19_38, v19_39, v19_40])), (q_1921, .inl (cA_1921, n19_movesOf, .inl (fun j : Nat => zI (a19_movesOf (j : Int))))), (q_1922, .inl (cA_1922, n19_movesReg, .inl (fun j : Nat => zI (a19_movesReg (j : Int)))))] s.heap.size = A at hD ⊢
  have hA : ∀ q : Nat, s.heap.size ≤ q → A q := fun q h => by rw [← hAe]; exact Or.inr h
  have hS : va_S A s.heap s.heap [] := va_S.rf
  have hP : va_P (dC, dI) vwQ [(h0, .inr (16, [v19_0, v19_1, v19_2, v19_3, v19_4, v19_5, v19_6, v19_7, v19_8, v19_9, v19_10, v19_11, v19_12, v19_13, v19_14, v19_15, v19_16, v19_17, v19_18, v19_19, v19_20, .ref q_1921, .ref q_1922, .int (zI (z19_moves)), v19_24, v19_25, v19_26, v19_27, v19_28, v19_29, v19_30, v19_31, v19_32, v19_33, v19_34, v19_35, v19_36, v19_37, v19_38, v19_39, v19_40])), (q_1921, .inl (cA_1921, n19_movesOf, .inl (fun j : Nat => zI (a19_movesOf (j : Int))))), (q_1922, .inl (cA_1922, n19_movesReg, .inl (fun j : Nat => zI (a19_movesReg (j : Int)))))] s.heap := hP
  have hl := lv_entry ([.ref h0, .int (zI (r0))]) (n := 3) (Nat.le_of_ble_eq_true rfl)
  rw [lg_entry_eq]
  generalize (lg_sl ([.ref h0, .int (zI (r0))]) ++ List.replicate (3 - (lg_sl ([.ref h0, .int (zI (r0))])).length) Slot.unset).toArray = ls at hl ⊢
  have hl : lv_has ls 3 [(0, .ref h0), (1, .int (zI (r0)))] := hl
  obtain ⟨H, hH⟩ : ∃ H, H = s.heap := ⟨_, rfl⟩
  rw [← hH] at hP
  have hS : va_S A s.heap H [] := by rw [hH]; exact hS
  rw [← hH]
  refine zW_cap (fun Q hQ => ?_)
  refine lv_iconst (v := 0) hx hb dX19_isOperand_0 (by decide) ?_
  refine lv_istore_n (lv' := [(2, .int 0), (0, .ref h0), (1, .int (zI (r0)))]) hx hb dX19_isOperand_1 rfl hl (by decide) rfl (fun ls hl => ?_)
  have key2 : ∀ n2 : Nat, ∀ (d2_2 : Int) (ls : Array Slot) (H : Heap) (locs : List Loc), (0 ≤ d2_2 ∧ d2_2 ≤ 1000000000) → (NOP a19_movesReg a19_movesOf (d2_2) r0) → ((z19_moves - d2_2 : Int).toNat) < n2 → lv_has ls 3 [(0, .ref h0), (1, .int (zI (r0))), (2, .int (zI (d2_2)))] → va_P (dC, dI) vwQ [(h0, .inr (16, [v19_0, v19_1, v19_2, v19_3, v19_4, v19_5, v19_6, v19_7, v19_8, v19_9, v19_10, v19_11, v19_12, v19_13, v19_14, v19_15, v19_16, v19_17, v19_18, v19_19, v19_20, .ref q_1921, .ref q_1922, .int (zI (z19_moves)), v19_24, v19_25, v19_26, v19_27, v19_28, v19_29, v19_30, v19_31, v19_32, v19_33, v19_34, v19_35, v19_36, v19_37, v19_38, v19_39, v19_40])), (q_1921, .inl (cA_1921, n19_movesOf, .inl (fun j : Nat => zI (a19_movesOf (j : Int))))), (q_1922, .inl (cA_1922, n19_movesReg, .inl (fun j : Nat => zI (a19_movesReg (j : Int)))))] H → va_D A [(h0, .inr (16, [v19_0, v19_1, v19_2, v19_3, v19_4, v19_5, v19_6, v19_7, v19_8, v19_9, v19_10, v19_11, v19_12, v19_13, v19_14, v19_15, v19_16, v19_17, v19_18, v19_19, v19_20, .ref q_1921, .ref q_1922, .int (zI (z19_moves)), v19_24, v19_25, v19_26, v19_27, v19_28, v19_29, v19_30, v19_31, v19_32, v19_33, v19_34, v19_35, v19_36, v19_37, v19_38, v19_39, v19_40])), (q_1921, .inl (cA_1921, n19_movesOf, .inl (fun j : Nat => zI (a19_movesOf (j : Int))))), (q_1922, .inl (cA_1922, n19_movesReg, .inl (fun j : Nat => zI (a19_movesReg (j : Int)))))] → va_S A s.heap H locs → W p l e (headSpec v_X19_isOperandE ({ frames := 0, cells := 0, slots := 0, locals := 0 })).room s m ([.ref h0, .int (zI (r0))] : List Value).toArray below meth c H locs 0 0 Q (F0 m 2 ls []) := by
    intro n2
    induction n2 with
    | zero => intro d2_2 ls H locs jd2_2 jn hm2; exact absurd hm2 (by omega)
    | succ n2 ih2 =>
      intro d2_2 ls H locs jd2_2 jn hm2 hl hP hD hS
      refine lv_iload_n hx hb dX19_isOperand_2 rfl (lv_at hl 2 rfl) ?_
      refine lv_aload_n hx hb dX19_isOperand_3 rfl (lv_at hl 0 rfl) ?_
      refine va_get (D := (dC, dI)) (ci := 16) (v := .int (zI (z19_moves))) (C := RX19) (T := TX19) (N := 41) hx hb hts mem_X19_isOperandE_0 hown hK hP 0 rfl rfl 23 (by decide) (ow (k := 0) rfl) (fun _ h9 => h9) rfl dX19_isOperand_4 ?_
      refine lv_icmp_ge (tgt := 37) hx hb dX19_isOperand_7 (by decide) (fun b7 => ?_) (fun b7 => ?_)
      · have yb7 : (z19_moves : Int) ≤ (d2_2 : Int) := (zI_le (a := z19_moves) (b := d2_2) (by omega) (by omega) (by omega) (by omega)).mp b7
        refine lv_iconst (v := 0) hx hb dX19_isOperand_37 (by decide) ?_
        subst hQ
        refine W.widen (k := 0) (n := 0) (Nat.le_of_ble_eq_true rfl) (Nat.le_of_ble_eq_true rfl) ?_
        exact W.zret (v := 0) hx hb hr (by decide) (fun t ht hW => ⟨⟨0, (), rfl, ⟨0, rfl, ⟨by omega, (fun q9 => absurd q9 (by decide)), (fun _ => jn.not (by omega))⟩⟩, by rw [ht]; exact hP, va_K.moved hW.alike hK, hD⟩, hS.F ht⟩) hS.2.2 dX19_isOperand_38
      · have yb7 : ¬ (z19_moves : Int) ≤ (d2_2 : Int) := fun q => b7 ((zI_le (a := z19_moves) (b := d2_2) (by omega) (by omega) (by omega) (by omega)).mpr q)
        refine lv_aload_n hx hb dX19_isOperand_10 rfl (lv_at hl 0 rfl) ?_
        refine va_get (D := (dC, dI)) (ci := 16) (v := .ref q_1922) (C := RX19) (T := TX19) (N := 41) hx hb hts mem_X19_isOperandE_0 hown hK hP 0 rfl rfl 22 (by decide) (ow (k := 1) rfl) (fun _ h9 => h9) rfl dX19_isOperand_11 ?_
        refine lv_iload_n hx hb dX19_isOperand_14 rfl (lv_at hl 2 rfl) ?_
        refine va_zald hx hb hK hP 2 1 rfl rfl (zI_in (a := d2_2) (n := n19_movesReg) (by omega) (by omega) (by omega)) dX19_isOperand_15 ?_
        refine lv_topi (fun z ez => ?_)
        obtain rfl : z = zI (a19_movesReg (d2_2)) := ez.trans (zI_ld (a19_movesReg) (by omega) (by omega))
        have k1 := hR_a19_movesReg (d2_2)
        refine lv_if_eq (tgt := 31) hx hb dX19_isOperand_16 (by decide) (fun b16 => ?_) (fun b16 => ?_)
        · have yb16 : (a19_movesReg (d2_2) : Int) = (0 : Int) := (zI_eq (a := a19_movesReg (d2_2)) (b := 0) (by omega) (by omega) (by omega) (by omega)).mp b16
          refine lv_iinc (v := zI (d2_2 + 1)) (lv' := [(2, .int (zI (d2_2 + 1))), (0, .ref h0), (1, .int (zI (r0)))]) hx hb dX19_isOperand_31 hl (k := 2) rfl (zI_add (d2_2) (1)) (by decide) rfl (fun ls hl => ?_)
          refine lv_goto (tgt := 2) hx hb dX19_isOperand_34 (by decide) ?_
          exact ih2 (d2_2 + 1) ls H _ (by omega) (jn.step (by first | exact Or.inl (by omega) | exact Or.inr (by omega))) (by omega) (lv_sub hl [1, 2, 0] rfl) hP hD hS
        · have yb16 : ¬ (a19_movesReg (d2_2) : Int) = (0 : Int) := fun q => b16 ((zI_eq (a := a19_movesReg (d2_2)) (b := 0) (by omega) (by omega) (by omega) (by omega)).mpr q)
          refine lv_aload_n hx hb dX19_isOperand_19 rfl (lv_at hl 0 rfl) ?_
          refine va_get (D := (dC, dI)) (ci := 16) (v := .ref q_1921) (C := RX19) (T := TX19) (N := 41) hx hb hts mem_X19_isOperandE_0 hown hK hP 0 rfl rfl 21 (by decide) (ow (k := 2) rfl) (fun _ h9 => h9) rfl dX19_isOperand_20 ?_
          refine lv_iload_n hx hb dX19_isOperand_23 rfl (lv_at hl 2 rfl) ?_
          refine va_iald hx hb hK hP 1 0 rfl rfl (zI_in (a := d2_2) (n := n19_movesOf) (by omega) (by omega) (by omega)) dX19_isOperand_24 ?_
          refine lv_topi (fun z ez => ?_)
          obtain rfl : z = zI (a19_movesOf (d2_2)) := ez.trans (zI_ld (a19_movesOf) (by omega) (by omega))
          have k2 := hR_a19_movesOf (d2_2)
          refine lv_iload_n hx hb dX19_isOperand_25 rfl (lv_at hl 1 rfl) ?_
          refine lv_icmp_ne (tgt := 31) hx hb dX19_isOperand_26 (by decide) (fun b26 => ?_) (fun b26 => ?_)
          · have yb26 : ¬ (a19_movesOf (d2_2) : Int) = (r0 : Int) := fun q => b26 ((zI_eq (a := a19_movesOf (d2_2)) (b := r0) (by omega) (by omega) (by omega) (by omega)).mpr q)
            refine lv_iinc (v := zI (d2_2 + 1)) (lv' := [(2, .int (zI (d2_2 + 1))), (0, .ref h0), (1, .int (zI (r0)))]) hx hb dX19_isOperand_31 hl (k := 2) rfl (zI_add (d2_2) (1)) (by decide) rfl (fun ls hl => ?_)
            refine lv_goto (tgt := 2) hx hb dX19_isOperand_34 (by decide) ?_
            exact ih2 (d2_2 + 1) ls H _ (by omega) (jn.step (by first | exact Or.inl (by omega) | exact Or.inr (by omega))) (by omega) (lv_sub hl [1, 2, 0] rfl) hP hD hS
          · have yb26 : (a19_movesOf (d2_2) : Int) = (r0 : Int) := (zI_eq (a := a19_movesOf (d2_2)) (b := r0) (by omega) (by omega) (by omega) (by omega)).mp b26
            refine lv_iconst (v := 1) hx hb dX19_isOperand_29 (by decide) ?_
            subst hQ
            refine W.widen (k := 0) (n := 0) (Nat.le_of_ble_eq_true rfl) (Nat.le_of_ble_eq_true rfl) ?_
            exact W.zret (v := 1) hx hb hr (by decide) (fun t ht hW => ⟨⟨1, (), rfl, ⟨1, rfl, ⟨by omega, (fun _ => ⟨d2_2, by omega, by omega, by omega, by omega⟩), (fun q9 => absurd q9 (by decide))⟩⟩, by rw [ht]; exact hP, va_K.moved hW.alike hK, hD⟩, hS.F ht⟩) hS.2.2 dX19_isOperand_30
  exact key2 ((z19_moves - 0 : Int).toNat + 1) 0 ls H _ (by omega) (NOP.zero _ _ _) (by omega) (lv_sub hl [1, 2, 0] rfl) hP hD hS
