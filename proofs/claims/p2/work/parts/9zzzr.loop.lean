def o_X0_moveRowM : List Cond := [.fieldLink RX0 28 "SsaForge$Code" "op" "[I", .fieldLink RX0 31 "SsaForge$Code" "target" "[I", .fieldLink RX0 34 "SsaForge$Code" "left" "[J", .fieldLink RX0 38 "SsaForge$Code" "right" "[J", .fieldLink RX0 24 "SsaForge$Code" "rowStart" "[I", .methodLink RX0 123 yX0_shiftRows, .instanceMethod yX0_shiftRows, .selects RX0 yX0_shiftRows yX0_shiftRows, .initialized RX0, .methodLink RX0 81 yX0_putRow, .instanceMethod yX0_putRow, .selects RX0 yX0_putRow yX0_putRow]
def v_X0_moveRowM : List Cond := .code yX0_moveRowToEnd cX0_moveRowToEnd 12 none :: (o_X0_moveRowM ++ (wsX00 ++ (v_X0_shiftRowsL ++ (v_X0_putRowL ++ []))))
theorem mow_X0_moveRowM : ∀ w ∈ o_X0_moveRowM, w ∈ v_X0_moveRowM := fun _ h => List.mem_cons_of_mem _ (List.mem_append_left _ h)
theorem mem_X0_moveRowM_0 : ∀ w ∈ wsX00, w ∈ v_X0_moveRowM := fun _ h => List.mem_cons_of_mem _ (List.mem_append_right _ (List.mem_append_left _ h))
theorem mem_X0_moveRowM_1 : ∀ w ∈ v_X0_shiftRowsL, w ∈ v_X0_moveRowM := fun _ h => List.mem_cons_of_mem _ (List.mem_append_right _ (List.mem_append_right _ (List.mem_append_left _ h)))
theorem mem_X0_moveRowM_2 : ∀ w ∈ v_X0_putRowL, w ∈ v_X0_moveRowM := fun _ h => List.mem_cons_of_mem _ (List.mem_append_right _ (List.mem_append_right _ (List.mem_append_right _ (List.mem_append_left _ h))))
set_option maxRecDepth 20000 in
theorem gw_X0_moveRowM : v_X0_moveRowM.all goodWord = true := by decide +kernel
set_option maxRecDepth 20000 in
theorem g_X0_moveRowM_X0_shiftRowsL : GoodIn v_X0_moveRowM (wsV RX0 123 RX0 yX0_shiftRows v_X0_shiftRowsL) := goodIn_app (goodIn_sub (fun w h => mow_X0_moveRowM w (by revert w h; decide +kernel)) (by decide +kernel)) (goodIn_sub mem_X0_moveRowM_1 gw_X0_shiftRowsL)
set_option maxRecDepth 20000 in
theorem g_X0_moveRowM_X0_putRowL : GoodIn v_X0_moveRowM (wsV RX0 81 RX0 yX0_putRow v_X0_putRowL) := goodIn_app (goodIn_sub (fun w h => mow_X0_moveRowM w (by revert w h; decide +kernel)) (by decide +kernel)) (goodIn_sub mem_X0_moveRowM_2 gw_X0_putRowL)
set_option maxHeartbeats 4000000 in
set_option maxRecDepth 100000 in
theorem c_X0_moveRowM (l : Launch) (dC : Nat → ClassId) (dI : Nat → Nat → Nat) (h0 : Nat) (B1 : Int) (R1 : Int) (v_2 : Value) (v_3 : Value) (q_704 : Nat) (cA_704 : ClassId) (a_4 : Int → Int) (q_705 : Nat) (cA_705 : ClassId) (a_5 : Int → Int) (q_706 : Nat) (cA_706 : ClassId) (a_6 : Int → Int) (q_707 : Nat) (cA_707 : ClassId) (a_7 : Int → Int) (q_708 : Nat) (cA_708 : ClassId) (a_8 : Int → Int) (v_9 : Value) (v_10 : Value) (v_11 : Value) (v_12 : Value) (v_13 : Value) (v_14 : Value) (v_15 : Value) (v_16 : Value) (v_17 : Value) (v_18 : Value) (i : Int) (b : Int) (b2 : Int) (hNB1 : 0 ≤ B1 ∧ B1 ≤ 300) (hNR1 : 0 ≤ R1 ∧ R1 ≤ 2000) (hR_a_4 : ∀ j : Int, 0 ≤ a_4 j ∧ a_4 j ≤ 2000) (hR_a_5 : ∀ j : Int, -1 ≤ a_5 j ∧ a_5 j ≤ 100) (hR_a_6 : ∀ j : Int, -1 ≤ a_6 j ∧ a_6 j ≤ 1023) (hR_a_7 : ∀ j : Int, ((-2147483648 ≤ a_7 j ∧ a_7 j ≤ 4294968319) ∨ a_7 j = 1099511627776)) (hR_a_8 : ∀ j : Int, ((-2147483648 ≤ a_8 j ∧ a_8 j ≤ 4294968319) ∨ a_8 j = 1099511627776)) (hNb : (0 ≤ b ∧ b < B1) ∧ (0 ≤ b2 ∧ b2 < B1) ∧ ¬ b = b2) (hNi : a_4 b ≤ i ∧ i < a_4 (b + 1)) (hX_MR : MS B1 R1 a_4) (sz : Nat) : Met l yX0_moveRowToEnd v_X0_moveRowM ({ frames := 2, cells := 0, slots := 0, locals := 83 }) (va_Pc [.ref h0, .int (zI (i)), .int (zI (b)), .int (zI (b2))] (fun U => U.heap.size = sz ∧ va_P (dC, dI) vwP [(h0, .inr (0, [.int (zI (B1)), .int (zI (R1)), v_2, v_3, .ref q_704, .ref q_705, .ref q_706, .ref q_707, .ref q_708, v_9, v_10, v_11, v_12, v_13, v_14, v_15, v_16, v_17, v_18])), (q_704, .inl (cA_704, 301, .inl (fun j : Nat => zI (a_4 (j : Int))))), (q_705, .inl (cA_705, 2000, .inl (fun j : Nat => zI (a_5 (j : Int))))), (q_706, .inl (cA_706, 2000, .inl (fun j : Nat => zI (a_6 (j : Int))))), (q_707, .inl (cA_707, 2000, .inr (.inl (fun j : Nat => lI (a_7 (j : Int)))))), (q_708, .inl (cA_708, 2000, .inr (.inl (fun j : Nat => lI (a_8 (j : Int))))))] U.heap ∧ va_K (dC, dI) vwP [(cA_704, .int), (cA_705, .int), (cA_706, .int), (cA_707, .long), (cA_708, .long)] U ∧ va_D (fun _ => True) [(h0, .inr (0, [.int (zI (B1)), .int (zI (R1)), v_2, v_3, .ref q_704, .ref q_705, .ref q_706, .ref q_707, .ref q_708, v_9, v_10, v_11, v_12, v_13, v_14, v_15, v_16, v_17, v_18])), (q_704, .inl (cA_704, 301, .inl (fun j : Nat => zI (a_4 (j : Int))))), (q_705, .inl (cA_705, 2000, .inl (fun j : Nat => zI (a_5 (j : Int))))), (q_706, .inl (cA_706, 2000, .inl (fun j : Nat => zI (a_6 (j : Int))))), (q_707, .inl (cA_707, 2000, .inr (.inl (fun j : Nat => lI (a_7 (j : Int)))))), (q_708, .inl (cA_708, 2000, .inr (.inl (fun j : Nat => lI (a_8 (j : Int))))))])) (va_Qv (fun _ : Unit => True) (fun (_ : Unit) (t : State) => ∃ (a0_9 : Int → Int) (a1_9 : Int → Int) (a2_9 : Int → Int) (a3_9 : Int → Int) (a4_9 : Int → Int), ((∀ j : Int, 0 ≤ a0_9 j ∧ a0_9 j ≤ 2000) ∧ (∀ j : Int, -1 ≤ a1_9 j ∧ a1_9 j ≤ 100) ∧ (∀ j : Int, -1 ≤ a2_9 j ∧ a2_9 j ≤ 1023) ∧ (∀ j : Int, ((-2147483648 ≤ a3_9 j ∧ a3_9 j ≤ 4294968319) ∨ a3_9 j = 1099511627776)) ∧ (∀ j : Int, ((-2147483648 ≤ a4_9 j ∧ a4_9 j ≤ 4294968319) ∨ a4_9 j = 1099511627776)) ∧ (MS B1 R1 a0_9 ∧ MVX a_4 a_5 a_6 a_7 a_8 a0_9 a1_9 a2_9 a3_9 a4_9 i b b2)) ∧ va_P (dC, dI) vwP [(h0, .inr (0, [.int (zI (B1)), .int (zI (R1)), v_2, v_3, .ref q_704, .ref q_705, .ref q_706, .ref q_707, .ref q_708, v_9, v_10, v_11, v_12, v_13, v_14, v_15, v_16, v_17, v_18])), (q_704, .inl (cA_704, 301, .inl (fun j : Nat => zI (a0_9 (j : Int))))), (q_705, .inl (cA_705, 2000, .inl (fun j : Nat => zI (a1_9 (j : Int))))), (q_706, .inl (cA_706, 2000, .inl (fun j : Nat => zI (a2_9 (j : Int))))), (q_707, .inl (cA_707, 2000, .inr (.inl (fun j : Nat => lI (a3_9 (j : Int)))))), (q_708, .inl (cA_708, 2000, .inr (.inl (fun j : Nat => lI (a4_9 (j : Int))))))] t.heap ∧ va_K (dC, dI) vwP [(cA_704, .int), (cA_705, .int), (cA_706, .int), (cA_707, .long), (cA_708, .long)] t ∧ va_D (va_A [(h0, .inr (0, [.int (zI (B1)), .int (zI (R1)), v_2, v_3, .ref q_704, .ref q_705, .ref q_706, .ref q_707, .ref q_708, v_9, v_10, v_11, v_12, v_13, v_14, v_15, v_16, v_17, v_18])), (q_704, .inl (cA_704, 301, .inl (fun j : Nat => zI (a_4 (j : Int))))), (q_705, .inl (cA_705, 2000, .inl (fun j : Nat => zI (a_5 (j : Int))))), (q_706, .inl (cA_706, 2000, .inl (fun j : Nat => zI (a_6 (j : Int))))), (q_707, .inl (cA_707, 2000, .inr (.inl (fun j : Nat => lI (a_7 (j : Int)))))), (q_708, .inl (cA_708, 2000, .inr (.inl (fun j : Nat => lI (a_8 (j : Int))))))] sz) [(h0, .inr (0, [.int (zI (B1)), .int (zI (R1)), v_2, v_3, .ref q_704, .ref q_705, .ref q_706, .ref q_707, .ref q_708, v_9, v_10, v_11, v_12, v_13, v_14, v_15, v_16, v_17, v_18])), (q_704, .inl (cA_704, 301, .inl (fun j : Nat => zI (a0_9 (j : Int))))), (q_705, .inl (cA_705, 2000, .inl (fun j : Nat => zI (a1_9 (j : Int))))), (q_706, .inl (cA_706, 2000, .inl (fun j : Nat => zI (a2_9 (j : Int))))), (q_707, .inl (cA_707, 2000, .inr (.inl (fun j : Nat => lI (a3_9 (j : Int)))))), (q_708, .inl (cA_708, 2000, .inr (.inl (fun j : Nat => lI (a4_9 (j : Int))))))]) (va_A [(h0, .inr (0, [.int (zI (B1)), .int (zI (R1)), v_2, v_3, .ref q_704, .ref q_705, .ref q_706, .ref q_707, .ref q_708, v_9, v_10, v_11, v_12, v_13, v_14, v_15, v_16, v_17, v_18])), (q_704, .inl (cA_704, 301, .inl (fun j : Nat => zI (a_4 (j : Int))))), (q_705, .inl (cA_705, 2000, .inl (fun j : Nat => zI (a_5 (j : Int))))), (q_706, .inl (cA_706, 2000, .inl (fun j : Nat => zI (a_6 (j : Int))))), (q_707, .inl (cA_707, 2000, .inr (.inl (fun j : Nat => lI (a_7 (j : Int)))))), (q_708, .inl (cA_708, 2000, .inr (.inl (fun j : Nat => lI (a_8 (j : Int))))))] sz)) 0 0 (va_A [(h0, .inr (0, [.int (zI (B1)), .int (zI (R1)), v_2, v_3, .ref q_704, .ref q_705, .ref q_706, .ref q_707, .ref q_708, v_9, v_10, v_11, v_12, v_13, v_14, v_15, v_16, v_17, v_18])), (q_704, .inl (cA_704, 301, .inl (fun j : Nat => zI (a_4 (j : Int))))), (q_705, .inl (cA_705, 2000, .inl (fun j : Nat => zI (a_5 (j : Int))))), (q_706, .inl (cA_706, 2000, .inl (fun j : Nat => zI (a_6 (j : Int))))), (q_707, .inl (cA_707, 2000, .inr (.inl (fun j : Nat => lI (a_7 (j : Int)))))), (q_708, .inl (cA_708, 2000, .inr (.inl (fun j : Nat => lI (a_8 (j : Int))))))] sz) := by
  refine Met.ofW (cc := cX0_moveRowToEnd) (maxL := 12) (ret := none) (by decide) rfl ?_
  intro p e s m args below meth c s₁ B hml hv
  obtain ⟨rfl, hsz, hP, hK, hD0⟩ := hv
  have hx := B.exec
  have hb := B.bytes
  have hr := B.returns
  have hts := atoms_spec (ws := v_X0_moveRowM) B.pre
  have hown : s.vm.findClass RX0 = some m.cls := findClass_of_methodNamed B.named
  have hlocks := B.notSynchronized
  have ow : ∀ {k : Nat} {w : Cond}, o_X0_moveRowM[k]? = some w → w.before ([.ref h0, .int (zI (i)), .int (zI (b)), .int (zI (b2))] : List Value).toArray s = true := fun h => hts _ (mow_X0_moveRowM _ (List.mem_of_getElem? h))
  subst hsz
  have hD := hD0.self (sz := s.heap.size)
  generalize hAe : va_A [(h0, .inr (0, [.int (zI (B1)), .int (zI (R1)), v_2, v_3, .ref q_704, .ref q_705, .ref q_706, .ref q_707, .ref q_708, v_9, v_10, v_11, v_12, v_13, v_14, v_15, v_16, v_17, v_18])), (q_704, .inl (cA_704, 301, .inl (fun j : Nat => zI (a_4 (j : Int))))), (q_705, .inl (cA_705, 2000, .inl (fun j : Nat => zI (a_5 (j : Int))))), (q_706, .inl (cA_706, 2000, .inl (fun j : Nat => zI (a_6 (j : Int))))), (q_707, .inl (cA_707, 2000, .inr (.inl (fun j : Nat => lI (a_7 (j : Int)))))), (q_708, .inl (cA_708, 2000, .inr (.inl (fun j : Nat => lI (a_8 (j : Int))))))] s.heap.size = A at hD ⊢
  have hA : ∀ q : Nat, s.heap.size ≤ q → A q := fun q h => by rw [← hAe]; exact Or.inr h
  have hS : va_S A s.heap s.heap [] := va_S.rf
  have hP : va_P (dC, dI) vwP [(h0, .inr (0, [.int (zI (B1)), .int (zI (R1)), v_2, v_3, .ref q_704, .ref q_705, .ref q_706, .ref q_707, .ref q_708, v_9, v_10, v_11, v_12, v_13, v_14, v_15, v_16, v_17, v_18])), (q_704, .inl (cA_704, 301, .inl (fun j : Nat => zI (a_4 (j : Int))))), (q_705, .inl (cA_705, 2000, .inl (fun j : Nat => zI (a_5 (j : Int))))), (q_706, .inl (cA_706, 2000, .inl (fun j : Nat => zI (a_6 (j : Int))))), (q_707, .inl (cA_707, 2000, .inr (.inl (fun j : Nat => lI (a_7 (j : Int)))))), (q_708, .inl (cA_708, 2000, .inr (.inl (fun j : Nat => lI (a_8 (j : Int))))))] s.heap := hP
  have hl := lv_entry ([.ref h0, .int (zI (i)), .int (zI (b)), .int (zI (b2))]) (n := 12) (Nat.le_of_ble_eq_true rfl)
  rw [lg_entry_eq]
  generalize (lg_sl ([.ref h0, .int (zI (i)), .int (zI (b)), .int (zI (b2))]) ++ List.replicate (12 - (lg_sl ([.ref h0, .int (zI (i)), .int (zI (b)), .int (zI (b2))])).length) Slot.unset).toArray = ls at hl ⊢
  have hl : lv_has ls 12 [(0, .ref h0), (1, .int (zI (i))), (2, .int (zI (b))), (3, .int (zI (b2)))] := hl
  obtain ⟨H, hH⟩ : ∃ H, H = s.heap := ⟨_, rfl⟩
  rw [← hH] at hP
  have hS : va_S A s.heap H [] := by rw [hH]; exact hS
  rw [← hH]
  refine zW_cap (fun Q hQ => ?_)
  have hr9 := hR_a_4 b
  have ht9 := hX_MR.le' (a := b + 1) (b := B1) (by omega) (by omega) (by omega)
  have he9 := hX_MR.e
  have hr8 := hR_a_4 (b2 + 1)
  have hu9 := hX_MR.le' (a := b2 + 1) (b := B1) (by omega) (by omega) (by omega)
  refine lv_aload_n hx hb dX0_moveRowToEnd_0 rfl (lv_at hl 0 rfl) ?_
  refine va_get (D := (dC, dI)) (ci := 0) (v := .ref q_705) (C := RX0) (T := TX0) (N := 19) hx hb hts mem_X0_moveRowM_0 hown hK hP 0 rfl rfl 5 (by decide) (ow (k := 0) rfl) (fun _ h9 => h9) rfl dX0_moveRowToEnd_1 ?_
  refine lv_iload_n hx hb dX0_moveRowToEnd_4 rfl (lv_at hl 1 rfl) ?_
  refine va_iald hx hb hK hP 2 1 rfl rfl (zI_in (a := i) (n := 2000) (by omega) (by omega) (by decide)) dX0_moveRowToEnd_5 ?_
  refine lv_topi (fun z ez => ?_)
  obtain rfl : z = zI (a_5 (i)) := ez.trans (zI_ld (a_5) (by omega) (by omega))
  have k1 := hR_a_5 (i)
  refine lv_istore (lv' := [(4, .int (zI (a_5 (i)))), (0, .ref h0), (1, .int (zI (i))), (2, .int (zI (b))), (3, .int (zI (b2)))]) hx hb dX0_moveRowToEnd_6 hl (by decide) rfl (fun ls hl => ?_)
  refine lv_aload_n hx hb dX0_moveRowToEnd_8 rfl (lv_at hl 1 rfl) ?_
  refine va_get (D := (dC, dI)) (ci := 0) (v := .ref q_706) (C := RX0) (T := TX0) (N := 19) hx hb hts mem_X0_moveRowM_0 hown hK hP 0 rfl rfl 6 (by decide) (ow (k := 1) rfl) (fun _ h9 => h9) rfl dX0_moveRowToEnd_9 ?_
  refine lv_iload_n hx hb dX0_moveRowToEnd_12 rfl (lv_at hl 2 rfl) ?_
  refine va_iald hx hb hK hP 3 2 rfl rfl (zI_in (a := i) (n := 2000) (by omega) (by omega) (by decide)) dX0_moveRowToEnd_13 ?_
  refine lv_topi (fun z ez => ?_)
  obtain rfl : z = zI (a_6 (i)) := ez.trans (zI_ld (a_6) (by omega) (by omega))
  have k2 := hR_a_6 (i)
  refine lv_istore (lv' := [(5, .int (zI (a_6 (i)))), (4, .int (zI (a_5 (i)))), (0, .ref h0), (1, .int (zI (i))), (2, .int (zI (b))), (3, .int (zI (b2)))]) hx hb dX0_moveRowToEnd_14 hl (by decide) rfl (fun ls hl => ?_)
  refine lv_aload_n hx hb dX0_moveRowToEnd_16 rfl (lv_at hl 2 rfl) ?_
  refine va_get (D := (dC, dI)) (ci := 0) (v := .ref q_707) (C := RX0) (T := TX0) (N := 19) hx hb hts mem_X0_moveRowM_0 hown hK hP 0 rfl rfl 7 (by decide) (ow (k := 2) rfl) (fun _ h9 => h9) rfl dX0_moveRowToEnd_17 ?_
  refine lv_iload_n hx hb dX0_moveRowToEnd_20 rfl (lv_at hl 3 rfl) ?_
  refine va_lald hx hb hK hP 4 3 rfl rfl (zI_in (a := i) (n := 2000) (by omega) (by omega) (by decide)) dX0_moveRowToEnd_21 ?_
  refine lv_topl (fun z ez => ?_)
  obtain rfl : z = lI (a_7 (i)) := ez.trans (lI_ld (a_7) (by omega) (by omega))
  have k3 := hR_a_7 (i)
  refine lv_lstore (lv' := [(6, .long (lI (a_7 (i)))), (5, .int (zI (a_6 (i)))), (4, .int (zI (a_5 (i)))), (0, .ref h0), (1, .int (zI (i))), (2, .int (zI (b))), (3, .int (zI (b2)))]) hx hb dX0_moveRowToEnd_22 hl (by decide) rfl (fun ls hl => ?_)
  refine lv_aload_n hx hb dX0_moveRowToEnd_24 rfl (lv_at hl 3 rfl) ?_
  refine va_get (D := (dC, dI)) (ci := 0) (v := .ref q_708) (C := RX0) (T := TX0) (N := 19) hx hb hts mem_X0_moveRowM_0 hown hK hP 0 rfl rfl 8 (by decide) (ow (k := 3) rfl) (fun _ h9 => h9) rfl dX0_moveRowToEnd_25 ?_
  refine lv_iload_n hx hb dX0_moveRowToEnd_28 rfl (lv_at hl 4 rfl) ?_
  refine va_lald hx hb hK hP 5 4 rfl rfl (zI_in (a := i) (n := 2000) (by omega) (by omega) (by decide)) dX0_moveRowToEnd_29 ?_
  refine lv_topl (fun z ez => ?_)
  obtain rfl : z = lI (a_8 (i)) := ez.trans (lI_ld (a_8) (by omega) (by omega))
  have k4 := hR_a_8 (i)
  refine lv_lstore (lv' := [(8, .long (lI (a_8 (i)))), (6, .long (lI (a_7 (i)))), (5, .int (zI (a_6 (i)))), (4, .int (zI (a_5 (i)))), (0, .ref h0), (1, .int (zI (i))), (2, .int (zI (b))), (3, .int (zI (b2)))]) hx hb dX0_moveRowToEnd_30 hl (by decide) rfl (fun ls hl => ?_)
  refine lv_aload_n hx hb dX0_moveRowToEnd_32 rfl (lv_at hl 4 rfl) ?_
  refine va_get (D := (dC, dI)) (ci := 0) (v := .ref q_704) (C := RX0) (T := TX0) (N := 19) hx hb hts mem_X0_moveRowM_0 hown hK hP 0 rfl rfl 4 (by decide) (ow (k := 4) rfl) (fun _ h9 => h9) rfl dX0_moveRowToEnd_33 ?_
  refine lv_iload_n hx hb dX0_moveRowToEnd_36 rfl (lv_at hl 7 rfl) ?_
  refine lv_iconst (v := 1) hx hb dX0_moveRowToEnd_37 (by decide) ?_
  refine lv_iadd hx hb dX0_moveRowToEnd_38 ?_
  refine lv_topi (fun z ez => ?_)
  obtain rfl : z = zI (b2 + 1) := ez.trans (zI_add (b2) (1))
  refine va_iald hx hb hK hP 1 0 rfl rfl (zI_in (a := b2 + 1) (n := 301) (by omega) (by omega) (by decide)) dX0_moveRowToEnd_39 ?_
  refine lv_topi (fun z ez => ?_)
  obtain rfl : z = zI (a_4 (b2 + 1)) := ez.trans (zI_ld (a_4) (by omega) (by omega))
  have k5 := hR_a_4 (b2 + 1)
  refine lv_istore (lv' := [(10, .int (zI (a_4 (b2 + 1)))), (8, .long (lI (a_8 (i)))), (6, .long (lI (a_7 (i)))), (5, .int (zI (a_6 (i)))), (4, .int (zI (a_5 (i)))), (0, .ref h0), (1, .int (zI (i))), (2, .int (zI (b))), (3, .int (zI (b2)))]) hx hb dX0_moveRowToEnd_40 hl (by decide) rfl (fun ls hl => ?_)
  refine lv_iload_n hx hb dX0_moveRowToEnd_42 rfl (lv_at hl 8 rfl) ?_
  refine lv_iload_n hx hb dX0_moveRowToEnd_43 rfl (lv_at hl 7 rfl) ?_
  refine lv_icmp_ge (tgt := 92) hx hb dX0_moveRowToEnd_44 (by decide) (fun b44 => ?_) (fun b44 => ?_)
  · have yb44 : (b : Int) ≤ (b2 : Int) := (zI_le (a := b) (b := b2) (by omega) (by omega) (by omega) (by omega)).mp b44
    have hl9 := hX_MR.le' (a := b + 1) (b := b2) (by omega) (by omega) (by omega)
    have hl8 := hX_MR.mo b2 (by omega) (by omega)
    refine lv_iinc (v := zI (a_4 (b2 + 1) - 1)) (lv' := [(10, .int (zI (a_4 (b2 + 1) - 1))), (8, .long (lI (a_8 (i)))), (6, .long (lI (a_7 (i)))), (5, .int (zI (a_6 (i)))), (4, .int (zI (a_5 (i)))), (0, .ref h0), (1, .int (zI (i))), (2, .int (zI (b))), (3, .int (zI (b2)))]) hx hb dX0_moveRowToEnd_92 hl (k := 0) rfl (zI_dec (a_4 (b2 + 1)) (1)) (by decide) rfl (fun ls hl => ?_)
    refine lv_aload_n hx hb dX0_moveRowToEnd_95 rfl (lv_at hl 5 rfl) ?_
    refine lv_iload_n hx hb dX0_moveRowToEnd_96 rfl (lv_at hl 6 rfl) ?_
    refine lv_iconst (v := 1) hx hb dX0_moveRowToEnd_97 (by decide) ?_
    refine lv_iadd hx hb dX0_moveRowToEnd_98 ?_
    refine lv_topi (fun z ez => ?_)
    obtain rfl : z = zI (i + 1) := ez.trans (zI_add (i) (1))
    refine lv_iload_n hx hb dX0_moveRowToEnd_99 rfl (lv_at hl 6 rfl) ?_
    refine lv_iload hx hb dX0_moveRowToEnd_100 (lv_at hl 0 rfl) ?_
    refine lv_iload_n hx hb dX0_moveRowToEnd_102 rfl (lv_at hl 6 rfl) ?_
    refine lv_isub hx hb dX0_moveRowToEnd_103 ?_
    refine lv_topi (fun z ez => ?_)
    obtain rfl : z = zI ((a_4 (b2 + 1) - 1) - i) := ez.trans (zI_sub (a_4 (b2 + 1) - 1) (i))
    have hPc := hP.sub (ws' := [(h0, .inr (0, [.int (zI (B1)), .int (zI (R1)), v_2, v_3, .ref q_704, .ref q_705, .ref q_706, .ref q_707, .ref q_708, v_9, v_10, v_11, v_12, v_13, v_14, v_15, v_16, v_17, v_18])), (q_705, .inl (cA_705, 2000, .inl (fun j : Nat => zI (a_5 (j : Int))))), (q_706, .inl (cA_706, 2000, .inl (fun j : Nat => zI (a_6 (j : Int))))), (q_707, .inl (cA_707, 2000, .inr (.inl (fun j : Nat => lI (a_7 (j : Int)))))), (q_708, .inl (cA_708, 2000, .inr (.inl (fun j : Nat => lI (a_8 (j : Int))))))]) [0, 2, 3, 4, 5] rfl
    have hDc := hD.sub (ws' := [(h0, .inr (0, [.int (zI (B1)), .int (zI (R1)), v_2, v_3, .ref q_704, .ref q_705, .ref q_706, .ref q_707, .ref q_708, v_9, v_10, v_11, v_12, v_13, v_14, v_15, v_16, v_17, v_18])), (q_705, .inl (cA_705, 2000, .inl (fun j : Nat => zI (a_5 (j : Int))))), (q_706, .inl (cA_706, 2000, .inl (fun j : Nat => zI (a_6 (j : Int))))), (q_707, .inl (cA_707, 2000, .inr (.inl (fun j : Nat => lI (a_7 (j : Int)))))), (q_708, .inl (cA_708, 2000, .inr (.inl (fun j : Nat => lI (a_8 (j : Int))))))]) [0, 2, 3, 4, 5] (by decide) rfl
    have hKc := hK.sub (tys' := [(cA_705, .int), (cA_706, .int), (cA_707, .long), (cA_708, .long)]) [1, 2, 3, 4] rfl
    have hFc := va_free (wc := [(h0, .inr (0, [.int (zI (B1)), .int (zI (R1)), v_2, v_3, .ref q_704, .ref q_705, .ref q_706, .ref q_707, .ref q_708, v_9, v_10, v_11, v_12, v_13, v_14, v_15, v_16, v_17, v_18])), (q_705, .inl (cA_705, 2000, .inl (fun j : Nat => zI (a_5 (j : Int))))), (q_706, .inl (cA_706, 2000, .inl (fun j : Nat => zI (a_6 (j : Int))))), (q_707, .inl (cA_707, 2000, .inr (.inl (fun j : Nat => lI (a_7 (j : Int)))))), (q_708, .inl (cA_708, 2000, .inr (.inl (fun j : Nat => lI (a_8 (j : Int))))))]) hD hS hA [0, 2, 3, 4, 5] rfl
    refine va_callv (va_runV (As := [.int (zI (i + 1)), .int (zI (i)), .int (zI ((a_4 (b2 + 1) - 1) - i))]) (rest := []) ⟨hx, hb, hml, hown, hts⟩ (c_X0_shiftRowsL l dC dI h0 (.int (zI (B1))) (.int (zI (R1))) v_2 v_3 (.ref q_704) q_705 cA_705 a_5 q_706 cA_706 a_6 q_707 cA_707 a_7 q_708 cA_708 a_8 v_9 v_10 v_11 v_12 v_13 v_14 v_15 v_16 v_17 v_18 (i + 1) i ((a_4 (b2 + 1) - 1) - i) hR_a_5 hR_a_6 hR_a_7 hR_a_8 (by omega) H.size) (cwV 3 hts g_X0_moveRowM_X0_shiftRowsL rfl rfl rfl (by decide +kernel) ⟨(Nat.le_of_ble_eq_true rfl), (Nat.le_of_ble_eq_true rfl)⟩) ⟨fun a U g mk q => by obtain ⟨q0, q1, qP, qK, qD⟩ := q; exact ⟨q0, q1, qP, va_K.moved (u := U) (U := U.calling g mk a) (Vm.Alike.refl U.vm) qK, qD⟩, va_recv hKc hPc (ci := 0) (q0 := 0) rfl rfl, fun U hU hW => ⟨rfl, by rw [hU], by rw [hU]; exact hPc, va_K.moved hW.alike hKc, hDc.weaken (fun _ _ _ _ => trivial)⟩⟩ rfl rfl hl.1 rfl (lv_room (Nat.le_of_ble_eq_true rfl)) dX0_moveRowToEnd_104 ⟨(Nat.le_of_ble_eq_true rfl), (Nat.le_of_ble_eq_true rfl)⟩) hS (fun q _ h => hFc q h) hFc (fun  u t H1 locs ht hvm hw hB hz1 hk1 hS => ?_)
    obtain ⟨a0_2001, a1_2002, a2_2003, a3_2004, hxt_2004, hP1, hK1, hD1⟩ := hB
    rw [ht] at hP1
    have hK1 := va_K.moved hvm.symm hK1
    obtain ⟨hP, hD⟩ := va_join (wr := [(q_704, .inl (cA_704, 301, .inl (fun j : Nat => zI (a_4 (j : Int)))))]) (w1 := [(h0, .inr (0, [.int (zI (B1)), .int (zI (R1)), v_2, v_3, .ref q_704, .ref q_705, .ref q_706, .ref q_707, .ref q_708, v_9, v_10, v_11, v_12, v_13, v_14, v_15, v_16, v_17, v_18])), (q_705, .inl (cA_705, 2000, .inl (fun j : Nat => zI (a0_2001 (j : Int))))), (q_706, .inl (cA_706, 2000, .inl (fun j : Nat => zI (a1_2002 (j : Int))))), (q_707, .inl (cA_707, 2000, .inr (.inl (fun j : Nat => lI (a2_2003 (j : Int)))))), (q_708, .inl (cA_708, 2000, .inr (.inl (fun j : Nat => lI (a3_2004 (j : Int))))))]) hP hD [0, 2, 3, 4, 5] [1] rfl rfl (by decide) (by decide) hk1 hFc hP1 hD1
    have hK := (hK.sub (tys' := [(cA_704, .int)]) [0] rfl).app hK1
    generalize H1 = H at hP hS ⊢
    have hP : va_P (dC, dI) vwP [(q_704, .inl (cA_704, 301, .inl (fun j : Nat => zI (a_4 (j : Int))))), (h0, .inr (0, [.int (zI (B1)), .int (zI (R1)), v_2, v_3, .ref q_704, .ref q_705, .ref q_706, .ref q_707, .ref q_708, v_9, v_10, v_11, v_12, v_13, v_14, v_15, v_16, v_17, v_18])), (q_705, .inl (cA_705, 2000, .inl (fun j : Nat => zI (a0_2001 (j : Int))))), (q_706, .inl (cA_706, 2000, .inl (fun j : Nat => zI (a1_2002 (j : Int))))), (q_707, .inl (cA_707, 2000, .inr (.inl (fun j : Nat => lI (a2_2003 (j : Int)))))), (q_708, .inl (cA_708, 2000, .inr (.inl (fun j : Nat => lI (a3_2004 (j : Int))))))] H := hP
    have hD : va_D A [(q_704, .inl (cA_704, 301, .inl (fun j : Nat => zI (a_4 (j : Int))))), (h0, .inr (0, [.int (zI (B1)), .int (zI (R1)), v_2, v_3, .ref q_704, .ref q_705, .ref q_706, .ref q_707, .ref q_708, v_9, v_10, v_11, v_12, v_13, v_14, v_15, v_16, v_17, v_18])), (q_705, .inl (cA_705, 2000, .inl (fun j : Nat => zI (a0_2001 (j : Int))))), (q_706, .inl (cA_706, 2000, .inl (fun j : Nat => zI (a1_2002 (j : Int))))), (q_707, .inl (cA_707, 2000, .inr (.inl (fun j : Nat => lI (a2_2003 (j : Int)))))), (q_708, .inl (cA_708, 2000, .inr (.inl (fun j : Nat => lI (a3_2004 (j : Int))))))] := hD
    have hK : va_K (dC, dI) vwP [(cA_704, .int), (cA_705, .int), (cA_706, .int), (cA_707, .long), (cA_708, .long)] s := hK
    refine W.widen (k := 0) (n := 0) (Nat.le_of_ble_eq_true rfl) (Nat.le_of_ble_eq_true rfl) ?_
    obtain ⟨rk_2005, rk_2006, rk_2007, rk_2008, hu_2008⟩ := hxt_2004
    have hsh := hu_2008
    refine lv_iload_n hx hb dX0_moveRowToEnd_107 rfl (lv_at hl 7 rfl) ?_
    refine lv_iconst (v := 1) hx hb dX0_moveRowToEnd_108 (by decide) ?_
    refine lv_iadd hx hb dX0_moveRowToEnd_109 ?_
    refine lv_topi (fun z ez => ?_)
    obtain rfl : z = zI (b + 1) := ez.trans (zI_add (b) (1))
    refine lv_istore (lv' := [(11, .int (zI (b + 1))), (10, .int (zI (a_4 (b2 + 1) - 1))), (8, .long (lI (a_8 (i)))), (6, .long (lI (a_7 (i)))), (5, .int (zI (a_6 (i)))), (4, .int (zI (a_5 (i)))), (0, .ref h0), (1, .int (zI (i))), (2, .int (zI (b))), (3, .int (zI (b2)))]) hx hb dX0_moveRowToEnd_110 hl (by decide) rfl (fun ls hl => ?_)
    have key112 : ∀ n112 : Nat, ∀ (d112_11 : Int) (w112_704 : Int → Int) (ls : Array Slot) (H : Heap) (locs : List Loc), (b + 1 ≤ d112_11 ∧ d112_11 ≤ b2 + 1) → (∀ j : Int, 0 ≤ w112_704 j ∧ w112_704 j ≤ 2000) → (RSU a_4 w112_704 b d112_11 (-1)) → (((b2) - (d112_11) + 1 : Int).toNat) < n112 → lv_has ls 12 [(0, .ref h0), (1, .int (zI (i))), (2, .int (zI (b))), (3, .int (zI (b2))), (4, .int (zI (a_5 (i)))), (5, .int (zI (a_6 (i)))), (6, .long (lI (a_7 (i)))), (8, .long (lI (a_8 (i)))), (10, .int (zI (a_4 (b2 + 1) - 1))), (11, .int (zI (d112_11)))] → va_P (dC, dI) vwP [(q_704, .inl (cA_704, 301, .inl (fun j : Nat => zI (w112_704 (j : Int))))), (h0, .inr (0, [.int (zI (B1)), .int (zI (R1)), v_2, v_3, .ref q_704, .ref q_705, .ref q_706, .ref q_707, .ref q_708, v_9, v_10, v_11, v_12, v_13, v_14, v_15, v_16, v_17, v_18])), (q_705, .inl (cA_705, 2000, .inl (fun j : Nat => zI (a0_2001 (j : Int))))), (q_706, .inl (cA_706, 2000, .inl (fun j : Nat => zI (a1_2002 (j : Int))))), (q_707, .inl (cA_707, 2000, .inr (.inl (fun j : Nat => lI (a2_2003 (j : Int)))))), (q_708, .inl (cA_708, 2000, .inr (.inl (fun j : Nat => lI (a3_2004 (j : Int))))))] H → va_D A [(q_704, .inl (cA_704, 301, .inl (fun j : Nat => zI (w112_704 (j : Int))))), (h0, .inr (0, [.int (zI (B1)), .int (zI (R1)), v_2, v_3, .ref q_704, .ref q_705, .ref q_706, .ref q_707, .ref q_708, v_9, v_10, v_11, v_12, v_13, v_14, v_15, v_16, v_17, v_18])), (q_705, .inl (cA_705, 2000, .inl (fun j : Nat => zI (a0_2001 (j : Int))))), (q_706, .inl (cA_706, 2000, .inl (fun j : Nat => zI (a1_2002 (j : Int))))), (q_707, .inl (cA_707, 2000, .inr (.inl (fun j : Nat => lI (a2_2003 (j : Int)))))), (q_708, .inl (cA_708, 2000, .inr (.inl (fun j : Nat => lI (a3_2004 (j : Int))))))] → va_S A s.heap H locs → W p l e (headSpec v_X0_moveRowM ({ frames := 2, cells := 0, slots := 0, locals := 83 })).room s m ([.ref h0, .int (zI (i)), .int (zI (b)), .int (zI (b2))] : List Value).toArray below meth c H locs 0 0 Q (F0 m 112 ls []) := by
      intro n112
      induction n112 with
      | zero => intro d112_11 w112_704 ls H locs jd112_11 jw112_704 jr hm112; exact absurd hm112 (by omega)
      | succ n112 ih112 =>
        intro d112_11 w112_704 ls H locs jd112_11 jw112_704 jr hm112 hl hP hD hS
        refine lv_iload hx hb dX0_moveRowToEnd_112 (lv_at hl 9 rfl) ?_
        refine lv_iload_n hx hb dX0_moveRowToEnd_114 rfl (lv_at hl 3 rfl) ?_
        refine lv_icmp_gt (tgt := 135) hx hb dX0_moveRowToEnd_115 (by decide) (fun b115 => ?_) (fun b115 => ?_)
        · have yb115 : (b2 : Int) < (d112_11 : Int) := (zI_lt (a := b2) (b := d112_11) (by omega) (by omega) (by omega) (by omega)).mp b115
          refine lv_aload_n hx hb dX0_moveRowToEnd_135 rfl (lv_at hl 0 rfl) ?_
          refine lv_iload hx hb dX0_moveRowToEnd_136 (lv_at hl 8 rfl) ?_
          refine lv_iload hx hb dX0_moveRowToEnd_138 (lv_at hl 4 rfl) ?_
          refine lv_iload hx hb dX0_moveRowToEnd_140 (lv_at hl 5 rfl) ?_
          refine lv_lload hx hb dX0_moveRowToEnd_142 (lv_at hl 6 rfl) ?_
          refine lv_lload hx hb dX0_moveRowToEnd_144 (lv_at hl 7 rfl) ?_
          have hPc := hP.sub (ws' := [(h0, .inr (0, [.int (zI (B1)), .int (zI (R1)), v_2, v_3, .ref q_704, .ref q_705, .ref q_706, .ref q_707, .ref q_708, v_9, v_10, v_11, v_12, v_13, v_14, v_15, v_16, v_17, v_18])), (q_705, .inl (cA_705, 2000, .inl (fun j : Nat => zI (a0_2001 (j : Int))))), (q_706, .inl (cA_706, 2000, .inl (fun j : Nat => zI (a1_2002 (j : Int))))), (q_707, .inl (cA_707, 2000, .inr (.inl (fun j : Nat => lI (a2_2003 (j : Int)))))), (q_708, .inl (cA_708, 2000, .inr (.inl (fun j : Nat => lI (a3_2004 (j : Int))))))]) [1, 2, 3, 4, 5] rfl
          have hDc := hD.sub (ws' := [(h0, .inr (0, [.int (zI (B1)), .int (zI (R1)), v_2, v_3, .ref q_704, .ref q_705, .ref q_706, .ref q_707, .ref q_708, v_9, v_10, v_11, v_12, v_13, v_14, v_15, v_16, v_17, v_18])), (q_705, .inl (cA_705, 2000, .inl (fun j : Nat => zI (a0_2001 (j : Int))))), (q_706, .inl (cA_706, 2000, .inl (fun j : Nat => zI (a1_2002 (j : Int))))), (q_707, .inl (cA_707, 2000, .inr (.inl (fun j : Nat => lI (a2_2003 (j : Int)))))), (q_708, .inl (cA_708, 2000, .inr (.inl (fun j : Nat => lI (a3_2004 (j : Int))))))]) [1, 2, 3, 4, 5] (by decide) rfl
          have hKc := hK.sub (tys' := [(cA_705, .int), (cA_706, .int), (cA_707, .long), (cA_708, .long)]) [1, 2, 3, 4] rfl
          have hFc := va_free (wc := [(h0, .inr (0, [.int (zI (B1)), .int (zI (R1)), v_2, v_3, .ref q_704, .ref q_705, .ref q_706, .ref q_707, .ref q_708, v_9, v_10, v_11, v_12, v_13, v_14, v_15, v_16, v_17, v_18])), (q_705, .inl (cA_705, 2000, .inl (fun j : Nat => zI (a0_2001 (j : Int))))), (q_706, .inl (cA_706, 2000, .inl (fun j : Nat => zI (a1_2002 (j : Int))))), (q_707, .inl (cA_707, 2000, .inr (.inl (fun j : Nat => lI (a2_2003 (j : Int)))))), (q_708, .inl (cA_708, 2000, .inr (.inl (fun j : Nat => lI (a3_2004 (j : Int))))))]) hD hS hA [1, 2, 3, 4, 5] rfl
          refine va_callv (va_runV (As := [.int (zI (a_4 (b2 + 1) - 1)), .int (zI (a_5 (i))), .int (zI (a_6 (i))), .long (lI (a_7 (i))), .long (lI (a_8 (i)))]) (rest := []) ⟨hx, hb, hml, hown, hts⟩ (c_X0_putRowL l dC dI h0 (.int (zI (B1))) (.int (zI (R1))) v_2 v_3 (.ref q_704) q_705 cA_705 a0_2001 q_706 cA_706 a1_2002 q_707 cA_707 a2_2003 q_708 cA_708 a3_2004 v_9 v_10 v_11 v_12 v_13 v_14 v_15 v_16 v_17 v_18 (a_4 (b2 + 1) - 1) (a_6 (i)) (a_7 (i)) (a_8 (i)) (a_5 (i)) rk_2005 rk_2006 rk_2007 rk_2008 (by omega) (by omega) (by omega) (by omega) (by omega) H.size) (cwV 5 hts g_X0_moveRowM_X0_putRowL rfl rfl rfl (by decide +kernel) ⟨(Nat.le_of_ble_eq_true rfl), (Nat.le_of_ble_eq_true rfl)⟩) ⟨fun a U g mk q => by obtain ⟨q0, q1, qP, qK, qD⟩ := q; exact ⟨q0, q1, qP, va_K.moved (u := U) (U := U.calling g mk a) (Vm.Alike.refl U.vm) qK, qD⟩, va_recv hKc hPc (ci := 0) (q0 := 0) rfl rfl, fun U hU hW => ⟨rfl, by rw [hU], by rw [hU]; exact hPc, va_K.moved hW.alike hKc, hDc.weaken (fun _ _ _ _ => trivial)⟩⟩ rfl rfl hl.1 rfl (lv_room (Nat.le_of_ble_eq_true rfl)) dX0_moveRowToEnd_146 ⟨(Nat.le_of_ble_eq_true rfl), (Nat.le_of_ble_eq_true rfl)⟩) hS (fun q _ h => hFc q h) hFc (fun  u t H1 locs ht hvm hw hB hz1 hk1 hS => ?_)
          obtain ⟨a0_2009, a1_2010, a2_2011, a3_2012, hxt_2012, hP1, hK1, hD1⟩ := hB
          rw [ht] at hP1
          have hK1 := va_K.moved hvm.symm hK1
          obtain ⟨hP, hD⟩ := va_join (wr := [(q_704, .inl (cA_704, 301, .inl (fun j : Nat => zI (w112_704 (j : Int)))))]) (w1 := [(h0, .inr (0, [.int (zI (B1)), .int (zI (R1)), v_2, v_3, .ref q_704, .ref q_705, .ref q_706, .ref q_707, .ref q_708, v_9, v_10, v_11, v_12, v_13, v_14, v_15, v_16, v_17, v_18])), (q_705, .inl (cA_705, 2000, .inl (fun j : Nat => zI (a0_2009 (j : Int))))), (q_706, .inl (cA_706, 2000, .inl (fun j : Nat => zI (a1_2010 (j : Int))))), (q_707, .inl (cA_707, 2000, .inr (.inl (fun j : Nat => lI (a2_2011 (j : Int)))))), (q_708, .inl (cA_708, 2000, .inr (.inl (fun j : Nat => lI (a3_2012 (j : Int))))))]) hP hD [1, 2, 3, 4, 5] [0] rfl rfl (by decide) (by decide) hk1 hFc hP1 hD1
          have hK := (hK.sub (tys' := [(cA_704, .int)]) [0] rfl).app hK1
          generalize H1 = H at hP hS ⊢
          have hP : va_P (dC, dI) vwP [(q_704, .inl (cA_704, 301, .inl (fun j : Nat => zI (w112_704 (j : Int))))), (h0, .inr (0, [.int (zI (B1)), .int (zI (R1)), v_2, v_3, .ref q_704, .ref q_705, .ref q_706, .ref q_707, .ref q_708, v_9, v_10, v_11, v_12, v_13, v_14, v_15, v_16, v_17, v_18])), (q_705, .inl (cA_705, 2000, .inl (fun j : Nat => zI (a0_2009 (j : Int))))), (q_706, .inl (cA_706, 2000, .inl (fun j : Nat => zI (a1_2010 (j : Int))))), (q_707, .inl (cA_707, 2000, .inr (.inl (fun j : Nat => lI (a2_2011 (j : Int)))))), (q_708, .inl (cA_708, 2000, .inr (.inl (fun j : Nat => lI (a3_2012 (j : Int))))))] H := hP
          have hD : va_D A [(q_704, .inl (cA_704, 301, .inl (fun j : Nat => zI (w112_704 (j : Int))))), (h0, .inr (0, [.int (zI (B1)), .int (zI (R1)), v_2, v_3, .ref q_704, .ref q_705, .ref q_706, .ref q_707, .ref q_708, v_9, v_10, v_11, v_12, v_13, v_14, v_15, v_16, v_17, v_18])), (q_705, .inl (cA_705, 2000, .inl (fun j : Nat => zI (a0_2009 (j : Int))))), (q_706, .inl (cA_706, 2000, .inl (fun j : Nat => zI (a1_2010 (j : Int))))), (q_707, .inl (cA_707, 2000, .inr (.inl (fun j : Nat => lI (a2_2011 (j : Int)))))), (q_708, .inl (cA_708, 2000, .inr (.inl (fun j : Nat => lI (a3_2012 (j : Int))))))] := hD
          have hK : va_K (dC, dI) vwP [(cA_704, .int), (cA_705, .int), (cA_706, .int), (cA_707, .long), (cA_708, .long)] s := hK
          refine W.widen (k := 0) (n := 0) (Nat.le_of_ble_eq_true rfl) (Nat.le_of_ble_eq_true rfl) ?_
          obtain ⟨rk_2013, rk_2014, rk_2015, rk_2016, hu_2016⟩ := hxt_2012
          subst hQ
          have hP := hP.sub (ws' := [(h0, .inr (0, [.int (zI (B1)), .int (zI (R1)), v_2, v_3, .ref q_704, .ref q_705, .ref q_706, .ref q_707, .ref q_708, v_9, v_10, v_11, v_12, v_13, v_14, v_15, v_16, v_17, v_18])), (q_704, .inl (cA_704, 301, .inl (fun j : Nat => zI (w112_704 (j : Int))))), (q_705, .inl (cA_705, 2000, .inl (fun j : Nat => zI (a0_2009 (j : Int))))), (q_706, .inl (cA_706, 2000, .inl (fun j : Nat => zI (a1_2010 (j : Int))))), (q_707, .inl (cA_707, 2000, .inr (.inl (fun j : Nat => lI (a2_2011 (j : Int)))))), (q_708, .inl (cA_708, 2000, .inr (.inl (fun j : Nat => lI (a3_2012 (j : Int))))))]) [1, 0, 2, 3, 4, 5] rfl
          have hD := hD.sub (ws' := [(h0, .inr (0, [.int (zI (B1)), .int (zI (R1)), v_2, v_3, .ref q_704, .ref q_705, .ref q_706, .ref q_707, .ref q_708, v_9, v_10, v_11, v_12, v_13, v_14, v_15, v_16, v_17, v_18])), (q_704, .inl (cA_704, 301, .inl (fun j : Nat => zI (w112_704 (j : Int))))), (q_705, .inl (cA_705, 2000, .inl (fun j : Nat => zI (a0_2009 (j : Int))))), (q_706, .inl (cA_706, 2000, .inl (fun j : Nat => zI (a1_2010 (j : Int))))), (q_707, .inl (cA_707, 2000, .inr (.inl (fun j : Nat => lI (a2_2011 (j : Int)))))), (q_708, .inl (cA_708, 2000, .inr (.inl (fun j : Nat => lI (a3_2012 (j : Int))))))]) [1, 0, 2, 3, 4, 5] (by decide) rfl
          refine W.widen (k := 0) (n := 0) (Nat.le_of_ble_eq_true rfl) (Nat.le_of_ble_eq_true rfl) ?_
          exact W.vret hx hb hr (fun t ht hW => ⟨⟨(), rfl, trivial, w112_704, a0_2009, a1_2010, a2_2011, a3_2012, ⟨jw112_704, rk_2013, rk_2014, rk_2015, rk_2016, (by have q9 := hu_2016; exact ⟨MS.mvDn hX_MR jr (by omega) (by omega) (by omega) (by omega), Or.inr ⟨by omega, (by rw [← show d112_11 = b2 + 1 by omega]; exact jr), (fun j => by rw [q9.1, q9.2.1, q9.2.2.1, q9.2.2.2, hsh.1, hsh.2.1, hsh.2.2.1, hsh.2.2.2]; exact ⟨cp_muD _ (by omega) j, cp_muD _ (by omega) j, cp_muD _ (by omega) j, cp_muD _ (by omega) j⟩)⟩⟩)⟩, by rw [ht]; exact hP, va_K.moved hW.alike hK, hD⟩, hS.F ht⟩) hS.2.2 dX0_moveRowToEnd_149
        · have yb115 : ¬ (b2 : Int) < (d112_11 : Int) := fun q => b115 ((zI_lt (a := b2) (b := d112_11) (by omega) (by omega) (by omega) (by omega)).mpr q)
          have hq1 := jr.at
          have hq2 := hX_MR.le' (a := b + 1) (b := d112_11) (by omega) (by omega) (by omega)
          have hq3 := hR_a_4 d112_11
          refine lv_aload_n hx hb dX0_moveRowToEnd_118 rfl (lv_at hl 0 rfl) ?_
          refine va_get (D := (dC, dI)) (ci := 0) (v := .ref q_704) (C := RX0) (T := TX0) (N := 19) hx hb hts mem_X0_moveRowM_0 hown hK hP 1 rfl rfl 4 (by decide) (ow (k := 4) rfl) (fun _ h9 => h9) rfl dX0_moveRowToEnd_119 ?_
          refine lv_iload hx hb dX0_moveRowToEnd_122 (lv_at hl 9 rfl) ?_
          refine lv_dup2_11 hx hb dX0_moveRowToEnd_124 rfl rfl ?_
          refine va_iald hx hb hK hP 0 0 rfl rfl (zI_in (a := d112_11) (n := 301) (by omega) (by omega) (by decide)) dX0_moveRowToEnd_125 ?_
          refine lv_topi (fun z ez => ?_)
          obtain rfl : z = zI (w112_704 (d112_11)) := ez.trans (zI_ld (w112_704) (by omega) (by omega))
          have k6 := jw112_704 (d112_11)
          refine lv_iconst (v := 1) hx hb dX0_moveRowToEnd_126 (by decide) ?_
          refine lv_isub hx hb dX0_moveRowToEnd_127 ?_
          refine lv_topi (fun z ez => ?_)
          obtain rfl : z = zI ((w112_704 (d112_11)) - 1) := ez.trans (zI_sub (w112_704 (d112_11)) (1))
          refine va_iast (i := zI (d112_11)) hx hb hK hP hD hS 0 0 rfl rfl (zI_in (a := d112_11) (n := 301) (by omega) (by omega) (by decide)) dX0_moveRowToEnd_128 (fun H locs hP hD hS => ?_)
          have eQ : upd (fun j : Nat => zI (w112_704 (j : Int))) (zI (d112_11)).toNatClampNeg (zI ((w112_704 (d112_11)) - 1)) = (fun j : Nat => zI (zup w112_704 (d112_11) ((w112_704 (d112_11)) - 1) (j : Int))) := zI_st w112_704 (e := d112_11) (v := (w112_704 (d112_11)) - 1) (by omega) (by omega)
          rw [eQ] at hP hD
          clear eQ
          have ra_2017 : ∀ j : Int, 0 ≤ zup w112_704 (d112_11) ((w112_704 (d112_11)) - 1) j ∧ zup w112_704 (d112_11) ((w112_704 (d112_11)) - 1) j ≤ 2000 := zup_P (P := fun x9 => 0 ≤ x9 ∧ x9 ≤ 2000) jw112_704 (show 0 ≤ ((w112_704 (d112_11)) - 1) ∧ ((w112_704 (d112_11)) - 1) ≤ 2000 by omega)
          obtain ⟨a_2017, ea_2017⟩ : ∃ a9 : Int → Int, a9 = zup w112_704 (d112_11) ((w112_704 (d112_11)) - 1) := ⟨_, rfl⟩
          rw [← ea_2017] at hP hD ra_2017
          have hP : va_P (dC, dI) vwP [(q_704, .inl (cA_704, 301, .inl (fun j : Nat => zI (a_2017 (j : Int))))), (h0, .inr (0, [.int (zI (B1)), .int (zI (R1)), v_2, v_3, .ref q_704, .ref q_705, .ref q_706, .ref q_707, .ref q_708, v_9, v_10, v_11, v_12, v_13, v_14, v_15, v_16, v_17, v_18])), (q_705, .inl (cA_705, 2000, .inl (fun j : Nat => zI (a0_2001 (j : Int))))), (q_706, .inl (cA_706, 2000, .inl (fun j : Nat => zI (a1_2002 (j : Int))))), (q_707, .inl (cA_707, 2000, .inr (.inl (fun j : Nat => lI (a2_2003 (j : Int)))))), (q_708, .inl (cA_708, 2000, .inr (.inl (fun j : Nat => lI (a3_2004 (j : Int))))))] H := hP
          have hD : va_D A [(q_704, .inl (cA_704, 301, .inl (fun j : Nat => zI (a_2017 (j : Int))))), (h0, .inr (0, [.int (zI (B1)), .int (zI (R1)), v_2, v_3, .ref q_704, .ref q_705, .ref q_706, .ref q_707, .ref q_708, v_9, v_10, v_11, v_12, v_13, v_14, v_15, v_16, v_17, v_18])), (q_705, .inl (cA_705, 2000, .inl (fun j : Nat => zI (a0_2001 (j : Int))))), (q_706, .inl (cA_706, 2000, .inl (fun j : Nat => zI (a1_2002 (j : Int))))), (q_707, .inl (cA_707, 2000, .inr (.inl (fun j : Nat => lI (a2_2003 (j : Int)))))), (q_708, .inl (cA_708, 2000, .inr (.inl (fun j : Nat => lI (a3_2004 (j : Int))))))] := hD
          refine lv_iinc (v := zI (d112_11 + 1)) (lv' := [(11, .int (zI (d112_11 + 1))), (0, .ref h0), (1, .int (zI (i))), (2, .int (zI (b))), (3, .int (zI (b2))), (4, .int (zI (a_5 (i)))), (5, .int (zI (a_6 (i)))), (6, .long (lI (a_7 (i)))), (8, .long (lI (a_8 (i)))), (10, .int (zI (a_4 (b2 + 1) - 1)))]) hx hb dX0_moveRowToEnd_129 hl (k := 9) rfl (zI_add (d112_11) (1)) (by decide) rfl (fun ls hl => ?_)
          refine lv_goto (tgt := 112) hx hb dX0_moveRowToEnd_132 (by decide) ?_
          exact ih112 (d112_11 + 1) a_2017 ls H _ (by omega) ra_2017 (by rw [ea_2017]; exact RSU.set jr (by omega) (by omega)) (by omega) (lv_sub hl [1, 2, 3, 4, 5, 6, 7, 8, 9, 0] rfl) hP hD hS
    exact key112 (((b2) - (b + 1) + 1 : Int).toNat + 1) (b + 1) a_4 ls H _ (by omega) hR_a_4 (RSU.init _ (by omega)) (by omega) (lv_sub hl [6, 7, 8, 9, 5, 4, 3, 2, 1, 0] rfl) hP hD hS
  · have yb44 : ¬ (b : Int) ≤ (b2 : Int) := fun q => b44 ((zI_le (a := b) (b := b2) (by omega) (by omega) (by omega) (by omega)).mpr q)
    have hl9 := hX_MR.le' (a := b2 + 1) (b := b) (by omega) (by omega) (by omega)
    refine lv_aload_n hx hb dX0_moveRowToEnd_47 rfl (lv_at hl 5 rfl) ?_
    refine lv_iload hx hb dX0_moveRowToEnd_48 (lv_at hl 0 rfl) ?_
    refine lv_iload hx hb dX0_moveRowToEnd_50 (lv_at hl 0 rfl) ?_
    refine lv_iconst (v := 1) hx hb dX0_moveRowToEnd_52 (by decide) ?_
    refine lv_iadd hx hb dX0_moveRowToEnd_53 ?_
    refine lv_topi (fun z ez => ?_)
    obtain rfl : z = zI ((a_4 (b2 + 1)) + 1) := ez.trans (zI_add (a_4 (b2 + 1)) (1))
    refine lv_iload_n hx hb dX0_moveRowToEnd_54 rfl (lv_at hl 6 rfl) ?_
    refine lv_iload hx hb dX0_moveRowToEnd_55 (lv_at hl 0 rfl) ?_
    refine lv_isub hx hb dX0_moveRowToEnd_57 ?_
    refine lv_topi (fun z ez => ?_)
    obtain rfl : z = zI (i - (a_4 (b2 + 1))) := ez.trans (zI_sub (i) (a_4 (b2 + 1)))
    have hPc := hP.sub (ws' := [(h0, .inr (0, [.int (zI (B1)), .int (zI (R1)), v_2, v_3, .ref q_704, .ref q_705, .ref q_706, .ref q_707, .ref q_708, v_9, v_10, v_11, v_12, v_13, v_14, v_15, v_16, v_17, v_18])), (q_705, .inl (cA_705, 2000, .inl (fun j : Nat => zI (a_5 (j : Int))))), (q_706, .inl (cA_706, 2000, .inl (fun j : Nat => zI (a_6 (j : Int))))), (q_707, .inl (cA_707, 2000, .inr (.inl (fun j : Nat => lI (a_7 (j : Int)))))), (q_708, .inl (cA_708, 2000, .inr (.inl (fun j : Nat => lI (a_8 (j : Int))))))]) [0, 2, 3, 4, 5] rfl
    have hDc := hD.sub (ws' := [(h0, .inr (0, [.int (zI (B1)), .int (zI (R1)), v_2, v_3, .ref q_704, .ref q_705, .ref q_706, .ref q_707, .ref q_708, v_9, v_10, v_11, v_12, v_13, v_14, v_15, v_16, v_17, v_18])), (q_705, .inl (cA_705, 2000, .inl (fun j : Nat => zI (a_5 (j : Int))))), (q_706, .inl (cA_706, 2000, .inl (fun j : Nat => zI (a_6 (j : Int))))), (q_707, .inl (cA_707, 2000, .inr (.inl (fun j : Nat => lI (a_7 (j : Int)))))), (q_708, .inl (cA_708, 2000, .inr (.inl (fun j : Nat => lI (a_8 (j : Int))))))]) [0, 2, 3, 4, 5] (by decide) rfl
    have hKc := hK.sub (tys' := [(cA_705, .int), (cA_706, .int), (cA_707, .long), (cA_708, .long)]) [1, 2, 3, 4] rfl
    have hFc := va_free (wc := [(h0, .inr (0, [.int (zI (B1)), .int (zI (R1)), v_2, v_3, .ref q_704, .ref q_705, .ref q_706, .ref q_707, .ref q_708, v_9, v_10, v_11, v_12, v_13, v_14, v_15, v_16, v_17, v_18])), (q_705, .inl (cA_705, 2000, .inl (fun j : Nat => zI (a_5 (j : Int))))), (q_706, .inl (cA_706, 2000, .inl (fun j : Nat => zI (a_6 (j : Int))))), (q_707, .inl (cA_707, 2000, .inr (.inl (fun j : Nat => lI (a_7 (j : Int)))))), (q_708, .inl (cA_708, 2000, .inr (.inl (fun j : Nat => lI (a_8 (j : Int))))))]) hD hS hA [0, 2, 3, 4, 5] rfl
    refine va_callv (va_runV (As := [.int (zI (a_4 (b2 + 1))), .int (zI ((a_4 (b2 + 1)) + 1)), .int (zI (i - (a_4 (b2 + 1))))]) (rest := []) ⟨hx, hb, hml, hown, hts⟩ (c_X0_shiftRowsL l dC dI h0 (.int (zI (B1))) (.int (zI (R1))) v_2 v_3 (.ref q_704) q_705 cA_705 a_5 q_706 cA_706 a_6 q_707 cA_707 a_7 q_708 cA_708 a_8 v_9 v_10 v_11 v_12 v_13 v_14 v_15 v_16 v_17 v_18 (a_4 (b2 + 1)) ((a_4 (b2 + 1)) + 1) (i - (a_4 (b2 + 1))) hR_a_5 hR_a_6 hR_a_7 hR_a_8 (by omega) H.size) (cwV 3 hts g_X0_moveRowM_X0_shiftRowsL rfl rfl rfl (by decide +kernel) ⟨(Nat.le_of_ble_eq_true rfl), (Nat.le_of_ble_eq_true rfl)⟩) ⟨fun a U g mk q => by obtain ⟨q0, q1, qP, qK, qD⟩ := q; exact ⟨q0, q1, qP, va_K.moved (u := U) (U := U.calling g mk a) (Vm.Alike.refl U.vm) qK, qD⟩, va_recv hKc hPc (ci := 0) (q0 := 0) rfl rfl, fun U hU hW => ⟨rfl, by rw [hU], by rw [hU]; exact hPc, va_K.moved hW.alike hKc, hDc.weaken (fun _ _ _ _ => trivial)⟩⟩ rfl rfl hl.1 rfl (lv_room (Nat.le_of_ble_eq_true rfl)) dX0_moveRowToEnd_58 ⟨(Nat.le_of_ble_eq_true rfl), (Nat.le_of_ble_eq_true rfl)⟩) hS (fun q _ h => hFc q h) hFc (fun  u t H1 locs ht hvm hw hB hz1 hk1 hS => ?_)
    obtain ⟨a0_2018, a1_2019, a2_2020, a3_2021, hxt_2021, hP1, hK1, hD1⟩ := hB
    rw [ht] at hP1
    have hK1 := va_K.moved hvm.symm hK1
    obtain ⟨hP, hD⟩ := va_join (wr := [(q_704, .inl (cA_704, 301, .inl (fun j : Nat => zI (a_4 (j : Int)))))]) (w1 := [(h0, .inr (0, [.int (zI (B1)), .int (zI (R1)), v_2, v_3, .ref q_704, .ref q_705, .ref q_706, .ref q_707, .ref q_708, v_9, v_10, v_11, v_12, v_13, v_14, v_15, v_16, v_17, v_18])), (q_705, .inl (cA_705, 2000, .inl (fun j : Nat => zI (a0_2018 (j : Int))))), (q_706, .inl (cA_706, 2000, .inl (fun j : Nat => zI (a1_2019 (j : Int))))), (q_707, .inl (cA_707, 2000, .inr (.inl (fun j : Nat => lI (a2_2020 (j : Int)))))), (q_708, .inl (cA_708, 2000, .inr (.inl (fun j : Nat => lI (a3_2021 (j : Int))))))]) hP hD [0, 2, 3, 4, 5] [1] rfl rfl (by decide) (by decide) hk1 hFc hP1 hD1
    have hK := (hK.sub (tys' := [(cA_704, .int)]) [0] rfl).app hK1
    generalize H1 = H at hP hS ⊢
    have hP : va_P (dC, dI) vwP [(q_704, .inl (cA_704, 301, .inl (fun j : Nat => zI (a_4 (j : Int))))), (h0, .inr (0, [.int (zI (B1)), .int (zI (R1)), v_2, v_3, .ref q_704, .ref q_705, .ref q_706, .ref q_707, .ref q_708, v_9, v_10, v_11, v_12, v_13, v_14, v_15, v_16, v_17, v_18])), (q_705, .inl (cA_705, 2000, .inl (fun j : Nat => zI (a0_2018 (j : Int))))), (q_706, .inl (cA_706, 2000, .inl (fun j : Nat => zI (a1_2019 (j : Int))))), (q_707, .inl (cA_707, 2000, .inr (.inl (fun j : Nat => lI (a2_2020 (j : Int)))))), (q_708, .inl (cA_708, 2000, .inr (.inl (fun j : Nat => lI (a3_2021 (j : Int))))))] H := hP
    have hD : va_D A [(q_704, .inl (cA_704, 301, .inl (fun j : Nat => zI (a_4 (j : Int))))), (h0, .inr (0, [.int (zI (B1)), .int (zI (R1)), v_2, v_3, .ref q_704, .ref q_705, .ref q_706, .ref q_707, .ref q_708, v_9, v_10, v_11, v_12, v_13, v_14, v_15, v_16, v_17, v_18])), (q_705, .inl (cA_705, 2000, .inl (fun j : Nat => zI (a0_2018 (j : Int))))), (q_706, .inl (cA_706, 2000, .inl (fun j : Nat => zI (a1_2019 (j : Int))))), (q_707, .inl (cA_707, 2000, .inr (.inl (fun j : Nat => lI (a2_2020 (j : Int)))))), (q_708, .inl (cA_708, 2000, .inr (.inl (fun j : Nat => lI (a3_2021 (j : Int))))))] := hD
    have hK : va_K (dC, dI) vwP [(cA_704, .int), (cA_705, .int), (cA_706, .int), (cA_707, .long), (cA_708, .long)] s := hK
    refine W.widen (k := 0) (n := 0) (Nat.le_of_ble_eq_true rfl) (Nat.le_of_ble_eq_true rfl) ?_
    obtain ⟨rk_2022, rk_2023, rk_2024, rk_2025, hu_2025⟩ := hxt_2021
    have hsh := hu_2025
    refine lv_iload_n hx hb dX0_moveRowToEnd_61 rfl (lv_at hl 8 rfl) ?_
    refine lv_iconst (v := 1) hx hb dX0_moveRowToEnd_62 (by decide) ?_
    refine lv_iadd hx hb dX0_moveRowToEnd_63 ?_
    refine lv_topi (fun z ez => ?_)
    obtain rfl : z = zI (b2 + 1) := ez.trans (zI_add (b2) (1))
    refine lv_istore (lv' := [(11, .int (zI (b2 + 1))), (10, .int (zI (a_4 (b2 + 1)))), (8, .long (lI (a_8 (i)))), (6, .long (lI (a_7 (i)))), (5, .int (zI (a_6 (i)))), (4, .int (zI (a_5 (i)))), (0, .ref h0), (1, .int (zI (i))), (2, .int (zI (b))), (3, .int (zI (b2)))]) hx hb dX0_moveRowToEnd_64 hl (by decide) rfl (fun ls hl => ?_)
    have key66 : ∀ n66 : Nat, ∀ (d66_11 : Int) (w66_704 : Int → Int) (ls : Array Slot) (H : Heap) (locs : List Loc), (b2 + 1 ≤ d66_11 ∧ d66_11 ≤ b + 1) → (∀ j : Int, 0 ≤ w66_704 j ∧ w66_704 j ≤ 2000) → (RSU a_4 w66_704 b2 d66_11 1) → (((b) - (d66_11) + 1 : Int).toNat) < n66 → lv_has ls 12 [(0, .ref h0), (1, .int (zI (i))), (2, .int (zI (b))), (3, .int (zI (b2))), (4, .int (zI (a_5 (i)))), (5, .int (zI (a_6 (i)))), (6, .long (lI (a_7 (i)))), (8, .long (lI (a_8 (i)))), (10, .int (zI (a_4 (b2 + 1)))), (11, .int (zI (d66_11)))] → va_P (dC, dI) vwP [(q_704, .inl (cA_704, 301, .inl (fun j : Nat => zI (w66_704 (j : Int))))), (h0, .inr (0, [.int (zI (B1)), .int (zI (R1)), v_2, v_3, .ref q_704, .ref q_705, .ref q_706, .ref q_707, .ref q_708, v_9, v_10, v_11, v_12, v_13, v_14, v_15, v_16, v_17, v_18])), (q_705, .inl (cA_705, 2000, .inl (fun j : Nat => zI (a0_2018 (j : Int))))), (q_706, .inl (cA_706, 2000, .inl (fun j : Nat => zI (a1_2019 (j : Int))))), (q_707, .inl (cA_707, 2000, .inr (.inl (fun j : Nat => lI (a2_2020 (j : Int)))))), (q_708, .inl (cA_708, 2000, .inr (.inl (fun j : Nat => lI (a3_2021 (j : Int))))))] H → va_D A [(q_704, .inl (cA_704, 301, .inl (fun j : Nat => zI (w66_704 (j : Int))))), (h0, .inr (0, [.int (zI (B1)), .int (zI (R1)), v_2, v_3, .ref q_704, .ref q_705, .ref q_706, .ref q_707, .ref q_708, v_9, v_10, v_11, v_12, v_13, v_14, v_15, v_16, v_17, v_18])), (q_705, .inl (cA_705, 2000, .inl (fun j : Nat => zI (a0_2018 (j : Int))))), (q_706, .inl (cA_706, 2000, .inl (fun j : Nat => zI (a1_2019 (j : Int))))), (q_707, .inl (cA_707, 2000, .inr (.inl (fun j : Nat => lI (a2_2020 (j : Int)))))), (q_708, .inl (cA_708, 2000, .inr (.inl (fun j : Nat => lI (a3_2021 (j : Int))))))] → va_S A s.heap H locs → W p l e (headSpec v_X0_moveRowM ({ frames := 2, cells := 0, slots := 0, locals := 83 })).room s m ([.ref h0, .int (zI (i)), .int (zI (b)), .int (zI (b2))] : List Value).toArray below meth c H locs 0 0 Q (F0 m 66 ls []) := by
      intro n66
      induction n66 with
      | zero => intro d66_11 w66_704 ls H locs jd66_11 jw66_704 jr hm66; exact absurd hm66 (by omega)
      | succ n66 ih66 =>
        intro d66_11 w66_704 ls H locs jd66_11 jw66_704 jr hm66 hl hP hD hS
        refine lv_iload hx hb dX0_moveRowToEnd_66 (lv_at hl 9 rfl) ?_
        refine lv_iload_n hx hb dX0_moveRowToEnd_68 rfl (lv_at hl 2 rfl) ?_
        refine lv_icmp_gt (tgt := 89) hx hb dX0_moveRowToEnd_69 (by decide) (fun b69 => ?_) (fun b69 => ?_)
        · have yb69 : (b : Int) < (d66_11 : Int) := (zI_lt (a := b) (b := d66_11) (by omega) (by omega) (by omega) (by omega)).mp b69
          refine lv_goto (tgt := 135) hx hb dX0_moveRowToEnd_89 (by decide) ?_
          refine lv_aload_n hx hb dX0_moveRowToEnd_135 rfl (lv_at hl 0 rfl) ?_
          refine lv_iload hx hb dX0_moveRowToEnd_136 (lv_at hl 8 rfl) ?_
          refine lv_iload hx hb dX0_moveRowToEnd_138 (lv_at hl 4 rfl) ?_
          refine lv_iload hx hb dX0_moveRowToEnd_140 (lv_at hl 5 rfl) ?_
          refine lv_lload hx hb dX0_moveRowToEnd_142 (lv_at hl 6 rfl) ?_
          refine lv_lload hx hb dX0_moveRowToEnd_144 (lv_at hl 7 rfl) ?_
          have hPc := hP.sub (ws' := [(h0, .inr (0, [.int (zI (B1)), .int (zI (R1)), v_2, v_3, .ref q_704, .ref q_705, .ref q_706, .ref q_707, .ref q_708, v_9, v_10, v_11, v_12, v_13, v_14, v_15, v_16, v_17, v_18])), (q_705, .inl (cA_705, 2000, .inl (fun j : Nat => zI (a0_2018 (j : Int))))), (q_706, .inl (cA_706, 2000, .inl (fun j : Nat => zI (a1_2019 (j : Int))))), (q_707, .inl (cA_707, 2000, .inr (.inl (fun j : Nat => lI (a2_2020 (j : Int)))))), (q_708, .inl (cA_708, 2000, .inr (.inl (fun j : Nat => lI (a3_2021 (j : Int))))))]) [1, 2, 3, 4, 5] rfl
          have hDc := hD.sub (ws' := [(h0, .inr (0, [.int (zI (B1)), .int (zI (R1)), v_2, v_3, .ref q_704, .ref q_705, .ref q_706, .ref q_707, .ref q_708, v_9, v_10, v_11, v_12, v_13, v_14, v_15, v_16, v_17, v_18])), (q_705, .inl (cA_705, 2000, .inl (fun j : Nat => zI (a0_2018 (j : Int))))), (q_706, .inl (cA_706, 2000, .inl (fun j : Nat => zI (a1_2019 (j : Int))))), (q_707, .inl (cA_707, 2000, .inr (.inl (fun j : Nat => lI (a2_2020 (j : Int)))))), (q_708, .inl (cA_708, 2000, .inr (.inl (fun j : Nat => lI (a3_2021 (j : Int))))))]) [1, 2, 3, 4, 5] (by decide) rfl
          have hKc := hK.sub (tys' := [(cA_705, .int), (cA_706, .int), (cA_707, .long), (cA_708, .long)]) [1, 2, 3, 4] rfl
          have hFc := va_free (wc := [(h0, .inr (0, [.int (zI (B1)), .int (zI (R1)), v_2, v_3, .ref q_704, .ref q_705, .ref q_706, .ref q_707, .ref q_708, v_9, v_10, v_11, v_12, v_13, v_14, v_15, v_16, v_17, v_18])), (q_705, .inl (cA_705, 2000, .inl (fun j : Nat => zI (a0_2018 (j : Int))))), (q_706, .inl (cA_706, 2000, .inl (fun j : Nat => zI (a1_2019 (j : Int))))), (q_707, .inl (cA_707, 2000, .inr (.inl (fun j : Nat => lI (a2_2020 (j : Int)))))), (q_708, .inl (cA_708, 2000, .inr (.inl (fun j : Nat => lI (a3_2021 (j : Int))))))]) hD hS hA [1, 2, 3, 4, 5] rfl
          refine va_callv (va_runV (As := [.int (zI (a_4 (b2 + 1))), .int (zI (a_5 (i))), .int (zI (a_6 (i))), .long (lI (a_7 (i))), .long (lI (a_8 (i)))]) (rest := []) ⟨hx, hb, hml, hown, hts⟩ (c_X0_putRowL l dC dI h0 (.int (zI (B1))) (.int (zI (R1))) v_2 v_3 (.ref q_704) q_705 cA_705 a0_2018 q_706 cA_706 a1_2019 q_707 cA_707 a2_2020 q_708 cA_708 a3_2021 v_9 v_10 v_11 v_12 v_13 v_14 v_15 v_16 v_17 v_18 (a_4 (b2 + 1)) (a_6 (i)) (a_7 (i)) (a_8 (i)) (a_5 (i)) rk_2022 rk_2023 rk_2024 rk_2025 (by omega) (by omega) (by omega) (by omega) (by omega) H.size) (cwV 5 hts g_X0_moveRowM_X0_putRowL rfl rfl rfl (by decide +kernel) ⟨(Nat.le_of_ble_eq_true rfl), (Nat.le_of_ble_eq_true rfl)⟩) ⟨fun a U g mk q => by obtain ⟨q0, q1, qP, qK, qD⟩ := q; exact ⟨q0, q1, qP, va_K.moved (u := U) (U := U.calling g mk a) (Vm.Alike.refl U.vm) qK, qD⟩, va_recv hKc hPc (ci := 0) (q0 := 0) rfl rfl, fun U hU hW => ⟨rfl, by rw [hU], by rw [hU]; exact hPc, va_K.moved hW.alike hKc, hDc.weaken (fun _ _ _ _ => trivial)⟩⟩ rfl rfl hl.1 rfl (lv_room (Nat.le_of_ble_eq_true rfl)) dX0_moveRowToEnd_146 ⟨(Nat.le_of_ble_eq_true rfl), (Nat.le_of_ble_eq_true rfl)⟩) hS (fun q _ h => hFc q h) hFc (fun  u t H1 locs ht hvm hw hB hz1 hk1 hS => ?_)
          obtain ⟨a0_2026, a1_2027, a2_2028, a3_2029, hxt_2029, hP1, hK1, hD1⟩ := hB
          rw [ht] at hP1
          have hK1 := va_K.moved hvm.symm hK1
          obtain ⟨hP, hD⟩ := va_join (wr := [(q_704, .inl (cA_704, 301, .inl (fun j : Nat => zI (w66_704 (j : Int)))))]) (w1 := [(h0, .inr (0, [.int (zI (B1)), .int (zI (R1)), v_2, v_3, .ref q_704, .ref q_705, .ref q_706, .ref q_707, .ref q_708, v_9, v_10, v_11, v_12, v_13, v_14, v_15, v_16, v_17, v_18])), (q_705, .inl (cA_705, 2000, .inl (fun j : Nat => zI (a0_2026 (j : Int))))), (q_706, .inl (cA_706, 2000, .inl (fun j : Nat => zI (a1_2027 (j : Int))))), (q_707, .inl (cA_707, 2000, .inr (.inl (fun j : Nat => lI (a2_2028 (j : Int)))))), (q_708, .inl (cA_708, 2000, .inr (.inl (fun j : Nat => lI (a3_2029 (j : Int))))))]) hP hD [1, 2, 3, 4, 5] [0] rfl rfl (by decide) (by decide) hk1 hFc hP1 hD1
          have hK := (hK.sub (tys' := [(cA_704, .int)]) [0] rfl).app hK1
          generalize H1 = H at hP hS ⊢
          have hP : va_P (dC, dI) vwP [(q_704, .inl (cA_704, 301, .inl (fun j : Nat => zI (w66_704 (j : Int))))), (h0, .inr (0, [.int (zI (B1)), .int (zI (R1)), v_2, v_3, .ref q_704, .ref q_705, .ref q_706, .ref q_707, .ref q_708, v_9, v_10, v_11, v_12, v_13, v_14, v_15, v_16, v_17, v_18])), (q_705, .inl (cA_705, 2000, .inl (fun j : Nat => zI (a0_2026 (j : Int))))), (q_706, .inl (cA_706, 2000, .inl (fun j : Nat => zI (a1_2027 (j : Int))))), (q_707, .inl (cA_707, 2000, .inr (.inl (fun j : Nat => lI (a2_2028 (j : Int)))))), (q_708, .inl (cA_708, 2000, .inr (.inl (fun j : Nat => lI (a3_2029 (j : Int))))))] H := hP
          have hD : va_D A [(q_704, .inl (cA_704, 301, .inl (fun j : Nat => zI (w66_704 (j : Int))))), (h0, .inr (0, [.int (zI (B1)), .int (zI (R1)), v_2, v_3, .ref q_704, .ref q_705, .ref q_706, .ref q_707, .ref q_708, v_9, v_10, v_11, v_12, v_13, v_14, v_15, v_16, v_17, v_18])), (q_705, .inl (cA_705, 2000, .inl (fun j : Nat => zI (a0_2026 (j : Int))))), (q_706, .inl (cA_706, 2000, .inl (fun j : Nat => zI (a1_2027 (j : Int))))), (q_707, .inl (cA_707, 2000, .inr (.inl (fun j : Nat => lI (a2_2028 (j : Int)))))), (q_708, .inl (cA_708, 2000, .inr (.inl (fun j : Nat => lI (a3_2029 (j : Int))))))] := hD
          have hK : va_K (dC, dI) vwP [(cA_704, .int), (cA_705, .int), (cA_706, .int), (cA_707, .long), (cA_708, .long)] s := hK
          refine W.widen (k := 0) (n := 0) (Nat.le_of_ble_eq_true rfl) (Nat.le_of_ble_eq_true rfl) ?_
          obtain ⟨rk_2030, rk_2031, rk_2032, rk_2033, hu_2033⟩ := hxt_2029
          subst hQ
          have hP := hP.sub (ws' := [(h0, .inr (0, [.int (zI (B1)), .int (zI (R1)), v_2, v_3, .ref q_704, .ref q_705, .ref q_706, .ref q_707, .ref q_708, v_9, v_10, v_11, v_12, v_13, v_14, v_15, v_16, v_17, v_18])), (q_704, .inl (cA_704, 301, .inl (fun j : Nat => zI (w66_704 (j : Int))))), (q_705, .inl (cA_705, 2000, .inl (fun j : Nat => zI (a0_2026 (j : Int))))), (q_706, .inl (cA_706, 2000, .inl (fun j : Nat => zI (a1_2027 (j : Int))))), (q_707, .inl (cA_707, 2000, .inr (.inl (fun j : Nat => lI (a2_2028 (j : Int)))))), (q_708, .inl (cA_708, 2000, .inr (.inl (fun j : Nat => lI (a3_2029 (j : Int))))))]) [1, 0, 2, 3, 4, 5] rfl
          have hD := hD.sub (ws' := [(h0, .inr (0, [.int (zI (B1)), .int (zI (R1)), v_2, v_3, .ref q_704, .ref q_705, .ref q_706, .ref q_707, .ref q_708, v_9, v_10, v_11, v_12, v_13, v_14, v_15, v_16, v_17, v_18])), (q_704, .inl (cA_704, 301, .inl (fun j : Nat => zI (w66_704 (j : Int))))), (q_705, .inl (cA_705, 2000, .inl (fun j : Nat => zI (a0_2026 (j : Int))))), (q_706, .inl (cA_706, 2000, .inl (fun j : Nat => zI (a1_2027 (j : Int))))), (q_707, .inl (cA_707, 2000, .inr (.inl (fun j : Nat => lI (a2_2028 (j : Int)))))), (q_708, .inl (cA_708, 2000, .inr (.inl (fun j : Nat => lI (a3_2029 (j : Int))))))]) [1, 0, 2, 3, 4, 5] (by decide) rfl
          refine W.widen (k := 0) (n := 0) (Nat.le_of_ble_eq_true rfl) (Nat.le_of_ble_eq_true rfl) ?_
          exact W.vret hx hb hr (fun t ht hW => ⟨⟨(), rfl, trivial, w66_704, a0_2026, a1_2027, a2_2028, a3_2029, ⟨jw66_704, rk_2030, rk_2031, rk_2032, rk_2033, (by have q9 := hu_2033; exact ⟨MS.mvUp hX_MR jr (by omega) (show d66_11 = b + 1 by omega) (by omega) (by omega) (by omega), Or.inl ⟨by omega, (by rw [← show d66_11 = b + 1 by omega]; exact jr), (fun j => by rw [q9.1, q9.2.1, q9.2.2.1, q9.2.2.2, hsh.1, hsh.2.1, hsh.2.2.1, hsh.2.2.2]; exact ⟨cp_muU _ (by omega) j, cp_muU _ (by omega) j, cp_muU _ (by omega) j, cp_muU _ (by omega) j⟩)⟩⟩)⟩, by rw [ht]; exact hP, va_K.moved hW.alike hK, hD⟩, hS.F ht⟩) hS.2.2 dX0_moveRowToEnd_149
        · have yb69 : ¬ (b : Int) < (d66_11 : Int) := fun q => b69 ((zI_lt (a := b) (b := d66_11) (by omega) (by omega) (by omega) (by omega)).mpr q)
          have hq1 := jr.at
          have hq2 := hX_MR.le' (a := d66_11) (b := b) (by omega) (by omega) (by omega)
          have hq3 := hR_a_4 d66_11
          refine lv_aload_n hx hb dX0_moveRowToEnd_72 rfl (lv_at hl 0 rfl) ?_
          refine va_get (D := (dC, dI)) (ci := 0) (v := .ref q_704) (C := RX0) (T := TX0) (N := 19) hx hb hts mem_X0_moveRowM_0 hown hK hP 1 rfl rfl 4 (by decide) (ow (k := 4) rfl) (fun _ h9 => h9) rfl dX0_moveRowToEnd_73 ?_
          refine lv_iload hx hb dX0_moveRowToEnd_76 (lv_at hl 9 rfl) ?_
          refine lv_dup2_11 hx hb dX0_moveRowToEnd_78 rfl rfl ?_
          refine va_iald hx hb hK hP 0 0 rfl rfl (zI_in (a := d66_11) (n := 301) (by omega) (by omega) (by decide)) dX0_moveRowToEnd_79 ?_
          refine lv_topi (fun z ez => ?_)
          obtain rfl : z = zI (w66_704 (d66_11)) := ez.trans (zI_ld (w66_704) (by omega) (by omega))
          have k7 := jw66_704 (d66_11)
          refine lv_iconst (v := 1) hx hb dX0_moveRowToEnd_80 (by decide) ?_
          refine lv_iadd hx hb dX0_moveRowToEnd_81 ?_
          refine lv_topi (fun z ez => ?_)
          obtain rfl : z = zI ((w66_704 (d66_11)) + 1) := ez.trans (zI_add (w66_704 (d66_11)) (1))
          refine va_iast (i := zI (d66_11)) hx hb hK hP hD hS 0 0 rfl rfl (zI_in (a := d66_11) (n := 301) (by omega) (by omega) (by decide)) dX0_moveRowToEnd_82 (fun H locs hP hD hS => ?_)
          have eQ : upd (fun j : Nat => zI (w66_704 (j : Int))) (zI (d66_11)).toNatClampNeg (zI ((w66_704 (d66_11)) + 1)) = (fun j : Nat => zI (zup w66_704 (d66_11) ((w66_704 (d66_11)) + 1) (j : Int))) := zI_st w66_704 (e := d66_11) (v := (w66_704 (d66_11)) + 1) (by omega) (by omega)
          rw [eQ] at hP hD
          clear eQ
          have ra_2034 : ∀ j : Int, 0 ≤ zup w66_704 (d66_11) ((w66_704 (d66_11)) + 1) j ∧ zup w66_704 (d66_11) ((w66_704 (d66_11)) + 1) j ≤ 2000 := zup_P (P := fun x9 => 0 ≤ x9 ∧ x9 ≤ 2000) jw66_704 (show 0 ≤ ((w66_704 (d66_11)) + 1) ∧ ((w66_704 (d66_11)) + 1) ≤ 2000 by omega)
          obtain ⟨a_2034, ea_2034⟩ : ∃ a9 : Int → Int, a9 = zup w66_704 (d66_11) ((w66_704 (d66_11)) + 1) := ⟨_, rfl⟩
          rw [← ea_2034] at hP hD ra_2034
          have hP : va_P (dC, dI) vwP [(q_704, .inl (cA_704, 301, .inl (fun j : Nat => zI (a_2034 (j : Int))))), (h0, .inr (0, [.int (zI (B1)), .int (zI (R1)), v_2, v_3, .ref q_704, .ref q_705, .ref q_706, .ref q_707, .ref q_708, v_9, v_10, v_11, v_12, v_13, v_14, v_15, v_16, v_17, v_18])), (q_705, .inl (cA_705, 2000, .inl (fun j : Nat => zI (a0_2018 (j : Int))))), (q_706, .inl (cA_706, 2000, .inl (fun j : Nat => zI (a1_2019 (j : Int))))), (q_707, .inl (cA_707, 2000, .inr (.inl (fun j : Nat => lI (a2_2020 (j : Int)))))), (q_708, .inl (cA_708, 2000, .inr (.inl (fun j : Nat => lI (a3_2021 (j : Int))))))] H := hP
          have hD : va_D A [(q_704, .inl (cA_704, 301, .inl (fun j : Nat => zI (a_2034 (j : Int))))), (h0, .inr (0, [.int (zI (B1)), .int (zI (R1)), v_2, v_3, .ref q_704, .ref q_705, .ref q_706, .ref q_707, .ref q_708, v_9, v_10, v_11, v_12, v_13, v_14, v_15, v_16, v_17, v_18])), (q_705, .inl (cA_705, 2000, .inl (fun j : Nat => zI (a0_2018 (j : Int))))), (q_706, .inl (cA_706, 2000, .inl (fun j : Nat => zI (a1_2019 (j : Int))))), (q_707, .inl (cA_707, 2000, .inr (.inl (fun j : Nat => lI (a2_2020 (j : Int)))))), (q_708, .inl (cA_708, 2000, .inr (.inl (fun j : Nat => lI (a3_2021 (j : Int))))))] := hD
          refine lv_iinc (v := zI (d66_11 + 1)) (lv' := [(11, .int (zI (d66_11 + 1))), (0, .ref h0), (1, .int (zI (i))), (2, .int (zI (b))), (3, .int (zI (b2))), (4, .int (zI (a_5 (i)))), (5, .int (zI (a_6 (i)))), (6, .long (lI (a_7 (i)))), (8, .long (lI (a_8 (i)))), (10, .int (zI (a_4 (b2 + 1))))]) hx hb dX0_moveRowToEnd_83 hl (k := 9) rfl (zI_add (d66_11) (1)) (by decide) rfl (fun ls hl => ?_)
          refine lv_goto (tgt := 66) hx hb dX0_moveRowToEnd_86 (by decide) ?_
          exact ih66 (d66_11 + 1) a_2034 ls H _ (by omega) ra_2034 (by rw [ea_2034]; exact RSU.set jr (by omega) (by omega)) (by omega) (lv_sub hl [1, 2, 3, 4, 5, 6, 7, 8, 9, 0] rfl) hP hD hS
    exact key66 (((b) - (b2 + 1) + 1 : Int).toNat + 1) (b2 + 1) a_4 ls H _ (by omega) hR_a_4 (RSU.init _ (by omega)) (by omega) (lv_sub hl [6, 7, 8, 9, 5, 4, 3, 2, 1, 0] rfl) hP hD hS
