def o_X0_closeBlockN : List Cond := [.fieldLink RX0 9 "SsaForge$Code" "blocks" "I", .fieldLink RX0 41 "SsaForge$Code" "endKind" "[I", .fieldLink RX0 44 "SsaForge$Code" "endUse" "[J", .fieldLink RX0 47 "SsaForge$Code" "goalOne" "[I", .fieldLink RX0 50 "SsaForge$Code" "goalTwo" "[I", .fieldLink RX0 24 "SsaForge$Code" "rowStart" "[I", .fieldLink RX0 15 "SsaForge$Code" "rows" "I", .fieldLink RX0 59 "SsaForge$Code" "phiStart" "[I", .fieldLink RX0 18 "SsaForge$Code" "phis" "I"]
def v_X0_closeBlockN : List Cond := .code yX0_closeBlock cX0_closeBlock 6 (some .boolean) :: (o_X0_closeBlockN ++ (wsX00 ++ []))
theorem mow_X0_closeBlockN : ∀ w ∈ o_X0_closeBlockN, w ∈ v_X0_closeBlockN := fun _ h => List.mem_cons_of_mem _ (List.mem_append_left _ h)
theorem mem_X0_closeBlockN_0 : ∀ w ∈ wsX00, w ∈ v_X0_closeBlockN := fun _ h => List.mem_cons_of_mem _ (List.mem_append_right _ (List.mem_append_left _ h))
set_option maxRecDepth 20000 in
theorem gw_X0_closeBlockN : v_X0_closeBlockN.all goodWord = true := by decide +kernel
set_option maxHeartbeats 4000000 in
set_option maxRecDepth 100000 in
theorem c_X0_closeBlockN (l : Launch) (dC : Nat → ClassId) (dI : Nat → Nat → Nat) (h0 : Nat) (B1 : Int) (R1 : Int) (P1 : Int) (v_3 : Value) (q_704 : Nat) (cA_704 : ClassId) (a_4 : Int → Int) (v_5 : Value) (v_6 : Value) (v_7 : Value) (v_8 : Value) (q_709 : Nat) (cA_709 : ClassId) (a_9 : Int → Int) (q_710 : Nat) (cA_710 : ClassId) (a_10 : Int → Int) (q_711 : Nat) (cA_711 : ClassId) (a_11 : Int → Int) (q_712 : Nat) (cA_712 : ClassId) (a_12 : Int → Int) (v_13 : Value) (v_14 : Value) (q_715 : Nat) (cA_715 : ClassId) (a_15 : Int → Int) (v_16 : Value) (v_17 : Value) (v_18 : Value) (ki : Int) (x : Int) (g1 : Int) (g2 : Int) (M0 : Int) (hNB1 : 0 ≤ B1 ∧ B1 ≤ 300) (hNR1 : 0 ≤ R1 ∧ R1 ≤ 2000) (hNP1 : 0 ≤ P1 ∧ P1 ≤ 1000) (hR_a_4 : ∀ j : Int, 0 ≤ a_4 j ∧ a_4 j ≤ 2000) (hR_a_9 : ∀ j : Int, 0 ≤ a_9 j ∧ a_9 j ≤ 2) (hR_a_10 : ∀ j : Int, ((-2147483648 ≤ a_10 j ∧ a_10 j ≤ 4294968319) ∨ a_10 j = 1099511627776)) (hR_a_11 : ∀ j : Int, -1 ≤ a_11 j ∧ a_11 j ≤ 299) (hR_a_12 : ∀ j : Int, -1 ≤ a_12 j ∧ a_12 j ≤ 299) (hR_a_15 : ∀ j : Int, 0 ≤ a_15 j ∧ a_15 j ≤ 1000) (hNk : 0 ≤ ki ∧ ki ≤ 2) (hNx : ((-2147483648 ≤ x ∧ x ≤ 4294968319) ∨ x = 1099511627776)) (hNg : -1 ≤ g1 ∧ g1 ≤ 299 ∧ -1 ≤ g2 ∧ g2 ≤ 299) (hX_B : BLD B1 R1 a_4 a_15 a_9 a_11 a_12 M0) (hNp : P1 = 0) (hNm : ki = 2 ∨ ((0 ≤ g1 ∧ g1 < M0) ∧ (0 ≤ g2 ∧ g2 < M0))) (hNb : B1 < 300) (sz : Nat) : Met l yX0_closeBlock v_X0_closeBlockN ({ frames := 0, cells := 0, slots := 0, locals := 0 }) (va_Pc [.ref h0, .int (zI (ki)), .long (lI (x)), .int (zI (g1)), .int (zI (g2))] (fun U => U.heap.size = sz ∧ va_P (dC, dI) vwP [(h0, .inr (0, [.int (zI (B1)), .int (zI (R1)), .int (zI (P1)), v_3, .ref q_704, v_5, v_6, v_7, v_8, .ref q_709, .ref q_710, .ref q_711, .ref q_712, v_13, v_14, .ref q_715, v_16, v_17, v_18])), (q_704, .inl (cA_704, 301, .inl (fun j : Nat => zI (a_4 (j : Int))))), (q_709, .inl (cA_709, 300, .inl (fun j : Nat => zI (a_9 (j : Int))))), (q_710, .inl (cA_710, 300, .inr (.inl (fun j : Nat => lI (a_10 (j : Int)))))), (q_711, .inl (cA_711, 300, .inl (fun j : Nat => zI (a_11 (j : Int))))), (q_712, .inl (cA_712, 300, .inl (fun j : Nat => zI (a_12 (j : Int))))), (q_715, .inl (cA_715, 301, .inl (fun j : Nat => zI (a_15 (j : Int)))))] U.heap ∧ va_K (dC, dI) vwP [(cA_704, .int), (cA_709, .int), (cA_710, .long), (cA_711, .int), (cA_712, .int), (cA_715, .int)] U ∧ va_D (fun _ => True) [(h0, .inr (0, [.int (zI (B1)), .int (zI (R1)), .int (zI (P1)), v_3, .ref q_704, v_5, v_6, v_7, v_8, .ref q_709, .ref q_710, .ref q_711, .ref q_712, v_13, v_14, .ref q_715, v_16, v_17, v_18])), (q_704, .inl (cA_704, 301, .inl (fun j : Nat => zI (a_4 (j : Int))))), (q_709, .inl (cA_709, 300, .inl (fun j : Nat => zI (a_9 (j : Int))))), (q_710, .inl (cA_710, 300, .inr (.inl (fun j : Nat => lI (a_10 (j : Int)))))), (q_711, .inl (cA_711, 300, .inl (fun j : Nat => zI (a_11 (j : Int))))), (q_712, .inl (cA_712, 300, .inl (fun j : Nat => zI (a_12 (j : Int))))), (q_715, .inl (cA_715, 301, .inl (fun j : Nat => zI (a_15 (j : Int)))))])) (va_Qi (fun (r : Int32) (zr : Int) => r = zI zr ∧ (zr = 1)) (fun (zr : Int) (t : State) => ∃ (z0_9 : Int) (a1_9 : Int → Int) (a2_9 : Int → Int) (a3_9 : Int → Int) (a4_9 : Int → Int) (a5_9 : Int → Int) (a6_9 : Int → Int), ((0 ≤ z0_9 ∧ z0_9 ≤ 300) ∧ (∀ j : Int, 0 ≤ a1_9 j ∧ a1_9 j ≤ 2000) ∧ (∀ j : Int, 0 ≤ a2_9 j ∧ a2_9 j ≤ 2) ∧ (∀ j : Int, ((-2147483648 ≤ a3_9 j ∧ a3_9 j ≤ 4294968319) ∨ a3_9 j = 1099511627776)) ∧ (∀ j : Int, -1 ≤ a4_9 j ∧ a4_9 j ≤ 299) ∧ (∀ j : Int, -1 ≤ a5_9 j ∧ a5_9 j ≤ 299) ∧ (∀ j : Int, 0 ≤ a6_9 j ∧ a6_9 j ≤ 1000) ∧ ((BLD z0_9 R1 a1_9 a6_9 a2_9 a4_9 a5_9 M0 ∧ z0_9 = B1 + 1 ∧ a1_9 z0_9 = R1) ∧ a2_9 = zup a_9 B1 ki ∧ a4_9 = zup a_11 B1 g1 ∧ a5_9 = zup a_12 B1 g2)) ∧ va_P (dC, dI) vwP [(h0, .inr (0, [.int (zI (z0_9)), .int (zI (R1)), .int (zI (P1)), v_3, .ref q_704, v_5, v_6, v_7, v_8, .ref q_709, .ref q_710, .ref q_711, .ref q_712, v_13, v_14, .ref q_715, v_16, v_17, v_18])), (q_704, .inl (cA_704, 301, .inl (fun j : Nat => zI (a1_9 (j : Int))))), (q_709, .inl (cA_709, 300, .inl (fun j : Nat => zI (a2_9 (j : Int))))), (q_710, .inl (cA_710, 300, .inr (.inl (fun j : Nat => lI (a3_9 (j : Int)))))), (q_711, .inl (cA_711, 300, .inl (fun j : Nat => zI (a4_9 (j : Int))))), (q_712, .inl (cA_712, 300, .inl (fun j : Nat => zI (a5_9 (j : Int))))), (q_715, .inl (cA_715, 301, .inl (fun j : Nat => zI (a6_9 (j : Int)))))] t.heap ∧ va_K (dC, dI) vwP [(cA_704, .int), (cA_709, .int), (cA_710, .long), (cA_711, .int), (cA_712, .int), (cA_715, .int)] t ∧ va_D (va_A [(h0, .inr (0, [.int (zI (B1)), .int (zI (R1)), .int (zI (P1)), v_3, .ref q_704, v_5, v_6, v_7, v_8, .ref q_709, .ref q_710, .ref q_711, .ref q_712, v_13, v_14, .ref q_715, v_16, v_17, v_18])), (q_704, .inl (cA_704, 301, .inl (fun j : Nat => zI (a_4 (j : Int))))), (q_709, .inl (cA_709, 300, .inl (fun j : Nat => zI (a_9 (j : Int))))), (q_710, .inl (cA_710, 300, .inr (.inl (fun j : Nat => lI (a_10 (j : Int)))))), (q_711, .inl (cA_711, 300, .inl (fun j : Nat => zI (a_11 (j : Int))))), (q_712, .inl (cA_712, 300, .inl (fun j : Nat => zI (a_12 (j : Int))))), (q_715, .inl (cA_715, 301, .inl (fun j : Nat => zI (a_15 (j : Int)))))] sz) [(h0, .inr (0, [.int (zI (z0_9)), .int (zI (R1)), .int (zI (P1)), v_3, .ref q_704, v_5, v_6, v_7, v_8, .ref q_709, .ref q_710, .ref q_711, .ref q_712, v_13, v_14, .ref q_715, v_16, v_17, v_18])), (q_704, .inl (cA_704, 301, .inl (fun j : Nat => zI (a1_9 (j : Int))))), (q_709, .inl (cA_709, 300, .inl (fun j : Nat => zI (a2_9 (j : Int))))), (q_710, .inl (cA_710, 300, .inr (.inl (fun j : Nat => lI (a3_9 (j : Int)))))), (q_711, .inl (cA_711, 300, .inl (fun j : Nat => zI (a4_9 (j : Int))))), (q_712, .inl (cA_712, 300, .inl (fun j : Nat => zI (a5_9 (j : Int))))), (q_715, .inl (cA_715, 301, .inl (fun j : Nat => zI (a6_9 (j : Int)))))]) (va_A [(h0, .inr (0, [.int (zI (B1)), .int (zI (R1)), .int (zI (P1)), v_3, .ref q_704, v_5, v_6, v_7, v_8, .ref q_709, .ref q_710, .ref q_711, .ref q_712, v_13, v_14, .ref q_715, v_16, v_17, v_18])), (q_704, .inl (cA_704, 301, .inl (fun j : Nat => zI (a_4 (j : Int))))), (q_709, .inl (cA_709, 300, .inl (fun j : Nat => zI (a_9 (j : Int))))), (q_710, .inl (cA_710, 300, .inr (.inl (fun j : Nat => lI (a_10 (j : Int)))))), (q_711, .inl (cA_711, 300, .inl (fun j : Nat => zI (a_11 (j : Int))))), (q_712, .inl (cA_712, 300, .inl (fun j : Nat => zI (a_12 (j : Int))))), (q_715, .inl (cA_715, 301, .inl (fun j : Nat => zI (a_15 (j : Int)))))] sz)) 0 0 (va_A [(h0, .inr (0, [.int (zI (B1)), .int (zI (R1)), .int (zI (P1)), v_3, .ref q_704, v_5, v_6, v_7, v_8, .ref q_709, .ref q_710, .ref q_711, .ref q_712, v_13, v_14, .ref q_715, v_16, v_17, v_18])), (q_704, .inl (cA_704, 301, .inl (fun j : Nat => zI (a_4 (j : Int))))), (q_709, .inl (cA_709, 300, .inl (fun j : Nat => zI (a_9 (j : Int))))), (q_710, .inl (cA_710, 300, .inr (.inl (fun j : Nat => lI (a_10 (j : Int)))))), (q_711, .inl (cA_711, 300, .inl (fun j : Nat => zI (a_11 (j : Int))))), (q_712, .inl (cA_712, 300, .inl (fun j : Nat => zI (a_12 (j : Int))))), (q_715, .inl (cA_715, 301, .inl (fun j : Nat => zI (a_15 (j : Int)))))] sz) := by
  refine Met.ofW (cc := cX0_closeBlock) (maxL := 6) (ret := (some .boolean)) (by decide) rfl ?_
  intro p e s m args below meth c s₁ B hml hv
  obtain ⟨rfl, hsz, hP, hK, hD0⟩ := hv
  have hx := B.exec
  have hb := B.bytes
  have hr := B.returns
  have hts := atoms_spec (ws := v_X0_closeBlockN) B.pre
  have hown : s.vm.findClass RX0 = some m.cls := findClass_of_methodNamed B.named
  have hlocks := B.notSynchronized
  have ow : ∀ {k : Nat} {w : Cond}, o_X0_closeBlockN[k]? = some w → w.before ([.ref h0, .int (zI (ki)), .long (lI (x)), .int (zI (g1)), .int (zI (g2))] : List Value).toArray s = true := fun h => hts _ (mow_X0_closeBlockN _ (List.mem_of_getElem? h))
  subst hsz
  have hD := hD0.self (sz := s.heap.size)
  generalize hAe : va_A [(h0, .inr (0, [.int (zI (B1)), .int (zI (R1)), .int (zI (P1)), v_3, .ref q_704, v_5, v_6, v_7, v_8, .ref q_709, .ref q_710, .ref q_711, .ref q_712, v_13, v_14, .ref q_715, v_16, v_17, v_18])), (q_704, .inl (cA_704, 301, .inl (fun j : Nat => zI (a_4 (j : Int))))), (q_709, .inl (cA_709, 300, .inl (fun j : Nat => zI (a_9 (j : Int))))), (q_710, .inl (cA_710, 300, .inr (.inl (fun j : Nat => lI (a_10 (j : Int)))))), (q_711, .inl (cA_711, 300, .inl (fun j : Nat => zI (a_11 (j : Int))))), (q_712, .inl (cA_712, 300, .inl (fun j : Nat => zI (a_12 (j : Int))))), (q_715, .inl (cA_715, 301, .inl (fun j : Nat => zI (a_15 (j : Int)))))] s.heap.size = A at hD ⊢
  have hA : ∀ q : Nat, s.heap.size ≤ q → A q := fun q h => by rw [← hAe]; exact Or.inr h
  have hS : va_S A s.heap s.heap [] := va_S.rf
  have hP : va_P (dC, dI) vwP [(h0, .inr (0, [.int (zI (B1)), .int (zI (R1)), .int (zI (P1)), v_3, .ref q_704, v_5, v_6, v_7, v_8, .ref q_709, .ref q_710, .ref q_711, .ref q_712, v_13, v_14, .ref q_715, v_16, v_17, v_18])), (q_704, .inl (cA_704, 301, .inl (fun j : Nat => zI (a_4 (j : Int))))), (q_709, .inl (cA_709, 300, .inl (fun j : Nat => zI (a_9 (j : Int))))), (q_710, .inl (cA_710, 300, .inr (.inl (fun j : Nat => lI (a_10 (j : Int)))))), (q_711, .inl (cA_711, 300, .inl (fun j : Nat => zI (a_11 (j : Int))))), (q_712, .inl (cA_712, 300, .inl (fun j : Nat => zI (a_12 (j : Int))))), (q_715, .inl (cA_715, 301, .inl (fun j : Nat => zI (a_15 (j : Int)))))] s.heap := hP
  have hl := lv_entry ([.ref h0, .int (zI (ki)), .long (lI (x)), .int (zI (g1)), .int (zI (g2))]) (n := 6) (Nat.le_of_ble_eq_true rfl)
  rw [lg_entry_eq]
  generalize (lg_sl ([.ref h0, .int (zI (ki)), .long (lI (x)), .int (zI (g1)), .int (zI (g2))]) ++ List.replicate (6 - (lg_sl ([.ref h0, .int (zI (ki)), .long (lI (x)), .int (zI (g1)), .int (zI (g2))])).length) Slot.unset).toArray = ls at hl ⊢
  have hl : lv_has ls 6 [(0, .ref h0), (1, .int (zI (ki))), (2, .long (lI (x))), (4, .int (zI (g1))), (5, .int (zI (g2)))] := hl
  obtain ⟨H, hH⟩ : ∃ H, H = s.heap := ⟨_, rfl⟩
  rw [← hH] at hP
  have hS : va_S A s.heap H [] := by rw [hH]; exact hS
  rw [← hH]
  refine zW_cap (fun Q hQ => ?_)
  refine lv_aload_n hx hb dX0_closeBlock_0 rfl (lv_at hl 0 rfl) ?_
  refine va_get (D := (dC, dI)) (ci := 0) (v := .int (zI (B1))) (C := RX0) (T := TX0) (N := 19) hx hb hts mem_X0_closeBlockN_0 hown hK hP 0 rfl rfl 0 (by decide) (ow (k := 0) rfl) (fun _ h9 => h9) rfl dX0_closeBlock_1 ?_
  refine lv_sipush (v := 300) hx hb dX0_closeBlock_4 (by decide) ?_
  refine lv_icmp_lt (tgt := 12) hx hb dX0_closeBlock_7 (by decide) (fun b7 => ?_) (fun b7 => ?_)
  · have yb7 : (B1 : Int) < (300 : Int) := (zI_lt (a := B1) (b := 300) (by omega) (by omega) (by omega) (by omega)).mp b7
    refine lv_aload_n hx hb dX0_closeBlock_12 rfl (lv_at hl 0 rfl) ?_
    refine va_get (D := (dC, dI)) (ci := 0) (v := .ref q_709) (C := RX0) (T := TX0) (N := 19) hx hb hts mem_X0_closeBlockN_0 hown hK hP 0 rfl rfl 9 (by decide) (ow (k := 1) rfl) (fun _ h9 => h9) rfl dX0_closeBlock_13 ?_
    refine lv_aload_n hx hb dX0_closeBlock_16 rfl (lv_at hl 0 rfl) ?_
    refine va_get (D := (dC, dI)) (ci := 0) (v := .int (zI (B1))) (C := RX0) (T := TX0) (N := 19) hx hb hts mem_X0_closeBlockN_0 hown hK hP 0 rfl rfl 0 (by decide) (ow (k := 0) rfl) (fun _ h9 => h9) rfl dX0_closeBlock_17 ?_
    refine lv_iload_n hx hb dX0_closeBlock_20 rfl (lv_at hl 1 rfl) ?_
    refine va_iast (i := zI (B1)) hx hb hK hP hD hS 2 1 rfl rfl (zI_in (a := B1) (n := 300) (by omega) (by omega) (by decide)) dX0_closeBlock_21 (fun H locs hP hD hS => ?_)
    have eQ : upd (fun j : Nat => zI (a_9 (j : Int))) (zI (B1)).toNatClampNeg (zI (ki)) = (fun j : Nat => zI (zup a_9 (B1) (ki) (j : Int))) := zI_st a_9 (e := B1) (v := ki) (by omega) (by omega)
    rw [eQ] at hP hD
    clear eQ
    have ra_2001 : ∀ j : Int, 0 ≤ zup a_9 (B1) (ki) j ∧ zup a_9 (B1) (ki) j ≤ 2 := zup_P (P := fun x9 => 0 ≤ x9 ∧ x9 ≤ 2) hR_a_9 (show 0 ≤ (ki) ∧ (ki) ≤ 2 by omega)
    obtain ⟨a_2001, ea_2001⟩ : ∃ a9 : Int → Int, a9 = zup a_9 (B1) (ki) := ⟨_, rfl⟩
    rw [← ea_2001] at hP hD ra_2001
    have hP : va_P (dC, dI) vwP [(h0, .inr (0, [.int (zI (B1)), .int (zI (R1)), .int (zI (P1)), v_3, .ref q_704, v_5, v_6, v_7, v_8, .ref q_709, .ref q_710, .ref q_711, .ref q_712, v_13, v_14, .ref q_715, v_16, v_17, v_18])), (q_704, .inl (cA_704, 301, .inl (fun j : Nat => zI (a_4 (j : Int))))), (q_709, .inl (cA_709, 300, .inl (fun j : Nat => zI (a_2001 (j : Int))))), (q_710, .inl (cA_710, 300, .inr (.inl (fun j : Nat => lI (a_10 (j : Int)))))), (q_711, .inl (cA_711, 300, .inl (fun j : Nat => zI (a_11 (j : Int))))), (q_712, .inl (cA_712, 300, .inl (fun j : Nat => zI (a_12 (j : Int))))), (q_715, .inl (cA_715, 301, .inl (fun j : Nat => zI (a_15 (j : Int)))))] H := hP
    have hD : va_D A [(h0, .inr (0, [.int (zI (B1)), .int (zI (R1)), .int (zI (P1)), v_3, .ref q_704, v_5, v_6, v_7, v_8, .ref q_709, .ref q_710, .ref q_711, .ref q_712, v_13, v_14, .ref q_715, v_16, v_17, v_18])), (q_704, .inl (cA_704, 301, .inl (fun j : Nat => zI (a_4 (j : Int))))), (q_709, .inl (cA_709, 300, .inl (fun j : Nat => zI (a_2001 (j : Int))))), (q_710, .inl (cA_710, 300, .inr (.inl (fun j : Nat => lI (a_10 (j : Int)))))), (q_711, .inl (cA_711, 300, .inl (fun j : Nat => zI (a_11 (j : Int))))), (q_712, .inl (cA_712, 300, .inl (fun j : Nat => zI (a_12 (j : Int))))), (q_715, .inl (cA_715, 301, .inl (fun j : Nat => zI (a_15 (j : Int)))))] := hD
    refine lv_aload_n hx hb dX0_closeBlock_22 rfl (lv_at hl 0 rfl) ?_
    refine va_get (D := (dC, dI)) (ci := 0) (v := .ref q_710) (C := RX0) (T := TX0) (N := 19) hx hb hts mem_X0_closeBlockN_0 hown hK hP 0 rfl rfl 10 (by decide) (ow (k := 2) rfl) (fun _ h9 => h9) rfl dX0_closeBlock_23 ?_
    refine lv_aload_n hx hb dX0_closeBlock_26 rfl (lv_at hl 0 rfl) ?_
    refine va_get (D := (dC, dI)) (ci := 0) (v := .int (zI (B1))) (C := RX0) (T := TX0) (N := 19) hx hb hts mem_X0_closeBlockN_0 hown hK hP 0 rfl rfl 0 (by decide) (ow (k := 0) rfl) (fun _ h9 => h9) rfl dX0_closeBlock_27 ?_
    refine lv_lload_n hx hb dX0_closeBlock_30 rfl (lv_at hl 2 rfl) ?_
    refine va_last (i := zI (B1)) hx hb hK hP hD hS 3 2 rfl rfl (zI_in (a := B1) (n := 300) (by omega) (by omega) (by decide)) dX0_closeBlock_31 (fun H locs hP hD hS => ?_)
    have eQ : vp_updL (fun j : Nat => lI (a_10 (j : Int))) (zI (B1)).toNatClampNeg (lI (x)) = (fun j : Nat => lI (zup a_10 (B1) (x) (j : Int))) := lI_st a_10 (e := B1) (v := x) (by omega) (by omega)
    rw [eQ] at hP hD
    clear eQ
    have ra_2002 : ∀ j : Int, ((-2147483648 ≤ zup a_10 (B1) (x) j ∧ zup a_10 (B1) (x) j ≤ 4294968319) ∨ zup a_10 (B1) (x) j = 1099511627776) := zup_P (P := fun x9 => ((-2147483648 ≤ x9 ∧ x9 ≤ 4294968319) ∨ x9 = 1099511627776)) hR_a_10 (show ((-2147483648 ≤ (x) ∧ (x) ≤ 4294968319) ∨ (x) = 1099511627776) by omega)
    generalize zup a_10 (B1) (x) = a_2002 at hP hD ra_2002
    have hP : va_P (dC, dI) vwP [(h0, .inr (0, [.int (zI (B1)), .int (zI (R1)), .int (zI (P1)), v_3, .ref q_704, v_5, v_6, v_7, v_8, .ref q_709, .ref q_710, .ref q_711, .ref q_712, v_13, v_14, .ref q_715, v_16, v_17, v_18])), (q_704, .inl (cA_704, 301, .inl (fun j : Nat => zI (a_4 (j : Int))))), (q_709, .inl (cA_709, 300, .inl (fun j : Nat => zI (a_2001 (j : Int))))), (q_710, .inl (cA_710, 300, .inr (.inl (fun j : Nat => lI (a_2002 (j : Int)))))), (q_711, .inl (cA_711, 300, .inl (fun j : Nat => zI (a_11 (j : Int))))), (q_712, .inl (cA_712, 300, .inl (fun j : Nat => zI (a_12 (j : Int))))), (q_715, .inl (cA_715, 301, .inl (fun j : Nat => zI (a_15 (j : Int)))))] H := hP
    have hD : va_D A [(h0, .inr (0, [.int (zI (B1)), .int (zI (R1)), .int (zI (P1)), v_3, .ref q_704, v_5, v_6, v_7, v_8, .ref q_709, .ref q_710, .ref q_711, .ref q_712, v_13, v_14, .ref q_715, v_16, v_17, v_18])), (q_704, .inl (cA_704, 301, .inl (fun j : Nat => zI (a_4 (j : Int))))), (q_709, .inl (cA_709, 300, .inl (fun j : Nat => zI (a_2001 (j : Int))))), (q_710, .inl (cA_710, 300, .inr (.inl (fun j : Nat => lI (a_2002 (j : Int)))))), (q_711, .inl (cA_711, 300, .inl (fun j : Nat => zI (a_11 (j : Int))))), (q_712, .inl (cA_712, 300, .inl (fun j : Nat => zI (a_12 (j : Int))))), (q_715, .inl (cA_715, 301, .inl (fun j : Nat => zI (a_15 (j : Int)))))] := hD
    refine lv_aload_n hx hb dX0_closeBlock_32 rfl (lv_at hl 0 rfl) ?_
    refine va_get (D := (dC, dI)) (ci := 0) (v := .ref q_711) (C := RX0) (T := TX0) (N := 19) hx hb hts mem_X0_closeBlockN_0 hown hK hP 0 rfl rfl 11 (by decide) (ow (k := 3) rfl) (fun _ h9 => h9) rfl dX0_closeBlock_33 ?_
    refine lv_aload_n hx hb dX0_closeBlock_36 rfl (lv_at hl 0 rfl) ?_
    refine va_get (D := (dC, dI)) (ci := 0) (v := .int (zI (B1))) (C := RX0) (T := TX0) (N := 19) hx hb hts mem_X0_closeBlockN_0 hown hK hP 0 rfl rfl 0 (by decide) (ow (k := 0) rfl) (fun _ h9 => h9) rfl dX0_closeBlock_37 ?_
    refine lv_iload hx hb dX0_closeBlock_40 (lv_at hl 3 rfl) ?_
    refine va_iast (i := zI (B1)) hx hb hK hP hD hS 4 3 rfl rfl (zI_in (a := B1) (n := 300) (by omega) (by omega) (by decide)) dX0_closeBlock_42 (fun H locs hP hD hS => ?_)
    have eQ : upd (fun j : Nat => zI (a_11 (j : Int))) (zI (B1)).toNatClampNeg (zI (g1)) = (fun j : Nat => zI (zup a_11 (B1) (g1) (j : Int))) := zI_st a_11 (e := B1) (v := g1) (by omega) (by omega)
    rw [eQ] at hP hD
    clear eQ
    have ra_2003 : ∀ j : Int, -1 ≤ zup a_11 (B1) (g1) j ∧ zup a_11 (B1) (g1) j ≤ 299 := zup_P (P := fun x9 => -1 ≤ x9 ∧ x9 ≤ 299) hR_a_11 (show -1 ≤ (g1) ∧ (g1) ≤ 299 by omega)
    obtain ⟨a_2003, ea_2003⟩ : ∃ a9 : Int → Int, a9 = zup a_11 (B1) (g1) := ⟨_, rfl⟩
    rw [← ea_2003] at hP hD ra_2003
    have hP : va_P (dC, dI) vwP [(h0, .inr (0, [.int (zI (B1)), .int (zI (R1)), .int (zI (P1)), v_3, .ref q_704, v_5, v_6, v_7, v_8, .ref q_709, .ref q_710, .ref q_711, .ref q_712, v_13, v_14, .ref q_715, v_16, v_17, v_18])), (q_704, .inl (cA_704, 301, .inl (fun j : Nat => zI (a_4 (j : Int))))), (q_709, .inl (cA_709, 300, .inl (fun j : Nat => zI (a_2001 (j : Int))))), (q_710, .inl (cA_710, 300, .inr (.inl (fun j : Nat => lI (a_2002 (j : Int)))))), (q_711, .inl (cA_711, 300, .inl (fun j : Nat => zI (a_2003 (j : Int))))), (q_712, .inl (cA_712, 300, .inl (fun j : Nat => zI (a_12 (j : Int))))), (q_715, .inl (cA_715, 301, .inl (fun j : Nat => zI (a_15 (j : Int)))))] H := hP
    have hD : va_D A [(h0, .inr (0, [.int (zI (B1)), .int (zI (R1)), .int (zI (P1)), v_3, .ref q_704, v_5, v_6, v_7, v_8, .ref q_709, .ref q_710, .ref q_711, .ref q_712, v_13, v_14, .ref q_715, v_16, v_17, v_18])), (q_704, .inl (cA_704, 301, .inl (fun j : Nat => zI (a_4 (j : Int))))), (q_709, .inl (cA_709, 300, .inl (fun j : Nat => zI (a_2001 (j : Int))))), (q_710, .inl (cA_710, 300, .inr (.inl (fun j : Nat => lI (a_2002 (j : Int)))))), (q_711, .inl (cA_711, 300, .inl (fun j : Nat => zI (a_2003 (j : Int))))), (q_712, .inl (cA_712, 300, .inl (fun j : Nat => zI (a_12 (j : Int))))), (q_715, .inl (cA_715, 301, .inl (fun j : Nat => zI (a_15 (j : Int)))))] := hD
    refine lv_aload_n hx hb dX0_closeBlock_43 rfl (lv_at hl 0 rfl) ?_
    refine va_get (D := (dC, dI)) (ci := 0) (v := .ref q_712) (C := RX0) (T := TX0) (N := 19) hx hb hts mem_X0_closeBlockN_0 hown hK hP 0 rfl rfl 12 (by decide) (ow (k := 4) rfl) (fun _ h9 => h9) rfl dX0_closeBlock_44 ?_
    refine lv_aload_n hx hb dX0_closeBlock_47 rfl (lv_at hl 0 rfl) ?_
    refine va_get (D := (dC, dI)) (ci := 0) (v := .int (zI (B1))) (C := RX0) (T := TX0) (N := 19) hx hb hts mem_X0_closeBlockN_0 hown hK hP 0 rfl rfl 0 (by decide) (ow (k := 0) rfl) (fun _ h9 => h9) rfl dX0_closeBlock_48 ?_
    refine lv_iload hx hb dX0_closeBlock_51 (lv_at hl 4 rfl) ?_
    refine va_iast (i := zI (B1)) hx hb hK hP hD hS 5 4 rfl rfl (zI_in (a := B1) (n := 300) (by omega) (by omega) (by decide)) dX0_closeBlock_53 (fun H locs hP hD hS => ?_)
    have eQ : upd (fun j : Nat => zI (a_12 (j : Int))) (zI (B1)).toNatClampNeg (zI (g2)) = (fun j : Nat => zI (zup a_12 (B1) (g2) (j : Int))) := zI_st a_12 (e := B1) (v := g2) (by omega) (by omega)
    rw [eQ] at hP hD
    clear eQ
    have ra_2004 : ∀ j : Int, -1 ≤ zup a_12 (B1) (g2) j ∧ zup a_12 (B1) (g2) j ≤ 299 := zup_P (P := fun x9 => -1 ≤ x9 ∧ x9 ≤ 299) hR_a_12 (show -1 ≤ (g2) ∧ (g2) ≤ 299 by omega)
    obtain ⟨a_2004, ea_2004⟩ : ∃ a9 : Int → Int, a9 = zup a_12 (B1) (g2) := ⟨_, rfl⟩
    rw [← ea_2004] at hP hD ra_2004
    have hP : va_P (dC, dI) vwP [(h0, .inr (0, [.int (zI (B1)), .int (zI (R1)), .int (zI (P1)), v_3, .ref q_704, v_5, v_6, v_7, v_8, .ref q_709, .ref q_710, .ref q_711, .ref q_712, v_13, v_14, .ref q_715, v_16, v_17, v_18])), (q_704, .inl (cA_704, 301, .inl (fun j : Nat => zI (a_4 (j : Int))))), (q_709, .inl (cA_709, 300, .inl (fun j : Nat => zI (a_2001 (j : Int))))), (q_710, .inl (cA_710, 300, .inr (.inl (fun j : Nat => lI (a_2002 (j : Int)))))), (q_711, .inl (cA_711, 300, .inl (fun j : Nat => zI (a_2003 (j : Int))))), (q_712, .inl (cA_712, 300, .inl (fun j : Nat => zI (a_2004 (j : Int))))), (q_715, .inl (cA_715, 301, .inl (fun j : Nat => zI (a_15 (j : Int)))))] H := hP
    have hD : va_D A [(h0, .inr (0, [.int (zI (B1)), .int (zI (R1)), .int (zI (P1)), v_3, .ref q_704, v_5, v_6, v_7, v_8, .ref q_709, .ref q_710, .ref q_711, .ref q_712, v_13, v_14, .ref q_715, v_16, v_17, v_18])), (q_704, .inl (cA_704, 301, .inl (fun j : Nat => zI (a_4 (j : Int))))), (q_709, .inl (cA_709, 300, .inl (fun j : Nat => zI (a_2001 (j : Int))))), (q_710, .inl (cA_710, 300, .inr (.inl (fun j : Nat => lI (a_2002 (j : Int)))))), (q_711, .inl (cA_711, 300, .inl (fun j : Nat => zI (a_2003 (j : Int))))), (q_712, .inl (cA_712, 300, .inl (fun j : Nat => zI (a_2004 (j : Int))))), (q_715, .inl (cA_715, 301, .inl (fun j : Nat => zI (a_15 (j : Int)))))] := hD
    refine lv_aload_n hx hb dX0_closeBlock_54 rfl (lv_at hl 0 rfl) ?_
    refine lv_dup hx hb dX0_closeBlock_55 rfl ?_
    refine va_get (D := (dC, dI)) (ci := 0) (v := .int (zI (B1))) (C := RX0) (T := TX0) (N := 19) hx hb hts mem_X0_closeBlockN_0 hown hK hP 0 rfl rfl 0 (by decide) (ow (k := 0) rfl) (fun _ h9 => h9) rfl dX0_closeBlock_56 ?_
    refine lv_iconst (v := 1) hx hb dX0_closeBlock_59 (by decide) ?_
    refine lv_iadd hx hb dX0_closeBlock_60 ?_
    refine lv_topi (fun z ez => ?_)
    obtain rfl : z = zI (B1 + 1) := ez.trans (zI_add (B1) (1))
    refine va_put (D := (dC, dI)) (ci := 0) (v := .int (zI (B1 + 1))) (ty := .int) (C := RX0) (T := TX0) (N := 19) hx hb hts mem_X0_closeBlockN_0 tyX0 tyX0_ok nmX0 hown hK hP hD hS 0 rfl rfl 0 (by decide) (ow (k := 0) rfl) (fun _ h9 => h9) rfl (by decide +kernel) rfl rfl (Nat.le_of_ble_eq_true rfl) dX0_closeBlock_61 (fun H locs hP hD hS => ?_)
    have hP : va_P (dC, dI) vwP [(h0, .inr (0, [.int (zI (B1 + 1)), .int (zI (R1)), .int (zI (P1)), v_3, .ref q_704, v_5, v_6, v_7, v_8, .ref q_709, .ref q_710, .ref q_711, .ref q_712, v_13, v_14, .ref q_715, v_16, v_17, v_18])), (q_704, .inl (cA_704, 301, .inl (fun j : Nat => zI (a_4 (j : Int))))), (q_709, .inl (cA_709, 300, .inl (fun j : Nat => zI (a_2001 (j : Int))))), (q_710, .inl (cA_710, 300, .inr (.inl (fun j : Nat => lI (a_2002 (j : Int)))))), (q_711, .inl (cA_711, 300, .inl (fun j : Nat => zI (a_2003 (j : Int))))), (q_712, .inl (cA_712, 300, .inl (fun j : Nat => zI (a_2004 (j : Int))))), (q_715, .inl (cA_715, 301, .inl (fun j : Nat => zI (a_15 (j : Int)))))] H := hP
    have hD : va_D A [(h0, .inr (0, [.int (zI (B1 + 1)), .int (zI (R1)), .int (zI (P1)), v_3, .ref q_704, v_5, v_6, v_7, v_8, .ref q_709, .ref q_710, .ref q_711, .ref q_712, v_13, v_14, .ref q_715, v_16, v_17, v_18])), (q_704, .inl (cA_704, 301, .inl (fun j : Nat => zI (a_4 (j : Int))))), (q_709, .inl (cA_709, 300, .inl (fun j : Nat => zI (a_2001 (j : Int))))), (q_710, .inl (cA_710, 300, .inr (.inl (fun j : Nat => lI (a_2002 (j : Int)))))), (q_711, .inl (cA_711, 300, .inl (fun j : Nat => zI (a_2003 (j : Int))))), (q_712, .inl (cA_712, 300, .inl (fun j : Nat => zI (a_2004 (j : Int))))), (q_715, .inl (cA_715, 301, .inl (fun j : Nat => zI (a_15 (j : Int)))))] := hD
    obtain ⟨z_2005, ez_2005⟩ : ∃ z9 : Int, z9 = B1 + 1 := ⟨_, rfl⟩
    rw [← ez_2005] at hP hD
    have hP : va_P (dC, dI) vwP [(h0, .inr (0, [.int (zI (z_2005)), .int (zI (R1)), .int (zI (P1)), v_3, .ref q_704, v_5, v_6, v_7, v_8, .ref q_709, .ref q_710, .ref q_711, .ref q_712, v_13, v_14, .ref q_715, v_16, v_17, v_18])), (q_704, .inl (cA_704, 301, .inl (fun j : Nat => zI (a_4 (j : Int))))), (q_709, .inl (cA_709, 300, .inl (fun j : Nat => zI (a_2001 (j : Int))))), (q_710, .inl (cA_710, 300, .inr (.inl (fun j : Nat => lI (a_2002 (j : Int)))))), (q_711, .inl (cA_711, 300, .inl (fun j : Nat => zI (a_2003 (j : Int))))), (q_712, .inl (cA_712, 300, .inl (fun j : Nat => zI (a_2004 (j : Int))))), (q_715, .inl (cA_715, 301, .inl (fun j : Nat => zI (a_15 (j : Int)))))] H := hP
    have hD : va_D A [(h0, .inr (0, [.int (zI (z_2005)), .int (zI (R1)), .int (zI (P1)), v_3, .ref q_704, v_5, v_6, v_7, v_8, .ref q_709, .ref q_710, .ref q_711, .ref q_712, v_13, v_14, .ref q_715, v_16, v_17, v_18])), (q_704, .inl (cA_704, 301, .inl (fun j : Nat => zI (a_4 (j : Int))))), (q_709, .inl (cA_709, 300, .inl (fun j : Nat => zI (a_2001 (j : Int))))), (q_710, .inl (cA_710, 300, .inr (.inl (fun j : Nat => lI (a_2002 (j : Int)))))), (q_711, .inl (cA_711, 300, .inl (fun j : Nat => zI (a_2003 (j : Int))))), (q_712, .inl (cA_712, 300, .inl (fun j : Nat => zI (a_2004 (j : Int))))), (q_715, .inl (cA_715, 301, .inl (fun j : Nat => zI (a_15 (j : Int)))))] := hD
    refine lv_aload_n hx hb dX0_closeBlock_64 rfl (lv_at hl 0 rfl) ?_
    refine va_get (D := (dC, dI)) (ci := 0) (v := .ref q_704) (C := RX0) (T := TX0) (N := 19) hx hb hts mem_X0_closeBlockN_0 hown hK hP 0 rfl rfl 4 (by decide) (ow (k := 5) rfl) (fun _ h9 => h9) rfl dX0_closeBlock_65 ?_
    refine lv_aload_n hx hb dX0_closeBlock_68 rfl (lv_at hl 0 rfl) ?_
    refine va_get (D := (dC, dI)) (ci := 0) (v := .int (zI (z_2005))) (C := RX0) (T := TX0) (N := 19) hx hb hts mem_X0_closeBlockN_0 hown hK hP 0 rfl rfl 0 (by decide) (ow (k := 0) rfl) (fun _ h9 => h9) rfl dX0_closeBlock_69 ?_
    refine lv_aload_n hx hb dX0_closeBlock_72 rfl (lv_at hl 0 rfl) ?_
    refine va_get (D := (dC, dI)) (ci := 0) (v := .int (zI (R1))) (C := RX0) (T := TX0) (N := 19) hx hb hts mem_X0_closeBlockN_0 hown hK hP 0 rfl rfl 1 (by decide) (ow (k := 6) rfl) (fun _ h9 => h9) rfl dX0_closeBlock_73 ?_
    refine va_iast (i := zI (z_2005)) hx hb hK hP hD hS 1 0 rfl rfl (zI_in (a := z_2005) (n := 301) (by omega) (by omega) (by decide)) dX0_closeBlock_76 (fun H locs hP hD hS => ?_)
    have eQ : upd (fun j : Nat => zI (a_4 (j : Int))) (zI (z_2005)).toNatClampNeg (zI (R1)) = (fun j : Nat => zI (zup a_4 (z_2005) (R1) (j : Int))) := zI_st a_4 (e := z_2005) (v := R1) (by omega) (by omega)
    rw [eQ] at hP hD
    clear eQ
    have ra_2006 : ∀ j : Int, 0 ≤ zup a_4 (z_2005) (R1) j ∧ zup a_4 (z_2005) (R1) j ≤ 2000 := zup_P (P := fun x9 => 0 ≤ x9 ∧ x9 ≤ 2000) hR_a_4 (show 0 ≤ (R1) ∧ (R1) ≤ 2000 by omega)
    obtain ⟨a_2006, ea_2006⟩ : ∃ a9 : Int → Int, a9 = zup a_4 (z_2005) (R1) := ⟨_, rfl⟩
    rw [← ea_2006] at hP hD ra_2006
    have hP : va_P (dC, dI) vwP [(h0, .inr (0, [.int (zI (z_2005)), .int (zI (R1)), .int (zI (P1)), v_3, .ref q_704, v_5, v_6, v_7, v_8, .ref q_709, .ref q_710, .ref q_711, .ref q_712, v_13, v_14, .ref q_715, v_16, v_17, v_18])), (q_704, .inl (cA_704, 301, .inl (fun j : Nat => zI (a_2006 (j : Int))))), (q_709, .inl (cA_709, 300, .inl (fun j : Nat => zI (a_2001 (j : Int))))), (q_710, .inl (cA_710, 300, .inr (.inl (fun j : Nat => lI (a_2002 (j : Int)))))), (q_711, .inl (cA_711, 300, .inl (fun j : Nat => zI (a_2003 (j : Int))))), (q_712, .inl (cA_712, 300, .inl (fun j : Nat => zI (a_2004 (j : Int))))), (q_715, .inl (cA_715, 301, .inl (fun j : Nat => zI (a_15 (j : Int)))))] H := hP
    have hD : va_D A [(h0, .inr (0, [.int (zI (z_2005)), .int (zI (R1)), .int (zI (P1)), v_3, .ref q_704, v_5, v_6, v_7, v_8, .ref q_709, .ref q_710, .ref q_711, .ref q_712, v_13, v_14, .ref q_715, v_16, v_17, v_18])), (q_704, .inl (cA_704, 301, .inl (fun j : Nat => zI (a_2006 (j : Int))))), (q_709, .inl (cA_709, 300, .inl (fun j : Nat => zI (a_2001 (j : Int))))), (q_710, .inl (cA_710, 300, .inr (.inl (fun j : Nat => lI (a_2002 (j : Int)))))), (q_711, .inl (cA_711, 300, .inl (fun j : Nat => zI (a_2003 (j : Int))))), (q_712, .inl (cA_712, 300, .inl (fun j : Nat => zI (a_2004 (j : Int))))), (q_715, .inl (cA_715, 301, .inl (fun j : Nat => zI (a_15 (j : Int)))))] := hD
    refine lv_aload_n hx hb dX0_closeBlock_77 rfl (lv_at hl 0 rfl) ?_
    refine va_get (D := (dC, dI)) (ci := 0) (v := .ref q_715) (C := RX0) (T := TX0) (N := 19) hx hb hts mem_X0_closeBlockN_0 hown hK hP 0 rfl rfl 15 (by decide) (ow (k := 7) rfl) (fun _ h9 => h9) rfl dX0_closeBlock_78 ?_
    refine lv_aload_n hx hb dX0_closeBlock_81 rfl (lv_at hl 0 rfl) ?_
    refine va_get (D := (dC, dI)) (ci := 0) (v := .int (zI (z_2005))) (C := RX0) (T := TX0) (N := 19) hx hb hts mem_X0_closeBlockN_0 hown hK hP 0 rfl rfl 0 (by decide) (ow (k := 0) rfl) (fun _ h9 => h9) rfl dX0_closeBlock_82 ?_
    refine lv_aload_n hx hb dX0_closeBlock_85 rfl (lv_at hl 0 rfl) ?_
    refine va_get (D := (dC, dI)) (ci := 0) (v := .int (zI (P1))) (C := RX0) (T := TX0) (N := 19) hx hb hts mem_X0_closeBlockN_0 hown hK hP 0 rfl rfl 2 (by decide) (ow (k := 8) rfl) (fun _ h9 => h9) rfl dX0_closeBlock_86 ?_
    refine va_iast (i := zI (z_2005)) hx hb hK hP hD hS 6 5 rfl rfl (zI_in (a := z_2005) (n := 301) (by omega) (by omega) (by decide)) dX0_closeBlock_89 (fun H locs hP hD hS => ?_)
    have eQ : upd (fun j : Nat => zI (a_15 (j : Int))) (zI (z_2005)).toNatClampNeg (zI (P1)) = (fun j : Nat => zI (zup a_15 (z_2005) (P1) (j : Int))) := zI_st a_15 (e := z_2005) (v := P1) (by omega) (by omega)
    rw [eQ] at hP hD
    clear eQ
    have ra_2007 : ∀ j : Int, 0 ≤ zup a_15 (z_2005) (P1) j ∧ zup a_15 (z_2005) (P1) j ≤ 1000 := zup_P (P := fun x9 => 0 ≤ x9 ∧ x9 ≤ 1000) hR_a_15 (show 0 ≤ (P1) ∧ (P1) ≤ 1000 by omega)
    obtain ⟨a_2007, ea_2007⟩ : ∃ a9 : Int → Int, a9 = zup a_15 (z_2005) (P1) := ⟨_, rfl⟩
    rw [← ea_2007] at hP hD ra_2007
    have hP : va_P (dC, dI) vwP [(h0, .inr (0, [.int (zI (z_2005)), .int (zI (R1)), .int (zI (P1)), v_3, .ref q_704, v_5, v_6, v_7, v_8, .ref q_709, .ref q_710, .ref q_711, .ref q_712, v_13, v_14, .ref q_715, v_16, v_17, v_18])), (q_704, .inl (cA_704, 301, .inl (fun j : Nat => zI (a_2006 (j : Int))))), (q_709, .inl (cA_709, 300, .inl (fun j : Nat => zI (a_2001 (j : Int))))), (q_710, .inl (cA_710, 300, .inr (.inl (fun j : Nat => lI (a_2002 (j : Int)))))), (q_711, .inl (cA_711, 300, .inl (fun j : Nat => zI (a_2003 (j : Int))))), (q_712, .inl (cA_712, 300, .inl (fun j : Nat => zI (a_2004 (j : Int))))), (q_715, .inl (cA_715, 301, .inl (fun j : Nat => zI (a_2007 (j : Int)))))] H := hP
    have hD : va_D A [(h0, .inr (0, [.int (zI (z_2005)), .int (zI (R1)), .int (zI (P1)), v_3, .ref q_704, v_5, v_6, v_7, v_8, .ref q_709, .ref q_710, .ref q_711, .ref q_712, v_13, v_14, .ref q_715, v_16, v_17, v_18])), (q_704, .inl (cA_704, 301, .inl (fun j : Nat => zI (a_2006 (j : Int))))), (q_709, .inl (cA_709, 300, .inl (fun j : Nat => zI (a_2001 (j : Int))))), (q_710, .inl (cA_710, 300, .inr (.inl (fun j : Nat => lI (a_2002 (j : Int)))))), (q_711, .inl (cA_711, 300, .inl (fun j : Nat => zI (a_2003 (j : Int))))), (q_712, .inl (cA_712, 300, .inl (fun j : Nat => zI (a_2004 (j : Int))))), (q_715, .inl (cA_715, 301, .inl (fun j : Nat => zI (a_2007 (j : Int)))))] := hD
    refine lv_iconst (v := 1) hx hb dX0_closeBlock_90 (by decide) ?_
    subst hQ
    refine W.widen (k := 0) (n := 0) (Nat.le_of_ble_eq_true rfl) (Nat.le_of_ble_eq_true rfl) ?_
    exact W.zret (v := 1) hx hb hr (by decide) (fun t ht hW => ⟨⟨1, (1), rfl, ⟨rfl, (by omega)⟩, z_2005, a_2006, a_2001, a_2002, a_2003, a_2004, a_2007, ⟨(by omega), ra_2006, ra_2001, ra_2002, ra_2003, ra_2004, ra_2007, ⟨⟨(by rw [ea_2006, ea_2007, ea_2001, ea_2003, ea_2004, ez_2005, show P1 = 0 by omega]; exact BLD.close hX_B (by omega)), (by omega), (by rw [ea_2006, zup_eq])⟩, ea_2001, ea_2003, ea_2004⟩⟩, by rw [ht]; exact hP, va_K.moved hW.alike hK, hD⟩, hS.F ht⟩) hS.2.2 dX0_closeBlock_91
  · have yb7 : ¬ (B1 : Int) < (300 : Int) := fun q => b7 ((zI_lt (a := B1) (b := 300) (by omega) (by omega) (by omega) (by omega)).mpr q)
    refine lv_iconst (v := 0) hx hb dX0_closeBlock_10 (by decide) ?_
    subst hQ
    refine W.widen (k := 0) (n := 0) (Nat.le_of_ble_eq_true rfl) (Nat.le_of_ble_eq_true rfl) ?_
    exact W.zret (v := 0) hx hb hr (by decide) (fun t ht hW => ⟨⟨0, (0), rfl, ⟨rfl, (by omega)⟩, B1, a_4, a_9, a_10, a_11, a_12, a_15, ⟨(by omega), hR_a_4, hR_a_9, hR_a_10, hR_a_11, hR_a_12, hR_a_15, (by exfalso; omega)⟩, by rw [ht]; exact hP, va_K.moved hW.alike hK, hD⟩, hS.F ht⟩) hS.2.2 dX0_closeBlock_11
theorem dX7_keepRow_0 : decode cX7_keepRow 0 = .ok (.aload_n 0, 1) := by decide +kernel
theorem dX7_keepRow_1 : decode cX7_keepRow 1 = .ok (.getfield 60, 3) := by decide +kernel
theorem dX7_keepRow_4 : decode cX7_keepRow 4 = .ok (.ifCond .ge 23, 3) := by decide +kernel
theorem dX7_keepRow_27 : decode cX7_keepRow 27 = .ok (.return_, 1) := by decide +kernel
theorem dX7_keepRow_7 : decode cX7_keepRow 7 = .ok (.aload_n 0, 1) := by decide +kernel
theorem dX7_keepRow_8 : decode cX7_keepRow 8 = .ok (.getfield 37, 3) := by decide +kernel
theorem dX7_keepRow_11 : decode cX7_keepRow 11 = .ok (.ifnull 16, 3) := by decide +kernel
theorem dX7_keepRow_14 : decode cX7_keepRow 14 = .ok (.aload_n 0, 1) := by decide +kernel
theorem dX7_keepRow_15 : decode cX7_keepRow 15 = .ok (.getfield 37, 3) := by decide +kernel
theorem dX7_keepRow_18 : decode cX7_keepRow 18 = .ok (.iload_n 1, 1) := by decide +kernel
theorem dX7_keepRow_19 : decode cX7_keepRow 19 = .ok (.iload_n 2, 1) := by decide +kernel
theorem dX7_keepRow_20 : decode cX7_keepRow 20 = .ok (.lload_n 3, 1) := by decide +kernel
theorem dX7_keepRow_21 : decode cX7_keepRow 21 = .ok (.lload 5, 2) := by decide +kernel
theorem dX7_keepRow_23 : decode cX7_keepRow 23 = .ok (.invokevirtual 214, 3) := by decide +kernel
theorem dX7_keepRow_26 : decode cX7_keepRow 26 = .ok (.pop, 1) := by decide +kernel
def o_X7_keepRow : List Cond := [.fieldLink RX7 60 "SsaForge$Reader" "brokenPlace" "I", .fieldLink RX7 37 "SsaForge$Reader" "code" "LSsaForge$Code;", .methodLink RX7 214 yX0_addRow, .instanceMethod yX0_addRow, .selects RX0 yX0_addRow yX0_addRow, .initialized RX0]
def v_X7_keepRow : List Cond := .code yX7_keepRow cX7_keepRow 7 none :: (o_X7_keepRow ++ (wsX70 ++ (v_X0_addRowM ++ [])))
theorem mow_X7_keepRow : ∀ w ∈ o_X7_keepRow, w ∈ v_X7_keepRow := fun _ h => List.mem_cons_of_mem _ (List.mem_append_left _ h)
theorem mem_X7_keepRow_0 : ∀ w ∈ wsX70, w ∈ v_X7_keepRow := fun _ h => List.mem_cons_of_mem _ (List.mem_append_right _ (List.mem_append_left _ h))
theorem mem_X7_keepRow_1 : ∀ w ∈ v_X0_addRowM, w ∈ v_X7_keepRow := fun _ h => List.mem_cons_of_mem _ (List.mem_append_right _ (List.mem_append_right _ (List.mem_append_left _ h)))
set_option maxRecDepth 20000 in
theorem gw_X7_keepRow : v_X7_keepRow.all goodWord = true := by decide +kernel
set_option maxRecDepth 20000 in
theorem g_X7_keepRow_X0_addRowM : GoodIn v_X7_keepRow (wsV RX7 214 RX0 yX0_addRow v_X0_addRowM) := goodIn_app (goodIn_sub (fun w h => mow_X7_keepRow w (by revert w h; decide +kernel)) (by decide +kernel)) (goodIn_sub mem_X7_keepRow_1 gw_X0_addRowM)
set_option maxHeartbeats 4000000 in
set_option maxRecDepth 100000 in
theorem c_X7_keepRow (l : Launch) (dC : Nat → ClassId) (dI : Nat → Nat → Nat) (h0 : Nat) (v12_0 : Value) (v12_1 : Value) (v12_2 : Value) (v12_3 : Value) (v12_4 : Value) (v12_5 : Value) (v12_6 : Value) (v12_7 : Value) (v12_9 : Value) (v12_10 : Value) (v12_11 : Value) (v12_12 : Value) (v12_13 : Value) (v12_14 : Value) (z12_brokenPlace : Int) (v12_16 : Value) (v12_17 : Value) (hc : Nat) (v_0 : Value) (R1 : Int) (v_2 : Value) (v_3 : Value) (v_4 : Value) (q_705 : Nat) (cA_705 : ClassId) (a_5 : Int → Int) (q_706 : Nat) (cA_706 : ClassId) (a_6 : Int → Int) (q_707 : Nat) (cA_707 : ClassId) (a_7 : Int → Int) (q_708 : Nat) (cA_708 : ClassId) (a_8 : Int → Int) (v_9 : Value) (v_10 : Value) (v_11 : Value) (v_12 : Value) (v_13 : Value) (v_14 : Value) (v_15 : Value) (v_16 : Value) (v_17 : Value) (v_18 : Value) (set : Int) (x1 : Int) (x2 : Int) (ro : Int) (hNz12_brokenPlace : -1 ≤ z12_brokenPlace ∧ z12_brokenPlace ≤ 8200) (hNR1 : 0 ≤ R1 ∧ R1 ≤ 2000) (hR_a_5 : ∀ j : Int, -1 ≤ a_5 j ∧ a_5 j ≤ 100) (hR_a_6 : ∀ j : Int, -1 ≤ a_6 j ∧ a_6 j ≤ 1023) (hR_a_7 : ∀ j : Int, ((-2147483648 ≤ a_7 j ∧ a_7 j ≤ 4294968319) ∨ a_7 j = 1099511627776)) (hR_a_8 : ∀ j : Int, ((-2147483648 ≤ a_8 j ∧ a_8 j ≤ 4294968319) ∨ a_8 j = 1099511627776)) (hNset : -1 ≤ set ∧ set ≤ 1023) (hNx1 : ((-2147483648 ≤ x1 ∧ x1 ≤ 4294968319) ∨ x1 = 1099511627776)) (hNx2 : ((-2147483648 ≤ x2 ∧ x2 ≤ 4294968319) ∨ x2 = 1099511627776)) (hNro : -1 ≤ ro ∧ ro ≤ 100) (hX_H0 : z12_brokenPlace < 0 → HUI a_5 a_6 R1) (hNq : ro = 2 ∨ 0 ≤ set) (sz : Nat) : Met l yX7_keepRow v_X7_keepRow ({ frames := 2, cells := 0, slots := 0, locals := 53 }) (va_Pc [.ref h0, .int (zI (ro)), .int (zI (set)), .long (lI (x1)), .long (lI (x2))] (fun U => U.heap.size = sz ∧ va_P (dC, dI) vwP [(h0, .inr (7, [v12_0, v12_1, v12_2, v12_3, v12_4, v12_5, v12_6, v12_7, .ref hc, v12_9, v12_10, v12_11, v12_12, v12_13, v12_14, .int (zI (z12_brokenPlace)), v12_16, v12_17])), (hc, .inr (0, [v_0, .int (zI (R1)), v_2, v_3, v_4, .ref q_705, .ref q_706, .ref q_707, .ref q_708, v_9, v_10, v_11, v_12, v_13, v_14, v_15, v_16, v_17, v_18])), (q_705, .inl (cA_705, 2000, .inl (fun j : Nat => zI (a_5 (j : Int))))), (q_706, .inl (cA_706, 2000, .inl (fun j : Nat => zI (a_6 (j : Int))))), (q_707, .inl (cA_707, 2000, .inr (.inl (fun j : Nat => lI (a_7 (j : Int)))))), (q_708, .inl (cA_708, 2000, .inr (.inl (fun j : Nat => lI (a_8 (j : Int))))))] U.heap ∧ va_K (dC, dI) vwP [(cA_705, .int), (cA_706, .int), (cA_707, .long), (cA_708, .long)] U ∧ va_D (fun _ => True) [(h0, .inr (7, [v12_0, v12_1, v12_2, v12_3, v12_4, v12_5, v12_6, v12_7, .ref hc, v12_9, v12_10, v12_11, v12_12, v12_13, v12_14, .int (zI (z12_brokenPlace)), v12_16, v12_17])), (hc, .inr (0, [v_0, .int (zI (R1)), v_2, v_3, v_4, .ref q_705, .ref q_706, .ref q_707, .ref q_708, v_9, v_10, v_11, v_12, v_13, v_14, v_15, v_16, v_17, v_18])), (q_705, .inl (cA_705, 2000, .inl (fun j : Nat => zI (a_5 (j : Int))))), (q_706, .inl (cA_706, 2000, .inl (fun j : Nat => zI (a_6 (j : Int))))), (q_707, .inl (cA_707, 2000, .inr (.inl (fun j : Nat => lI (a_7 (j : Int)))))), (q_708, .inl (cA_708, 2000, .inr (.inl (fun j : Nat => lI (a_8 (j : Int))))))])) (va_Qv (fun _ : Unit => True) (fun (_ : Unit) (t : State) => ∃ (z0_9 : Int) (a1_9 : Int → Int) (a2_9 : Int → Int) (a3_9 : Int → Int) (a4_9 : Int → Int), ((0 ≤ z0_9 ∧ z0_9 ≤ 2000) ∧ (∀ j : Int, -1 ≤ a1_9 j ∧ a1_9 j ≤ 100) ∧ (∀ j : Int, -1 ≤ a2_9 j ∧ a2_9 j ≤ 1023) ∧ (∀ j : Int, ((-2147483648 ≤ a3_9 j ∧ a3_9 j ≤ 4294968319) ∨ a3_9 j = 1099511627776)) ∧ (∀ j : Int, ((-2147483648 ≤ a4_9 j ∧ a4_9 j ≤ 4294968319) ∨ a4_9 j = 1099511627776)) ∧ (z12_brokenPlace < 0 → HUI a1_9 a2_9 z0_9 ∧ R1 ≤ z0_9)) ∧ va_P (dC, dI) vwP [(h0, .inr (7, [v12_0, v12_1, v12_2, v12_3, v12_4, v12_5, v12_6, v12_7, .ref hc, v12_9, v12_10, v12_11, v12_12, v12_13, v12_14, .int (zI (z12_brokenPlace)), v12_16, v12_17])), (hc, .inr (0, [v_0, .int (zI (z0_9)), v_2, v_3, v_4, .ref q_705, .ref q_706, .ref q_707, .ref q_708, v_9, v_10, v_11, v_12, v_13, v_14, v_15, v_16, v_17, v_18])), (q_705, .inl (cA_705, 2000, .inl (fun j : Nat => zI (a1_9 (j : Int))))), (q_706, .inl (cA_706, 2000, .inl (fun j : Nat => zI (a2_9 (j : Int))))), (q_707, .inl (cA_707, 2000, .inr (.inl (fun j : Nat => lI (a3_9 (j : Int)))))), (q_708, .inl (cA_708, 2000, .inr (.inl (fun j : Nat => lI (a4_9 (j : Int))))))] t.heap ∧ va_K (dC, dI) vwP [(cA_705, .int), (cA_706, .int), (cA_707, .long), (cA_708, .long)] t ∧ va_D (va_A [(h0, .inr (7, [v12_0, v12_1, v12_2, v12_3, v12_4, v12_5, v12_6, v12_7, .ref hc, v12_9, v12_10, v12_11, v12_12, v12_13, v12_14, .int (zI (z12_brokenPlace)), v12_16, v12_17])), (hc, .inr (0, [v_0, .int (zI (R1)), v_2, v_3, v_4, .ref q_705, .ref q_706, .ref q_707, .ref q_708, v_9, v_10, v_11, v_12, v_13, v_14, v_15, v_16, v_17, v_18])), (q_705, .inl (cA_705, 2000, .inl (fun j : Nat => zI (a_5 (j : Int))))), (q_706, .inl (cA_706, 2000, .inl (fun j : Nat => zI (a_6 (j : Int))))), (q_707, .inl (cA_707, 2000, .inr (.inl (fun j : Nat => lI (a_7 (j : Int)))))), (q_708, .inl (cA_708, 2000, .inr (.inl (fun j : Nat => lI (a_8 (j : Int))))))] sz) [(h0, .inr (7, [v12_0, v12_1, v12_2, v12_3, v12_4, v12_5, v12_6, v12_7, .ref hc, v12_9, v12_10, v12_11, v12_12, v12_13, v12_14, .int (zI (z12_brokenPlace)), v12_16, v12_17])), (hc, .inr (0, [v_0, .int (zI (z0_9)), v_2, v_3, v_4, .ref q_705, .ref q_706, .ref q_707, .ref q_708, v_9, v_10, v_11, v_12, v_13, v_14, v_15, v_16, v_17, v_18])), (q_705, .inl (cA_705, 2000, .inl (fun j : Nat => zI (a1_9 (j : Int))))), (q_706, .inl (cA_706, 2000, .inl (fun j : Nat => zI (a2_9 (j : Int))))), (q_707, .inl (cA_707, 2000, .inr (.inl (fun j : Nat => lI (a3_9 (j : Int)))))), (q_708, .inl (cA_708, 2000, .inr (.inl (fun j : Nat => lI (a4_9 (j : Int))))))]) (va_A [(h0, .inr (7, [v12_0, v12_1, v12_2, v12_3, v12_4, v12_5, v12_6, v12_7, .ref hc, v12_9, v12_10, v12_11, v12_12, v12_13, v12_14, .int (zI (z12_brokenPlace)), v12_16, v12_17])), (hc, .inr (0, [v_0, .int (zI (R1)), v_2, v_3, v_4, .ref q_705, .ref q_706, .ref q_707, .ref q_708, v_9, v_10, v_11, v_12, v_13, v_14, v_15, v_16, v_17, v_18])), (q_705, .inl (cA_705, 2000, .inl (fun j : Nat => zI (a_5 (j : Int))))), (q_706, .inl (cA_706, 2000, .inl (fun j : Nat => zI (a_6 (j : Int))))), (q_707, .inl (cA_707, 2000, .inr (.inl (fun j : Nat => lI (a_7 (j : Int)))))), (q_708, .inl (cA_708, 2000, .inr (.inl (fun j : Nat => lI (a_8 (j : Int))))))] sz)) 0 0 (va_A [(h0, .inr (7, [v12_0, v12_1, v12_2, v12_3, v12_4, v12_5, v12_6, v12_7, .ref hc, v12_9, v12_10, v12_11, v12_12, v12_13, v12_14, .int (zI (z12_brokenPlace)), v12_16, v12_17])), (hc, .inr (0, [v_0, .int (zI (R1)), v_2, v_3, v_4, .ref q_705, .ref q_706, .ref q_707, .ref q_708, v_9, v_10, v_11, v_12, v_13, v_14, v_15, v_16, v_17, v_18])), (q_705, .inl (cA_705, 2000, .inl (fun j : Nat => zI (a_5 (j : Int))))), (q_706, .inl (cA_706, 2000, .inl (fun j : Nat => zI (a_6 (j : Int))))), (q_707, .inl (cA_707, 2000, .inr (.inl (fun j : Nat => lI (a_7 (j : Int)))))), (q_708, .inl (cA_708, 2000, .inr (.inl (fun j : Nat => lI (a_8 (j : Int))))))] sz) := by
  refine Met.ofW (cc := cX7_keepRow) (maxL := 7) (ret := none) (by decide) rfl ?_
  intro p e s m args below meth c s₁ B hml hv
  obtain ⟨rfl, hsz, hP, hK, hD0⟩ := hv
  have hx := B.exec
  have hb := B.bytes
  have hr := B.returns
  have hts := atoms_spec (ws := v_X7_keepRow) B.pre
  have hown : s.vm.findClass RX7 = some m.cls := findClass_of_methodNamed B.named
  have hlocks := B.notSynchronized
  have ow : ∀ {k : Nat} {w : Cond}, o_X7_keepRow[k]? = some w → w.before ([.ref h0, .int (zI (ro)), .int (zI (set)), .long (lI (x1)), .long (lI (x2))] : List Value).toArray s = true := fun h => hts _ (mow_X7_keepRow _ (List.mem_of_getElem? h))
  subst hsz
  have hD := hD0.self (sz := s.heap.size)
  generalize hAe : va_A [(h0, .inr (7, [v12_0, v12_1, v12_2, v12_3, v12_4, v12_5, v12_6, v12_7, .ref hc, v12_9, v12_10, v12_11, v12_12, v12_13, v12_14, .int (zI (z12_brokenPlace)), v12_16, v12_17])), (hc, .inr (0, [v_0, .int (zI (R1)), v_2, v_3, v_4, .ref q_705, .ref q_706, .ref q_707, .ref q_708, v_9, v_10, v_11, v_12, v_13, v_14, v_15, v_16, v_17, v_18])), (q_705, .inl (cA_705, 2000, .inl (fun j : Nat => zI (a_5 (j : Int))))), (q_706, .inl (cA_706, 2000, .inl (fun j : Nat => zI (a_6 (j : Int))))), (q_707, .inl (cA_707, 2000, .inr (.inl (fun j : Nat => lI (a_7 (j : Int)))))), (q_708, .inl (cA_708, 2000, .inr (.inl (fun j : Nat => lI (a_8 (j : Int))))))] s.heap.size = A at hD ⊢
  have hA : ∀ q : Nat, s.heap.size ≤ q → A q := fun q h => by rw [← hAe]; exact Or.inr h
  have hS : va_S A s.heap s.heap [] := va_S.rf
  have hP : va_P (dC, dI) vwP [(h0, .inr (7, [v12_0, v12_1, v12_2, v12_3, v12_4, v12_5, v12_6, v12_7, .ref hc, v12_9, v12_10, v12_11, v12_12, v12_13, v12_14, .int (zI (z12_brokenPlace)), v12_16, v12_17])), (hc, .inr (0, [v_0, .int (zI (R1)), v_2, v_3, v_4, .ref q_705, .ref q_706, .ref q_707, .ref q_708, v_9, v_10, v_11, v_12, v_13, v_14, v_15, v_16, v_17, v_18])), (q_705, .inl (cA_705, 2000, .inl (fun j : Nat => zI (a_5 (j : Int))))), (q_706, .inl (cA_706, 2000, .inl (fun j : Nat => zI (a_6 (j : Int))))), (q_707, .inl (cA_707, 2000, .inr (.inl (fun j : Nat => lI (a_7 (j : Int)))))), (q_708, .inl (cA_708, 2000, .inr (.inl (fun j : Nat => lI (a_8 (j : Int))))))] s.heap := hP
  have hl := lv_entry ([.ref h0, .int (zI (ro)), .int (zI (set)), .long (lI (x1)), .long (lI (x2))]) (n := 7) (Nat.le_of_ble_eq_true rfl)
  rw [lg_entry_eq]
  generalize (lg_sl ([.ref h0, .int (zI (ro)), .int (zI (set)), .long (lI (x1)), .long (lI (x2))]) ++ List.replicate (7 - (lg_sl ([.ref h0, .int (zI (ro)), .int (zI (set)), .long (lI (x1)), .long (lI (x2))])).length) Slot.unset).toArray = ls at hl ⊢
  have hl : lv_has ls 7 [(0, .ref h0), (1, .int (zI (ro))), (2, .int (zI (set))), (3, .long (lI (x1))), (5, .long (lI (x2)))] := hl
  obtain ⟨H, hH⟩ : ∃ H, H = s.heap := ⟨_, rfl⟩
  rw [← hH] at hP
  have hS : va_S A s.heap H [] := by rw [hH]; exact hS
  rw [← hH]
  refine zW_cap (fun Q hQ => ?_)
  refine lv_aload_n hx hb dX7_keepRow_0 rfl (lv_at hl 0 rfl) ?_
  refine va_get (D := (dC, dI)) (ci := 7) (v := .int (zI (z12_brokenPlace))) (C := RX7) (T := TX7) (N := 18) hx hb hts mem_X7_keepRow_0 hown hK hP 0 rfl rfl 15 (by decide) (ow (k := 0) rfl) (fun _ h9 => h9) rfl dX7_keepRow_1 ?_
  refine lv_if_ge (tgt := 27) hx hb dX7_keepRow_4 (by decide) (fun b4 => ?_) (fun b4 => ?_)
  · have yb4 : (0 : Int) ≤ (z12_brokenPlace : Int) := (zI_le (a := 0) (b := z12_brokenPlace) (by omega) (by omega) (by omega) (by omega)).mp b4
    subst hQ
    refine W.widen (k := 0) (n := 0) (Nat.le_of_ble_eq_true rfl) (Nat.le_of_ble_eq_true rfl) ?_
    exact W.vret hx hb hr (fun t ht hW => ⟨⟨(), rfl, trivial, R1, a_5, a_6, a_7, a_8, ⟨(by omega), hR_a_5, hR_a_6, hR_a_7, hR_a_8, (fun h9 => absurd h9 (by omega))⟩, by rw [ht]; exact hP, va_K.moved hW.alike hK, hD⟩, hS.F ht⟩) hS.2.2 dX7_keepRow_27
  · have yb4 : ¬ (0 : Int) ≤ (z12_brokenPlace : Int) := fun q => b4 ((zI_le (a := 0) (b := z12_brokenPlace) (by omega) (by omega) (by omega) (by omega)).mpr q)
    refine lv_aload_n hx hb dX7_keepRow_7 rfl (lv_at hl 0 rfl) ?_
    refine va_get (D := (dC, dI)) (ci := 7) (v := .ref hc) (C := RX7) (T := TX7) (N := 18) hx hb hts mem_X7_keepRow_0 hown hK hP 0 rfl rfl 8 (by decide) (ow (k := 1) rfl) (fun _ h9 => h9) rfl dX7_keepRow_8 ?_
    refine lv_ifnull hx hb dX7_keepRow_11 ?_
    have hX_H := hX_H0 (by omega)
    refine lv_aload_n hx hb dX7_keepRow_14 rfl (lv_at hl 0 rfl) ?_
    refine va_get (D := (dC, dI)) (ci := 7) (v := .ref hc) (C := RX7) (T := TX7) (N := 18) hx hb hts mem_X7_keepRow_0 hown hK hP 0 rfl rfl 8 (by decide) (ow (k := 1) rfl) (fun _ h9 => h9) rfl dX7_keepRow_15 ?_
    refine lv_iload_n hx hb dX7_keepRow_18 rfl (lv_at hl 1 rfl) ?_
    refine lv_iload_n hx hb dX7_keepRow_19 rfl (lv_at hl 2 rfl) ?_
    refine lv_lload_n hx hb dX7_keepRow_20 rfl (lv_at hl 3 rfl) ?_
    refine lv_lload hx hb dX7_keepRow_21 (lv_at hl 4 rfl) ?_
    have hPc := hP.sub (ws' := [(hc, .inr (0, [v_0, .int (zI (R1)), v_2, v_3, v_4, .ref q_705, .ref q_706, .ref q_707, .ref q_708, v_9, v_10, v_11, v_12, v_13, v_14, v_15, v_16, v_17, v_18])), (q_705, .inl (cA_705, 2000, .inl (fun j : Nat => zI (a_5 (j : Int))))), (q_706, .inl (cA_706, 2000, .inl (fun j : Nat => zI (a_6 (j : Int))))), (q_707, .inl (cA_707, 2000, .inr (.inl (fun j : Nat => lI (a_7 (j : Int)))))), (q_708, .inl (cA_708, 2000, .inr (.inl (fun j : Nat => lI (a_8 (j : Int))))))]) [1, 2, 3, 4, 5] rfl
    have hDc := hD.sub (ws' := [(hc, .inr (0, [v_0, .int (zI (R1)), v_2, v_3, v_4, .ref q_705, .ref q_706, .ref q_707, .ref q_708, v_9, v_10, v_11, v_12, v_13, v_14, v_15, v_16, v_17, v_18])), (q_705, .inl (cA_705, 2000, .inl (fun j : Nat => zI (a_5 (j : Int))))), (q_706, .inl (cA_706, 2000, .inl (fun j : Nat => zI (a_6 (j : Int))))), (q_707, .inl (cA_707, 2000, .inr (.inl (fun j : Nat => lI (a_7 (j : Int)))))), (q_708, .inl (cA_708, 2000, .inr (.inl (fun j : Nat => lI (a_8 (j : Int))))))]) [1, 2, 3, 4, 5] (by decide) rfl
    have hKc := hK.sub (tys' := [(cA_705, .int), (cA_706, .int), (cA_707, .long), (cA_708, .long)]) [0, 1, 2, 3] rfl
    have hFc := va_free (wc := [(hc, .inr (0, [v_0, .int (zI (R1)), v_2, v_3, v_4, .ref q_705, .ref q_706, .ref q_707, .ref q_708, v_9, v_10, v_11, v_12, v_13, v_14, v_15, v_16, v_17, v_18])), (q_705, .inl (cA_705, 2000, .inl (fun j : Nat => zI (a_5 (j : Int))))), (q_706, .inl (cA_706, 2000, .inl (fun j : Nat => zI (a_6 (j : Int))))), (q_707, .inl (cA_707, 2000, .inr (.inl (fun j : Nat => lI (a_7 (j : Int)))))), (q_708, .inl (cA_708, 2000, .inr (.inl (fun j : Nat => lI (a_8 (j : Int))))))]) hD hS hA [1, 2, 3, 4, 5] rfl
    refine va_calli (va_runV (As := [.int (zI (ro)), .int (zI (set)), .long (lI (x1)), .long (lI (x2))]) (rest := []) ⟨hx, hb, hml, hown, hts⟩ (c_X0_addRowM l dC dI hc v_0 R1 v_2 v_3 v_4 q_705 cA_705 a_5 q_706 cA_706 a_6 q_707 cA_707 a_7 q_708 cA_708 a_8 v_9 v_10 v_11 v_12 v_13 v_14 v_15 v_16 v_17 v_18 set x1 x2 ro (by omega) hR_a_5 hR_a_6 hR_a_7 hR_a_8 (by omega) (by omega) (by omega) (by omega) hX_H (by omega) H.size) (cwV 4 hts g_X7_keepRow_X0_addRowM rfl rfl rfl (by decide +kernel) ⟨(Nat.le_of_ble_eq_true rfl), (Nat.le_of_ble_eq_true rfl)⟩) ⟨fun a U g mk q => by obtain ⟨q0, q1, qP, qK, qD⟩ := q; exact ⟨q0, q1, qP, va_K.moved (u := U) (U := U.calling g mk a) (Vm.Alike.refl U.vm) qK, qD⟩, va_recv hKc hPc (ci := 0) (q0 := 0) rfl rfl, fun U hU hW => ⟨rfl, by rw [hU], by rw [hU]; exact hPc, va_K.moved hW.alike hKc, hDc.weaken (fun _ _ _ _ => trivial)⟩⟩ rfl rfl hl.1 rfl (lv_room (Nat.le_of_ble_eq_true rfl)) dX7_keepRow_23 ⟨(Nat.le_of_ble_eq_true rfl), (Nat.le_of_ble_eq_true rfl)⟩) hS (fun q _ h => hFc q h) hFc (fun r_2001 z_2002 t H1 locs ht hvm hw hB hz1 hk1 hS => ?_)
    obtain ⟨z0_2003, a1_2004, a2_2005, a3_2006, a4_2007, hxt_2007, hP1, hK1, hD1⟩ := hB
    rw [ht] at hP1
    have hK1 := va_K.moved hvm.symm hK1
    obtain ⟨hP, hD⟩ := va_join (wr := [(h0, .inr (7, [v12_0, v12_1, v12_2, v12_3, v12_4, v12_5, v12_6, v12_7, .ref hc, v12_9, v12_10, v12_11, v12_12, v12_13, v12_14, .int (zI (z12_brokenPlace)), v12_16, v12_17]))]) (w1 := [(hc, .inr (0, [v_0, .int (zI (z0_2003)), v_2, v_3, v_4, .ref q_705, .ref q_706, .ref q_707, .ref q_708, v_9, v_10, v_11, v_12, v_13, v_14, v_15, v_16, v_17, v_18])), (q_705, .inl (cA_705, 2000, .inl (fun j : Nat => zI (a1_2004 (j : Int))))), (q_706, .inl (cA_706, 2000, .inl (fun j : Nat => zI (a2_2005 (j : Int))))), (q_707, .inl (cA_707, 2000, .inr (.inl (fun j : Nat => lI (a3_2006 (j : Int)))))), (q_708, .inl (cA_708, 2000, .inr (.inl (fun j : Nat => lI (a4_2007 (j : Int))))))]) hP hD [1, 2, 3, 4, 5] [0] rfl rfl (by decide) (by decide) hk1 hFc hP1 hD1
    have hK := (hK.sub (tys' := []) [] rfl).app hK1
    generalize H1 = H at hP hS ⊢
    have hP : va_P (dC, dI) vwP [(h0, .inr (7, [v12_0, v12_1, v12_2, v12_3, v12_4, v12_5, v12_6, v12_7, .ref hc, v12_9, v12_10, v12_11, v12_12, v12_13, v12_14, .int (zI (z12_brokenPlace)), v12_16, v12_17])), (hc, .inr (0, [v_0, .int (zI (z0_2003)), v_2, v_3, v_4, .ref q_705, .ref q_706, .ref q_707, .ref q_708, v_9, v_10, v_11, v_12, v_13, v_14, v_15, v_16, v_17, v_18])), (q_705, .inl (cA_705, 2000, .inl (fun j : Nat => zI (a1_2004 (j : Int))))), (q_706, .inl (cA_706, 2000, .inl (fun j : Nat => zI (a2_2005 (j : Int))))), (q_707, .inl (cA_707, 2000, .inr (.inl (fun j : Nat => lI (a3_2006 (j : Int)))))), (q_708, .inl (cA_708, 2000, .inr (.inl (fun j : Nat => lI (a4_2007 (j : Int))))))] H := hP
    have hD : va_D A [(h0, .inr (7, [v12_0, v12_1, v12_2, v12_3, v12_4, v12_5, v12_6, v12_7, .ref hc, v12_9, v12_10, v12_11, v12_12, v12_13, v12_14, .int (zI (z12_brokenPlace)), v12_16, v12_17])), (hc, .inr (0, [v_0, .int (zI (z0_2003)), v_2, v_3, v_4, .ref q_705, .ref q_706, .ref q_707, .ref q_708, v_9, v_10, v_11, v_12, v_13, v_14, v_15, v_16, v_17, v_18])), (q_705, .inl (cA_705, 2000, .inl (fun j : Nat => zI (a1_2004 (j : Int))))), (q_706, .inl (cA_706, 2000, .inl (fun j : Nat => zI (a2_2005 (j : Int))))), (q_707, .inl (cA_707, 2000, .inr (.inl (fun j : Nat => lI (a3_2006 (j : Int)))))), (q_708, .inl (cA_708, 2000, .inr (.inl (fun j : Nat => lI (a4_2007 (j : Int))))))] := hD
    have hK : va_K (dC, dI) vwP [(cA_705, .int), (cA_706, .int), (cA_707, .long), (cA_708, .long)] s := hK
    refine W.widen (k := 0) (n := 0) (Nat.le_of_ble_eq_true rfl) (Nat.le_of_ble_eq_true rfl) ?_
    obtain ⟨rfl, hzz_2002⟩ := hw
    obtain ⟨rk_2008, rk_2009, rk_2010, rk_2011, rk_2012, hu_2012⟩ := hxt_2007
    refine lv_pop hx hb dX7_keepRow_26 rfl ?_
    subst hQ
    refine W.widen (k := 0) (n := 0) (Nat.le_of_ble_eq_true rfl) (Nat.le_of_ble_eq_true rfl) ?_
    exact W.vret hx hb hr (fun t ht hW => ⟨⟨(), rfl, trivial, z0_2003, a1_2004, a2_2005, a3_2006, a4_2007, ⟨(by omega), rk_2009, rk_2010, rk_2011, rk_2012, (fun h9 => hu_2012)⟩, by rw [ht]; exact hP, va_K.moved hW.alike hK, hD⟩, hS.F ht⟩) hS.2.2 dX7_keepRow_27
theorem dX7_keepEnd_0 : decode cX7_keepEnd 0 = .ok (.aload_n 0, 1) := by decide +kernel
theorem dX7_keepEnd_1 : decode cX7_keepEnd 1 = .ok (.getfield 60, 3) := by decide +kernel
theorem dX7_keepEnd_4 : decode cX7_keepEnd 4 = .ok (.ifCond .ge 24, 3) := by decide +kernel
theorem dX7_keepEnd_28 : decode cX7_keepEnd 28 = .ok (.return_, 1) := by decide +kernel
theorem dX7_keepEnd_7 : decode cX7_keepEnd 7 = .ok (.aload_n 0, 1) := by decide +kernel
theorem dX7_keepEnd_8 : decode cX7_keepEnd 8 = .ok (.getfield 37, 3) := by decide +kernel
theorem dX7_keepEnd_11 : decode cX7_keepEnd 11 = .ok (.ifnull 17, 3) := by decide +kernel
theorem dX7_keepEnd_14 : decode cX7_keepEnd 14 = .ok (.aload_n 0, 1) := by decide +kernel
theorem dX7_keepEnd_15 : decode cX7_keepEnd 15 = .ok (.getfield 37, 3) := by decide +kernel
theorem dX7_keepEnd_18 : decode cX7_keepEnd 18 = .ok (.iload_n 1, 1) := by decide +kernel
theorem dX7_keepEnd_19 : decode cX7_keepEnd 19 = .ok (.lload_n 2, 1) := by decide +kernel
theorem dX7_keepEnd_20 : decode cX7_keepEnd 20 = .ok (.iload 4, 2) := by decide +kernel
theorem dX7_keepEnd_22 : decode cX7_keepEnd 22 = .ok (.iload 5, 2) := by decide +kernel
theorem dX7_keepEnd_24 : decode cX7_keepEnd 24 = .ok (.invokevirtual 218, 3) := by decide +kernel
theorem dX7_keepEnd_27 : decode cX7_keepEnd 27 = .ok (.pop, 1) := by decide +kernel
def o_X7_keepEnd : List Cond := [.fieldLink RX7 60 "SsaForge$Reader" "brokenPlace" "I", .fieldLink RX7 37 "SsaForge$Reader" "code" "LSsaForge$Code;", .methodLink RX7 218 yX0_closeBlock, .instanceMethod yX0_closeBlock, .selects RX0 yX0_closeBlock yX0_closeBlock, .initialized RX0]
def v_X7_keepEnd : List Cond := .code yX7_keepEnd cX7_keepEnd 6 none :: (o_X7_keepEnd ++ (wsX70 ++ (v_X0_closeBlockN ++ [])))
theorem mow_X7_keepEnd : ∀ w ∈ o_X7_keepEnd, w ∈ v_X7_keepEnd := fun _ h => List.mem_cons_of_mem _ (List.mem_append_left _ h)
theorem mem_X7_keepEnd_0 : ∀ w ∈ wsX70, w ∈ v_X7_keepEnd := fun _ h => List.mem_cons_of_mem _ (List.mem_append_right _ (List.mem_append_left _ h))
theorem mem_X7_keepEnd_1 : ∀ w ∈ v_X0_closeBlockN, w ∈ v_X7_keepEnd := fun _ h => List.mem_cons_of_mem _ (List.mem_append_right _ (List.mem_append_right _ (List.mem_append_left _ h)))
set_option maxRecDepth 20000 in
theorem gw_X7_keepEnd : v_X7_keepEnd.all goodWord = true := by decide +kernel
set_option maxRecDepth 20000 in
theorem g_X7_keepEnd_X0_closeBlockN : GoodIn v_X7_keepEnd (wsV RX7 218 RX0 yX0_closeBlock v_X0_closeBlockN) := goodIn_app (goodIn_sub (fun w h => mow_X7_keepEnd w (by revert w h; decide +kernel)) (by decide +kernel)) (goodIn_sub mem_X7_keepEnd_1 gw_X0_closeBlockN)
set_option maxHeartbeats 4000000 in
set_option maxRecDepth 100000 in
theorem c_X7_keepEnd (l : Launch) (dC : Nat → ClassId) (dI : Nat → Nat → Nat) (h0 : Nat) (v12_0 : Value) (v12_1 : Value) (v12_2 : Value) (v12_3 : Value) (v12_4 : Value) (v12_5 : Value) (v12_6 : Value) (v12_7 : Value) (v12_9 : Value) (v12_10 : Value) (v12_11 : Value) (v12_12 : Value) (v12_13 : Value) (v12_14 : Value) (z12_brokenPlace : Int) (v12_16 : Value) (v12_17 : Value) (hc : Nat) (B1 : Int) (R1 : Int) (P1 : Int) (v_3 : Value) (q_704 : Nat) (cA_704 : ClassId) (a_4 : Int → Int) (v_5 : Value) (v_6 : Value) (v_7 : Value) (v_8 : Value) (q_709 : Nat) (cA_709 : ClassId) (a_9 : Int → Int) (q_710 : Nat) (cA_710 : ClassId) (a_10 : Int → Int) (q_711 : Nat) (cA_711 : ClassId) (a_11 : Int → Int) (q_712 : Nat) (cA_712 : ClassId) (a_12 : Int → Int) (v_13 : Value) (v_14 : Value) (q_715 : Nat) (cA_715 : ClassId) (a_15 : Int → Int) (v_16 : Value) (v_17 : Value) (v_18 : Value) (ki : Int) (x : Int) (g1 : Int) (g2 : Int) (hNz12_brokenPlace : -1 ≤ z12_brokenPlace ∧ z12_brokenPlace ≤ 8200) (hNB1 : 0 ≤ B1 ∧ B1 ≤ 300) (hNR1 : 0 ≤ R1 ∧ R1 ≤ 2000) (hNP1 : 0 ≤ P1 ∧ P1 ≤ 1000) (hR_a_4 : ∀ j : Int, 0 ≤ a_4 j ∧ a_4 j ≤ 2000) (hR_a_9 : ∀ j : Int, 0 ≤ a_9 j ∧ a_9 j ≤ 2) (hR_a_10 : ∀ j : Int, ((-2147483648 ≤ a_10 j ∧ a_10 j ≤ 4294968319) ∨ a_10 j = 1099511627776)) (hR_a_11 : ∀ j : Int, -1 ≤ a_11 j ∧ a_11 j ≤ 299) (hR_a_12 : ∀ j : Int, -1 ≤ a_12 j ∧ a_12 j ≤ 299) (hR_a_15 : ∀ j : Int, 0 ≤ a_15 j ∧ a_15 j ≤ 1000) (hNk : 0 ≤ ki ∧ ki ≤ 2) (hNx : ((-2147483648 ≤ x ∧ x ≤ 4294968319) ∨ x = 1099511627776)) (hNg : -1 ≤ g1 ∧ g1 ≤ 299 ∧ -1 ≤ g2 ∧ g2 ≤ 299) (hX_B0 : z12_brokenPlace < 0 → BLD B1 R1 a_4 a_15 a_9 a_11 a_12 60 ∧ B1 < 60) (hNp : P1 = 0) (hNm : ki = 2 ∨ ((0 ≤ g1 ∧ g1 < 60) ∧ (0 ≤ g2 ∧ g2 < 60))) (sz : Nat) : Met l yX7_keepEnd v_X7_keepEnd ({ frames := 1, cells := 0, slots := 0, locals := 25 }) (va_Pc [.ref h0, .int (zI (ki)), .long (lI (x)), .int (zI (g1)), .int (zI (g2))] (fun U => U.heap.size = sz ∧ va_P (dC, dI) vwP [(h0, .inr (7, [v12_0, v12_1, v12_2, v12_3, v12_4, v12_5, v12_6, v12_7, .ref hc, v12_9, v12_10, v12_11, v12_12, v12_13, v12_14, .int (zI (z12_brokenPlace)), v12_16, v12_17])), (hc, .inr (0, [.int (zI (B1)), .int (zI (R1)), .int (zI (P1)), v_3, .ref q_704, v_5, v_6, v_7, v_8, .ref q_709, .ref q_710, .ref q_711, .ref q_712, v_13, v_14, .ref q_715, v_16, v_17, v_18])), (q_704, .inl (cA_704, 301, .inl (fun j : Nat => zI (a_4 (j : Int))))), (q_709, .inl (cA_709, 300, .inl (fun j : Nat => zI (a_9 (j : Int))))), (q_710, .inl (cA_710, 300, .inr (.inl (fun j : Nat => lI (a_10 (j : Int)))))), (q_711, .inl (cA_711, 300, .inl (fun j : Nat => zI (a_11 (j : Int))))), (q_712, .inl (cA_712, 300, .inl (fun j : Nat => zI (a_12 (j : Int))))), (q_715, .inl (cA_715, 301, .inl (fun j : Nat => zI (a_15 (j : Int)))))] U.heap ∧ va_K (dC, dI) vwP [(cA_704, .int), (cA_709, .int), (cA_710, .long), (cA_711, .int), (cA_712, .int), (cA_715, .int)] U ∧ va_D (fun _ => True) [(h0, .inr (7, [v12_0, v12_1, v12_2, v12_3, v12_4, v12_5, v12_6, v12_7, .ref hc, v12_9, v12_10, v12_11, v12_12, v12_13, v12_14, .int (zI (z12_brokenPlace)), v12_16, v12_17])), (hc, .inr (0, [.int (zI (B1)), .int (zI (R1)), .int (zI (P1)), v_3, .ref q_704, v_5, v_6, v_7, v_8, .ref q_709, .ref q_710, .ref q_711, .ref q_712, v_13, v_14, .ref q_715, v_16, v_17, v_18])), (q_704, .inl (cA_704, 301, .inl (fun j : Nat => zI (a_4 (j : Int))))), (q_709, .inl (cA_709, 300, .inl (fun j : Nat => zI (a_9 (j : Int))))), (q_710, .inl (cA_710, 300, .inr (.inl (fun j : Nat => lI (a_10 (j : Int)))))), (q_711, .inl (cA_711, 300, .inl (fun j : Nat => zI (a_11 (j : Int))))), (q_712, .inl (cA_712, 300, .inl (fun j : Nat => zI (a_12 (j : Int))))), (q_715, .inl (cA_715, 301, .inl (fun j : Nat => zI (a_15 (j : Int)))))])) (va_Qv (fun _ : Unit => True) (fun (_ : Unit) (t : State) => ∃ (z0_9 : Int) (a1_9 : Int → Int) (a2_9 : Int → Int) (a3_9 : Int → Int) (a4_9 : Int → Int) (a5_9 : Int → Int) (a6_9 : Int → Int), ((0 ≤ z0_9 ∧ z0_9 ≤ 300) ∧ (∀ j : Int, 0 ≤ a1_9 j ∧ a1_9 j ≤ 2000) ∧ (∀ j : Int, 0 ≤ a2_9 j ∧ a2_9 j ≤ 2) ∧ (∀ j : Int, ((-2147483648 ≤ a3_9 j ∧ a3_9 j ≤ 4294968319) ∨ a3_9 j = 1099511627776)) ∧ (∀ j : Int, -1 ≤ a4_9 j ∧ a4_9 j ≤ 299) ∧ (∀ j : Int, -1 ≤ a5_9 j ∧ a5_9 j ≤ 299) ∧ (∀ j : Int, 0 ≤ a6_9 j ∧ a6_9 j ≤ 1000) ∧ (z12_brokenPlace < 0 → BLD z0_9 R1 a1_9 a6_9 a2_9 a4_9 a5_9 60 ∧ z0_9 = B1 + 1 ∧ a1_9 z0_9 = R1 ∧ a2_9 = zup a_9 B1 ki ∧ a4_9 = zup a_11 B1 g1 ∧ a5_9 = zup a_12 B1 g2)) ∧ va_P (dC, dI) vwP [(h0, .inr (7, [v12_0, v12_1, v12_2, v12_3, v12_4, v12_5, v12_6, v12_7, .ref hc, v12_9, v12_10, v12_11, v12_12, v12_13, v12_14, .int (zI (z12_brokenPlace)), v12_16, v12_17])), (hc, .inr (0, [.int (zI (z0_9)), .int (zI (R1)), .int (zI (P1)), v_3, .ref q_704, v_5, v_6, v_7, v_8, .ref q_709, .ref q_710, .ref q_711, .ref q_712, v_13, v_14, .ref q_715, v_16, v_17, v_18])), (q_704, .inl (cA_704, 301, .inl (fun j : Nat => zI (a1_9 (j : Int))))), (q_709, .inl (cA_709, 300, .inl (fun j : Nat => zI (a2_9 (j : Int))))), (q_710, .inl (cA_710, 300, .inr (.inl (fun j : Nat => lI (a3_9 (j : Int)))))), (q_711, .inl (cA_711, 300, .inl (fun j : Nat => zI (a4_9 (j : Int))))), (q_712, .inl (cA_712, 300, .inl (fun j : Nat => zI (a5_9 (j : Int))))), (q_715, .inl (cA_715, 301, .inl (fun j : Nat => zI (a6_9 (j : Int)))))] t.heap ∧ va_K (dC, dI) vwP [(cA_704, .int), (cA_709, .int), (cA_710, .long), (cA_711, .int), (cA_712, .int), (cA_715, .int)] t ∧ va_D (va_A [(h0, .inr (7, [v12_0, v12_1, v12_2, v12_3, v12_4, v12_5, v12_6, v12_7, .ref hc, v12_9, v12_10, v12_11, v12_12, v12_13, v12_14, .int (zI (z12_brokenPlace)), v12_16, v12_17])), (hc, .inr (0, [.int (zI (B1)), .int (zI (R1)), .int (zI (P1)), v_3, .ref q_704, v_5, v_6, v_7, v_8, .ref q_709, .ref q_710, .ref q_711, .ref q_712, v_13, v_14, .ref q_715, v_16, v_17, v_18])), (q_704, .inl (cA_704, 301, .inl (fun j : Nat => zI (a_4 (j : Int))))), (q_709, .inl (cA_709, 300, .inl (fun j : Nat => zI (a_9 (j : Int))))), (q_710, .inl (cA_710, 300, .inr (.inl (fun j : Nat => lI (a_10 (j : Int)))))), (q_711, .inl (cA_711, 300, .inl (fun j : Nat => zI (a_11 (j : Int))))), (q_712, .inl (cA_712, 300, .inl (fun j : Nat => zI (a_12 (j : Int))))), (q_715, .inl (cA_715, 301, .inl (fun j : Nat => zI (a_15 (j : Int)))))] sz) [(h0, .inr (7, [v12_0, v12_1, v12_2, v12_3, v12_4, v12_5, v12_6, v12_7, .ref hc, v12_9, v12_10, v12_11, v12_12, v12_13, v12_14, .int (zI (z12_brokenPlace)), v12_16, v12_17])), (hc, .inr (0, [.int (zI (z0_9)), .int (zI (R1)), .int (zI (P1)), v_3, .ref q_704, v_5, v_6, v_7, v_8, .ref q_709, .ref q_710, .ref q_711, .ref q_712, v_13, v_14, .ref q_715, v_16, v_17, v_18])), (q_704, .inl (cA_704, 301, .inl (fun j : Nat => zI (a1_9 (j : Int))))), (q_709, .inl (cA_709, 300, .inl (fun j : Nat => zI (a2_9 (j : Int))))), (q_710, .inl (cA_710, 300, .inr (.inl (fun j : Nat => lI (a3_9 (j : Int)))))), (q_711, .inl (cA_711, 300, .inl (fun j : Nat => zI (a4_9 (j : Int))))), (q_712, .inl (cA_712, 300, .inl (fun j : Nat => zI (a5_9 (j : Int))))), (q_715, .inl (cA_715, 301, .inl (fun j : Nat => zI (a6_9 (j : Int)))))]) (va_A [(h0, .inr (7, [v12_0, v12_1, v12_2, v12_3, v12_4, v12_5, v12_6, v12_7, .ref hc, v12_9, v12_10, v12_11, v12_12, v12_13, v12_14, .int (zI (z12_brokenPlace)), v12_16, v12_17])), (hc, .inr (0, [.int (zI (B1)), .int (zI (R1)), .int (zI (P1)), v_3, .ref q_704, v_5, v_6, v_7, v_8, .ref q_709, .ref q_710, .ref q_711, .ref q_712, v_13, v_14, .ref q_715, v_16, v_17, v_18])), (q_704, .inl (cA_704, 301, .inl (fun j : Nat => zI (a_4 (j : Int))))), (q_709, .inl (cA_709, 300, .inl (fun j : Nat => zI (a_9 (j : Int))))), (q_710, .inl (cA_710, 300, .inr (.inl (fun j : Nat => lI (a_10 (j : Int)))))), (q_711, .inl (cA_711, 300, .inl (fun j : Nat => zI (a_11 (j : Int))))), (q_712, .inl (cA_712, 300, .inl (fun j : Nat => zI (a_12 (j : Int))))), (q_715, .inl (cA_715, 301, .inl (fun j : Nat => zI (a_15 (j : Int)))))] sz)) 0 0 (va_A [(h0, .inr (7, [v12_0, v12_1, v12_2, v12_3, v12_4, v12_5, v12_6, v12_7, .ref hc, v12_9, v12_10, v12_11, v12_12, v12_13, v12_14, .int (zI (z12_brokenPlace)), v12_16, v12_17])), (hc, .inr (0, [.int (zI (B1)), .int (zI (R1)), .int (zI (P1)), v_3, .ref q_704, v_5, v_6, v_7, v_8, .ref q_709, .ref q_710, .ref q_711, .ref q_712, v_13, v_14, .ref q_715, v_16, v_17, v_18])), (q_704, .inl (cA_704, 301, .inl (fun j : Nat => zI (a_4 (j : Int))))), (q_709, .inl (cA_709, 300, .inl (fun j : Nat => zI (a_9 (j : Int))))), (q_710, .inl (cA_710, 300, .inr (.inl (fun j : Nat => lI (a_10 (j : Int)))))), (q_711, .inl (cA_711, 300, .inl (fun j : Nat => zI (a_11 (j : Int))))), (q_712, .inl (cA_712, 300, .inl (fun j : Nat => zI (a_12 (j : Int))))), (q_715, .inl (cA_715, 301, .inl (fun j : Nat => zI (a_15 (j : Int)))))] sz) := by
  refine Met.ofW (cc := cX7_keepEnd) (maxL := 6) (ret := none) (by decide) rfl ?_
  intro p e s m args below meth c s₁ B hml hv
  obtain ⟨rfl, hsz, hP, hK, hD0⟩ := hv
  have hx := B.exec
  have hb := B.bytes
  have hr := B.returns
  have hts := atoms_spec (ws := v_X7_keepEnd) B.pre
  have hown : s.vm.findClass RX7 = some m.cls := findClass_of_methodNamed B.named
  have hlocks := B.notSynchronized
  have ow : ∀ {k : Nat} {w : Cond}, o_X7_keepEnd[k]? = some w → w.before ([.ref h0, .int (zI (ki)), .long (lI (x)), .int (zI (g1)), .int (zI (g2))] : List Value).toArray s = true := fun h => hts _ (mow_X7_keepEnd _ (List.mem_of_getElem? h))
  subst hsz
  have hD := hD0.self (sz := s.heap.size)
  generalize hAe : va_A [(h0, .inr (7, [v12_0, v12_1, v12_2, v12_3, v12_4, v12_5, v12_6, v12_7, .ref hc, v12_9, v12_10, v12_11, v12_12, v12_13, v12_14, .int (zI (z12_brokenPlace)), v12_16, v12_17])), (hc, .inr (0, [.int (zI (B1)), .int (zI (R1)), .int (zI (P1)), v_3, .ref q_704, v_5, v_6, v_7, v_8, .ref q_709, .ref q_710, .ref q_711, .ref q_712, v_13, v_14, .ref q_715, v_16, v_17, v_18])), (q_704, .inl (cA_704, 301, .inl (fun j : Nat => zI (a_4 (j : Int))))), (q_709, .inl (cA_709, 300, .inl (fun j : Nat => zI (a_9 (j : Int))))), (q_710, .inl (cA_710, 300, .inr (.inl (fun j : Nat => lI (a_10 (j : Int)))))), (q_711, .inl (cA_711, 300, .inl (fun j : Nat => zI (a_11 (j : Int))))), (q_712, .inl (cA_712, 300, .inl (fun j : Nat => zI (a_12 (j : Int))))), (q_715, .inl (cA_715, 301, .inl (fun j : Nat => zI (a_15 (j : Int)))))] s.heap.size = A at hD ⊢
  have hA : ∀ q : Nat, s.heap.size ≤ q → A q := fun q h => by rw [← hAe]; exact Or.inr h
  have hS : va_S A s.heap s.heap [] := va_S.rf
  have hP : va_P (dC, dI) vwP [(h0, .inr (7, [v12_0, v12_1, v12_2, v12_3, v12_4, v12_5, v12_6, v12_7, .ref hc, v12_9, v12_10, v12_11, v12_12, v12_13, v12_14, .int (zI (z12_brokenPlace)), v12_16, v12_17])), (hc, .inr (0, [.int (zI (B1)), .int (zI (R1)), .int (zI (P1)), v_3, .ref q_704, v_5, v_6, v_7, v_8, .ref q_709, .ref q_710, .ref q_711, .ref q_712, v_13, v_14, .ref q_715, v_16, v_17, v_18])), (q_704, .inl (cA_704, 301, .inl (fun j : Nat => zI (a_4 (j : Int))))), (q_709, .inl (cA_709, 300, .inl (fun j : Nat => zI (a_9 (j : Int))))), (q_710, .inl (cA_710, 300, .inr (.inl (fun j : Nat => lI (a_10 (j : Int)))))), (q_711, .inl (cA_711, 300, .inl (fun j : Nat => zI (a_11 (j : Int))))), (q_712, .inl (cA_712, 300, .inl (fun j : Nat => zI (a_12 (j : Int))))), (q_715, .inl (cA_715, 301, .inl (fun j : Nat => zI (a_15 (j : Int)))))] s.heap := hP
  have hl := lv_entry ([.ref h0, .int (zI (ki)), .long (lI (x)), .int (zI (g1)), .int (zI (g2))]) (n := 6) (Nat.le_of_ble_eq_true rfl)
  rw [lg_entry_eq]
  generalize (lg_sl ([.ref h0, .int (zI (ki)), .long (lI (x)), .int (zI (g1)), .int (zI (g2))]) ++ List.replicate (6 - (lg_sl ([.ref h0, .int (zI (ki)), .long (lI (x)), .int (zI (g1)), .int (zI (g2))])).length) Slot.unset).toArray = ls at hl ⊢
  have hl : lv_has ls 6 [(0, .ref h0), (1, .int (zI (ki))), (2, .long (lI (x))), (4, .int (zI (g1))), (5, .int (zI (g2)))] := hl
  obtain ⟨H, hH⟩ : ∃ H, H = s.heap := ⟨_, rfl⟩
  rw [← hH] at hP
  have hS : va_S A s.heap H [] := by rw [hH]; exact hS
  rw [← hH]
  refine zW_cap (fun Q hQ => ?_)
  refine lv_aload_n hx hb dX7_keepEnd_0 rfl (lv_at hl 0 rfl) ?_
  refine va_get (D := (dC, dI)) (ci := 7) (v := .int (zI (z12_brokenPlace))) (C := RX7) (T := TX7) (N := 18) hx hb hts mem_X7_keepEnd_0 hown hK hP 0 rfl rfl 15 (by decide) (ow (k := 0) rfl) (fun _ h9 => h9) rfl dX7_keepEnd_1 ?_
  refine lv_if_ge (tgt := 28) hx hb dX7_keepEnd_4 (by decide) (fun b4 => ?_) (fun b4 => ?_)
  · have yb4 : (0 : Int) ≤ (z12_brokenPlace : Int) := (zI_le (a := 0) (b := z12_brokenPlace) (by omega) (by omega) (by omega) (by omega)).mp b4
    subst hQ
    refine W.widen (k := 0) (n := 0) (Nat.le_of_ble_eq_true rfl) (Nat.le_of_ble_eq_true rfl) ?_
    exact W.vret hx hb hr (fun t ht hW => ⟨⟨(), rfl, trivial, B1, a_4, a_9, a_10, a_11, a_12, a_15, ⟨(by omega), hR_a_4, hR_a_9, hR_a_10, hR_a_11, hR_a_12, hR_a_15, (fun h9 => absurd h9 (by omega))⟩, by rw [ht]; exact hP, va_K.moved hW.alike hK, hD⟩, hS.F ht⟩) hS.2.2 dX7_keepEnd_28
  · have yb4 : ¬ (0 : Int) ≤ (z12_brokenPlace : Int) := fun q => b4 ((zI_le (a := 0) (b := z12_brokenPlace) (by omega) (by omega) (by omega) (by omega)).mpr q)
    refine lv_aload_n hx hb dX7_keepEnd_7 rfl (lv_at hl 0 rfl) ?_
    refine va_get (D := (dC, dI)) (ci := 7) (v := .ref hc) (C := RX7) (T := TX7) (N := 18) hx hb hts mem_X7_keepEnd_0 hown hK hP 0 rfl rfl 8 (by decide) (ow (k := 1) rfl) (fun _ h9 => h9) rfl dX7_keepEnd_8 ?_
    refine lv_ifnull hx hb dX7_keepEnd_11 ?_
    obtain ⟨M0, hM0⟩ : ∃ z9 : Int, z9 = 60 := ⟨_, rfl⟩
    have hX_B : BLD B1 R1 a_4 a_15 a_9 a_11 a_12 M0 := (by rw [hM0]; exact (hX_B0 (by omega)).1)
    have hb9 := (hX_B0 (by omega)).2
    refine lv_aload_n hx hb dX7_keepEnd_14 rfl (lv_at hl 0 rfl) ?_
    refine va_get (D := (dC, dI)) (ci := 7) (v := .ref hc) (C := RX7) (T := TX7) (N := 18) hx hb hts mem_X7_keepEnd_0 hown hK hP 0 rfl rfl 8 (by decide) (ow (k := 1) rfl) (fun _ h9 => h9) rfl dX7_keepEnd_15 ?_
    refine lv_iload_n hx hb dX7_keepEnd_18 rfl (lv_at hl 1 rfl) ?_
    refine lv_lload_n hx hb dX7_keepEnd_19 rfl (lv_at hl 2 rfl) ?_
    refine lv_iload hx hb dX7_keepEnd_20 (lv_at hl 3 rfl) ?_
    refine lv_iload hx hb dX7_keepEnd_22 (lv_at hl 4 rfl) ?_
    have hPc := hP.sub (ws' := [(hc, .inr (0, [.int (zI (B1)), .int (zI (R1)), .int (zI (P1)), v_3, .ref q_704, v_5, v_6, v_7, v_8, .ref q_709, .ref q_710, .ref q_711, .ref q_712, v_13, v_14, .ref q_715, v_16, v_17, v_18])), (q_704, .inl (cA_704, 301, .inl (fun j : Nat => zI (a_4 (j : Int))))), (q_709, .inl (cA_709, 300, .inl (fun j : Nat => zI (a_9 (j : Int))))), (q_710, .inl (cA_710, 300, .inr (.inl (fun j : Nat => lI (a_10 (j : Int)))))), (q_711, .inl (cA_711, 300, .inl (fun j : Nat => zI (a_11 (j : Int))))), (q_712, .inl (cA_712, 300, .inl (fun j : Nat => zI (a_12 (j : Int))))), (q_715, .inl (cA_715, 301, .inl (fun j : Nat => zI (a_15 (j : Int)))))]) [1, 2, 3, 4, 5, 6, 7] rfl
    have hDc := hD.sub (ws' := [(hc, .inr (0, [.int (zI (B1)), .int (zI (R1)), .int (zI (P1)), v_3, .ref q_704, v_5, v_6, v_7, v_8, .ref q_709, .ref q_710, .ref q_711, .ref q_712, v_13, v_14, .ref q_715, v_16, v_17, v_18])), (q_704, .inl (cA_704, 301, .inl (fun j : Nat => zI (a_4 (j : Int))))), (q_709, .inl (cA_709, 300, .inl (fun j : Nat => zI (a_9 (j : Int))))), (q_710, .inl (cA_710, 300, .inr (.inl (fun j : Nat => lI (a_10 (j : Int)))))), (q_711, .inl (cA_711, 300, .inl (fun j : Nat => zI (a_11 (j : Int))))), (q_712, .inl (cA_712, 300, .inl (fun j : Nat => zI (a_12 (j : Int))))), (q_715, .inl (cA_715, 301, .inl (fun j : Nat => zI (a_15 (j : Int)))))]) [1, 2, 3, 4, 5, 6, 7] (by decide) rfl
    have hKc := hK.sub (tys' := [(cA_704, .int), (cA_709, .int), (cA_710, .long), (cA_711, .int), (cA_712, .int), (cA_715, .int)]) [0, 1, 2, 3, 4, 5] rfl
    have hFc := va_free (wc := [(hc, .inr (0, [.int (zI (B1)), .int (zI (R1)), .int (zI (P1)), v_3, .ref q_704, v_5, v_6, v_7, v_8, .ref q_709, .ref q_710, .ref q_711, .ref q_712, v_13, v_14, .ref q_715, v_16, v_17, v_18])), (q_704, .inl (cA_704, 301, .inl (fun j : Nat => zI (a_4 (j : Int))))), (q_709, .inl (cA_709, 300, .inl (fun j : Nat => zI (a_9 (j : Int))))), (q_710, .inl (cA_710, 300, .inr (.inl (fun j : Nat => lI (a_10 (j : Int)))))), (q_711, .inl (cA_711, 300, .inl (fun j : Nat => zI (a_11 (j : Int))))), (q_712, .inl (cA_712, 300, .inl (fun j : Nat => zI (a_12 (j : Int))))), (q_715, .inl (cA_715, 301, .inl (fun j : Nat => zI (a_15 (j : Int)))))]) hD hS hA [1, 2, 3, 4, 5, 6, 7] rfl
    refine va_calli (va_runV (As := [.int (zI (ki)), .long (lI (x)), .int (zI (g1)), .int (zI (g2))]) (rest := []) ⟨hx, hb, hml, hown, hts⟩ (c_X0_closeBlockN l dC dI hc B1 R1 P1 v_3 q_704 cA_704 a_4 v_5 v_6 v_7 v_8 q_709 cA_709 a_9 q_710 cA_710 a_10 q_711 cA_711 a_11 q_712 cA_712 a_12 v_13 v_14 q_715 cA_715 a_15 v_16 v_17 v_18 ki x g1 g2 M0 (by omega) (by omega) (by omega) hR_a_4 hR_a_9 hR_a_10 hR_a_11 hR_a_12 hR_a_15 (by omega) (by omega) (by omega) hX_B (by omega) (by omega) (by omega) H.size) (cwV 4 hts g_X7_keepEnd_X0_closeBlockN rfl rfl rfl (by decide +kernel) ⟨(Nat.le_of_ble_eq_true rfl), (Nat.le_of_ble_eq_true rfl)⟩) ⟨fun a U g mk q => by obtain ⟨q0, q1, qP, qK, qD⟩ := q; exact ⟨q0, q1, qP, va_K.moved (u := U) (U := U.calling g mk a) (Vm.Alike.refl U.vm) qK, qD⟩, va_recv hKc hPc (ci := 0) (q0 := 0) rfl rfl, fun U hU hW => ⟨rfl, by rw [hU], by rw [hU]; exact hPc, va_K.moved hW.alike hKc, hDc.weaken (fun _ _ _ _ => trivial)⟩⟩ rfl rfl hl.1 rfl (lv_room (Nat.le_of_ble_eq_true rfl)) dX7_keepEnd_24 ⟨(Nat.le_of_ble_eq_true rfl), (Nat.le_of_ble_eq_true rfl)⟩) hS (fun q _ h => hFc q h) hFc (fun r_2001 z_2002 t H1 locs ht hvm hw hB hz1 hk1 hS => ?_)
    obtain ⟨z0_2003, a1_2004, a2_2005, a3_2006, a4_2007, a5_2008, a6_2009, hxt_2009, hP1, hK1, hD1⟩ := hB
    rw [ht] at hP1
    have hK1 := va_K.moved hvm.symm hK1
    obtain ⟨hP, hD⟩ := va_join (wr := [(h0, .inr (7, [v12_0, v12_1, v12_2, v12_3, v12_4, v12_5, v12_6, v12_7, .ref hc, v12_9, v12_10, v12_11, v12_12, v12_13, v12_14, .int (zI (z12_brokenPlace)), v12_16, v12_17]))]) (w1 := [(hc, .inr (0, [.int (zI (z0_2003)), .int (zI (R1)), .int (zI (P1)), v_3, .ref q_704, v_5, v_6, v_7, v_8, .ref q_709, .ref q_710, .ref q_711, .ref q_712, v_13, v_14, .ref q_715, v_16, v_17, v_18])), (q_704, .inl (cA_704, 301, .inl (fun j : Nat => zI (a1_2004 (j : Int))))), (q_709, .inl (cA_709, 300, .inl (fun j : Nat => zI (a2_2005 (j : Int))))), (q_710, .inl (cA_710, 300, .inr (.inl (fun j : Nat => lI (a3_2006 (j : Int)))))), (q_711, .inl (cA_711, 300, .inl (fun j : Nat => zI (a4_2007 (j : Int))))), (q_712, .inl (cA_712, 300, .inl (fun j : Nat => zI (a5_2008 (j : Int))))), (q_715, .inl (cA_715, 301, .inl (fun j : Nat => zI (a6_2009 (j : Int)))))]) hP hD [1, 2, 3, 4, 5, 6, 7] [0] rfl rfl (by decide) (by decide) hk1 hFc hP1 hD1
    have hK := (hK.sub (tys' := []) [] rfl).app hK1
    generalize H1 = H at hP hS ⊢
    have hP : va_P (dC, dI) vwP [(h0, .inr (7, [v12_0, v12_1, v12_2, v12_3, v12_4, v12_5, v12_6, v12_7, .ref hc, v12_9, v12_10, v12_11, v12_12, v12_13, v12_14, .int (zI (z12_brokenPlace)), v12_16, v12_17])), (hc, .inr (0, [.int (zI (z0_2003)), .int (zI (R1)), .int (zI (P1)), v_3, .ref q_704, v_5, v_6, v_7, v_8, .ref q_709, .ref q_710, .ref q_711, .ref q_712, v_13, v_14, .ref q_715, v_16, v_17, v_18])), (q_704, .inl (cA_704, 301, .inl (fun j : Nat => zI (a1_2004 (j : Int))))), (q_709, .inl (cA_709, 300, .inl (fun j : Nat => zI (a2_2005 (j : Int))))), (q_710, .inl (cA_710, 300, .inr (.inl (fun j : Nat => lI (a3_2006 (j : Int)))))), (q_711, .inl (cA_711, 300, .inl (fun j : Nat => zI (a4_2007 (j : Int))))), (q_712, .inl (cA_712, 300, .inl (fun j : Nat => zI (a5_2008 (j : Int))))), (q_715, .inl (cA_715, 301, .inl (fun j : Nat => zI (a6_2009 (j : Int)))))] H := hP
    have hD : va_D A [(h0, .inr (7, [v12_0, v12_1, v12_2, v12_3, v12_4, v12_5, v12_6, v12_7, .ref hc, v12_9, v12_10, v12_11, v12_12, v12_13, v12_14, .int (zI (z12_brokenPlace)), v12_16, v12_17])), (hc, .inr (0, [.int (zI (z0_2003)), .int (zI (R1)), .int (zI (P1)), v_3, .ref q_704, v_5, v_6, v_7, v_8, .ref q_709, .ref q_710, .ref q_711, .ref q_712, v_13, v_14, .ref q_715, v_16, v_17, v_18])), (q_704, .inl (cA_704, 301, .inl (fun j : Nat => zI (a1_2004 (j : Int))))), (q_709, .inl (cA_709, 300, .inl (fun j : Nat => zI (a2_2005 (j : Int))))), (q_710, .inl (cA_710, 300, .inr (.inl (fun j : Nat => lI (a3_2006 (j : Int)))))), (q_711, .inl (cA_711, 300, .inl (fun j : Nat => zI (a4_2007 (j : Int))))), (q_712, .inl (cA_712, 300, .inl (fun j : Nat => zI (a5_2008 (j : Int))))), (q_715, .inl (cA_715, 301, .inl (fun j : Nat => zI (a6_2009 (j : Int)))))] := hD
    have hK : va_K (dC, dI) vwP [(cA_704, .int), (cA_709, .int), (cA_710, .long), (cA_711, .int), (cA_712, .int), (cA_715, .int)] s := hK
    refine W.widen (k := 0) (n := 0) (Nat.le_of_ble_eq_true rfl) (Nat.le_of_ble_eq_true rfl) ?_
    obtain ⟨rfl, hzz_2002⟩ := hw
    obtain ⟨rk_2010, rk_2011, rk_2012, rk_2013, rk_2014, rk_2015, rk_2016, hu_2016⟩ := hxt_2009
    refine lv_pop hx hb dX7_keepEnd_27 rfl ?_
    subst hQ
    refine W.widen (k := 0) (n := 0) (Nat.le_of_ble_eq_true rfl) (Nat.le_of_ble_eq_true rfl) ?_
    exact W.vret hx hb hr (fun t ht hW => ⟨⟨(), rfl, trivial, z0_2003, a1_2004, a2_2005, a3_2006, a4_2007, a5_2008, a6_2009, ⟨(by omega), rk_2011, rk_2012, rk_2013, rk_2014, rk_2015, rk_2016, (fun h9 => ⟨(by have q9 := hu_2016.1.1; rw [hM0] at q9; exact q9), hu_2016.1.2.1, hu_2016.1.2.2, hu_2016.2⟩)⟩, by rw [ht]; exact hP, va_K.moved hW.alike hK, hD⟩, hS.F ht⟩) hS.2.2 dX7_keepEnd_28
theorem dX7_goOn_0 : decode cX7_goOn 0 = .ok (.iload_n 1, 1) := by decide +kernel
theorem dX7_goOn_1 : decode cX7_goOn 1 = .ok (.ifCond .eq 8, 3) := by decide +kernel
theorem dX7_goOn_9 : decode cX7_goOn 9 = .ok (.iload_n 1, 1) := by decide +kernel
theorem dX7_goOn_10 : decode cX7_goOn 10 = .ok (.ireturn, 1) := by decide +kernel
theorem dX7_goOn_4 : decode cX7_goOn 4 = .ok (.aload_n 0, 1) := by decide +kernel
theorem dX7_goOn_5 : decode cX7_goOn 5 = .ok (.iload_n 2, 1) := by decide +kernel
theorem dX7_goOn_6 : decode cX7_goOn 6 = .ok (.putfield 34, 3) := by decide +kernel
def o_X7_goOn : List Cond := [.fieldLink RX7 34 "SsaForge$Reader" "state" "I"]
def v_X7_goOn : List Cond := .code yX7_goOn cX7_goOn 3 (some .boolean) :: (o_X7_goOn ++ (wsX70 ++ []))
theorem mow_X7_goOn : ∀ w ∈ o_X7_goOn, w ∈ v_X7_goOn := fun _ h => List.mem_cons_of_mem _ (List.mem_append_left _ h)
theorem mem_X7_goOn_0 : ∀ w ∈ wsX70, w ∈ v_X7_goOn := fun _ h => List.mem_cons_of_mem _ (List.mem_append_right _ (List.mem_append_left _ h))
set_option maxRecDepth 20000 in
theorem gw_X7_goOn : v_X7_goOn.all goodWord = true := by decide +kernel
set_option maxHeartbeats 4000000 in
set_option maxRecDepth 100000 in
theorem c_X7_goOn (l : Launch) (dC : Nat → ClassId) (dI : Nat → Nat → Nat) (h0 : Nat) (v12_0 : Value) (v12_1 : Value) (v12_2 : Value) (v12_3 : Value) (v12_4 : Value) (v12_5 : Value) (v12_6 : Value) (z12_state : Int) (v12_8 : Value) (v12_9 : Value) (v12_10 : Value) (v12_11 : Value) (v12_12 : Value) (v12_13 : Value) (v12_14 : Value) (v12_15 : Value) (v12_16 : Value) (v12_17 : Value) (ft : Int) (nx : Int) (hNz12_state : 0 ≤ z12_state ∧ z12_state ≤ 12) (hNf : 0 ≤ ft ∧ ft ≤ 1 ∧ 0 ≤ nx ∧ nx ≤ 12) (sz : Nat) : Met l yX7_goOn v_X7_goOn ({ frames := 0, cells := 0, slots := 0, locals := 0 }) (va_Pc [.ref h0, .int (zI (ft)), .int (zI (nx))] (fun U => U.heap.size = sz ∧ va_P (dC, dI) vwP [(h0, .inr (7, [v12_0, v12_1, v12_2, v12_3, v12_4, v12_5, v12_6, .int (zI (z12_state)), v12_8, v12_9, v12_10, v12_11, v12_12, v12_13, v12_14, v12_15, v12_16, v12_17]))] U.heap ∧ va_K (dC, dI) vwP [] U ∧ va_D (fun _ => True) [(h0, .inr (7, [v12_0, v12_1, v12_2, v12_3, v12_4, v12_5, v12_6, .int (zI (z12_state)), v12_8, v12_9, v12_10, v12_11, v12_12, v12_13, v12_14, v12_15, v12_16, v12_17]))])) (va_Qi (fun (r : Int32) (zr : Int) => r = zI zr ∧ (zr = ft)) (fun (zr : Int) (t : State) => ∃ (z0_9 : Int), ((0 ≤ z0_9 ∧ z0_9 ≤ 12) ∧ ((ft = 1 → z0_9 = nx) ∧ (ft = 0 → z0_9 = z12_state))) ∧ va_P (dC, dI) vwP [(h0, .inr (7, [v12_0, v12_1, v12_2, v12_3, v12_4, v12_5, v12_6, .int (zI (z0_9)), v12_8, v12_9, v12_10, v12_11, v12_12, v12_13, v12_14, v12_15, v12_16, v12_17]))] t.heap ∧ va_K (dC, dI) vwP [] t ∧ va_D (va_A [(h0, .inr (7, [v12_0, v12_1, v12_2, v12_3, v12_4, v12_5, v12_6, .int (zI (z12_state)), v12_8, v12_9, v12_10, v12_11, v12_12, v12_13, v12_14, v12_15, v12_16, v12_17]))] sz) [(h0, .inr (7, [v12_0, v12_1, v12_2, v12_3, v12_4, v12_5, v12_6, .int (zI (z0_9)), v12_8, v12_9, v12_10, v12_11, v12_12, v12_13, v12_14, v12_15, v12_16, v12_17]))]) (va_A [(h0, .inr (7, [v12_0, v12_1, v12_2, v12_3, v12_4, v12_5, v12_6, .int (zI (z12_state)), v12_8, v12_9, v12_10, v12_11, v12_12, v12_13, v12_14, v12_15, v12_16, v12_17]))] sz)) 0 0 (va_A [(h0, .inr (7, [v12_0, v12_1, v12_2, v12_3, v12_4, v12_5, v12_6, .int (zI (z12_state)), v12_8, v12_9, v12_10, v12_11, v12_12, v12_13, v12_14, v12_15, v12_16, v12_17]))] sz) := by
  refine Met.ofW (cc := cX7_goOn) (maxL := 3) (ret := (some .boolean)) (by decide) rfl ?_
  intro p e s m args below meth c s₁ B hml hv
  obtain ⟨rfl, hsz, hP, hK, hD0⟩ := hv
  have hx := B.exec
  have hb := B.bytes
  have hr := B.returns
  have hts := atoms_spec (ws := v_X7_goOn) B.pre
  have hown : s.vm.findClass RX7 = some m.cls := findClass_of_methodNamed B.named
  have hlocks := B.notSynchronized
  have ow : ∀ {k : Nat} {w : Cond}, o_X7_goOn[k]? = some w → w.before ([.ref h0, .int (zI (ft)), .int (zI (nx))] : List Value).toArray s = true := fun h => hts _ (mow_X7_goOn _ (List.mem_of_getElem? h))
  subst hsz
  have hD := hD0.self (sz := s.heap.size)
  generalize hAe : va_A [(h0, .inr (7, [v12_0, v12_1, v12_2, v12_3, v12_4, v12_5, v12_6, .int (zI (z12_state)), v12_8, v12_9, v12_10, v12_11, v12_12, v12_13, v12_14, v12_15, v12_16, v12_17]))] s.heap.size = A at hD ⊢
  have hA : ∀ q : Nat, s.heap.size ≤ q → A q := fun q h => by rw [← hAe]; exact Or.inr h
  have hS : va_S A s.heap s.heap [] := va_S.rf
  have hP : va_P (dC, dI) vwP [(h0, .inr (7, [v12_0, v12_1, v12_2, v12_3, v12_4, v12_5, v12_6, .int (zI (z12_state)), v12_8, v12_9, v12_10, v12_11, v12_12, v12_13, v12_14, v12_15, v12_16, v12_17]))] s.heap := hP
  have hl := lv_entry ([.ref h0, .int (zI (ft)), .int (zI (nx))]) (n := 3) (Nat.le_of_ble_eq_true rfl)
  rw [lg_entry_eq]
  generalize (lg_sl ([.ref h0, .int (zI (ft)), .int (zI (nx))]) ++ List.replicate (3 - (lg_sl ([.ref h0, .int (zI (ft)), .int (zI (nx))])).length) Slot.unset).toArray = ls at hl ⊢
  have hl : lv_has ls 3 [(0, .ref h0), (1, .int (zI (ft))), (2, .int (zI (nx)))] := hl
  obtain ⟨H, hH⟩ : ∃ H, H = s.heap := ⟨_, rfl⟩
  rw [← hH] at hP
  have hS : va_S A s.heap H [] := by rw [hH]; exact hS
  rw [← hH]
  refine zW_cap (fun Q hQ => ?_)
  refine lv_iload_n hx hb dX7_goOn_0 rfl (lv_at hl 1 rfl) ?_
  refine lv_if_eq (tgt := 9) hx hb dX7_goOn_1 (by decide) (fun b1 => ?_) (fun b1 => ?_)
  · have yb1 : (ft : Int) = (0 : Int) := (zI_eq (a := ft) (b := 0) (by omega) (by omega) (by omega) (by omega)).mp b1
    refine lv_iload_n hx hb dX7_goOn_9 rfl (lv_at hl 1 rfl) ?_
    subst hQ
    refine W.widen (k := 0) (n := 0) (Nat.le_of_ble_eq_true rfl) (Nat.le_of_ble_eq_true rfl) ?_
    exact W.zret (v := (zI (ft))) hx hb hr (zI_bool (by omega) (by omega)) (fun t ht hW => ⟨⟨(zI (ft)), (ft), rfl, ⟨rfl, (by omega)⟩, z12_state, ⟨(by omega), ⟨fun h9 => by omega, fun h9 => by omega⟩⟩, by rw [ht]; exact hP, va_K.moved hW.alike hK, hD⟩, hS.F ht⟩) hS.2.2 dX7_goOn_10
  · have yb1 : ¬ (ft : Int) = (0 : Int) := fun q => b1 ((zI_eq (a := ft) (b := 0) (by omega) (by omega) (by omega) (by omega)).mpr q)
    refine lv_aload_n hx hb dX7_goOn_4 rfl (lv_at hl 0 rfl) ?_
    refine lv_iload_n hx hb dX7_goOn_5 rfl (lv_at hl 2 rfl) ?_
    refine va_put (D := (dC, dI)) (ci := 7) (v := .int (zI (nx))) (ty := .int) (C := RX7) (T := TX7) (N := 18) hx hb hts mem_X7_goOn_0 tyX7 tyX7_ok nmX7 hown hK hP hD hS 0 rfl rfl 7 (by decide) (ow (k := 0) rfl) (fun _ h9 => h9) rfl (by decide +kernel) rfl rfl (Nat.le_of_ble_eq_true rfl) dX7_goOn_6 (fun H locs hP hD hS => ?_)
    have hP : va_P (dC, dI) vwP [(h0, .inr (7, [v12_0, v12_1, v12_2, v12_3, v12_4, v12_5, v12_6, .int (zI (nx)), v12_8, v12_9, v12_10, v12_11, v12_12, v12_13, v12_14, v12_15, v12_16, v12_17]))] H := hP
    have hD : va_D A [(h0, .inr (7, [v12_0, v12_1, v12_2, v12_3, v12_4, v12_5, v12_6, .int (zI (nx)), v12_8, v12_9, v12_10, v12_11, v12_12, v12_13, v12_14, v12_15, v12_16, v12_17]))] := hD
    refine lv_iload_n hx hb dX7_goOn_9 rfl (lv_at hl 1 rfl) ?_
    subst hQ
    refine W.widen (k := 0) (n := 0) (Nat.le_of_ble_eq_true rfl) (Nat.le_of_ble_eq_true rfl) ?_
    exact W.zret (v := (zI (ft))) hx hb hr (zI_bool (by omega) (by omega)) (fun t ht hW => ⟨⟨(zI (ft)), (ft), rfl, ⟨rfl, (by omega)⟩, nx, ⟨(by omega), ⟨fun h9 => by omega, fun h9 => by omega⟩⟩, by rw [ht]; exact hP, va_K.moved hW.alike hK, hD⟩, hS.F ht⟩) hS.2.2 dX7_goOn_10
theorem dX7_breakRule_0 : decode cX7_breakRule 0 = .ok (.aload_n 0, 1) := by decide +kernel
theorem dX7_breakRule_1 : decode cX7_breakRule 1 = .ok (.getfield 60, 3) := by decide +kernel
theorem dX7_breakRule_4 : decode cX7_breakRule 4 = .ok (.ifCond .ge 16, 3) := by decide +kernel
theorem dX7_breakRule_20 : decode cX7_breakRule 20 = .ok (.return_, 1) := by decide +kernel
theorem dX7_breakRule_7 : decode cX7_breakRule 7 = .ok (.aload_n 0, 1) := by decide +kernel
theorem dX7_breakRule_8 : decode cX7_breakRule 8 = .ok (.aload_n 0, 1) := by decide +kernel
theorem dX7_breakRule_9 : decode cX7_breakRule 9 = .ok (.getfield 28, 3) := by decide +kernel
theorem dX7_breakRule_12 : decode cX7_breakRule 12 = .ok (.putfield 60, 3) := by decide +kernel
theorem dX7_breakRule_15 : decode cX7_breakRule 15 = .ok (.aload_n 0, 1) := by decide +kernel
theorem dX7_breakRule_16 : decode cX7_breakRule 16 = .ok (.iload_n 1, 1) := by decide +kernel
theorem dX7_breakRule_17 : decode cX7_breakRule 17 = .ok (.putfield 9, 3) := by decide +kernel
def o_X7_breakRule : List Cond := [.fieldLink RX7 60 "SsaForge$Reader" "brokenPlace" "I", .fieldLink RX7 28 "SsaForge$Reader" "place" "I", .fieldLink RX7 9 "SsaForge$Reader" "reason" "I"]
def v_X7_breakRule : List Cond := .code yX7_breakRule cX7_breakRule 2 none :: (o_X7_breakRule ++ (wsX70 ++ []))
theorem mow_X7_breakRule : ∀ w ∈ o_X7_breakRule, w ∈ v_X7_breakRule := fun _ h => List.mem_cons_of_mem _ (List.mem_append_left _ h)
theorem mem_X7_breakRule_0 : ∀ w ∈ wsX70, w ∈ v_X7_breakRule := fun _ h => List.mem_cons_of_mem _ (List.mem_append_right _ (List.mem_append_left _ h))
set_option maxRecDepth 20000 in
theorem gw_X7_breakRule : v_X7_breakRule.all goodWord = true := by decide +kernel
set_option maxHeartbeats 4000000 in
set_option maxRecDepth 100000 in
theorem c_X7_breakRule (l : Launch) (dC : Nat → ClassId) (dI : Nat → Nat → Nat) (h0 : Nat) (z12_reason : Int) (v12_1 : Value) (v12_2 : Value) (v12_3 : Value) (v12_4 : Value) (z12_place : Int) (v12_6 : Value) (v12_7 : Value) (v12_8 : Value) (v12_9 : Value) (v12_10 : Value) (v12_11 : Value) (v12_12 : Value) (v12_13 : Value) (v12_14 : Value) (z12_brokenPlace : Int) (v12_16 : Value) (v12_17 : Value) (rl : Int) (hNz12_reason : 0 ≤ z12_reason ∧ z12_reason ≤ 4) (hNz12_place : 0 ≤ z12_place ∧ z12_place ≤ 8200) (hNz12_brokenPlace : -1 ≤ z12_brokenPlace ∧ z12_brokenPlace ≤ 8200) (hNr : 0 ≤ rl ∧ rl ≤ 4) (sz : Nat) : Met l yX7_breakRule v_X7_breakRule ({ frames := 0, cells := 0, slots := 0, locals := 0 }) (va_Pc [.ref h0, .int (zI (rl))] (fun U => U.heap.size = sz ∧ va_P (dC, dI) vwP [(h0, .inr (7, [.int (zI (z12_reason)), v12_1, v12_2, v12_3, v12_4, .int (zI (z12_place)), v12_6, v12_7, v12_8, v12_9, v12_10, v12_11, v12_12, v12_13, v12_14, .int (zI (z12_brokenPlace)), v12_16, v12_17]))] U.heap ∧ va_K (dC, dI) vwP [] U ∧ va_D (fun _ => True) [(h0, .inr (7, [.int (zI (z12_reason)), v12_1, v12_2, v12_3, v12_4, .int (zI (z12_place)), v12_6, v12_7, v12_8, v12_9, v12_10, v12_11, v12_12, v12_13, v12_14, .int (zI (z12_brokenPlace)), v12_16, v12_17]))])) (va_Qv (fun _ : Unit => True) (fun (_ : Unit) (t : State) => ∃ (z0_9 : Int) (z1_9 : Int), ((0 ≤ z0_9 ∧ z0_9 ≤ 4) ∧ (-1 ≤ z1_9 ∧ z1_9 ≤ 8200) ∧ (0 ≤ z1_9)) ∧ va_P (dC, dI) vwP [(h0, .inr (7, [.int (zI (z0_9)), v12_1, v12_2, v12_3, v12_4, .int (zI (z12_place)), v12_6, v12_7, v12_8, v12_9, v12_10, v12_11, v12_12, v12_13, v12_14, .int (zI (z1_9)), v12_16, v12_17]))] t.heap ∧ va_K (dC, dI) vwP [] t ∧ va_D (va_A [(h0, .inr (7, [.int (zI (z12_reason)), v12_1, v12_2, v12_3, v12_4, .int (zI (z12_place)), v12_6, v12_7, v12_8, v12_9, v12_10, v12_11, v12_12, v12_13, v12_14, .int (zI (z12_brokenPlace)), v12_16, v12_17]))] sz) [(h0, .inr (7, [.int (zI (z0_9)), v12_1, v12_2, v12_3, v12_4, .int (zI (z12_place)), v12_6, v12_7, v12_8, v12_9, v12_10, v12_11, v12_12, v12_13, v12_14, .int (zI (z1_9)), v12_16, v12_17]))]) (va_A [(h0, .inr (7, [.int (zI (z12_reason)), v12_1, v12_2, v12_3, v12_4, .int (zI (z12_place)), v12_6, v12_7, v12_8, v12_9, v12_10, v12_11, v12_12, v12_13, v12_14, .int (zI (z12_brokenPlace)), v12_16, v12_17]))] sz)) 0 0 (va_A [(h0, .inr (7, [.int (zI (z12_reason)), v12_1, v12_2, v12_3, v12_4, .int (zI (z12_place)), v12_6, v12_7, v12_8, v12_9, v12_10, v12_11, v12_12, v12_13, v12_14, .int (zI (z12_brokenPlace)), v12_16, v12_17]))] sz) := by
  refine Met.ofW (cc := cX7_breakRule) (maxL := 2) (ret := none) (by decide) rfl ?_
  intro p e s m args below meth c s₁ B hml hv
  obtain ⟨rfl, hsz, hP, hK, hD0⟩ := hv
  have hx := B.exec
  have hb := B.bytes
  have hr := B.returns
  have hts := atoms_spec (ws := v_X7_breakRule) B.pre
  have hown : s.vm.findClass RX7 = some m.cls := findClass_of_methodNamed B.named
  have hlocks := B.notSynchronized
  have ow : ∀ {k : Nat} {w : Cond}, o_X7_breakRule[k]? = some w → w.before ([.ref h0, .int (zI (rl))] : List Value).toArray s = true := fun h => hts _ (mow_X7_breakRule _ (List.mem_of_getElem? h))
  subst hsz
  have hD := hD0.self (sz := s.heap.size)
  generalize hAe : va_A [(h0, .inr (7, [.int (zI (z12_reason)), v12_1, v12_2, v12_3, v12_4, .int (zI (z12_place)), v12_6, v12_7, v12_8, v12_9, v12_10, v12_11, v12_12, v12_13, v12_14, .int (zI (z12_brokenPlace)), v12_16, v12_17]))] s.heap.size = A at hD ⊢
  have hA : ∀ q : Nat, s.heap.size ≤ q → A q := fun q h => by rw [← hAe]; exact Or.inr h
  have hS : va_S A s.heap s.heap [] := va_S.rf
  have hP : va_P (dC, dI) vwP [(h0, .inr (7, [.int (zI (z12_reason)), v12_1, v12_2, v12_3, v12_4, .int (zI (z12_place)), v12_6, v12_7, v12_8, v12_9, v12_10, v12_11, v12_12, v12_13, v12_14, .int (zI (z12_brokenPlace)), v12_16, v12_17]))] s.heap := hP
  have hl := lv_entry ([.ref h0, .int (zI (rl))]) (n := 2) (Nat.le_of_ble_eq_true rfl)
  rw [lg_entry_eq]
  generalize (lg_sl ([.ref h0, .int (zI (rl))]) ++ List.replicate (2 - (lg_sl ([.ref h0, .int (zI (rl))])).length) Slot.unset).toArray = ls at hl ⊢
  have hl : lv_has ls 2 [(0, .ref h0), (1, .int (zI (rl)))] := hl
  obtain ⟨H, hH⟩ : ∃ H, H = s.heap := ⟨_, rfl⟩
  rw [← hH] at hP
  have hS : va_S A s.heap H [] := by rw [hH]; exact hS
  rw [← hH]
  refine zW_cap (fun Q hQ => ?_)
  refine lv_aload_n hx hb dX7_breakRule_0 rfl (lv_at hl 0 rfl) ?_
  refine va_get (D := (dC, dI)) (ci := 7) (v := .int (zI (z12_brokenPlace))) (C := RX7) (T := TX7) (N := 18) hx hb hts mem_X7_breakRule_0 hown hK hP 0 rfl rfl 15 (by decide) (ow (k := 0) rfl) (fun _ h9 => h9) rfl dX7_breakRule_1 ?_
  refine lv_if_ge (tgt := 20) hx hb dX7_breakRule_4 (by decide) (fun b4 => ?_) (fun b4 => ?_)
  · have yb4 : (0 : Int) ≤ (z12_brokenPlace : Int) := (zI_le (a := 0) (b := z12_brokenPlace) (by omega) (by omega) (by omega) (by omega)).mp b4
    subst hQ
    refine W.widen (k := 0) (n := 0) (Nat.le_of_ble_eq_true rfl) (Nat.le_of_ble_eq_true rfl) ?_
    exact W.vret hx hb hr (fun t ht hW => ⟨⟨(), rfl, trivial, z12_reason, z12_brokenPlace, ⟨(by omega), (by omega), (by omega)⟩, by rw [ht]; exact hP, va_K.moved hW.alike hK, hD⟩, hS.F ht⟩) hS.2.2 dX7_breakRule_20
  · have yb4 : ¬ (0 : Int) ≤ (z12_brokenPlace : Int) := fun q => b4 ((zI_le (a := 0) (b := z12_brokenPlace) (by omega) (by omega) (by omega) (by omega)).mpr q)
    refine lv_aload_n hx hb dX7_breakRule_7 rfl (lv_at hl 0 rfl) ?_
    refine lv_aload_n hx hb dX7_breakRule_8 rfl (lv_at hl 0 rfl) ?_
    refine va_get (D := (dC, dI)) (ci := 7) (v := .int (zI (z12_place))) (C := RX7) (T := TX7) (N := 18) hx hb hts mem_X7_breakRule_0 hown hK hP 0 rfl rfl 5 (by decide) (ow (k := 1) rfl) (fun _ h9 => h9) rfl dX7_breakRule_9 ?_
    refine va_put (D := (dC, dI)) (ci := 7) (v := .int (zI (z12_place))) (ty := .int) (C := RX7) (T := TX7) (N := 18) hx hb hts mem_X7_breakRule_0 tyX7 tyX7_ok nmX7 hown hK hP hD hS 0 rfl rfl 15 (by decide) (ow (k := 0) rfl) (fun _ h9 => h9) rfl (by decide +kernel) rfl rfl (Nat.le_of_ble_eq_true rfl) dX7_breakRule_12 (fun H locs hP hD hS => ?_)
    have hP : va_P (dC, dI) vwP [(h0, .inr (7, [.int (zI (z12_reason)), v12_1, v12_2, v12_3, v12_4, .int (zI (z12_place)), v12_6, v12_7, v12_8, v12_9, v12_10, v12_11, v12_12, v12_13, v12_14, .int (zI (z12_place)), v12_16, v12_17]))] H := hP
    have hD : va_D A [(h0, .inr (7, [.int (zI (z12_reason)), v12_1, v12_2, v12_3, v12_4, .int (zI (z12_place)), v12_6, v12_7, v12_8, v12_9, v12_10, v12_11, v12_12, v12_13, v12_14, .int (zI (z12_place)), v12_16, v12_17]))] := hD
    refine lv_aload_n hx hb dX7_breakRule_15 rfl (lv_at hl 0 rfl) ?_
    refine lv_iload_n hx hb dX7_breakRule_16 rfl (lv_at hl 1 rfl) ?_
    refine va_put (D := (dC, dI)) (ci := 7) (v := .int (zI (rl))) (ty := .int) (C := RX7) (T := TX7) (N := 18) hx hb hts mem_X7_breakRule_0 tyX7 tyX7_ok nmX7 hown hK hP hD hS 0 rfl rfl 0 (by decide) (ow (k := 2) rfl) (fun _ h9 => h9) rfl (by decide +kernel) rfl rfl (Nat.le_of_ble_eq_true rfl) dX7_breakRule_17 (fun H locs hP hD hS => ?_)
    have hP : va_P (dC, dI) vwP [(h0, .inr (7, [.int (zI (rl)), v12_1, v12_2, v12_3, v12_4, .int (zI (z12_place)), v12_6, v12_7, v12_8, v12_9, v12_10, v12_11, v12_12, v12_13, v12_14, .int (zI (z12_place)), v12_16, v12_17]))] H := hP
    have hD : va_D A [(h0, .inr (7, [.int (zI (rl)), v12_1, v12_2, v12_3, v12_4, .int (zI (z12_place)), v12_6, v12_7, v12_8, v12_9, v12_10, v12_11, v12_12, v12_13, v12_14, .int (zI (z12_place)), v12_16, v12_17]))] := hD
    subst hQ
    refine W.widen (k := 0) (n := 0) (Nat.le_of_ble_eq_true rfl) (Nat.le_of_ble_eq_true rfl) ?_
    exact W.vret hx hb hr (fun t ht hW => ⟨⟨(), rfl, trivial, rl, z12_place, ⟨(by omega), (by omega), (by omega)⟩, by rw [ht]; exact hP, va_K.moved hW.alike hK, hD⟩, hS.F ht⟩) hS.2.2 dX7_breakRule_20
theorem dX7_countRow_0 : decode cX7_countRow 0 = .ok (.aload_n 0, 1) := by decide +kernel
theorem dX7_countRow_1 : decode cX7_countRow 1 = .ok (.dup, 1) := by decide +kernel
theorem dX7_countRow_2 : decode cX7_countRow 2 = .ok (.getfield 41, 3) := by decide +kernel
theorem dX7_countRow_5 : decode cX7_countRow 5 = .ok (.iconst 1, 1) := by decide +kernel
theorem dX7_countRow_6 : decode cX7_countRow 6 = .ok (.iadd, 1) := by decide +kernel
theorem dX7_countRow_7 : decode cX7_countRow 7 = .ok (.putfield 41, 3) := by decide +kernel
theorem dX7_countRow_10 : decode cX7_countRow 10 = .ok (.aload_n 0, 1) := by decide +kernel
theorem dX7_countRow_11 : decode cX7_countRow 11 = .ok (.getfield 41, 3) := by decide +kernel
theorem dX7_countRow_14 : decode cX7_countRow 14 = .ok (.sipush 200, 3) := by decide +kernel
theorem dX7_countRow_17 : decode cX7_countRow 17 = .ok (.if_icmp .le 8, 3) := by decide +kernel
theorem dX7_countRow_25 : decode cX7_countRow 25 = .ok (.return_, 1) := by decide +kernel
theorem dX7_countRow_20 : decode cX7_countRow 20 = .ok (.aload_n 0, 1) := by decide +kernel
theorem dX7_countRow_21 : decode cX7_countRow 21 = .ok (.iconst 4, 1) := by decide +kernel
theorem dX7_countRow_22 : decode cX7_countRow 22 = .ok (.invokevirtual 197, 3) := by decide +kernel
def o_X7_countRow : List Cond := [.fieldLink RX7 41 "SsaForge$Reader" "rowCount" "I", .methodLink RX7 197 yX7_breakRule, .instanceMethod yX7_breakRule, .selects RX7 yX7_breakRule yX7_breakRule, .initialized RX7]
def v_X7_countRow : List Cond := .code yX7_countRow cX7_countRow 1 none :: (o_X7_countRow ++ (wsX70 ++ (v_X7_breakRule ++ [])))
theorem mow_X7_countRow : ∀ w ∈ o_X7_countRow, w ∈ v_X7_countRow := fun _ h => List.mem_cons_of_mem _ (List.mem_append_left _ h)
theorem mem_X7_countRow_0 : ∀ w ∈ wsX70, w ∈ v_X7_countRow := fun _ h => List.mem_cons_of_mem _ (List.mem_append_right _ (List.mem_append_left _ h))
theorem mem_X7_countRow_1 : ∀ w ∈ v_X7_breakRule, w ∈ v_X7_countRow := fun _ h => List.mem_cons_of_mem _ (List.mem_append_right _ (List.mem_append_right _ (List.mem_append_left _ h)))
set_option maxRecDepth 20000 in
theorem gw_X7_countRow : v_X7_countRow.all goodWord = true := by decide +kernel
set_option maxRecDepth 20000 in
theorem g_X7_countRow_X7_breakRule : GoodIn v_X7_countRow (wsV RX7 197 RX7 yX7_breakRule v_X7_breakRule) := goodIn_app (goodIn_sub (fun w h => mow_X7_countRow w (by revert w h; decide +kernel)) (by decide +kernel)) (goodIn_sub mem_X7_countRow_1 gw_X7_breakRule)
set_option maxHeartbeats 4000000 in
set_option maxRecDepth 100000 in
theorem c_X7_countRow (l : Launch) (dC : Nat → ClassId) (dI : Nat → Nat → Nat) (h0 : Nat) (z12_reason : Int) (v12_1 : Value) (v12_2 : Value) (v12_3 : Value) (v12_4 : Value) (z12_place : Int) (v12_6 : Value) (v12_7 : Value) (v12_8 : Value) (z12_rowCount : Int) (v12_10 : Value) (v12_11 : Value) (v12_12 : Value) (v12_13 : Value) (v12_14 : Value) (z12_brokenPlace : Int) (v12_16 : Value) (v12_17 : Value) (hNz12_reason : 0 ≤ z12_reason ∧ z12_reason ≤ 4) (hNz12_place : 0 ≤ z12_place ∧ z12_place ≤ 8200) (hNz12_rowCount : 0 ≤ z12_rowCount ∧ z12_rowCount ≤ 10000) (hNz12_brokenPlace : -1 ≤ z12_brokenPlace ∧ z12_brokenPlace ≤ 8200) (hNc : z12_rowCount ≤ 9000) (sz : Nat) : Met l yX7_countRow v_X7_countRow ({ frames := 1, cells := 0, slots := 0, locals := 21 }) (va_Pc [.ref h0] (fun U => U.heap.size = sz ∧ va_P (dC, dI) vwP [(h0, .inr (7, [.int (zI (z12_reason)), v12_1, v12_2, v12_3, v12_4, .int (zI (z12_place)), v12_6, v12_7, v12_8, .int (zI (z12_rowCount)), v12_10, v12_11, v12_12, v12_13, v12_14, .int (zI (z12_brokenPlace)), v12_16, v12_17]))] U.heap ∧ va_K (dC, dI) vwP [] U ∧ va_D (fun _ => True) [(h0, .inr (7, [.int (zI (z12_reason)), v12_1, v12_2, v12_3, v12_4, .int (zI (z12_place)), v12_6, v12_7, v12_8, .int (zI (z12_rowCount)), v12_10, v12_11, v12_12, v12_13, v12_14, .int (zI (z12_brokenPlace)), v12_16, v12_17]))])) (va_Qv (fun _ : Unit => True) (fun (_ : Unit) (t : State) => ∃ (z0_9 : Int) (z1_9 : Int) (z2_9 : Int), ((0 ≤ z0_9 ∧ z0_9 ≤ 4) ∧ (0 ≤ z1_9 ∧ z1_9 ≤ 10000) ∧ (-1 ≤ z2_9 ∧ z2_9 ≤ 8200) ∧ (z1_9 = z12_rowCount + 1 ∧ (z2_9 < 0 → z12_brokenPlace < 0))) ∧ va_P (dC, dI) vwP [(h0, .inr (7, [.int (zI (z0_9)), v12_1, v12_2, v12_3, v12_4, .int (zI (z12_place)), v12_6, v12_7, v12_8, .int (zI (z1_9)), v12_10, v12_11, v12_12, v12_13, v12_14, .int (zI (z2_9)), v12_16, v12_17]))] t.heap ∧ va_K (dC, dI) vwP [] t ∧ va_D (va_A [(h0, .inr (7, [.int (zI (z12_reason)), v12_1, v12_2, v12_3, v12_4, .int (zI (z12_place)), v12_6, v12_7, v12_8, .int (zI (z12_rowCount)), v12_10, v12_11, v12_12, v12_13, v12_14, .int (zI (z12_brokenPlace)), v12_16, v12_17]))] sz) [(h0, .inr (7, [.int (zI (z0_9)), v12_1, v12_2, v12_3, v12_4, .int (zI (z12_place)), v12_6, v12_7, v12_8, .int (zI (z1_9)), v12_10, v12_11, v12_12, v12_13, v12_14, .int (zI (z2_9)), v12_16, v12_17]))]) (va_A [(h0, .inr (7, [.int (zI (z12_reason)), v12_1, v12_2, v12_3, v12_4, .int (zI (z12_place)), v12_6, v12_7, v12_8, .int (zI (z12_rowCount)), v12_10, v12_11, v12_12, v12_13, v12_14, .int (zI (z12_brokenPlace)), v12_16, v12_17]))] sz)) 0 0 (va_A [(h0, .inr (7, [.int (zI (z12_reason)), v12_1, v12_2, v12_3, v12_4, .int (zI (z12_place)), v12_6, v12_7, v12_8, .int (zI (z12_rowCount)), v12_10, v12_11, v12_12, v12_13, v12_14, .int (zI (z12_brokenPlace)), v12_16, v12_17]))] sz) := by
  refine Met.ofW (cc := cX7_countRow) (maxL := 1) (ret := none) (by decide) rfl ?_
  intro p e s m args below meth c s₁ B hml hv
  obtain ⟨rfl, hsz, hP, hK, hD0⟩ := hv
  have hx := B.exec
  have hb := B.bytes
  have hr := B.returns
  have hts := atoms_spec (ws := v_X7_countRow) B.pre
  have hown : s.vm.findClass RX7 = some m.cls := findClass_of_methodNamed B.named
  have hlocks := B.notSynchronized
  have ow : ∀ {k : Nat} {w : Cond}, o_X7_countRow[k]? = some w → w.before ([.ref h0] : List Value).toArray s = true := fun h => hts _ (mow_X7_countRow _ (List.mem_of_getElem? h))
  subst hsz
  have hD := hD0.self (sz := s.heap.size)
  generalize hAe : va_A [(h0, .inr (7, [.int (zI (z12_reason)), v12_1, v12_2, v12_3, v12_4, .int (zI (z12_place)), v12_6, v12_7, v12_8, .int (zI (z12_rowCount)), v12_10, v12_11, v12_12, v12_13, v12_14, .int (zI (z12_brokenPlace)), v12_16, v12_17]))] s.heap.size = A at hD ⊢
  have hA : ∀ q : Nat, s.heap.size ≤ q → A q := fun q h => by rw [← hAe]; exact Or.inr h
  have hS : va_S A s.heap s.heap [] := va_S.rf
  have hP : va_P (dC, dI) vwP [(h0, .inr (7, [.int (zI (z12_reason)), v12_1, v12_2, v12_3, v12_4, .int (zI (z12_place)), v12_6, v12_7, v12_8, .int (zI (z12_rowCount)), v12_10, v12_11, v12_12, v12_13, v12_14, .int (zI (z12_brokenPlace)), v12_16, v12_17]))] s.heap := hP
  have hl := lv_entry ([.ref h0]) (n := 1) (Nat.le_of_ble_eq_true rfl)
  rw [lg_entry_eq]
  generalize (lg_sl ([.ref h0]) ++ List.replicate (1 - (lg_sl ([.ref h0])).length) Slot.unset).toArray = ls at hl ⊢
  have hl : lv_has ls 1 [(0, .ref h0)] := hl
  obtain ⟨H, hH⟩ : ∃ H, H = s.heap := ⟨_, rfl⟩
  rw [← hH] at hP
  have hS : va_S A s.heap H [] := by rw [hH]; exact hS
  rw [← hH]
  refine zW_cap (fun Q hQ => ?_)
  refine lv_aload_n hx hb dX7_countRow_0 rfl (lv_at hl 0 rfl) ?_
  refine lv_dup hx hb dX7_countRow_1 rfl ?_
  refine va_get (D := (dC, dI)) (ci := 7) (v := .int (zI (z12_rowCount))) (C := RX7) (T := TX7) (N := 18) hx hb hts mem_X7_countRow_0 hown hK hP 0 rfl rfl 9 (by decide) (ow (k := 0) rfl) (fun _ h9 => h9) rfl dX7_countRow_2 ?_
  refine lv_iconst (v := 1) hx hb dX7_countRow_5 (by decide) ?_
  refine lv_iadd hx hb dX7_countRow_6 ?_
  refine lv_topi (fun z ez => ?_)
  obtain rfl : z = zI (z12_rowCount + 1) := ez.trans (zI_add (z12_rowCount) (1))
  refine va_put (D := (dC, dI)) (ci := 7) (v := .int (zI (z12_rowCount + 1))) (ty := .int) (C := RX7) (T := TX7) (N := 18) hx hb hts mem_X7_countRow_0 tyX7 tyX7_ok nmX7 hown hK hP hD hS 0 rfl rfl 9 (by decide) (ow (k := 0) rfl) (fun _ h9 => h9) rfl (by decide +kernel) rfl rfl (Nat.le_of_ble_eq_true rfl) dX7_countRow_7 (fun H locs hP hD hS => ?_)
  have hP : va_P (dC, dI) vwP [(h0, .inr (7, [.int (zI (z12_reason)), v12_1, v12_2, v12_3, v12_4, .int (zI (z12_place)), v12_6, v12_7, v12_8, .int (zI (z12_rowCount + 1)), v12_10, v12_11, v12_12, v12_13, v12_14, .int (zI (z12_brokenPlace)), v12_16, v12_17]))] H := hP
  have hD : va_D A [(h0, .inr (7, [.int (zI (z12_reason)), v12_1, v12_2, v12_3, v12_4, .int (zI (z12_place)), v12_6, v12_7, v12_8, .int (zI (z12_rowCount + 1)), v12_10, v12_11, v12_12, v12_13, v12_14, .int (zI (z12_brokenPlace)), v12_16, v12_17]))] := hD
  obtain ⟨z_1, ez_1⟩ : ∃ z9 : Int, z9 = z12_rowCount + 1 := ⟨_, rfl⟩
  rw [← ez_1] at hP hD
  have hP : va_P (dC, dI) vwP [(h0, .inr (7, [.int (zI (z12_reason)), v12_1, v12_2, v12_3, v12_4, .int (zI (z12_place)), v12_6, v12_7, v12_8, .int (zI (z_1)), v12_10, v12_11, v12_12, v12_13, v12_14, .int (zI (z12_brokenPlace)), v12_16, v12_17]))] H := hP
  have hD : va_D A [(h0, .inr (7, [.int (zI (z12_reason)), v12_1, v12_2, v12_3, v12_4, .int (zI (z12_place)), v12_6, v12_7, v12_8, .int (zI (z_1)), v12_10, v12_11, v12_12, v12_13, v12_14, .int (zI (z12_brokenPlace)), v12_16, v12_17]))] := hD
  refine lv_aload_n hx hb dX7_countRow_10 rfl (lv_at hl 0 rfl) ?_
  refine va_get (D := (dC, dI)) (ci := 7) (v := .int (zI (z_1))) (C := RX7) (T := TX7) (N := 18) hx hb hts mem_X7_countRow_0 hown hK hP 0 rfl rfl 9 (by decide) (ow (k := 0) rfl) (fun _ h9 => h9) rfl dX7_countRow_11 ?_
  refine lv_sipush (v := 200) hx hb dX7_countRow_14 (by decide) ?_
  refine lv_icmp_le (tgt := 25) hx hb dX7_countRow_17 (by decide) (fun b17 => ?_) (fun b17 => ?_)
  · have yb17 : (z_1 : Int) ≤ (200 : Int) := (zI_le (a := z_1) (b := 200) (by omega) (by omega) (by omega) (by omega)).mp b17
    subst hQ
    refine W.widen (k := 0) (n := 0) (Nat.le_of_ble_eq_true rfl) (Nat.le_of_ble_eq_true rfl) ?_
    exact W.vret hx hb hr (fun t ht hW => ⟨⟨(), rfl, trivial, z12_reason, z_1, z12_brokenPlace, ⟨(by omega), (by omega), (by omega), ⟨by omega, fun h9 => by omega⟩⟩, by rw [ht]; exact hP, va_K.moved hW.alike hK, hD⟩, hS.F ht⟩) hS.2.2 dX7_countRow_25
  · have yb17 : ¬ (z_1 : Int) ≤ (200 : Int) := fun q => b17 ((zI_le (a := z_1) (b := 200) (by omega) (by omega) (by omega) (by omega)).mpr q)
    refine lv_aload_n hx hb dX7_countRow_20 rfl (lv_at hl 0 rfl) ?_
    refine lv_iconst (v := 4) hx hb dX7_countRow_21 (by decide) ?_
    have hPc := hP.sub (ws' := [(h0, .inr (7, [.int (zI (z12_reason)), v12_1, v12_2, v12_3, v12_4, .int (zI (z12_place)), v12_6, v12_7, v12_8, .int (zI (z_1)), v12_10, v12_11, v12_12, v12_13, v12_14, .int (zI (z12_brokenPlace)), v12_16, v12_17]))]) [0] rfl
    have hDc := hD.sub (ws' := [(h0, .inr (7, [.int (zI (z12_reason)), v12_1, v12_2, v12_3, v12_4, .int (zI (z12_place)), v12_6, v12_7, v12_8, .int (zI (z_1)), v12_10, v12_11, v12_12, v12_13, v12_14, .int (zI (z12_brokenPlace)), v12_16, v12_17]))]) [0] (by decide) rfl
    have hKc := hK.sub (tys' := []) [] rfl
    have hFc := va_free (wc := [(h0, .inr (7, [.int (zI (z12_reason)), v12_1, v12_2, v12_3, v12_4, .int (zI (z12_place)), v12_6, v12_7, v12_8, .int (zI (z_1)), v12_10, v12_11, v12_12, v12_13, v12_14, .int (zI (z12_brokenPlace)), v12_16, v12_17]))]) hD hS hA [0] rfl
    refine va_callv (va_runV (As := [.int 4]) (rest := []) ⟨hx, hb, hml, hown, hts⟩ (c_X7_breakRule l dC dI h0 z12_reason v12_1 v12_2 v12_3 v12_4 z12_place v12_6 v12_7 v12_8 (.int (zI (z_1))) v12_10 v12_11 v12_12 v12_13 v12_14 z12_brokenPlace v12_16 v12_17 4 (by omega) (by omega) (by omega) (by omega) H.size) (cwV 1 hts g_X7_countRow_X7_breakRule rfl rfl rfl (by decide +kernel) ⟨(Nat.le_of_ble_eq_true rfl), (Nat.le_of_ble_eq_true rfl)⟩) ⟨fun a U g mk q => by obtain ⟨q0, q1, qP, qK, qD⟩ := q; exact ⟨q0, q1, qP, va_K.moved (u := U) (U := U.calling g mk a) (Vm.Alike.refl U.vm) qK, qD⟩, va_recv hKc hPc (ci := 7) (q0 := 0) rfl rfl, fun U hU hW => ⟨rfl, by rw [hU], by rw [hU]; exact hPc, va_K.moved hW.alike hKc, hDc.weaken (fun _ _ _ _ => trivial)⟩⟩ rfl rfl hl.1 rfl (lv_room (Nat.le_of_ble_eq_true rfl)) dX7_countRow_22 ⟨(Nat.le_of_ble_eq_true rfl), (Nat.le_of_ble_eq_true rfl)⟩) hS (fun q _ h => hFc q h) hFc (fun  u t H1 locs ht hvm hw hB hz1 hk1 hS => ?_)
    obtain ⟨z0_2, z1_3, hxt_3, hP1, hK1, hD1⟩ := hB
    rw [ht] at hP1
    have hK1 := va_K.moved hvm.symm hK1
    obtain ⟨hP, hD⟩ := va_join (wr := []) (w1 := [(h0, .inr (7, [.int (zI (z0_2)), v12_1, v12_2, v12_3, v12_4, .int (zI (z12_place)), v12_6, v12_7, v12_8, .int (zI (z_1)), v12_10, v12_11, v12_12, v12_13, v12_14, .int (zI (z1_3)), v12_16, v12_17]))]) hP hD [0] [] rfl rfl (by decide) (by decide) hk1 hFc hP1 hD1
    have hK := (hK.sub (tys' := []) [] rfl).app hK1
    generalize H1 = H at hP hS ⊢
    have hP : va_P (dC, dI) vwP [(h0, .inr (7, [.int (zI (z0_2)), v12_1, v12_2, v12_3, v12_4, .int (zI (z12_place)), v12_6, v12_7, v12_8, .int (zI (z_1)), v12_10, v12_11, v12_12, v12_13, v12_14, .int (zI (z1_3)), v12_16, v12_17]))] H := hP
    have hD : va_D A [(h0, .inr (7, [.int (zI (z0_2)), v12_1, v12_2, v12_3, v12_4, .int (zI (z12_place)), v12_6, v12_7, v12_8, .int (zI (z_1)), v12_10, v12_11, v12_12, v12_13, v12_14, .int (zI (z1_3)), v12_16, v12_17]))] := hD
    have hK : va_K (dC, dI) vwP [] s := hK
    refine W.widen (k := 0) (n := 0) (Nat.le_of_ble_eq_true rfl) (Nat.le_of_ble_eq_true rfl) ?_
    obtain ⟨rk_4, rk_5, hu_5⟩ := hxt_3
    subst hQ
    refine W.widen (k := 0) (n := 0) (Nat.le_of_ble_eq_true rfl) (Nat.le_of_ble_eq_true rfl) ?_
    exact W.vret hx hb hr (fun t ht hW => ⟨⟨(), rfl, trivial, z0_2, z_1, z1_3, ⟨(by omega), (by omega), (by omega), ⟨by omega, fun h9 => by omega⟩⟩, by rw [ht]; exact hP, va_K.moved hW.alike hK, hD⟩, hS.F ht⟩) hS.2.2 dX7_countRow_25
theorem dX7_takeOperand_0 : decode cX7_takeOperand 0 = .ok (.aload_n 0, 1) := by decide +kernel
theorem dX7_takeOperand_1 : decode cX7_takeOperand 1 = .ok (.getfield 25, 3) := by decide +kernel
theorem dX7_takeOperand_4 : decode cX7_takeOperand 4 = .ok (.iconst 2, 1) := by decide +kernel
theorem dX7_takeOperand_5 : decode cX7_takeOperand 5 = .ok (.if_icmp .ne 18, 3) := by decide +kernel
theorem dX7_takeOperand_23 : decode cX7_takeOperand 23 = .ok (.aload_n 0, 1) := by decide +kernel
theorem dX7_takeOperand_24 : decode cX7_takeOperand 24 = .ok (.aload_n 0, 1) := by decide +kernel
theorem dX7_takeOperand_25 : decode cX7_takeOperand 25 = .ok (.getfield 31, 3) := by decide +kernel
theorem dX7_takeOperand_28 : decode cX7_takeOperand 28 = .ok (.i2l, 1) := by decide +kernel
theorem dX7_takeOperand_29 : decode cX7_takeOperand 29 = .ok (.putfield 53, 3) := by decide +kernel
theorem dX7_takeOperand_32 : decode cX7_takeOperand 32 = .ok (.aload_n 0, 1) := by decide +kernel
theorem dX7_takeOperand_33 : decode cX7_takeOperand 33 = .ok (.getfield 25, 3) := by decide +kernel
theorem dX7_takeOperand_36 : decode cX7_takeOperand 36 = .ok (.iconst 3, 1) := by decide +kernel
theorem dX7_takeOperand_37 : decode cX7_takeOperand 37 = .ok (.if_icmp .ne 7, 3) := by decide +kernel
theorem dX7_takeOperand_44 : decode cX7_takeOperand 44 = .ok (.iconst 0, 1) := by decide +kernel
theorem dX7_takeOperand_45 : decode cX7_takeOperand 45 = .ok (.ireturn, 1) := by decide +kernel
theorem dX7_takeOperand_40 : decode cX7_takeOperand 40 = .ok (.iconst 1, 1) := by decide +kernel
theorem dX7_takeOperand_41 : decode cX7_takeOperand 41 = .ok (.goto 4, 3) := by decide +kernel
theorem dX7_takeOperand_8 : decode cX7_takeOperand 8 = .ok (.aload_n 0, 1) := by decide +kernel
theorem dX7_takeOperand_9 : decode cX7_takeOperand 9 = .ok (.ldc2_w 154, 3) := by decide +kernel
theorem dX7_takeOperand_12 : decode cX7_takeOperand 12 = .ok (.aload_n 0, 1) := by decide +kernel
theorem dX7_takeOperand_13 : decode cX7_takeOperand 13 = .ok (.getfield 31, 3) := by decide +kernel
theorem dX7_takeOperand_16 : decode cX7_takeOperand 16 = .ok (.i2l, 1) := by decide +kernel
theorem dX7_takeOperand_17 : decode cX7_takeOperand 17 = .ok (.ladd, 1) := by decide +kernel
theorem dX7_takeOperand_18 : decode cX7_takeOperand 18 = .ok (.putfield 53, 3) := by decide +kernel
theorem dX7_takeOperand_21 : decode cX7_takeOperand 21 = .ok (.iconst 1, 1) := by decide +kernel
theorem dX7_takeOperand_22 : decode cX7_takeOperand 22 = .ok (.ireturn, 1) := by decide +kernel
def o_X7_takeOperand : List Cond := [.fieldLink RX7 25 "SsaForge$Reader" "kind" "I", .fieldLink RX7 31 "SsaForge$Reader" "value" "I", .fieldLink RX7 53 "SsaForge$Reader" "operand" "J", .constantLong RX7 154 (4294967296)]
def v_X7_takeOperand : List Cond := .code yX7_takeOperand cX7_takeOperand 1 (some .boolean) :: (o_X7_takeOperand ++ (wsX70 ++ []))
theorem mow_X7_takeOperand : ∀ w ∈ o_X7_takeOperand, w ∈ v_X7_takeOperand := fun _ h => List.mem_cons_of_mem _ (List.mem_append_left _ h)
theorem mem_X7_takeOperand_0 : ∀ w ∈ wsX70, w ∈ v_X7_takeOperand := fun _ h => List.mem_cons_of_mem _ (List.mem_append_right _ (List.mem_append_left _ h))
set_option maxRecDepth 20000 in
theorem gw_X7_takeOperand : v_X7_takeOperand.all goodWord = true := by decide +kernel
set_option maxHeartbeats 4000000 in
set_option maxRecDepth 100000 in
theorem c_X7_takeOperand (l : Launch) (dC : Nat → ClassId) (dI : Nat → Nat → Nat) (h0 : Nat) (v12_0 : Value) (v12_1 : Value) (v12_2 : Value) (v12_3 : Value) (z12_kind : Int) (v12_5 : Value) (z12_value : Int) (v12_7 : Value) (v12_8 : Value) (v12_9 : Value) (v12_10 : Value) (v12_11 : Value) (v12_12 : Value) (v12_14 : Value) (v12_15 : Value) (v12_16 : Value) (v12_17 : Value) (l12_operand : Int) (hNz12_kind : 0 ≤ z12_kind ∧ z12_kind ≤ 13) (hNz12_value : -2147483648 ≤ z12_value ∧ z12_value ≤ 2147483647) (hNl12_operand : ((-2147483648 ≤ l12_operand ∧ l12_operand ≤ 4294968319) ∨ l12_operand = 1099511627776)) (hX_V : RKV z12_kind z12_value) (sz : Nat) : Met l yX7_takeOperand v_X7_takeOperand ({ frames := 0, cells := 0, slots := 0, locals := 0 }) (va_Pc [.ref h0] (fun U => U.heap.size = sz ∧ va_P (dC, dI) vwP [(h0, .inr (7, [v12_0, v12_1, v12_2, v12_3, .int (zI (z12_kind)), v12_5, .int (zI (z12_value)), v12_7, v12_8, v12_9, v12_10, v12_11, v12_12, .long (lI (l12_operand)), v12_14, v12_15, v12_16, v12_17]))] U.heap ∧ va_K (dC, dI) vwP [] U ∧ va_D (fun _ => True) [(h0, .inr (7, [v12_0, v12_1, v12_2, v12_3, .int (zI (z12_kind)), v12_5, .int (zI (z12_value)), v12_7, v12_8, v12_9, v12_10, v12_11, v12_12, .long (lI (l12_operand)), v12_14, v12_15, v12_16, v12_17]))])) (va_Qi (fun (r : Int32) (_ : Unit) => ∃ z : Int, r = zI z ∧ (0 ≤ z ∧ z ≤ 1)) (fun (_ : Unit) (t : State) => ∃ (z0_9 : Int), ((((-2147483648 ≤ z0_9 ∧ z0_9 ≤ 4294968319) ∨ z0_9 = 1099511627776))) ∧ va_P (dC, dI) vwP [(h0, .inr (7, [v12_0, v12_1, v12_2, v12_3, .int (zI (z12_kind)), v12_5, .int (zI (z12_value)), v12_7, v12_8, v12_9, v12_10, v12_11, v12_12, .long (lI (z0_9)), v12_14, v12_15, v12_16, v12_17]))] t.heap ∧ va_K (dC, dI) vwP [] t ∧ va_D (va_A [(h0, .inr (7, [v12_0, v12_1, v12_2, v12_3, .int (zI (z12_kind)), v12_5, .int (zI (z12_value)), v12_7, v12_8, v12_9, v12_10, v12_11, v12_12, .long (lI (l12_operand)), v12_14, v12_15, v12_16, v12_17]))] sz) [(h0, .inr (7, [v12_0, v12_1, v12_2, v12_3, .int (zI (z12_kind)), v12_5, .int (zI (z12_value)), v12_7, v12_8, v12_9, v12_10, v12_11, v12_12, .long (lI (z0_9)), v12_14, v12_15, v12_16, v12_17]))]) (va_A [(h0, .inr (7, [v12_0, v12_1, v12_2, v12_3, .int (zI (z12_kind)), v12_5, .int (zI (z12_value)), v12_7, v12_8, v12_9, v12_10, v12_11, v12_12, .long (lI (l12_operand)), v12_14, v12_15, v12_16, v12_17]))] sz)) 0 0 (va_A [(h0, .inr (7, [v12_0, v12_1, v12_2, v12_3, .int (zI (z12_kind)), v12_5, .int (zI (z12_value)), v12_7, v12_8, v12_9, v12_10, v12_11, v12_12, .long (lI (l12_operand)), v12_14, v12_15, v12_16, v12_17]))] sz) := by
  refine Met.ofW (cc := cX7_takeOperand) (maxL := 1) (ret := (some .boolean)) (by decide) rfl ?_
  intro p e s m args below meth c s₁ B hml hv
  obtain ⟨rfl, hsz, hP, hK, hD0⟩ := hv
  have hx := B.exec
  have hb := B.bytes
  have hr := B.returns
  have hts := atoms_spec (ws := v_X7_takeOperand) B.pre
  have hown : s.vm.findClass RX7 = some m.cls := findClass_of_methodNamed B.named
  have hlocks := B.notSynchronized
  have ow : ∀ {k : Nat} {w : Cond}, o_X7_takeOperand[k]? = some w → w.before ([.ref h0] : List Value).toArray s = true := fun h => hts _ (mow_X7_takeOperand _ (List.mem_of_getElem? h))
  subst hsz
  have hD := hD0.self (sz := s.heap.size)
  generalize hAe : va_A [(h0, .inr (7, [v12_0, v12_1, v12_2, v12_3, .int (zI (z12_kind)), v12_5, .int (zI (z12_value)), v12_7, v12_8, v12_9, v12_10, v12_11, v12_12, .long (lI (l12_operand)), v12_14, v12_15, v12_16, v12_17]))] s.heap.size = A at hD ⊢
  have hA : ∀ q : Nat, s.heap.size ≤ q → A q := fun q h => by rw [← hAe]; exact Or.inr h
  have hS : va_S A s.heap s.heap [] := va_S.rf
  have hP : va_P (dC, dI) vwP [(h0, .inr (7, [v12_0, v12_1, v12_2, v12_3, .int (zI (z12_kind)), v12_5, .int (zI (z12_value)), v12_7, v12_8, v12_9, v12_10, v12_11, v12_12, .long (lI (l12_operand)), v12_14, v12_15, v12_16, v12_17]))] s.heap := hP
  have hl := lv_entry ([.ref h0]) (n := 1) (Nat.le_of_ble_eq_true rfl)
  rw [lg_entry_eq]
  generalize (lg_sl ([.ref h0]) ++ List.replicate (1 - (lg_sl ([.ref h0])).length) Slot.unset).toArray = ls at hl ⊢
  have hl : lv_has ls 1 [(0, .ref h0)] := hl
  obtain ⟨H, hH⟩ : ∃ H, H = s.heap := ⟨_, rfl⟩
  rw [← hH] at hP
  have hS : va_S A s.heap H [] := by rw [hH]; exact hS
  rw [← hH]
  refine zW_cap (fun Q hQ => ?_)
  refine lv_aload_n hx hb dX7_takeOperand_0 rfl (lv_at hl 0 rfl) ?_
  refine va_get (D := (dC, dI)) (ci := 7) (v := .int (zI (z12_kind))) (C := RX7) (T := TX7) (N := 18) hx hb hts mem_X7_takeOperand_0 hown hK hP 0 rfl rfl 4 (by decide) (ow (k := 0) rfl) (fun _ h9 => h9) rfl dX7_takeOperand_1 ?_
  refine lv_iconst (v := 2) hx hb dX7_takeOperand_4 (by decide) ?_
  refine lv_icmp_ne (tgt := 23) hx hb dX7_takeOperand_5 (by decide) (fun b5 => ?_) (fun b5 => ?_)
  · have yb5 : ¬ (z12_kind : Int) = (2 : Int) := fun q => b5 ((zI_eq (a := z12_kind) (b := 2) (by omega) (by omega) (by omega) (by omega)).mpr q)
    refine lv_aload_n hx hb dX7_takeOperand_23 rfl (lv_at hl 0 rfl) ?_
    refine lv_aload_n hx hb dX7_takeOperand_24 rfl (lv_at hl 0 rfl) ?_
    refine va_get (D := (dC, dI)) (ci := 7) (v := .int (zI (z12_value))) (C := RX7) (T := TX7) (N := 18) hx hb hts mem_X7_takeOperand_0 hown hK hP 0 rfl rfl 6 (by decide) (ow (k := 1) rfl) (fun _ h9 => h9) rfl dX7_takeOperand_25 ?_
    refine lv_i2l (v := lI (z12_value)) hx hb dX7_takeOperand_28 (zI_l (a := z12_value) (by omega) (by omega)) ?_
    refine va_put (D := (dC, dI)) (ci := 7) (v := .long (lI (z12_value))) (ty := .long) (C := RX7) (T := TX7) (N := 18) hx hb hts mem_X7_takeOperand_0 tyX7 tyX7_ok nmX7 hown hK hP hD hS 0 rfl rfl 13 (by decide) (ow (k := 2) rfl) (fun _ h9 => h9) rfl (by decide +kernel) rfl rfl (Nat.le_of_ble_eq_true rfl) dX7_takeOperand_29 (fun H locs hP hD hS => ?_)
    have hP : va_P (dC, dI) vwP [(h0, .inr (7, [v12_0, v12_1, v12_2, v12_3, .int (zI (z12_kind)), v12_5, .int (zI (z12_value)), v12_7, v12_8, v12_9, v12_10, v12_11, v12_12, .long (lI (z12_value)), v12_14, v12_15, v12_16, v12_17]))] H := hP
    have hD : va_D A [(h0, .inr (7, [v12_0, v12_1, v12_2, v12_3, .int (zI (z12_kind)), v12_5, .int (zI (z12_value)), v12_7, v12_8, v12_9, v12_10, v12_11, v12_12, .long (lI (z12_value)), v12_14, v12_15, v12_16, v12_17]))] := hD
    refine lv_aload_n hx hb dX7_takeOperand_32 rfl (lv_at hl 0 rfl) ?_
    refine va_get (D := (dC, dI)) (ci := 7) (v := .int (zI (z12_kind))) (C := RX7) (T := TX7) (N := 18) hx hb hts mem_X7_takeOperand_0 hown hK hP 0 rfl rfl 4 (by decide) (ow (k := 0) rfl) (fun _ h9 => h9) rfl dX7_takeOperand_33 ?_
    refine lv_iconst (v := 3) hx hb dX7_takeOperand_36 (by decide) ?_
    refine lv_icmp_ne (tgt := 44) hx hb dX7_takeOperand_37 (by decide) (fun b37 => ?_) (fun b37 => ?_)
    · have yb37 : ¬ (z12_kind : Int) = (3 : Int) := fun q => b37 ((zI_eq (a := z12_kind) (b := 3) (by omega) (by omega) (by omega) (by omega)).mpr q)
      refine lv_iconst (v := 0) hx hb dX7_takeOperand_44 (by decide) ?_
      subst hQ
      refine W.widen (k := 0) (n := 0) (Nat.le_of_ble_eq_true rfl) (Nat.le_of_ble_eq_true rfl) ?_
      exact W.zret (v := 0) hx hb hr (by decide) (fun t ht hW => ⟨⟨0, (), rfl, ⟨0, rfl, by omega⟩, z12_value, (by omega), by rw [ht]; exact hP, va_K.moved hW.alike hK, hD⟩, hS.F ht⟩) hS.2.2 dX7_takeOperand_45
    · have yb37 : (z12_kind : Int) = (3 : Int) := (zI_eq (a := z12_kind) (b := 3) (by omega) (by omega) (by omega) (by omega)).mp b37
      refine lv_iconst (v := 1) hx hb dX7_takeOperand_40 (by decide) ?_
      refine lv_goto (tgt := 45) hx hb dX7_takeOperand_41 (by decide) ?_
      subst hQ
      refine W.widen (k := 0) (n := 0) (Nat.le_of_ble_eq_true rfl) (Nat.le_of_ble_eq_true rfl) ?_
      exact W.zret (v := 1) hx hb hr (by decide) (fun t ht hW => ⟨⟨1, (), rfl, ⟨1, rfl, by omega⟩, z12_value, (by omega), by rw [ht]; exact hP, va_K.moved hW.alike hK, hD⟩, hS.F ht⟩) hS.2.2 dX7_takeOperand_45
  · have yb5 : (z12_kind : Int) = (2 : Int) := (zI_eq (a := z12_kind) (b := 2) (by omega) (by omega) (by omega) (by omega)).mp b5
    have hv9 := hX_V
    unfold RKV at hv9
    refine lv_aload_n hx hb dX7_takeOperand_8 rfl (lv_at hl 0 rfl) ?_
    refine lv_ldc2 (v := 4294967296) hx hb hown (ow (k := 3) rfl) dX7_takeOperand_9 ?_
    refine lv_topl (fun z ez => ?_)
    obtain rfl : z = lI (4294967296) := ez
    refine lv_aload_n hx hb dX7_takeOperand_12 rfl (lv_at hl 0 rfl) ?_
    refine va_get (D := (dC, dI)) (ci := 7) (v := .int (zI (z12_value))) (C := RX7) (T := TX7) (N := 18) hx hb hts mem_X7_takeOperand_0 hown hK hP 0 rfl rfl 6 (by decide) (ow (k := 1) rfl) (fun _ h9 => h9) rfl dX7_takeOperand_13 ?_
    refine lv_i2l (v := lI (z12_value)) hx hb dX7_takeOperand_16 (zI_l (a := z12_value) (by omega) (by omega)) ?_
    refine lv_ladd hx hb dX7_takeOperand_17 ?_
    refine lv_topl (fun z ez => ?_)
    obtain rfl : z = lI (4294967296 + z12_value) := ez.trans (lI_add (4294967296) (z12_value))
    refine va_put (D := (dC, dI)) (ci := 7) (v := .long (lI (4294967296 + z12_value))) (ty := .long) (C := RX7) (T := TX7) (N := 18) hx hb hts mem_X7_takeOperand_0 tyX7 tyX7_ok nmX7 hown hK hP hD hS 0 rfl rfl 13 (by decide) (ow (k := 2) rfl) (fun _ h9 => h9) rfl (by decide +kernel) rfl rfl (Nat.le_of_ble_eq_true rfl) dX7_takeOperand_18 (fun H locs hP hD hS => ?_)
    have hP : va_P (dC, dI) vwP [(h0, .inr (7, [v12_0, v12_1, v12_2, v12_3, .int (zI (z12_kind)), v12_5, .int (zI (z12_value)), v12_7, v12_8, v12_9, v12_10, v12_11, v12_12, .long (lI (4294967296 + z12_value)), v12_14, v12_15, v12_16, v12_17]))] H := hP
    have hD : va_D A [(h0, .inr (7, [v12_0, v12_1, v12_2, v12_3, .int (zI (z12_kind)), v12_5, .int (zI (z12_value)), v12_7, v12_8, v12_9, v12_10, v12_11, v12_12, .long (lI (4294967296 + z12_value)), v12_14, v12_15, v12_16, v12_17]))] := hD
    refine lv_iconst (v := 1) hx hb dX7_takeOperand_21 (by decide) ?_
    subst hQ
    refine W.widen (k := 0) (n := 0) (Nat.le_of_ble_eq_true rfl) (Nat.le_of_ble_eq_true rfl) ?_
    exact W.zret (v := 1) hx hb hr (by decide) (fun t ht hW => ⟨⟨1, (), rfl, ⟨1, rfl, by omega⟩, (4294967296 + z12_value), (by omega), by rw [ht]; exact hP, va_K.moved hW.alike hK, hD⟩, hS.F ht⟩) hS.2.2 dX7_takeOperand_22
