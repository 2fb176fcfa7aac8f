def o_X1_markNumbersM : List Cond := [.fieldLink RX1 74 "SsaForge$Code" "phiStart" "[I", .fieldLink RX1 81 "SsaForge$Code" "rowStart" "[I", .fieldLink RX1 84 "SsaForge$Code" "target" "[I", .fieldLink RX1 21 "SsaForge$Constants" "kinds" "[I", .fieldLink RX1 134 "SsaForge$Code" "op" "[I", .fieldLink RX1 127 "SsaForge$Code" "phiTarget" "[I"]
def v_X1_markNumbersM : List Cond := .code yX1_markNumbers cX1_markNumbers 5 (some .int) :: (o_X1_markNumbersM ++ (wsX00 ++ (wsX10 ++ [])))
theorem mow_X1_markNumbersM : ∀ w ∈ o_X1_markNumbersM, w ∈ v_X1_markNumbersM := fun _ h => List.mem_cons_of_mem _ (List.mem_append_left _ h)
theorem mem_X1_markNumbersM_0 : ∀ w ∈ wsX00, w ∈ v_X1_markNumbersM := fun _ h => List.mem_cons_of_mem _ (List.mem_append_right _ (List.mem_append_left _ h))
theorem mem_X1_markNumbersM_1 : ∀ w ∈ wsX10, w ∈ v_X1_markNumbersM := fun _ h => List.mem_cons_of_mem _ (List.mem_append_right _ (List.mem_append_right _ (List.mem_append_left _ h)))
set_option maxRecDepth 20000 in
theorem gw_X1_markNumbersM : v_X1_markNumbersM.all goodWord = true := by decide +kernel
set_option maxHeartbeats 4000000 in
set_option maxRecDepth 100000 in
theorem c_X1_markNumbersM (l : Launch) (dC : Nat → ClassId) (dI : Nat → Nat → Nat) (h0 : Nat) (v1_0 : Value) (v1_1 : Value) (v1_2 : Value) (q_103 : Nat) (cA_103 : ClassId) (a1_kinds : Int → Int) (v1_4 : Value) (v1_5 : Value) (hc : Nat) (v_0 : Value) (v_1 : Value) (v_2 : Value) (v_3 : Value) (q_704 : Nat) (cA_704 : ClassId) (a_4 : Int → Int) (q_705 : Nat) (cA_705 : ClassId) (a_5 : Int → Int) (q_706 : Nat) (cA_706 : ClassId) (a_6 : Int → Int) (v_7 : Value) (v_8 : Value) (v_9 : Value) (v_10 : Value) (v_11 : Value) (v_12 : Value) (v_13 : Value) (v_14 : Value) (q_715 : Nat) (cA_715 : ClassId) (a_15 : Int → Int) (q_716 : Nat) (cA_716 : ClassId) (a_16 : Int → Int) (v_17 : Value) (v_18 : Value) (b : Int) (hR_a1_kinds : ∀ j : Int, 0 ≤ a1_kinds j ∧ a1_kinds j ≤ 2) (hR_a_4 : ∀ j : Int, 0 ≤ a_4 j ∧ a_4 j ≤ 2000) (hR_a_5 : ∀ j : Int, -1 ≤ a_5 j ∧ a_5 j ≤ 100) (hR_a_6 : ∀ j : Int, -1 ≤ a_6 j ∧ a_6 j ≤ 1023) (hR_a_15 : ∀ j : Int, 0 ≤ a_15 j ∧ a_15 j ≤ 1000) (hR_a_16 : ∀ j : Int, -1 ≤ a_16 j ∧ a_16 j ≤ 1023) (hNb : 0 ≤ b ∧ b < 300) (hNm : a_15 b ≤ a_15 (b + 1)) (hX_T2 : ∀ i : Int, a_15 b ≤ i → i < a_15 (b + 1) → 0 ≤ a_16 i) (sz : Nat) : Met l yX1_markNumbers v_X1_markNumbersM ({ frames := 0, cells := 0, slots := 0, locals := 0 }) (va_Pc [.ref h0, .ref hc, .int (zI (b))] (fun U => U.heap.size = sz ∧ va_P (dC, dI) vwP [(h0, .inr (1, [v1_0, v1_1, v1_2, .ref q_103, v1_4, v1_5])), (q_103, .inl (cA_103, 1024, .inl (fun j : Nat => zI (a1_kinds (j : Int))))), (hc, .inr (0, [v_0, v_1, v_2, v_3, .ref q_704, .ref q_705, .ref q_706, v_7, v_8, v_9, v_10, v_11, v_12, v_13, v_14, .ref q_715, .ref q_716, v_17, v_18])), (q_704, .inl (cA_704, 301, .inl (fun j : Nat => zI (a_4 (j : Int))))), (q_705, .inl (cA_705, 2000, .inl (fun j : Nat => zI (a_5 (j : Int))))), (q_706, .inl (cA_706, 2000, .inl (fun j : Nat => zI (a_6 (j : Int))))), (q_715, .inl (cA_715, 301, .inl (fun j : Nat => zI (a_15 (j : Int))))), (q_716, .inl (cA_716, 1000, .inl (fun j : Nat => zI (a_16 (j : Int)))))] U.heap ∧ va_K (dC, dI) vwP [(cA_103, .int), (cA_704, .int), (cA_705, .int), (cA_706, .int), (cA_715, .int), (cA_716, .int)] U ∧ va_D (fun _ => True) [(h0, .inr (1, [v1_0, v1_1, v1_2, .ref q_103, v1_4, v1_5])), (q_103, .inl (cA_103, 1024, .inl (fun j : Nat => zI (a1_kinds (j : Int))))), (hc, .inr (0, [v_0, v_1, v_2, v_3, .ref q_704, .ref q_705, .ref q_706, v_7, v_8, v_9, v_10, v_11, v_12, v_13, v_14, .ref q_715, .ref q_716, v_17, v_18])), (q_704, .inl (cA_704, 301, .inl (fun j : Nat => zI (a_4 (j : Int))))), (q_705, .inl (cA_705, 2000, .inl (fun j : Nat => zI (a_5 (j : Int))))), (q_706, .inl (cA_706, 2000, .inl (fun j : Nat => zI (a_6 (j : Int))))), (q_715, .inl (cA_715, 301, .inl (fun j : Nat => zI (a_15 (j : Int))))), (q_716, .inl (cA_716, 1000, .inl (fun j : Nat => zI (a_16 (j : Int)))))])) (va_Qi (fun (r : Int32) (_ : Unit) => ∃ z : Int, r = zI z ∧ (0 ≤ z ∧ z ≤ 3000)) (fun (_ : Unit) (t : State) => ∃ (a0_9 : Int → Int) (a1_9 : Int → Int), ((∀ j : Int, -1 ≤ a0_9 j ∧ a0_9 j ≤ 100) ∧ (∀ j : Int, -1 ≤ a1_9 j ∧ a1_9 j ≤ 1023) ∧ (MKP a1_kinds a1_9 a_16 (a_15 b) (a_15 (b + 1)) ∧ MKO a1_kinds a0_9 a_5 a_6)) ∧ va_P (dC, dI) vwP [(h0, .inr (1, [v1_0, v1_1, v1_2, .ref q_103, v1_4, v1_5])), (q_103, .inl (cA_103, 1024, .inl (fun j : Nat => zI (a1_kinds (j : Int))))), (hc, .inr (0, [v_0, v_1, v_2, v_3, .ref q_704, .ref q_705, .ref q_706, v_7, v_8, v_9, v_10, v_11, v_12, v_13, v_14, .ref q_715, .ref q_716, v_17, v_18])), (q_704, .inl (cA_704, 301, .inl (fun j : Nat => zI (a_4 (j : Int))))), (q_705, .inl (cA_705, 2000, .inl (fun j : Nat => zI (a0_9 (j : Int))))), (q_706, .inl (cA_706, 2000, .inl (fun j : Nat => zI (a_6 (j : Int))))), (q_715, .inl (cA_715, 301, .inl (fun j : Nat => zI (a_15 (j : Int))))), (q_716, .inl (cA_716, 1000, .inl (fun j : Nat => zI (a1_9 (j : Int)))))] t.heap ∧ va_K (dC, dI) vwP [(cA_103, .int), (cA_704, .int), (cA_705, .int), (cA_706, .int), (cA_715, .int), (cA_716, .int)] t ∧ va_D (va_A [(h0, .inr (1, [v1_0, v1_1, v1_2, .ref q_103, v1_4, v1_5])), (q_103, .inl (cA_103, 1024, .inl (fun j : Nat => zI (a1_kinds (j : Int))))), (hc, .inr (0, [v_0, v_1, v_2, v_3, .ref q_704, .ref q_705, .ref q_706, v_7, v_8, v_9, v_10, v_11, v_12, v_13, v_14, .ref q_715, .ref q_716, v_17, v_18])), (q_704, .inl (cA_704, 301, .inl (fun j : Nat => zI (a_4 (j : Int))))), (q_705, .inl (cA_705, 2000, .inl (fun j : Nat => zI (a_5 (j : Int))))), (q_706, .inl (cA_706, 2000, .inl (fun j : Nat => zI (a_6 (j : Int))))), (q_715, .inl (cA_715, 301, .inl (fun j : Nat => zI (a_15 (j : Int))))), (q_716, .inl (cA_716, 1000, .inl (fun j : Nat => zI (a_16 (j : Int)))))] sz) [(h0, .inr (1, [v1_0, v1_1, v1_2, .ref q_103, v1_4, v1_5])), (q_103, .inl (cA_103, 1024, .inl (fun j : Nat => zI (a1_kinds (j : Int))))), (hc, .inr (0, [v_0, v_1, v_2, v_3, .ref q_704, .ref q_705, .ref q_706, v_7, v_8, v_9, v_10, v_11, v_12, v_13, v_14, .ref q_715, .ref q_716, v_17, v_18])), (q_704, .inl (cA_704, 301, .inl (fun j : Nat => zI (a_4 (j : Int))))), (q_705, .inl (cA_705, 2000, .inl (fun j : Nat => zI (a0_9 (j : Int))))), (q_706, .inl (cA_706, 2000, .inl (fun j : Nat => zI (a_6 (j : Int))))), (q_715, .inl (cA_715, 301, .inl (fun j : Nat => zI (a_15 (j : Int))))), (q_716, .inl (cA_716, 1000, .inl (fun j : Nat => zI (a1_9 (j : Int)))))]) (va_A [(h0, .inr (1, [v1_0, v1_1, v1_2, .ref q_103, v1_4, v1_5])), (q_103, .inl (cA_103, 1024, .inl (fun j : Nat => zI (a1_kinds (j : Int))))), (hc, .inr (0, [v_0, v_1, v_2, v_3, .ref q_704, .ref q_705, .ref q_706, v_7, v_8, v_9, v_10, v_11, v_12, v_13, v_14, .ref q_715, .ref q_716, v_17, v_18])), (q_704, .inl (cA_704, 301, .inl (fun j : Nat => zI (a_4 (j : Int))))), (q_705, .inl (cA_705, 2000, .inl (fun j : Nat => zI (a_5 (j : Int))))), (q_706, .inl (cA_706, 2000, .inl (fun j : Nat => zI (a_6 (j : Int))))), (q_715, .inl (cA_715, 301, .inl (fun j : Nat => zI (a_15 (j : Int))))), (q_716, .inl (cA_716, 1000, .inl (fun j : Nat => zI (a_16 (j : Int)))))] sz)) 0 0 (va_A [(h0, .inr (1, [v1_0, v1_1, v1_2, .ref q_103, v1_4, v1_5])), (q_103, .inl (cA_103, 1024, .inl (fun j : Nat => zI (a1_kinds (j : Int))))), (hc, .inr (0, [v_0, v_1, v_2, v_3, .ref q_704, .ref q_705, .ref q_706, v_7, v_8, v_9, v_10, v_11, v_12, v_13, v_14, .ref q_715, .ref q_716, v_17, v_18])), (q_704, .inl (cA_704, 301, .inl (fun j : Nat => zI (a_4 (j : Int))))), (q_705, .inl (cA_705, 2000, .inl (fun j : Nat => zI (a_5 (j : Int))))), (q_706, .inl (cA_706, 2000, .inl (fun j : Nat => zI (a_6 (j : Int))))), (q_715, .inl (cA_715, 301, .inl (fun j : Nat => zI (a_15 (j : Int))))), (q_716, .inl (cA_716, 1000, .inl (fun j : Nat => zI (a_16 (j : Int)))))] sz) := by
  refine Met.ofW (cc := cX1_markNumbers) (maxL := 5) (ret := (some .int)) (by decide) rfl ?_
  intro p e s m args below meth c s₁ B hml hv
  obtain ⟨rfl, hsz, hP, hK, hD0⟩ := hv
  have hx := B.exec
  have hb := B.bytes
  have hr := B.returns
  have hts := atoms_spec (ws := v_X1_markNumbersM) B.pre
  have hown : s.vm.findClass RX1 = some m.cls := findClass_of_methodNamed B.named
  have hlocks := B.notSynchronized
  have ow : ∀ {k : Nat} {w : Cond}, o_X1_markNumbersM[k]? = some w → w.before ([.ref h0, .ref hc, .int (zI (b))] : List Value).toArray s = true := fun h => hts _ (mow_X1_markNumbersM _ (List.mem_of_getElem? h))
  subst hsz
  have hD := hD0.self (sz := s.heap.size)
  generalize hAe : va_A [(h0, .inr (1, [v1_0, v1_1, v1_2, .ref q_103, v1_4, v1_5])), (q_103, .inl (cA_103, 1024, .inl (fun j : Nat => zI (a1_kinds (j : Int))))), (hc, .inr (0, [v_0, v_1, v_2, v_3, .ref q_704, .ref q_705, .ref q_706, v_7, v_8, v_9, v_10, v_11, v_12, v_13, v_14, .ref q_715, .ref q_716, v_17, v_18])), (q_704, .inl (cA_704, 301, .inl (fun j : Nat => zI (a_4 (j : Int))))), (q_705, .inl (cA_705, 2000, .inl (fun j : Nat => zI (a_5 (j : Int))))), (q_706, .inl (cA_706, 2000, .inl (fun j : Nat => zI (a_6 (j : Int))))), (q_715, .inl (cA_715, 301, .inl (fun j : Nat => zI (a_15 (j : Int))))), (q_716, .inl (cA_716, 1000, .inl (fun j : Nat => zI (a_16 (j : Int)))))] s.heap.size = A at hD ⊢
  have hA : ∀ q : Nat, s.heap.size ≤ q → A q := fun q h => by rw [← hAe]; exact Or.inr h
  have hS : va_S A s.heap s.heap [] := va_S.rf
  have hP : va_P (dC, dI) vwP [(h0, .inr (1, [v1_0, v1_1, v1_2, .ref q_103, v1_4, v1_5])), (q_103, .inl (cA_103, 1024, .inl (fun j : Nat => zI (a1_kinds (j : Int))))), (hc, .inr (0, [v_0, v_1, v_2, v_3, .ref q_704, .ref q_705, .ref q_706, v_7, v_8, v_9, v_10, v_11, v_12, v_13, v_14, .ref q_715, .ref q_716, v_17, v_18])), (q_704, .inl (cA_704, 301, .inl (fun j : Nat => zI (a_4 (j : Int))))), (q_705, .inl (cA_705, 2000, .inl (fun j : Nat => zI (a_5 (j : Int))))), (q_706, .inl (cA_706, 2000, .inl (fun j : Nat => zI (a_6 (j : Int))))), (q_715, .inl (cA_715, 301, .inl (fun j : Nat => zI (a_15 (j : Int))))), (q_716, .inl (cA_716, 1000, .inl (fun j : Nat => zI (a_16 (j : Int)))))] s.heap := hP
  have hl := lv_entry ([.ref h0, .ref hc, .int (zI (b))]) (n := 5) (Nat.le_of_ble_eq_true rfl)
  rw [lg_entry_eq]
  generalize (lg_sl ([.ref h0, .ref hc, .int (zI (b))]) ++ List.replicate (5 - (lg_sl ([.ref h0, .ref hc, .int (zI (b))])).length) Slot.unset).toArray = ls at hl ⊢
  have hl : lv_has ls 5 [(0, .ref h0), (1, .ref hc), (2, .int (zI (b)))] := hl
  obtain ⟨H, hH⟩ : ∃ H, H = s.heap := ⟨_, rfl⟩
  rw [← hH] at hP
  have hS : va_S A s.heap H [] := by rw [hH]; exact hS
  rw [← hH]
  refine zW_cap (fun Q hQ => ?_)
  have hr9 := hR_a_15 b
  have hr8 := hR_a_15 (b + 1)
  refine lv_iconst (v := 0) hx hb dX1_markNumbers_0 (by decide) ?_
  refine lv_istore_n (lv' := [(3, .int 0), (0, .ref h0), (1, .ref hc), (2, .int (zI (b)))]) hx hb dX1_markNumbers_1 rfl hl (by decide) rfl (fun ls hl => ?_)
  refine lv_aload_n hx hb dX1_markNumbers_2 rfl (lv_at hl 2 rfl) ?_
  refine va_get (D := (dC, dI)) (ci := 0) (v := .ref q_715) (C := RX0) (T := TX0) (N := 19) hx hb hts mem_X1_markNumbersM_0 hown hK hP 2 rfl rfl 15 (by decide) (ow (k := 0) rfl) (fun _ h9 => h9) rfl dX1_markNumbers_3 ?_
  refine lv_iload_n hx hb dX1_markNumbers_6 rfl (lv_at hl 3 rfl) ?_
  refine va_iald hx hb hK hP 6 4 rfl rfl (zI_in (a := b) (n := 301) (by omega) (by omega) (by decide)) dX1_markNumbers_7 ?_
  refine lv_topi (fun z ez => ?_)
  obtain rfl : z = zI (a_15 (b)) := ez.trans (zI_ld (a_15) (by omega) (by omega))
  have k1 := hR_a_15 (b)
  refine lv_istore (lv' := [(4, .int (zI (a_15 (b)))), (3, .int 0), (0, .ref h0), (1, .ref hc), (2, .int (zI (b)))]) hx hb dX1_markNumbers_8 hl (by decide) rfl (fun ls hl => ?_)
  have key10 : ∀ n10 : Nat, ∀ (d10_4 : Int) (d10_3 : Int) (w10_716 : Int → Int) (ls : Array Slot) (H : Heap) (locs : List Loc), (a_15 b ≤ d10_4 ∧ d10_4 ≤ a_15 (b + 1)) → (0 ≤ d10_3 ∧ d10_3 ≤ d10_4) → (∀ j : Int, -1 ≤ w10_716 j ∧ w10_716 j ≤ 1023) → (MKP a1_kinds w10_716 a_16 (a_15 b) d10_4) → (((a_15 (b + 1)) - (d10_4) : Int).toNat) < n10 → lv_has ls 5 [(0, .ref h0), (1, .ref hc), (2, .int (zI (b))), (3, .int (zI (d10_3))), (4, .int (zI (d10_4)))] → va_P (dC, dI) vwP [(h0, .inr (1, [v1_0, v1_1, v1_2, .ref q_103, v1_4, v1_5])), (q_103, .inl (cA_103, 1024, .inl (fun j : Nat => zI (a1_kinds (j : Int))))), (hc, .inr (0, [v_0, v_1, v_2, v_3, .ref q_704, .ref q_705, .ref q_706, v_7, v_8, v_9, v_10, v_11, v_12, v_13, v_14, .ref q_715, .ref q_716, v_17, v_18])), (q_704, .inl (cA_704, 301, .inl (fun j : Nat => zI (a_4 (j : Int))))), (q_705, .inl (cA_705, 2000, .inl (fun j : Nat => zI (a_5 (j : Int))))), (q_706, .inl (cA_706, 2000, .inl (fun j : Nat => zI (a_6 (j : Int))))), (q_715, .inl (cA_715, 301, .inl (fun j : Nat => zI (a_15 (j : Int))))), (q_716, .inl (cA_716, 1000, .inl (fun j : Nat => zI (w10_716 (j : Int)))))] H → va_D A [(h0, .inr (1, [v1_0, v1_1, v1_2, .ref q_103, v1_4, v1_5])), (q_103, .inl (cA_103, 1024, .inl (fun j : Nat => zI (a1_kinds (j : Int))))), (hc, .inr (0, [v_0, v_1, v_2, v_3, .ref q_704, .ref q_705, .ref q_706, v_7, v_8, v_9, v_10, v_11, v_12, v_13, v_14, .ref q_715, .ref q_716, v_17, v_18])), (q_704, .inl (cA_704, 301, .inl (fun j : Nat => zI (a_4 (j : Int))))), (q_705, .inl (cA_705, 2000, .inl (fun j : Nat => zI (a_5 (j : Int))))), (q_706, .inl (cA_706, 2000, .inl (fun j : Nat => zI (a_6 (j : Int))))), (q_715, .inl (cA_715, 301, .inl (fun j : Nat => zI (a_15 (j : Int))))), (q_716, .inl (cA_716, 1000, .inl (fun j : Nat => zI (w10_716 (j : Int)))))] → va_S A s.heap H locs → W p l e (headSpec v_X1_markNumbersM ({ frames := 0, cells := 0, slots := 0, locals := 0 })).room s m ([.ref h0, .ref hc, .int (zI (b))] : List Value).toArray below meth c H locs 0 0 Q (F0 m 10 ls []) := by
    intro n10
    induction n10 with
    | zero => intro d10_4 d10_3 w10_716 ls H locs jd10_4 jd10_3 jw10_716 jp hm10; exact absurd hm10 (by omega)
    | succ n10 ih10 =>
      intro d10_4 d10_3 w10_716 ls H locs jd10_4 jd10_3 jw10_716 jp hm10 hl hP hD hS
      refine lv_iload hx hb dX1_markNumbers_10 (lv_at hl 4 rfl) ?_
      refine lv_aload_n hx hb dX1_markNumbers_12 rfl (lv_at hl 1 rfl) ?_
      refine va_get (D := (dC, dI)) (ci := 0) (v := .ref q_715) (C := RX0) (T := TX0) (N := 19) hx hb hts mem_X1_markNumbersM_0 hown hK hP 2 rfl rfl 15 (by decide) (ow (k := 0) rfl) (fun _ h9 => h9) rfl dX1_markNumbers_13 ?_
      refine lv_iload_n hx hb dX1_markNumbers_16 rfl (lv_at hl 2 rfl) ?_
      refine lv_iconst (v := 1) hx hb dX1_markNumbers_17 (by decide) ?_
      refine lv_iadd hx hb dX1_markNumbers_18 ?_
      refine lv_topi (fun z ez => ?_)
      obtain rfl : z = zI (b + 1) := ez.trans (zI_add (b) (1))
      refine va_iald hx hb hK hP 6 4 rfl rfl (zI_in (a := b + 1) (n := 301) (by omega) (by omega) (by decide)) dX1_markNumbers_19 ?_
      refine lv_topi (fun z ez => ?_)
      obtain rfl : z = zI (a_15 (b + 1)) := ez.trans (zI_ld (a_15) (by omega) (by omega))
      have k2 := hR_a_15 (b + 1)
      refine lv_icmp_ge (tgt := 56) hx hb dX1_markNumbers_20 (by decide) (fun b20 => ?_) (fun b20 => ?_)
      · have yb20 : (a_15 (b + 1) : Int) ≤ (d10_4 : Int) := (zI_le (a := a_15 (b + 1)) (b := d10_4) (by omega) (by omega) (by omega) (by omega)).mp b20
        refine lv_aload_n hx hb dX1_markNumbers_56 rfl (lv_at hl 1 rfl) ?_
        refine va_get (D := (dC, dI)) (ci := 0) (v := .ref q_704) (C := RX0) (T := TX0) (N := 19) hx hb hts mem_X1_markNumbersM_0 hown hK hP 2 rfl rfl 4 (by decide) (ow (k := 1) rfl) (fun _ h9 => h9) rfl dX1_markNumbers_57 ?_
        refine lv_iload_n hx hb dX1_markNumbers_60 rfl (lv_at hl 2 rfl) ?_
        refine va_iald hx hb hK hP 3 1 rfl rfl (zI_in (a := b) (n := 301) (by omega) (by omega) (by decide)) dX1_markNumbers_61 ?_
        refine lv_topi (fun z ez => ?_)
        obtain rfl : z = zI (a_4 (b)) := ez.trans (zI_ld (a_4) (by omega) (by omega))
        have k3 := hR_a_4 (b)
        refine lv_istore (lv' := [(4, .int (zI (a_4 (b)))), (0, .ref h0), (1, .ref hc), (2, .int (zI (b))), (3, .int (zI (d10_3)))]) hx hb dX1_markNumbers_62 hl (by decide) rfl (fun ls hl => ?_)
        have key64 : ∀ n64 : Nat, ∀ (d64_4 : Int) (d64_3 : Int) (w64_705 : Int → Int) (ls : Array Slot) (H : Heap) (locs : List Loc), (0 ≤ d64_4 ∧ d64_4 ≤ 2000) → (0 ≤ d64_3 ∧ d64_3 ≤ 1000 + d64_4) → (∀ j : Int, -1 ≤ w64_705 j ∧ w64_705 j ≤ 100) → (MKO a1_kinds w64_705 a_5 a_6) → (((a_4 (b + 1)) - (d64_4) : Int).toNat) < n64 → lv_has ls 5 [(0, .ref h0), (1, .ref hc), (2, .int (zI (b))), (3, .int (zI (d64_3))), (4, .int (zI (d64_4)))] → va_P (dC, dI) vwP [(h0, .inr (1, [v1_0, v1_1, v1_2, .ref q_103, v1_4, v1_5])), (q_103, .inl (cA_103, 1024, .inl (fun j : Nat => zI (a1_kinds (j : Int))))), (hc, .inr (0, [v_0, v_1, v_2, v_3, .ref q_704, .ref q_705, .ref q_706, v_7, v_8, v_9, v_10, v_11, v_12, v_13, v_14, .ref q_715, .ref q_716, v_17, v_18])), (q_704, .inl (cA_704, 301, .inl (fun j : Nat => zI (a_4 (j : Int))))), (q_705, .inl (cA_705, 2000, .inl (fun j : Nat => zI (w64_705 (j : Int))))), (q_706, .inl (cA_706, 2000, .inl (fun j : Nat => zI (a_6 (j : Int))))), (q_715, .inl (cA_715, 301, .inl (fun j : Nat => zI (a_15 (j : Int))))), (q_716, .inl (cA_716, 1000, .inl (fun j : Nat => zI (w10_716 (j : Int)))))] H → va_D A [(h0, .inr (1, [v1_0, v1_1, v1_2, .ref q_103, v1_4, v1_5])), (q_103, .inl (cA_103, 1024, .inl (fun j : Nat => zI (a1_kinds (j : Int))))), (hc, .inr (0, [v_0, v_1, v_2, v_3, .ref q_704, .ref q_705, .ref q_706, v_7, v_8, v_9, v_10, v_11, v_12, v_13, v_14, .ref q_715, .ref q_716, v_17, v_18])), (q_704, .inl (cA_704, 301, .inl (fun j : Nat => zI (a_4 (j : Int))))), (q_705, .inl (cA_705, 2000, .inl (fun j : Nat => zI (w64_705 (j : Int))))), (q_706, .inl (cA_706, 2000, .inl (fun j : Nat => zI (a_6 (j : Int))))), (q_715, .inl (cA_715, 301, .inl (fun j : Nat => zI (a_15 (j : Int))))), (q_716, .inl (cA_716, 1000, .inl (fun j : Nat => zI (w10_716 (j : Int)))))] → va_S A s.heap H locs → W p l e (headSpec v_X1_markNumbersM ({ frames := 0, cells := 0, slots := 0, locals := 0 })).room s m ([.ref h0, .ref hc, .int (zI (b))] : List Value).toArray below meth c H locs 0 0 Q (F0 m 64 ls []) := by
          intro n64
          induction n64 with
          | zero => intro d64_4 d64_3 w64_705 ls H locs jd64_4 jd64_3 jw64_705 jo hm64; exact absurd hm64 (by omega)
          | succ n64 ih64 =>
            intro d64_4 d64_3 w64_705 ls H locs jd64_4 jd64_3 jw64_705 jo hm64 hl hP hD hS
            refine lv_iload hx hb dX1_markNumbers_64 (lv_at hl 4 rfl) ?_
            refine lv_aload_n hx hb dX1_markNumbers_66 rfl (lv_at hl 1 rfl) ?_
            refine va_get (D := (dC, dI)) (ci := 0) (v := .ref q_704) (C := RX0) (T := TX0) (N := 19) hx hb hts mem_X1_markNumbersM_0 hown hK hP 2 rfl rfl 4 (by decide) (ow (k := 1) rfl) (fun _ h9 => h9) rfl dX1_markNumbers_67 ?_
            refine lv_iload_n hx hb dX1_markNumbers_70 rfl (lv_at hl 2 rfl) ?_
            refine lv_iconst (v := 1) hx hb dX1_markNumbers_71 (by decide) ?_
            refine lv_iadd hx hb dX1_markNumbers_72 ?_
            refine lv_topi (fun z ez => ?_)
            obtain rfl : z = zI (b + 1) := ez.trans (zI_add (b) (1))
            refine va_iald hx hb hK hP 3 1 rfl rfl (zI_in (a := b + 1) (n := 301) (by omega) (by omega) (by decide)) dX1_markNumbers_73 ?_
            refine lv_topi (fun z ez => ?_)
            obtain rfl : z = zI (a_4 (b + 1)) := ez.trans (zI_ld (a_4) (by omega) (by omega))
            have k4 := hR_a_4 (b + 1)
            refine lv_icmp_ge (tgt := 120) hx hb dX1_markNumbers_74 (by decide) (fun b74 => ?_) (fun b74 => ?_)
            · have yb74 : (a_4 (b + 1) : Int) ≤ (d64_4 : Int) := (zI_le (a := a_4 (b + 1)) (b := d64_4) (by omega) (by omega) (by omega) (by omega)).mp b74
              refine lv_iload_n hx hb dX1_markNumbers_120 rfl (lv_at hl 3 rfl) ?_
              subst hQ
              refine W.widen (k := 0) (n := 0) (Nat.le_of_ble_eq_true rfl) (Nat.le_of_ble_eq_true rfl) ?_
              exact W.iret (v := (zI (d64_3))) hx hb hr (fun t ht hW => ⟨⟨(zI (d64_3)), (), rfl, ⟨d64_3, rfl, by omega⟩, w64_705, w10_716, ⟨jw64_705, jw10_716, ⟨(by have q9 : d10_4 = a_15 (b + 1) := (by omega); rw [← q9]; exact jp), jo⟩⟩, by rw [ht]; exact hP, va_K.moved hW.alike hK, hD⟩, hS.F ht⟩) hS.2.2 dX1_markNumbers_121
            · have yb74 : ¬ (a_4 (b + 1) : Int) ≤ (d64_4 : Int) := fun q => b74 ((zI_le (a := a_4 (b + 1)) (b := d64_4) (by omega) (by omega) (by omega) (by omega)).mpr q)
              refine lv_aload_n hx hb dX1_markNumbers_77 rfl (lv_at hl 1 rfl) ?_
              refine va_get (D := (dC, dI)) (ci := 0) (v := .ref q_706) (C := RX0) (T := TX0) (N := 19) hx hb hts mem_X1_markNumbersM_0 hown hK hP 2 rfl rfl 6 (by decide) (ow (k := 2) rfl) (fun _ h9 => h9) rfl dX1_markNumbers_78 ?_
              refine lv_iload hx hb dX1_markNumbers_81 (lv_at hl 4 rfl) ?_
              refine va_iald hx hb hK hP 5 3 rfl rfl (zI_in (a := d64_4) (n := 2000) (by omega) (by omega) (by decide)) dX1_markNumbers_83 ?_
              refine lv_topi (fun z ez => ?_)
              obtain rfl : z = zI (a_6 (d64_4)) := ez.trans (zI_ld (a_6) (by omega) (by omega))
              have k5 := hR_a_6 (d64_4)
              refine lv_if_lt (tgt := 114) hx hb dX1_markNumbers_84 (by decide) (fun b84 => ?_) (fun b84 => ?_)
              · have yb84 : (a_6 (d64_4) : Int) < (0 : Int) := (zI_lt (a := a_6 (d64_4)) (b := 0) (by omega) (by omega) (by omega) (by omega)).mp b84
                refine lv_iinc (v := zI (d64_4 + 1)) (lv' := [(4, .int (zI (d64_4 + 1))), (0, .ref h0), (1, .ref hc), (2, .int (zI (b))), (3, .int (zI (d64_3)))]) hx hb dX1_markNumbers_114 hl (k := 4) rfl (zI_add (d64_4) (1)) (by decide) rfl (fun ls hl => ?_)
                refine lv_goto (tgt := 64) hx hb dX1_markNumbers_117 (by decide) ?_
                exact ih64 (d64_4 + 1) d64_3 w64_705 ls H _ (by omega) (by omega) jw64_705 jo (by omega) (lv_sub hl [1, 2, 3, 4, 0] rfl) hP hD hS
              · have yb84 : ¬ (a_6 (d64_4) : Int) < (0 : Int) := fun q => b84 ((zI_lt (a := a_6 (d64_4)) (b := 0) (by omega) (by omega) (by omega) (by omega)).mpr q)
                refine lv_aload_n hx hb dX1_markNumbers_87 rfl (lv_at hl 0 rfl) ?_
                refine va_get (D := (dC, dI)) (ci := 1) (v := .ref q_103) (C := RX1) (T := TX1) (N := 6) hx hb hts mem_X1_markNumbersM_1 hown hK hP 0 rfl rfl 3 (by decide) (ow (k := 3) rfl) (fun _ h9 => h9) rfl dX1_markNumbers_88 ?_
                refine lv_aload_n hx hb dX1_markNumbers_91 rfl (lv_at hl 1 rfl) ?_
                refine va_get (D := (dC, dI)) (ci := 0) (v := .ref q_706) (C := RX0) (T := TX0) (N := 19) hx hb hts mem_X1_markNumbersM_0 hown hK hP 2 rfl rfl 6 (by decide) (ow (k := 2) rfl) (fun _ h9 => h9) rfl dX1_markNumbers_92 ?_
                refine lv_iload hx hb dX1_markNumbers_95 (lv_at hl 4 rfl) ?_
                refine va_iald hx hb hK hP 5 3 rfl rfl (zI_in (a := d64_4) (n := 2000) (by omega) (by omega) (by decide)) dX1_markNumbers_97 ?_
                refine lv_topi (fun z ez => ?_)
                obtain rfl : z = zI (a_6 (d64_4)) := ez.trans (zI_ld (a_6) (by omega) (by omega))
                have k6 := hR_a_6 (d64_4)
                refine va_iald hx hb hK hP 1 0 rfl rfl (zI_in (a := a_6 (d64_4)) (n := 1024) (by omega) (by omega) (by decide)) dX1_markNumbers_98 ?_
                refine lv_topi (fun z ez => ?_)
                obtain rfl : z = zI (a1_kinds (a_6 (d64_4))) := ez.trans (zI_ld (a1_kinds) (by omega) (by omega))
                have k7 := hR_a1_kinds (a_6 (d64_4))
                refine lv_iconst (v := 1) hx hb dX1_markNumbers_99 (by decide) ?_
                refine lv_icmp_ne (tgt := 114) hx hb dX1_markNumbers_100 (by decide) (fun b100 => ?_) (fun b100 => ?_)
                · have yb100 : ¬ (a1_kinds (a_6 (d64_4)) : Int) = (1 : Int) := fun q => b100 ((zI_eq (a := a1_kinds (a_6 (d64_4))) (b := 1) (by omega) (by omega) (by omega) (by omega)).mpr q)
                  refine lv_iinc (v := zI (d64_4 + 1)) (lv' := [(4, .int (zI (d64_4 + 1))), (0, .ref h0), (1, .ref hc), (2, .int (zI (b))), (3, .int (zI (d64_3)))]) hx hb dX1_markNumbers_114 hl (k := 4) rfl (zI_add (d64_4) (1)) (by decide) rfl (fun ls hl => ?_)
                  refine lv_goto (tgt := 64) hx hb dX1_markNumbers_117 (by decide) ?_
                  exact ih64 (d64_4 + 1) d64_3 w64_705 ls H _ (by omega) (by omega) jw64_705 jo (by omega) (lv_sub hl [1, 2, 3, 4, 0] rfl) hP hD hS
                · have yb100 : (a1_kinds (a_6 (d64_4)) : Int) = (1 : Int) := (zI_eq (a := a1_kinds (a_6 (d64_4))) (b := 1) (by omega) (by omega) (by omega) (by omega)).mp b100
                  refine lv_aload_n hx hb dX1_markNumbers_103 rfl (lv_at hl 1 rfl) ?_
                  refine va_get (D := (dC, dI)) (ci := 0) (v := .ref q_705) (C := RX0) (T := TX0) (N := 19) hx hb hts mem_X1_markNumbersM_0 hown hK hP 2 rfl rfl 5 (by decide) (ow (k := 4) rfl) (fun _ h9 => h9) rfl dX1_markNumbers_104 ?_
                  refine lv_iload hx hb dX1_markNumbers_107 (lv_at hl 4 rfl) ?_
                  refine lv_iconst (v := (-1)) hx hb dX1_markNumbers_109 (by decide) ?_
                  refine va_iast (i := zI (d64_4)) hx hb hK hP hD hS 4 2 rfl rfl (zI_in (a := d64_4) (n := 2000) (by omega) (by omega) (by decide)) dX1_markNumbers_110 (fun H locs hP hD hS => ?_)
                  have eQ : upd (fun j : Nat => zI (w64_705 (j : Int))) (zI (d64_4)).toNatClampNeg (-1) = (fun j : Nat => zI (zup w64_705 (d64_4) (-1) (j : Int))) := (congrArg (upd (fun j : Nat => zI (w64_705 (j : Int))) (zI (d64_4)).toNatClampNeg) (show ((-1) : Int32) = zI (-1) by decide)).trans (zI_st w64_705 (e := d64_4) (v := -1) (by omega) (by omega))
                  rw [eQ] at hP hD
                  clear eQ
                  have ra_2001 : ∀ j : Int, -1 ≤ zup w64_705 (d64_4) (-1) j ∧ zup w64_705 (d64_4) (-1) j ≤ 100 := zup_P (P := fun x9 => -1 ≤ x9 ∧ x9 ≤ 100) jw64_705 (show -1 ≤ (-1) ∧ (-1) ≤ 100 by omega)
                  obtain ⟨a_2001, ea_2001⟩ : ∃ a9 : Int → Int, a9 = zup w64_705 (d64_4) (-1) := ⟨_, rfl⟩
                  rw [← ea_2001] at hP hD ra_2001
                  have hP : va_P (dC, dI) vwP [(h0, .inr (1, [v1_0, v1_1, v1_2, .ref q_103, v1_4, v1_5])), (q_103, .inl (cA_103, 1024, .inl (fun j : Nat => zI (a1_kinds (j : Int))))), (hc, .inr (0, [v_0, v_1, v_2, v_3, .ref q_704, .ref q_705, .ref q_706, v_7, v_8, v_9, v_10, v_11, v_12, v_13, v_14, .ref q_715, .ref q_716, v_17, v_18])), (q_704, .inl (cA_704, 301, .inl (fun j : Nat => zI (a_4 (j : Int))))), (q_705, .inl (cA_705, 2000, .inl (fun j : Nat => zI (a_2001 (j : Int))))), (q_706, .inl (cA_706, 2000, .inl (fun j : Nat => zI (a_6 (j : Int))))), (q_715, .inl (cA_715, 301, .inl (fun j : Nat => zI (a_15 (j : Int))))), (q_716, .inl (cA_716, 1000, .inl (fun j : Nat => zI (w10_716 (j : Int)))))] H := hP
                  have hD : va_D A [(h0, .inr (1, [v1_0, v1_1, v1_2, .ref q_103, v1_4, v1_5])), (q_103, .inl (cA_103, 1024, .inl (fun j : Nat => zI (a1_kinds (j : Int))))), (hc, .inr (0, [v_0, v_1, v_2, v_3, .ref q_704, .ref q_705, .ref q_706, v_7, v_8, v_9, v_10, v_11, v_12, v_13, v_14, .ref q_715, .ref q_716, v_17, v_18])), (q_704, .inl (cA_704, 301, .inl (fun j : Nat => zI (a_4 (j : Int))))), (q_705, .inl (cA_705, 2000, .inl (fun j : Nat => zI (a_2001 (j : Int))))), (q_706, .inl (cA_706, 2000, .inl (fun j : Nat => zI (a_6 (j : Int))))), (q_715, .inl (cA_715, 301, .inl (fun j : Nat => zI (a_15 (j : Int))))), (q_716, .inl (cA_716, 1000, .inl (fun j : Nat => zI (w10_716 (j : Int)))))] := hD
                  refine lv_iinc (v := zI (d64_3 + 1)) (lv' := [(3, .int (zI (d64_3 + 1))), (0, .ref h0), (1, .ref hc), (2, .int (zI (b))), (4, .int (zI (d64_4)))]) hx hb dX1_markNumbers_111 hl (k := 3) rfl (zI_add (d64_3) (1)) (by decide) rfl (fun ls hl => ?_)
                  refine lv_iinc (v := zI (d64_4 + 1)) (lv' := [(4, .int (zI (d64_4 + 1))), (3, .int (zI (d64_3 + 1))), (0, .ref h0), (1, .ref hc), (2, .int (zI (b)))]) hx hb dX1_markNumbers_114 hl (k := 4) rfl (zI_add (d64_4) (1)) (by decide) rfl (fun ls hl => ?_)
                  refine lv_goto (tgt := 64) hx hb dX1_markNumbers_117 (by decide) ?_
                  exact ih64 (d64_4 + 1) (d64_3 + 1) a_2001 ls H _ (by omega) (by omega) ra_2001 (by rw [ea_2001]; exact MKO.set jo (by omega) (by omega)) (by omega) (lv_sub hl [2, 3, 4, 1, 0] rfl) hP hD hS
        exact key64 (((a_4 (b + 1)) - (a_4 (b)) : Int).toNat + 1) (a_4 (b)) d10_3 a_5 ls H _ (by omega) (by omega) hR_a_5 (MKO.refl _ _ _) (by omega) (lv_sub hl [1, 2, 3, 4, 0] rfl) hP hD hS
      · have yb20 : ¬ (a_15 (b + 1) : Int) ≤ (d10_4 : Int) := fun q => b20 ((zI_le (a := a_15 (b + 1)) (b := d10_4) (by omega) (by omega) (by omega) (by omega)).mpr q)
        have ht9 := hX_T2 d10_4 (by omega) (by omega)
        have hj9 := jp d10_4
        refine lv_aload_n hx hb dX1_markNumbers_23 rfl (lv_at hl 0 rfl) ?_
        refine va_get (D := (dC, dI)) (ci := 1) (v := .ref q_103) (C := RX1) (T := TX1) (N := 6) hx hb hts mem_X1_markNumbersM_1 hown hK hP 0 rfl rfl 3 (by decide) (ow (k := 3) rfl) (fun _ h9 => h9) rfl dX1_markNumbers_24 ?_
        refine lv_aload_n hx hb dX1_markNumbers_27 rfl (lv_at hl 1 rfl) ?_
        refine va_get (D := (dC, dI)) (ci := 0) (v := .ref q_716) (C := RX0) (T := TX0) (N := 19) hx hb hts mem_X1_markNumbersM_0 hown hK hP 2 rfl rfl 16 (by decide) (ow (k := 5) rfl) (fun _ h9 => h9) rfl dX1_markNumbers_28 ?_
        refine lv_iload hx hb dX1_markNumbers_31 (lv_at hl 4 rfl) ?_
        refine va_iald hx hb hK hP 7 5 rfl rfl (zI_in (a := d10_4) (n := 1000) (by omega) (by omega) (by decide)) dX1_markNumbers_33 ?_
        refine lv_topi (fun z ez => ?_)
        obtain rfl : z = zI (w10_716 (d10_4)) := ez.trans (zI_ld (w10_716) (by omega) (by omega))
        have k8 := jw10_716 (d10_4)
        refine va_iald hx hb hK hP 1 0 rfl rfl (zI_in (a := w10_716 (d10_4)) (n := 1024) (by omega) (by omega) (by decide)) dX1_markNumbers_34 ?_
        refine lv_topi (fun z ez => ?_)
        obtain rfl : z = zI (a1_kinds (w10_716 (d10_4))) := ez.trans (zI_ld (a1_kinds) (by omega) (by omega))
        have k9 := hR_a1_kinds (w10_716 (d10_4))
        refine lv_iconst (v := 1) hx hb dX1_markNumbers_35 (by decide) ?_
        refine lv_icmp_ne (tgt := 50) hx hb dX1_markNumbers_36 (by decide) (fun b36 => ?_) (fun b36 => ?_)
        · have yb36 : ¬ (a1_kinds (w10_716 (d10_4)) : Int) = (1 : Int) := fun q => b36 ((zI_eq (a := a1_kinds (w10_716 (d10_4))) (b := 1) (by omega) (by omega) (by omega) (by omega)).mpr q)
          refine lv_iinc (v := zI (d10_4 + 1)) (lv' := [(4, .int (zI (d10_4 + 1))), (0, .ref h0), (1, .ref hc), (2, .int (zI (b))), (3, .int (zI (d10_3)))]) hx hb dX1_markNumbers_50 hl (k := 4) rfl (zI_add (d10_4) (1)) (by decide) rfl (fun ls hl => ?_)
          refine lv_goto (tgt := 10) hx hb dX1_markNumbers_53 (by decide) ?_
          exact ih10 (d10_4 + 1) d10_3 w10_716 ls H _ (by omega) (by omega) jw10_716 (MKP.skip jp) (by omega) (lv_sub hl [1, 2, 3, 4, 0] rfl) hP hD hS
        · have yb36 : (a1_kinds (w10_716 (d10_4)) : Int) = (1 : Int) := (zI_eq (a := a1_kinds (w10_716 (d10_4))) (b := 1) (by omega) (by omega) (by omega) (by omega)).mp b36
          refine lv_aload_n hx hb dX1_markNumbers_39 rfl (lv_at hl 1 rfl) ?_
          refine va_get (D := (dC, dI)) (ci := 0) (v := .ref q_716) (C := RX0) (T := TX0) (N := 19) hx hb hts mem_X1_markNumbersM_0 hown hK hP 2 rfl rfl 16 (by decide) (ow (k := 5) rfl) (fun _ h9 => h9) rfl dX1_markNumbers_40 ?_
          refine lv_iload hx hb dX1_markNumbers_43 (lv_at hl 4 rfl) ?_
          refine lv_iconst (v := (-1)) hx hb dX1_markNumbers_45 (by decide) ?_
          refine va_iast (i := zI (d10_4)) hx hb hK hP hD hS 7 5 rfl rfl (zI_in (a := d10_4) (n := 1000) (by omega) (by omega) (by decide)) dX1_markNumbers_46 (fun H locs hP hD hS => ?_)
          have eQ : upd (fun j : Nat => zI (w10_716 (j : Int))) (zI (d10_4)).toNatClampNeg (-1) = (fun j : Nat => zI (zup w10_716 (d10_4) (-1) (j : Int))) := (congrArg (upd (fun j : Nat => zI (w10_716 (j : Int))) (zI (d10_4)).toNatClampNeg) (show ((-1) : Int32) = zI (-1) by decide)).trans (zI_st w10_716 (e := d10_4) (v := -1) (by omega) (by omega))
          rw [eQ] at hP hD
          clear eQ
          have ra_2002 : ∀ j : Int, -1 ≤ zup w10_716 (d10_4) (-1) j ∧ zup w10_716 (d10_4) (-1) j ≤ 1023 := zup_P (P := fun x9 => -1 ≤ x9 ∧ x9 ≤ 1023) jw10_716 (show -1 ≤ (-1) ∧ (-1) ≤ 1023 by omega)
          obtain ⟨a_2002, ea_2002⟩ : ∃ a9 : Int → Int, a9 = zup w10_716 (d10_4) (-1) := ⟨_, rfl⟩
          rw [← ea_2002] at hP hD ra_2002
          have hP : va_P (dC, dI) vwP [(h0, .inr (1, [v1_0, v1_1, v1_2, .ref q_103, v1_4, v1_5])), (q_103, .inl (cA_103, 1024, .inl (fun j : Nat => zI (a1_kinds (j : Int))))), (hc, .inr (0, [v_0, v_1, v_2, v_3, .ref q_704, .ref q_705, .ref q_706, v_7, v_8, v_9, v_10, v_11, v_12, v_13, v_14, .ref q_715, .ref q_716, v_17, v_18])), (q_704, .inl (cA_704, 301, .inl (fun j : Nat => zI (a_4 (j : Int))))), (q_705, .inl (cA_705, 2000, .inl (fun j : Nat => zI (a_5 (j : Int))))), (q_706, .inl (cA_706, 2000, .inl (fun j : Nat => zI (a_6 (j : Int))))), (q_715, .inl (cA_715, 301, .inl (fun j : Nat => zI (a_15 (j : Int))))), (q_716, .inl (cA_716, 1000, .inl (fun j : Nat => zI (a_2002 (j : Int)))))] H := hP
          have hD : va_D A [(h0, .inr (1, [v1_0, v1_1, v1_2, .ref q_103, v1_4, v1_5])), (q_103, .inl (cA_103, 1024, .inl (fun j : Nat => zI (a1_kinds (j : Int))))), (hc, .inr (0, [v_0, v_1, v_2, v_3, .ref q_704, .ref q_705, .ref q_706, v_7, v_8, v_9, v_10, v_11, v_12, v_13, v_14, .ref q_715, .ref q_716, v_17, v_18])), (q_704, .inl (cA_704, 301, .inl (fun j : Nat => zI (a_4 (j : Int))))), (q_705, .inl (cA_705, 2000, .inl (fun j : Nat => zI (a_5 (j : Int))))), (q_706, .inl (cA_706, 2000, .inl (fun j : Nat => zI (a_6 (j : Int))))), (q_715, .inl (cA_715, 301, .inl (fun j : Nat => zI (a_15 (j : Int))))), (q_716, .inl (cA_716, 1000, .inl (fun j : Nat => zI (a_2002 (j : Int)))))] := hD
          refine lv_iinc (v := zI (d10_3 + 1)) (lv' := [(3, .int (zI (d10_3 + 1))), (0, .ref h0), (1, .ref hc), (2, .int (zI (b))), (4, .int (zI (d10_4)))]) hx hb dX1_markNumbers_47 hl (k := 3) rfl (zI_add (d10_3) (1)) (by decide) rfl (fun ls hl => ?_)
          refine lv_iinc (v := zI (d10_4 + 1)) (lv' := [(4, .int (zI (d10_4 + 1))), (3, .int (zI (d10_3 + 1))), (0, .ref h0), (1, .ref hc), (2, .int (zI (b)))]) hx hb dX1_markNumbers_50 hl (k := 4) rfl (zI_add (d10_4) (1)) (by decide) rfl (fun ls hl => ?_)
          refine lv_goto (tgt := 10) hx hb dX1_markNumbers_53 (by decide) ?_
          exact ih10 (d10_4 + 1) (d10_3 + 1) a_2002 ls H _ (by omega) (by omega) ra_2002 (by rw [ea_2002]; exact MKP.set jp (by omega) (by omega)) (by omega) (lv_sub hl [2, 3, 4, 1, 0] rfl) hP hD hS
  exact key10 (((a_15 (b + 1)) - (a_15 (b)) : Int).toNat + 1) (a_15 (b)) 0 a_16 ls H _ (by omega) (by omega) hR_a_16 (MKP.refl _ _ _ _) (by omega) (lv_sub hl [2, 3, 4, 1, 0] rfl) hP hD hS
def o_X1_foldIfM : List Cond := [.fieldLink RX1 90 "SsaForge$Code" "endKind" "[I", .fieldLink RX1 97 "SsaForge$Code" "endUse" "[J", .initialized RX11, .static yX11_isNumber, .fieldLink RX1 161 "SsaForge$Code" "goalTwo" "[I", .fieldLink RX1 158 "SsaForge$Code" "goalOne" "[I", .constantLong RX1 59 (1099511627776)]
def v_X1_foldIfM : List Cond := .code yX1_foldIf cX1_foldIf 2 (some .boolean) :: (o_X1_foldIfM ++ (wsX00 ++ (v_X11_isNumber ++ [])))
theorem mow_X1_foldIfM : ∀ w ∈ o_X1_foldIfM, w ∈ v_X1_foldIfM := fun _ h => List.mem_cons_of_mem _ (List.mem_append_left _ h)
theorem mem_X1_foldIfM_0 : ∀ w ∈ wsX00, w ∈ v_X1_foldIfM := fun _ h => List.mem_cons_of_mem _ (List.mem_append_right _ (List.mem_append_left _ h))
theorem mem_X1_foldIfM_1 : ∀ w ∈ v_X11_isNumber, w ∈ v_X1_foldIfM := fun _ h => List.mem_cons_of_mem _ (List.mem_append_right _ (List.mem_append_right _ (List.mem_append_left _ h)))
set_option maxRecDepth 20000 in
theorem gw_X1_foldIfM : v_X1_foldIfM.all goodWord = true := by decide +kernel
set_option maxHeartbeats 4000000 in
set_option maxRecDepth 100000 in
theorem c_X1_foldIfM (l : Launch) (dC : Nat → ClassId) (dI : Nat → Nat → Nat) (h0 : Nat) (v_0 : Value) (v_1 : Value) (v_2 : Value) (v_3 : Value) (v_4 : Value) (v_5 : Value) (v_6 : Value) (v_7 : Value) (v_8 : Value) (q_709 : Nat) (cA_709 : ClassId) (a_9 : Int → Int) (q_710 : Nat) (cA_710 : ClassId) (a_10 : Int → Int) (q_711 : Nat) (cA_711 : ClassId) (a_11 : Int → Int) (q_712 : Nat) (cA_712 : ClassId) (a_12 : Int → Int) (v_13 : Value) (v_14 : Value) (v_15 : Value) (v_16 : Value) (v_17 : Value) (v_18 : Value) (b : Int) (hR_a_9 : ∀ j : Int, 0 ≤ a_9 j ∧ a_9 j ≤ 2) (hR_a_10 : ∀ j : Int, ((-2147483648 ≤ a_10 j ∧ a_10 j ≤ 4294968319) ∨ a_10 j = 1099511627776)) (hR_a_11 : ∀ j : Int, -1 ≤ a_11 j ∧ a_11 j ≤ 299) (hR_a_12 : ∀ j : Int, -1 ≤ a_12 j ∧ a_12 j ≤ 299) (hNb : 0 ≤ b ∧ b < 300) (sz : Nat) : Met l yX1_foldIf v_X1_foldIfM ({ frames := 1, cells := 0, slots := 0, locals := 21 }) (va_Pc [.ref h0, .int (zI (b))] (fun U => U.heap.size = sz ∧ va_P (dC, dI) vwP [(h0, .inr (0, [v_0, v_1, v_2, v_3, v_4, v_5, v_6, v_7, v_8, .ref q_709, .ref q_710, .ref q_711, .ref q_712, v_13, v_14, v_15, v_16, v_17, v_18])), (q_709, .inl (cA_709, 300, .inl (fun j : Nat => zI (a_9 (j : Int))))), (q_710, .inl (cA_710, 300, .inr (.inl (fun j : Nat => lI (a_10 (j : Int)))))), (q_711, .inl (cA_711, 300, .inl (fun j : Nat => zI (a_11 (j : Int))))), (q_712, .inl (cA_712, 300, .inl (fun j : Nat => zI (a_12 (j : Int)))))] U.heap ∧ va_K (dC, dI) vwP [(cA_709, .int), (cA_710, .long), (cA_711, .int), (cA_712, .int)] U ∧ va_D (fun _ => True) [(h0, .inr (0, [v_0, v_1, v_2, v_3, v_4, v_5, v_6, v_7, v_8, .ref q_709, .ref q_710, .ref q_711, .ref q_712, v_13, v_14, v_15, v_16, v_17, v_18])), (q_709, .inl (cA_709, 300, .inl (fun j : Nat => zI (a_9 (j : Int))))), (q_710, .inl (cA_710, 300, .inr (.inl (fun j : Nat => lI (a_10 (j : Int)))))), (q_711, .inl (cA_711, 300, .inl (fun j : Nat => zI (a_11 (j : Int))))), (q_712, .inl (cA_712, 300, .inl (fun j : Nat => zI (a_12 (j : Int)))))] ∧ va_Nw (.methodLinkNest RX1 164 yX11_isNumber "SsaForge") U)) (va_Qi (fun (r : Int32) (_ : Unit) => ∃ z : Int, r = zI z ∧ (0 ≤ z ∧ z ≤ 1)) (fun (_ : Unit) (t : State) => ∃ (a0_9 : Int → Int) (a1_9 : Int → Int) (a2_9 : Int → Int) (a3_9 : Int → Int), ((∀ j : Int, 0 ≤ a0_9 j ∧ a0_9 j ≤ 2) ∧ (∀ j : Int, ((-2147483648 ≤ a1_9 j ∧ a1_9 j ≤ 4294968319) ∨ a1_9 j = 1099511627776)) ∧ (∀ j : Int, -1 ≤ a2_9 j ∧ a2_9 j ≤ 299) ∧ (∀ j : Int, -1 ≤ a3_9 j ∧ a3_9 j ≤ 299) ∧ (FDJ a_9 a_10 a_11 a_12 a0_9 a1_9 a2_9 a3_9 b)) ∧ va_P (dC, dI) vwP [(h0, .inr (0, [v_0, v_1, v_2, v_3, v_4, v_5, v_6, v_7, v_8, .ref q_709, .ref q_710, .ref q_711, .ref q_712, v_13, v_14, v_15, v_16, v_17, v_18])), (q_709, .inl (cA_709, 300, .inl (fun j : Nat => zI (a0_9 (j : Int))))), (q_710, .inl (cA_710, 300, .inr (.inl (fun j : Nat => lI (a1_9 (j : Int)))))), (q_711, .inl (cA_711, 300, .inl (fun j : Nat => zI (a2_9 (j : Int))))), (q_712, .inl (cA_712, 300, .inl (fun j : Nat => zI (a3_9 (j : Int)))))] t.heap ∧ va_K (dC, dI) vwP [(cA_709, .int), (cA_710, .long), (cA_711, .int), (cA_712, .int)] t ∧ va_D (va_A [(h0, .inr (0, [v_0, v_1, v_2, v_3, v_4, v_5, v_6, v_7, v_8, .ref q_709, .ref q_710, .ref q_711, .ref q_712, v_13, v_14, v_15, v_16, v_17, v_18])), (q_709, .inl (cA_709, 300, .inl (fun j : Nat => zI (a_9 (j : Int))))), (q_710, .inl (cA_710, 300, .inr (.inl (fun j : Nat => lI (a_10 (j : Int)))))), (q_711, .inl (cA_711, 300, .inl (fun j : Nat => zI (a_11 (j : Int))))), (q_712, .inl (cA_712, 300, .inl (fun j : Nat => zI (a_12 (j : Int)))))] sz) [(h0, .inr (0, [v_0, v_1, v_2, v_3, v_4, v_5, v_6, v_7, v_8, .ref q_709, .ref q_710, .ref q_711, .ref q_712, v_13, v_14, v_15, v_16, v_17, v_18])), (q_709, .inl (cA_709, 300, .inl (fun j : Nat => zI (a0_9 (j : Int))))), (q_710, .inl (cA_710, 300, .inr (.inl (fun j : Nat => lI (a1_9 (j : Int)))))), (q_711, .inl (cA_711, 300, .inl (fun j : Nat => zI (a2_9 (j : Int))))), (q_712, .inl (cA_712, 300, .inl (fun j : Nat => zI (a3_9 (j : Int)))))]) (va_A [(h0, .inr (0, [v_0, v_1, v_2, v_3, v_4, v_5, v_6, v_7, v_8, .ref q_709, .ref q_710, .ref q_711, .ref q_712, v_13, v_14, v_15, v_16, v_17, v_18])), (q_709, .inl (cA_709, 300, .inl (fun j : Nat => zI (a_9 (j : Int))))), (q_710, .inl (cA_710, 300, .inr (.inl (fun j : Nat => lI (a_10 (j : Int)))))), (q_711, .inl (cA_711, 300, .inl (fun j : Nat => zI (a_11 (j : Int))))), (q_712, .inl (cA_712, 300, .inl (fun j : Nat => zI (a_12 (j : Int)))))] sz)) 0 0 (va_A [(h0, .inr (0, [v_0, v_1, v_2, v_3, v_4, v_5, v_6, v_7, v_8, .ref q_709, .ref q_710, .ref q_711, .ref q_712, v_13, v_14, v_15, v_16, v_17, v_18])), (q_709, .inl (cA_709, 300, .inl (fun j : Nat => zI (a_9 (j : Int))))), (q_710, .inl (cA_710, 300, .inr (.inl (fun j : Nat => lI (a_10 (j : Int)))))), (q_711, .inl (cA_711, 300, .inl (fun j : Nat => zI (a_11 (j : Int))))), (q_712, .inl (cA_712, 300, .inl (fun j : Nat => zI (a_12 (j : Int)))))] sz) := by
  refine Met.ofW (cc := cX1_foldIf) (maxL := 2) (ret := (some .boolean)) (by decide) rfl ?_
  intro p e s m args below meth c s₁ B hml hv
  obtain ⟨rfl, hsz, hP, hK, hD0, hp0⟩ := hv
  have hx := B.exec
  have hb := B.bytes
  have hr := B.returns
  have hts := atoms_spec (ws := v_X1_foldIfM) B.pre
  have hown : s.vm.findClass RX1 = some m.cls := findClass_of_methodNamed B.named
  have hlocks := B.notSynchronized
  have ow : ∀ {k : Nat} {w : Cond}, o_X1_foldIfM[k]? = some w → w.before ([.ref h0, .int (zI (b))] : List Value).toArray s = true := fun h => hts _ (mow_X1_foldIfM _ (List.mem_of_getElem? h))
  subst hsz
  have hD := hD0.self (sz := s.heap.size)
  generalize hAe : va_A [(h0, .inr (0, [v_0, v_1, v_2, v_3, v_4, v_5, v_6, v_7, v_8, .ref q_709, .ref q_710, .ref q_711, .ref q_712, v_13, v_14, v_15, v_16, v_17, v_18])), (q_709, .inl (cA_709, 300, .inl (fun j : Nat => zI (a_9 (j : Int))))), (q_710, .inl (cA_710, 300, .inr (.inl (fun j : Nat => lI (a_10 (j : Int)))))), (q_711, .inl (cA_711, 300, .inl (fun j : Nat => zI (a_11 (j : Int))))), (q_712, .inl (cA_712, 300, .inl (fun j : Nat => zI (a_12 (j : Int)))))] s.heap.size = A at hD ⊢
  have hA : ∀ q : Nat, s.heap.size ≤ q → A q := fun q h => by rw [← hAe]; exact Or.inr h
  have hS : va_S A s.heap s.heap [] := va_S.rf
  have hP : va_P (dC, dI) vwP [(h0, .inr (0, [v_0, v_1, v_2, v_3, v_4, v_5, v_6, v_7, v_8, .ref q_709, .ref q_710, .ref q_711, .ref q_712, v_13, v_14, v_15, v_16, v_17, v_18])), (q_709, .inl (cA_709, 300, .inl (fun j : Nat => zI (a_9 (j : Int))))), (q_710, .inl (cA_710, 300, .inr (.inl (fun j : Nat => lI (a_10 (j : Int)))))), (q_711, .inl (cA_711, 300, .inl (fun j : Nat => zI (a_11 (j : Int))))), (q_712, .inl (cA_712, 300, .inl (fun j : Nat => zI (a_12 (j : Int)))))] s.heap := hP
  have hl := lv_entry ([.ref h0, .int (zI (b))]) (n := 2) (Nat.le_of_ble_eq_true rfl)
  rw [lg_entry_eq]
  generalize (lg_sl ([.ref h0, .int (zI (b))]) ++ List.replicate (2 - (lg_sl ([.ref h0, .int (zI (b))])).length) Slot.unset).toArray = ls at hl ⊢
  have hl : lv_has ls 2 [(0, .ref h0), (1, .int (zI (b)))] := hl
  obtain ⟨H, hH⟩ : ∃ H, H = s.heap := ⟨_, rfl⟩
  rw [← hH] at hP
  have hS : va_S A s.heap H [] := by rw [hH]; exact hS
  rw [← hH]
  refine zW_cap (fun Q hQ => ?_)
  refine lv_aload_n hx hb dX1_foldIf_0 rfl (lv_at hl 0 rfl) ?_
  refine va_get (D := (dC, dI)) (ci := 0) (v := .ref q_709) (C := RX0) (T := TX0) (N := 19) hx hb hts mem_X1_foldIfM_0 hown hK hP 0 rfl rfl 9 (by decide) (ow (k := 0) rfl) (fun _ h9 => h9) rfl dX1_foldIf_1 ?_
  refine lv_iload_n hx hb dX1_foldIf_4 rfl (lv_at hl 1 rfl) ?_
  refine va_iald hx hb hK hP 1 0 rfl rfl (zI_in (a := b) (n := 300) (by omega) (by omega) (by decide)) dX1_foldIf_5 ?_
  refine lv_topi (fun z ez => ?_)
  obtain rfl : z = zI (a_9 (b)) := ez.trans (zI_ld (a_9) (by omega) (by omega))
  have k1 := hR_a_9 (b)
  refine lv_iconst (v := 1) hx hb dX1_foldIf_6 (by decide) ?_
  refine lv_icmp_ne (tgt := 22) hx hb dX1_foldIf_7 (by decide) (fun b7 => ?_) (fun b7 => ?_)
  · have yb7 : ¬ (a_9 (b) : Int) = (1 : Int) := fun q => b7 ((zI_eq (a := a_9 (b)) (b := 1) (by omega) (by omega) (by omega) (by omega)).mpr q)
    refine lv_iconst (v := 0) hx hb dX1_foldIf_22 (by decide) ?_
    subst hQ
    refine W.widen (k := 0) (n := 0) (Nat.le_of_ble_eq_true rfl) (Nat.le_of_ble_eq_true rfl) ?_
    exact W.zret (v := 0) hx hb hr (by decide) (fun t ht hW => ⟨⟨0, (), rfl, ⟨0, rfl, by omega⟩, a_9, a_10, a_11, a_12, ⟨hR_a_9, hR_a_10, hR_a_11, hR_a_12, (Or.inr ⟨by omega, rfl, rfl, rfl, rfl⟩)⟩, by rw [ht]; exact hP, va_K.moved hW.alike hK, hD⟩, hS.F ht⟩) hS.2.2 dX1_foldIf_23
  · have yb7 : (a_9 (b) : Int) = (1 : Int) := (zI_eq (a := a_9 (b)) (b := 1) (by omega) (by omega) (by omega) (by omega)).mp b7
    refine lv_aload_n hx hb dX1_foldIf_10 rfl (lv_at hl 0 rfl) ?_
    refine va_get (D := (dC, dI)) (ci := 0) (v := .ref q_710) (C := RX0) (T := TX0) (N := 19) hx hb hts mem_X1_foldIfM_0 hown hK hP 0 rfl rfl 10 (by decide) (ow (k := 1) rfl) (fun _ h9 => h9) rfl dX1_foldIf_11 ?_
    refine lv_iload_n hx hb dX1_foldIf_14 rfl (lv_at hl 1 rfl) ?_
    refine va_lald hx hb hK hP 2 1 rfl rfl (zI_in (a := b) (n := 300) (by omega) (by omega) (by decide)) dX1_foldIf_15 ?_
    refine lv_topl (fun z ez => ?_)
    obtain rfl : z = lI (a_10 (b)) := ez.trans (lI_ld (a_10) (by omega) (by omega))
    have k2 := hR_a_10 (b)
    have hPc := hP.sub (ws' := []) [] rfl
    have hDc := hD.sub (ws' := []) [] (by decide) rfl
    have hKc := hK.sub (tys' := []) [] rfl
    have hFc := va_free (wc := []) hD hS hA [] rfl
    refine va_calli (va_runSN (As := [.long (lI (a_10 (b)))]) (rest := []) ⟨hx, hb, hml, hown, hts⟩ (c_X11_isNumber l dC dI (a_10 (b)) (by omega) H.size) ⟨va_cnB 1 hts (goodIn_sub mem_X1_foldIfM_1 gw_X11_isNumber) rfl rfl rfl hp0 (ow (k := 2) rfl) (by decide +kernel) ⟨(Nat.le_of_ble_eq_true rfl), (Nat.le_of_ble_eq_true rfl)⟩, (ow (k := 3) rfl), trivial⟩ ⟨fun a U g mk q => by obtain ⟨q0, q1, qP, qK, qD⟩ := q; exact ⟨q0, q1, qP, va_K.moved (u := U) (U := U.calling g mk a) (Vm.Alike.refl U.vm) qK, qD⟩, fun U hU hW => ⟨rfl, by rw [hU], by rw [hU]; exact hPc, va_K.moved hW.alike hKc, hDc.weaken (fun _ _ _ _ => trivial)⟩⟩ rfl rfl hl.1 rfl (lv_room (Nat.le_of_ble_eq_true rfl)) dX1_foldIf_16 ⟨(Nat.le_of_ble_eq_true rfl), (Nat.le_of_ble_eq_true rfl)⟩) hS (fun q _ h => hFc q h) hFc (fun r_2001 u t H1 locs ht hvm hw hB hz1 hk1 hS => ?_)
    obtain ⟨hP1, hK1, hD1⟩ := hB
    rw [ht] at hP1
    have hK1 := va_K.moved hvm.symm hK1
    obtain ⟨hP, hD⟩ := va_join (wr := [(h0, .inr (0, [v_0, v_1, v_2, v_3, v_4, v_5, v_6, v_7, v_8, .ref q_709, .ref q_710, .ref q_711, .ref q_712, v_13, v_14, v_15, v_16, v_17, v_18])), (q_709, .inl (cA_709, 300, .inl (fun j : Nat => zI (a_9 (j : Int))))), (q_710, .inl (cA_710, 300, .inr (.inl (fun j : Nat => lI (a_10 (j : Int)))))), (q_711, .inl (cA_711, 300, .inl (fun j : Nat => zI (a_11 (j : Int))))), (q_712, .inl (cA_712, 300, .inl (fun j : Nat => zI (a_12 (j : Int)))))]) (w1 := []) hP hD [] [0, 1, 2, 3, 4] rfl rfl (by decide) (by decide) hk1 hFc hP1 hD1
    have hK := (hK.sub (tys' := [(cA_709, .int), (cA_710, .long), (cA_711, .int), (cA_712, .int)]) [0, 1, 2, 3] rfl).app hK1
    generalize H1 = H at hP hS ⊢
    have hP : va_P (dC, dI) vwP [(h0, .inr (0, [v_0, v_1, v_2, v_3, v_4, v_5, v_6, v_7, v_8, .ref q_709, .ref q_710, .ref q_711, .ref q_712, v_13, v_14, v_15, v_16, v_17, v_18])), (q_709, .inl (cA_709, 300, .inl (fun j : Nat => zI (a_9 (j : Int))))), (q_710, .inl (cA_710, 300, .inr (.inl (fun j : Nat => lI (a_10 (j : Int)))))), (q_711, .inl (cA_711, 300, .inl (fun j : Nat => zI (a_11 (j : Int))))), (q_712, .inl (cA_712, 300, .inl (fun j : Nat => zI (a_12 (j : Int)))))] H := hP
    have hD : va_D A [(h0, .inr (0, [v_0, v_1, v_2, v_3, v_4, v_5, v_6, v_7, v_8, .ref q_709, .ref q_710, .ref q_711, .ref q_712, v_13, v_14, v_15, v_16, v_17, v_18])), (q_709, .inl (cA_709, 300, .inl (fun j : Nat => zI (a_9 (j : Int))))), (q_710, .inl (cA_710, 300, .inr (.inl (fun j : Nat => lI (a_10 (j : Int)))))), (q_711, .inl (cA_711, 300, .inl (fun j : Nat => zI (a_11 (j : Int))))), (q_712, .inl (cA_712, 300, .inl (fun j : Nat => zI (a_12 (j : Int)))))] := hD
    have hK : va_K (dC, dI) vwP [(cA_709, .int), (cA_710, .long), (cA_711, .int), (cA_712, .int)] s := hK
    refine W.widen (k := 0) (n := 0) (Nat.le_of_ble_eq_true rfl) (Nat.le_of_ble_eq_true rfl) ?_
    obtain rfl : r_2001 = (zI (isN (a_10 (b)))) := hw
    have := isN_spec (a_10 (b))
    refine lv_if_ne (tgt := 24) hx hb dX1_foldIf_19 (by decide) (fun b19 => ?_) (fun b19 => ?_)
    · have yb19 : ¬ (isN (a_10 (b)) : Int) = (0 : Int) := fun q => b19 ((zI_eq (a := isN (a_10 (b))) (b := 0) (by omega) (by omega) (by omega) (by omega)).mpr q)
      refine lv_aload_n hx hb dX1_foldIf_24 rfl (lv_at hl 0 rfl) ?_
      refine va_get (D := (dC, dI)) (ci := 0) (v := .ref q_710) (C := RX0) (T := TX0) (N := 19) hx hb hts mem_X1_foldIfM_0 hown hK hP 0 rfl rfl 10 (by decide) (ow (k := 1) rfl) (fun _ h9 => h9) rfl dX1_foldIf_25 ?_
      refine lv_iload_n hx hb dX1_foldIf_28 rfl (lv_at hl 1 rfl) ?_
      refine va_lald hx hb hK hP 2 1 rfl rfl (zI_in (a := b) (n := 300) (by omega) (by omega) (by decide)) dX1_foldIf_29 ?_
      refine lv_topl (fun z ez => ?_)
      obtain rfl : z = lI (a_10 (b)) := ez.trans (lI_ld (a_10) (by omega) (by omega))
      have k3 := hR_a_10 (b)
      refine lv_lconst (v := lI (0)) hx hb dX1_foldIf_30 (by decide) ?_
      refine W.lcmp hx hb dX1_foldIf_31 ?_
      refine lv_if_ne (tgt := 50) hx hb dX1_foldIf_32 (by decide) (fun b32 => ?_) (fun b32 => ?_)
      · have yb32 : ¬ (a_10 (b) : Int) = 0 := fun q => b32 ((lc_eq (a := a_10 (b)) (b := 0) (by omega) (by omega) (by omega) (by omega)).mpr q)
        refine lv_aload_n hx hb dX1_foldIf_50 rfl (lv_at hl 0 rfl) ?_
        refine va_get (D := (dC, dI)) (ci := 0) (v := .ref q_712) (C := RX0) (T := TX0) (N := 19) hx hb hts mem_X1_foldIfM_0 hown hK hP 0 rfl rfl 12 (by decide) (ow (k := 4) rfl) (fun _ h9 => h9) rfl dX1_foldIf_51 ?_
        refine lv_iload_n hx hb dX1_foldIf_54 rfl (lv_at hl 1 rfl) ?_
        refine lv_aload_n hx hb dX1_foldIf_55 rfl (lv_at hl 0 rfl) ?_
        refine va_get (D := (dC, dI)) (ci := 0) (v := .ref q_711) (C := RX0) (T := TX0) (N := 19) hx hb hts mem_X1_foldIfM_0 hown hK hP 0 rfl rfl 11 (by decide) (ow (k := 5) rfl) (fun _ h9 => h9) rfl dX1_foldIf_56 ?_
        refine lv_iload_n hx hb dX1_foldIf_59 rfl (lv_at hl 1 rfl) ?_
        refine va_iald hx hb hK hP 3 2 rfl rfl (zI_in (a := b) (n := 300) (by omega) (by omega) (by decide)) dX1_foldIf_60 ?_
        refine lv_topi (fun z ez => ?_)
        obtain rfl : z = zI (a_11 (b)) := ez.trans (zI_ld (a_11) (by omega) (by omega))
        have k4 := hR_a_11 (b)
        refine va_iast (i := zI (b)) hx hb hK hP hD hS 4 3 rfl rfl (zI_in (a := b) (n := 300) (by omega) (by omega) (by decide)) dX1_foldIf_61 (fun H locs hP hD hS => ?_)
        have eQ : upd (fun j : Nat => zI (a_12 (j : Int))) (zI (b)).toNatClampNeg (zI (a_11 (b))) = (fun j : Nat => zI (zup a_12 (b) (a_11 (b)) (j : Int))) := zI_st a_12 (e := b) (v := a_11 (b)) (by omega) (by omega)
        rw [eQ] at hP hD
        clear eQ
        have ra_2002 : ∀ j : Int, -1 ≤ zup a_12 (b) (a_11 (b)) j ∧ zup a_12 (b) (a_11 (b)) j ≤ 299 := zup_P (P := fun x9 => -1 ≤ x9 ∧ x9 ≤ 299) hR_a_12 (show -1 ≤ (a_11 (b)) ∧ (a_11 (b)) ≤ 299 by omega)
        obtain ⟨a_2002, ea_2002⟩ : ∃ a9 : Int → Int, a9 = zup a_12 (b) (a_11 (b)) := ⟨_, rfl⟩
        rw [← ea_2002] at hP hD ra_2002
        have hP : va_P (dC, dI) vwP [(h0, .inr (0, [v_0, v_1, v_2, v_3, v_4, v_5, v_6, v_7, v_8, .ref q_709, .ref q_710, .ref q_711, .ref q_712, v_13, v_14, v_15, v_16, v_17, v_18])), (q_709, .inl (cA_709, 300, .inl (fun j : Nat => zI (a_9 (j : Int))))), (q_710, .inl (cA_710, 300, .inr (.inl (fun j : Nat => lI (a_10 (j : Int)))))), (q_711, .inl (cA_711, 300, .inl (fun j : Nat => zI (a_11 (j : Int))))), (q_712, .inl (cA_712, 300, .inl (fun j : Nat => zI (a_2002 (j : Int)))))] H := hP
        have hD : va_D A [(h0, .inr (0, [v_0, v_1, v_2, v_3, v_4, v_5, v_6, v_7, v_8, .ref q_709, .ref q_710, .ref q_711, .ref q_712, v_13, v_14, v_15, v_16, v_17, v_18])), (q_709, .inl (cA_709, 300, .inl (fun j : Nat => zI (a_9 (j : Int))))), (q_710, .inl (cA_710, 300, .inr (.inl (fun j : Nat => lI (a_10 (j : Int)))))), (q_711, .inl (cA_711, 300, .inl (fun j : Nat => zI (a_11 (j : Int))))), (q_712, .inl (cA_712, 300, .inl (fun j : Nat => zI (a_2002 (j : Int)))))] := hD
        refine lv_aload_n hx hb dX1_foldIf_62 rfl (lv_at hl 0 rfl) ?_
        refine va_get (D := (dC, dI)) (ci := 0) (v := .ref q_709) (C := RX0) (T := TX0) (N := 19) hx hb hts mem_X1_foldIfM_0 hown hK hP 0 rfl rfl 9 (by decide) (ow (k := 0) rfl) (fun _ h9 => h9) rfl dX1_foldIf_63 ?_
        refine lv_iload_n hx hb dX1_foldIf_66 rfl (lv_at hl 1 rfl) ?_
        refine lv_iconst (v := 0) hx hb dX1_foldIf_67 (by decide) ?_
        refine va_iast (i := zI (b)) hx hb hK hP hD hS 1 0 rfl rfl (zI_in (a := b) (n := 300) (by omega) (by omega) (by decide)) dX1_foldIf_68 (fun H locs hP hD hS => ?_)
        have eQ : upd (fun j : Nat => zI (a_9 (j : Int))) (zI (b)).toNatClampNeg 0 = (fun j : Nat => zI (zup a_9 (b) (0) (j : Int))) := zI_st a_9 (e := b) (v := 0) (by omega) (by omega)
        rw [eQ] at hP hD
        clear eQ
        have ra_2003 : ∀ j : Int, 0 ≤ zup a_9 (b) (0) j ∧ zup a_9 (b) (0) j ≤ 2 := zup_P (P := fun x9 => 0 ≤ x9 ∧ x9 ≤ 2) hR_a_9 (show 0 ≤ (0) ∧ (0) ≤ 2 by omega)
        obtain ⟨a_2003, ea_2003⟩ : ∃ a9 : Int → Int, a9 = zup a_9 (b) (0) := ⟨_, rfl⟩
        rw [← ea_2003] at hP hD ra_2003
        have hP : va_P (dC, dI) vwP [(h0, .inr (0, [v_0, v_1, v_2, v_3, v_4, v_5, v_6, v_7, v_8, .ref q_709, .ref q_710, .ref q_711, .ref q_712, v_13, v_14, v_15, v_16, v_17, v_18])), (q_709, .inl (cA_709, 300, .inl (fun j : Nat => zI (a_2003 (j : Int))))), (q_710, .inl (cA_710, 300, .inr (.inl (fun j : Nat => lI (a_10 (j : Int)))))), (q_711, .inl (cA_711, 300, .inl (fun j : Nat => zI (a_11 (j : Int))))), (q_712, .inl (cA_712, 300, .inl (fun j : Nat => zI (a_2002 (j : Int)))))] H := hP
        have hD : va_D A [(h0, .inr (0, [v_0, v_1, v_2, v_3, v_4, v_5, v_6, v_7, v_8, .ref q_709, .ref q_710, .ref q_711, .ref q_712, v_13, v_14, v_15, v_16, v_17, v_18])), (q_709, .inl (cA_709, 300, .inl (fun j : Nat => zI (a_2003 (j : Int))))), (q_710, .inl (cA_710, 300, .inr (.inl (fun j : Nat => lI (a_10 (j : Int)))))), (q_711, .inl (cA_711, 300, .inl (fun j : Nat => zI (a_11 (j : Int))))), (q_712, .inl (cA_712, 300, .inl (fun j : Nat => zI (a_2002 (j : Int)))))] := hD
        refine lv_aload_n hx hb dX1_foldIf_69 rfl (lv_at hl 0 rfl) ?_
        refine va_get (D := (dC, dI)) (ci := 0) (v := .ref q_710) (C := RX0) (T := TX0) (N := 19) hx hb hts mem_X1_foldIfM_0 hown hK hP 0 rfl rfl 10 (by decide) (ow (k := 1) rfl) (fun _ h9 => h9) rfl dX1_foldIf_70 ?_
        refine lv_iload_n hx hb dX1_foldIf_73 rfl (lv_at hl 1 rfl) ?_
        refine lv_ldc2 (v := 1099511627776) hx hb hown (ow (k := 6) rfl) dX1_foldIf_74 ?_
        refine lv_topl (fun z ez => ?_)
        obtain rfl : z = lI (1099511627776) := ez
        refine va_last (i := zI (b)) hx hb hK hP hD hS 2 1 rfl rfl (zI_in (a := b) (n := 300) (by omega) (by omega) (by decide)) dX1_foldIf_77 (fun H locs hP hD hS => ?_)
        have eQ : vp_updL (fun j : Nat => lI (a_10 (j : Int))) (zI (b)).toNatClampNeg (lI (1099511627776)) = (fun j : Nat => lI (zup a_10 (b) (1099511627776) (j : Int))) := lI_st a_10 (e := b) (v := 1099511627776) (by omega) (by omega)
        rw [eQ] at hP hD
        clear eQ
        have ra_2004 : ∀ j : Int, ((-2147483648 ≤ zup a_10 (b) (1099511627776) j ∧ zup a_10 (b) (1099511627776) j ≤ 4294968319) ∨ zup a_10 (b) (1099511627776) j = 1099511627776) := zup_P (P := fun x9 => ((-2147483648 ≤ x9 ∧ x9 ≤ 4294968319) ∨ x9 = 1099511627776)) hR_a_10 (show ((-2147483648 ≤ (1099511627776) ∧ (1099511627776) ≤ 4294968319) ∨ (1099511627776) = 1099511627776) by omega)
        obtain ⟨a_2004, ea_2004⟩ : ∃ a9 : Int → Int, a9 = zup a_10 (b) (1099511627776) := ⟨_, rfl⟩
        rw [← ea_2004] at hP hD ra_2004
        have hP : va_P (dC, dI) vwP [(h0, .inr (0, [v_0, v_1, v_2, v_3, v_4, v_5, v_6, v_7, v_8, .ref q_709, .ref q_710, .ref q_711, .ref q_712, v_13, v_14, v_15, v_16, v_17, v_18])), (q_709, .inl (cA_709, 300, .inl (fun j : Nat => zI (a_2003 (j : Int))))), (q_710, .inl (cA_710, 300, .inr (.inl (fun j : Nat => lI (a_2004 (j : Int)))))), (q_711, .inl (cA_711, 300, .inl (fun j : Nat => zI (a_11 (j : Int))))), (q_712, .inl (cA_712, 300, .inl (fun j : Nat => zI (a_2002 (j : Int)))))] H := hP
        have hD : va_D A [(h0, .inr (0, [v_0, v_1, v_2, v_3, v_4, v_5, v_6, v_7, v_8, .ref q_709, .ref q_710, .ref q_711, .ref q_712, v_13, v_14, v_15, v_16, v_17, v_18])), (q_709, .inl (cA_709, 300, .inl (fun j : Nat => zI (a_2003 (j : Int))))), (q_710, .inl (cA_710, 300, .inr (.inl (fun j : Nat => lI (a_2004 (j : Int)))))), (q_711, .inl (cA_711, 300, .inl (fun j : Nat => zI (a_11 (j : Int))))), (q_712, .inl (cA_712, 300, .inl (fun j : Nat => zI (a_2002 (j : Int)))))] := hD
        refine lv_iconst (v := 1) hx hb dX1_foldIf_78 (by decide) ?_
        subst hQ
        refine W.widen (k := 0) (n := 0) (Nat.le_of_ble_eq_true rfl) (Nat.le_of_ble_eq_true rfl) ?_
        exact W.zret (v := 1) hx hb hr (by decide) (fun t ht hW => ⟨⟨1, (), rfl, ⟨1, rfl, by omega⟩, a_2003, a_2004, a_11, a_2002, ⟨ra_2003, ra_2004, hR_a_11, ra_2002, (Or.inl ⟨by omega, ea_2003, ea_2004, (Or.inr ⟨by omega, rfl, ea_2002⟩)⟩)⟩, by rw [ht]; exact hP, va_K.moved hW.alike hK, hD⟩, hS.F ht⟩) hS.2.2 dX1_foldIf_79
      · have yb32 : (a_10 (b) : Int) = 0 := (lc_eq (a := a_10 (b)) (b := 0) (by omega) (by omega) (by omega) (by omega)).mp b32
        refine lv_aload_n hx hb dX1_foldIf_35 rfl (lv_at hl 0 rfl) ?_
        refine va_get (D := (dC, dI)) (ci := 0) (v := .ref q_711) (C := RX0) (T := TX0) (N := 19) hx hb hts mem_X1_foldIfM_0 hown hK hP 0 rfl rfl 11 (by decide) (ow (k := 5) rfl) (fun _ h9 => h9) rfl dX1_foldIf_36 ?_
        refine lv_iload_n hx hb dX1_foldIf_39 rfl (lv_at hl 1 rfl) ?_
        refine lv_aload_n hx hb dX1_foldIf_40 rfl (lv_at hl 0 rfl) ?_
        refine va_get (D := (dC, dI)) (ci := 0) (v := .ref q_712) (C := RX0) (T := TX0) (N := 19) hx hb hts mem_X1_foldIfM_0 hown hK hP 0 rfl rfl 12 (by decide) (ow (k := 4) rfl) (fun _ h9 => h9) rfl dX1_foldIf_41 ?_
        refine lv_iload_n hx hb dX1_foldIf_44 rfl (lv_at hl 1 rfl) ?_
        refine va_iald hx hb hK hP 4 3 rfl rfl (zI_in (a := b) (n := 300) (by omega) (by omega) (by decide)) dX1_foldIf_45 ?_
        refine lv_topi (fun z ez => ?_)
        obtain rfl : z = zI (a_12 (b)) := ez.trans (zI_ld (a_12) (by omega) (by omega))
        have k5 := hR_a_12 (b)
        refine va_iast (i := zI (b)) hx hb hK hP hD hS 3 2 rfl rfl (zI_in (a := b) (n := 300) (by omega) (by omega) (by decide)) dX1_foldIf_46 (fun H locs hP hD hS => ?_)
        have eQ : upd (fun j : Nat => zI (a_11 (j : Int))) (zI (b)).toNatClampNeg (zI (a_12 (b))) = (fun j : Nat => zI (zup a_11 (b) (a_12 (b)) (j : Int))) := zI_st a_11 (e := b) (v := a_12 (b)) (by omega) (by omega)
        rw [eQ] at hP hD
        clear eQ
        have ra_2005 : ∀ j : Int, -1 ≤ zup a_11 (b) (a_12 (b)) j ∧ zup a_11 (b) (a_12 (b)) j ≤ 299 := zup_P (P := fun x9 => -1 ≤ x9 ∧ x9 ≤ 299) hR_a_11 (show -1 ≤ (a_12 (b)) ∧ (a_12 (b)) ≤ 299 by omega)
        obtain ⟨a_2005, ea_2005⟩ : ∃ a9 : Int → Int, a9 = zup a_11 (b) (a_12 (b)) := ⟨_, rfl⟩
        rw [← ea_2005] at hP hD ra_2005
        have hP : va_P (dC, dI) vwP [(h0, .inr (0, [v_0, v_1, v_2, v_3, v_4, v_5, v_6, v_7, v_8, .ref q_709, .ref q_710, .ref q_711, .ref q_712, v_13, v_14, v_15, v_16, v_17, v_18])), (q_709, .inl (cA_709, 300, .inl (fun j : Nat => zI (a_9 (j : Int))))), (q_710, .inl (cA_710, 300, .inr (.inl (fun j : Nat => lI (a_10 (j : Int)))))), (q_711, .inl (cA_711, 300, .inl (fun j : Nat => zI (a_2005 (j : Int))))), (q_712, .inl (cA_712, 300, .inl (fun j : Nat => zI (a_12 (j : Int)))))] H := hP
        have hD : va_D A [(h0, .inr (0, [v_0, v_1, v_2, v_3, v_4, v_5, v_6, v_7, v_8, .ref q_709, .ref q_710, .ref q_711, .ref q_712, v_13, v_14, v_15, v_16, v_17, v_18])), (q_709, .inl (cA_709, 300, .inl (fun j : Nat => zI (a_9 (j : Int))))), (q_710, .inl (cA_710, 300, .inr (.inl (fun j : Nat => lI (a_10 (j : Int)))))), (q_711, .inl (cA_711, 300, .inl (fun j : Nat => zI (a_2005 (j : Int))))), (q_712, .inl (cA_712, 300, .inl (fun j : Nat => zI (a_12 (j : Int)))))] := hD
        refine lv_goto (tgt := 62) hx hb dX1_foldIf_47 (by decide) ?_
        refine lv_aload_n hx hb dX1_foldIf_62 rfl (lv_at hl 0 rfl) ?_
        refine va_get (D := (dC, dI)) (ci := 0) (v := .ref q_709) (C := RX0) (T := TX0) (N := 19) hx hb hts mem_X1_foldIfM_0 hown hK hP 0 rfl rfl 9 (by decide) (ow (k := 0) rfl) (fun _ h9 => h9) rfl dX1_foldIf_63 ?_
        refine lv_iload_n hx hb dX1_foldIf_66 rfl (lv_at hl 1 rfl) ?_
        refine lv_iconst (v := 0) hx hb dX1_foldIf_67 (by decide) ?_
        refine va_iast (i := zI (b)) hx hb hK hP hD hS 1 0 rfl rfl (zI_in (a := b) (n := 300) (by omega) (by omega) (by decide)) dX1_foldIf_68 (fun H locs hP hD hS => ?_)
        have eQ : upd (fun j : Nat => zI (a_9 (j : Int))) (zI (b)).toNatClampNeg 0 = (fun j : Nat => zI (zup a_9 (b) (0) (j : Int))) := zI_st a_9 (e := b) (v := 0) (by omega) (by omega)
        rw [eQ] at hP hD
        clear eQ
        have ra_2006 : ∀ j : Int, 0 ≤ zup a_9 (b) (0) j ∧ zup a_9 (b) (0) j ≤ 2 := zup_P (P := fun x9 => 0 ≤ x9 ∧ x9 ≤ 2) hR_a_9 (show 0 ≤ (0) ∧ (0) ≤ 2 by omega)
        obtain ⟨a_2006, ea_2006⟩ : ∃ a9 : Int → Int, a9 = zup a_9 (b) (0) := ⟨_, rfl⟩
        rw [← ea_2006] at hP hD ra_2006
        have hP : va_P (dC, dI) vwP [(h0, .inr (0, [v_0, v_1, v_2, v_3, v_4, v_5, v_6, v_7, v_8, .ref q_709, .ref q_710, .ref q_711, .ref q_712, v_13, v_14, v_15, v_16, v_17, v_18])), (q_709, .inl (cA_709, 300, .inl (fun j : Nat => zI (a_2006 (j : Int))))), (q_710, .inl (cA_710, 300, .inr (.inl (fun j : Nat => lI (a_10 (j : Int)))))), (q_711, .inl (cA_711, 300, .inl (fun j : Nat => zI (a_2005 (j : Int))))), (q_712, .inl (cA_712, 300, .inl (fun j : Nat => zI (a_12 (j : Int)))))] H := hP
        have hD : va_D A [(h0, .inr (0, [v_0, v_1, v_2, v_3, v_4, v_5, v_6, v_7, v_8, .ref q_709, .ref q_710, .ref q_711, .ref q_712, v_13, v_14, v_15, v_16, v_17, v_18])), (q_709, .inl (cA_709, 300, .inl (fun j : Nat => zI (a_2006 (j : Int))))), (q_710, .inl (cA_710, 300, .inr (.inl (fun j : Nat => lI (a_10 (j : Int)))))), (q_711, .inl (cA_711, 300, .inl (fun j : Nat => zI (a_2005 (j : Int))))), (q_712, .inl (cA_712, 300, .inl (fun j : Nat => zI (a_12 (j : Int)))))] := hD
        refine lv_aload_n hx hb dX1_foldIf_69 rfl (lv_at hl 0 rfl) ?_
        refine va_get (D := (dC, dI)) (ci := 0) (v := .ref q_710) (C := RX0) (T := TX0) (N := 19) hx hb hts mem_X1_foldIfM_0 hown hK hP 0 rfl rfl 10 (by decide) (ow (k := 1) rfl) (fun _ h9 => h9) rfl dX1_foldIf_70 ?_
        refine lv_iload_n hx hb dX1_foldIf_73 rfl (lv_at hl 1 rfl) ?_
        refine lv_ldc2 (v := 1099511627776) hx hb hown (ow (k := 6) rfl) dX1_foldIf_74 ?_
        refine lv_topl (fun z ez => ?_)
        obtain rfl : z = lI (1099511627776) := ez
        refine va_last (i := zI (b)) hx hb hK hP hD hS 2 1 rfl rfl (zI_in (a := b) (n := 300) (by omega) (by omega) (by decide)) dX1_foldIf_77 (fun H locs hP hD hS => ?_)
        have eQ : vp_updL (fun j : Nat => lI (a_10 (j : Int))) (zI (b)).toNatClampNeg (lI (1099511627776)) = (fun j : Nat => lI (zup a_10 (b) (1099511627776) (j : Int))) := lI_st a_10 (e := b) (v := 1099511627776) (by omega) (by omega)
        rw [eQ] at hP hD
        clear eQ
        have ra_2007 : ∀ j : Int, ((-2147483648 ≤ zup a_10 (b) (1099511627776) j ∧ zup a_10 (b) (1099511627776) j ≤ 4294968319) ∨ zup a_10 (b) (1099511627776) j = 1099511627776) := zup_P (P := fun x9 => ((-2147483648 ≤ x9 ∧ x9 ≤ 4294968319) ∨ x9 = 1099511627776)) hR_a_10 (show ((-2147483648 ≤ (1099511627776) ∧ (1099511627776) ≤ 4294968319) ∨ (1099511627776) = 1099511627776) by omega)
        obtain ⟨a_2007, ea_2007⟩ : ∃ a9 : Int → Int, a9 = zup a_10 (b) (1099511627776) := ⟨_, rfl⟩
        rw [← ea_2007] at hP hD ra_2007
        have hP : va_P (dC, dI) vwP [(h0, .inr (0, [v_0, v_1, v_2, v_3, v_4, v_5, v_6, v_7, v_8, .ref q_709, .ref q_710, .ref q_711, .ref q_712, v_13, v_14, v_15, v_16, v_17, v_18])), (q_709, .inl (cA_709, 300, .inl (fun j : Nat => zI (a_2006 (j : Int))))), (q_710, .inl (cA_710, 300, .inr (.inl (fun j : Nat => lI (a_2007 (j : Int)))))), (q_711, .inl (cA_711, 300, .inl (fun j : Nat => zI (a_2005 (j : Int))))), (q_712, .inl (cA_712, 300, .inl (fun j : Nat => zI (a_12 (j : Int)))))] H := hP
        have hD : va_D A [(h0, .inr (0, [v_0, v_1, v_2, v_3, v_4, v_5, v_6, v_7, v_8, .ref q_709, .ref q_710, .ref q_711, .ref q_712, v_13, v_14, v_15, v_16, v_17, v_18])), (q_709, .inl (cA_709, 300, .inl (fun j : Nat => zI (a_2006 (j : Int))))), (q_710, .inl (cA_710, 300, .inr (.inl (fun j : Nat => lI (a_2007 (j : Int)))))), (q_711, .inl (cA_711, 300, .inl (fun j : Nat => zI (a_2005 (j : Int))))), (q_712, .inl (cA_712, 300, .inl (fun j : Nat => zI (a_12 (j : Int)))))] := hD
        refine lv_iconst (v := 1) hx hb dX1_foldIf_78 (by decide) ?_
        subst hQ
        refine W.widen (k := 0) (n := 0) (Nat.le_of_ble_eq_true rfl) (Nat.le_of_ble_eq_true rfl) ?_
        exact W.zret (v := 1) hx hb hr (by decide) (fun t ht hW => ⟨⟨1, (), rfl, ⟨1, rfl, by omega⟩, a_2006, a_2007, a_2005, a_12, ⟨ra_2006, ra_2007, ra_2005, hR_a_12, (Or.inl ⟨by omega, ea_2006, ea_2007, (Or.inl ⟨by omega, ea_2005, rfl⟩)⟩)⟩, by rw [ht]; exact hP, va_K.moved hW.alike hK, hD⟩, hS.F ht⟩) hS.2.2 dX1_foldIf_79
    · have yb19 : (isN (a_10 (b)) : Int) = (0 : Int) := (zI_eq (a := isN (a_10 (b))) (b := 0) (by omega) (by omega) (by omega) (by omega)).mp b19
      refine lv_iconst (v := 0) hx hb dX1_foldIf_22 (by decide) ?_
      subst hQ
      refine W.widen (k := 0) (n := 0) (Nat.le_of_ble_eq_true rfl) (Nat.le_of_ble_eq_true rfl) ?_
      exact W.zret (v := 0) hx hb hr (by decide) (fun t ht hW => ⟨⟨0, (), rfl, ⟨0, rfl, by omega⟩, a_9, a_10, a_11, a_12, ⟨hR_a_9, hR_a_10, hR_a_11, hR_a_12, (Or.inr ⟨by omega, rfl, rfl, rfl, rfl⟩)⟩, by rw [ht]; exact hP, va_K.moved hW.alike hK, hD⟩, hS.F ht⟩) hS.2.2 dX1_foldIf_23
