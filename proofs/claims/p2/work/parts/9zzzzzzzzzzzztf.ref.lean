def o_X19_replaceE : List Cond := [.fieldLink RX19 284 "SsaForgeModel" "replaced" "[Z", .fieldLink RX19 287 "SsaForgeModel" "by" "[I", .fieldLink RX19 290 "SsaForgeModel" "byReg" "[Z"]
def v_X19_replaceE : List Cond := .code yX19_replace cX19_replace 4 none :: (o_X19_replaceE ++ (wsX190 ++ []))
theorem mow_X19_replaceE : ∀ w ∈ o_X19_replaceE, w ∈ v_X19_replaceE := fun _ h => List.mem_cons_of_mem _ (List.mem_append_left _ h)
theorem mem_X19_replaceE_0 : ∀ w ∈ wsX190, w ∈ v_X19_replaceE := fun _ h => List.mem_cons_of_mem _ (List.mem_append_right _ (List.mem_append_left _ h))
set_option maxRecDepth 20000 in
theorem gw_X19_replaceE : v_X19_replaceE.all goodWord = true := by decide +kernel
set_option maxHeartbeats 4000000 in
set_option maxRecDepth 100000 in
theorem c_X19_replaceE (l : Launch) (dC : Nat → ClassId) (dI : Nat → Nat → Nat) (h0 : Nat) (v19_0 : Value) (v19_1 : Value) (v19_2 : Value) (v19_3 : Value) (v19_4 : Value) (v19_5 : Value) (v19_6 : Value) (v19_7 : Value) (v19_8 : Value) (v19_9 : Value) (v19_10 : Value) (v19_11 : Value) (q_1912 : Nat) (cA_1912 : ClassId) (a19_replaced : Int → Int) (q_1913 : Nat) (cA_1913 : ClassId) (a19_byReg : Int → Int) (q_1914 : Nat) (cA_1914 : ClassId) (a19_by : Int → Int) (v19_15 : Value) (v19_16 : Value) (v19_17 : Value) (v19_18 : Value) (v19_19 : Value) (v19_20 : Value) (v19_21 : Value) (v19_22 : Value) (v19_23 : Value) (v19_24 : Value) (v19_25 : Value) (v19_26 : Value) (v19_27 : Value) (v19_28 : Value) (v19_29 : Value) (v19_30 : Value) (v19_31 : Value) (v19_32 : Value) (v19_33 : Value) (v19_34 : Value) (v19_35 : Value) (v19_36 : Value) (v19_37 : Value) (v19_38 : Value) (v19_39 : Value) (v19_40 : Value) (r0 : Int) (x : Int) (g : Int) (hR_a19_replaced : ∀ j : Int, 0 ≤ a19_replaced j ∧ a19_replaced j ≤ 1) (hR_a19_byReg : ∀ j : Int, 0 ≤ a19_byReg j ∧ a19_byReg j ≤ 1) (hR_a19_by : ∀ j : Int, -2147483648 ≤ a19_by j ∧ a19_by j ≤ 2147483647) (hNr : 0 ≤ r0 ∧ r0 ≤ 1001) (hNx : -2147483648 ≤ x ∧ x ≤ 2147483647) (hNg : (0 ≤ g ∧ g ≤ 1) ∧ (g = 0 ∨ (0 ≤ x ∧ x ≤ 1001))) (hX_R : RPL a19_replaced a19_byReg a19_by) (sz : Nat) : Met l yX19_replace v_X19_replaceE ({ frames := 0, cells := 0, slots := 0, locals := 0 }) (va_Pc [.ref h0, .int (zI (r0)), .int (zI (x)), .int (zI (g))] (fun U => U.heap.size = sz ∧ va_P (dC, dI) vwQ [(h0, .inr (16, [v19_0, v19_1, v19_2, v19_3, v19_4, v19_5, v19_6, v19_7, v19_8, v19_9, v19_10, v19_11, .ref q_1912, .ref q_1913, .ref q_1914, v19_15, v19_16, v19_17, v19_18, v19_19, v19_20, v19_21, v19_22, v19_23, v19_24, v19_25, v19_26, v19_27, v19_28, v19_29, v19_30, v19_31, v19_32, v19_33, v19_34, v19_35, v19_36, v19_37, v19_38, v19_39, v19_40])), (q_1912, .inl (cA_1912, 1002, .inl (fun j : Nat => zI (a19_replaced (j : Int))))), (q_1913, .inl (cA_1913, 1002, .inl (fun j : Nat => zI (a19_byReg (j : Int))))), (q_1914, .inl (cA_1914, 1002, .inl (fun j : Nat => zI (a19_by (j : Int)))))] U.heap ∧ va_K (dC, dI) vwQ [(cA_1912, .boolean), (cA_1913, .boolean), (cA_1914, .int)] U ∧ va_D (fun _ => True) [(h0, .inr (16, [v19_0, v19_1, v19_2, v19_3, v19_4, v19_5, v19_6, v19_7, v19_8, v19_9, v19_10, v19_11, .ref q_1912, .ref q_1913, .ref q_1914, v19_15, v19_16, v19_17, v19_18, v19_19, v19_20, v19_21, v19_22, v19_23, v19_24, v19_25, v19_26, v19_27, v19_28, v19_29, v19_30, v19_31, v19_32, v19_33, v19_34, v19_35, v19_36, v19_37, v19_38, v19_39, v19_40])), (q_1912, .inl (cA_1912, 1002, .inl (fun j : Nat => zI (a19_replaced (j : Int))))), (q_1913, .inl (cA_1913, 1002, .inl (fun j : Nat => zI (a19_byReg (j : Int))))), (q_1914, .inl (cA_1914, 1002, .inl (fun j : Nat => zI (a19_by (j : Int)))))])) (va_Qv (fun _ : Unit => True) (fun (_ : Unit) (t : State) => ∃ (a0_9 : Int → Int) (a1_9 : Int → Int) (a2_9 : Int → Int), ((∀ j : Int, 0 ≤ a0_9 j ∧ a0_9 j ≤ 1) ∧ (∀ j : Int, 0 ≤ a1_9 j ∧ a1_9 j ≤ 1) ∧ (∀ j : Int, -2147483648 ≤ a2_9 j ∧ a2_9 j ≤ 2147483647) ∧ (RPL a0_9 a1_9 a2_9 ∧ a0_9 = zup a19_replaced r0 1 ∧ a1_9 = zup a19_byReg r0 g ∧ a2_9 = zup a19_by r0 x)) ∧ va_P (dC, dI) vwQ [(h0, .inr (16, [v19_0, v19_1, v19_2, v19_3, v19_4, v19_5, v19_6, v19_7, v19_8, v19_9, v19_10, v19_11, .ref q_1912, .ref q_1913, .ref q_1914, v19_15, v19_16, v19_17, v19_18, v19_19, v19_20, v19_21, v19_22, v19_23, v19_24, v19_25, v19_26, v19_27, v19_28, v19_29, v19_30, v19_31, v19_32, v19_33, v19_34, v19_35, v19_36, v19_37, v19_38, v19_39, v19_40])), (q_1912, .inl (cA_1912, 1002, .inl (fun j : Nat => zI (a0_9 (j : Int))))), (q_1913, .inl (cA_1913, 1002, .inl (fun j : Nat => zI (a1_9 (j : Int))))), (q_1914, .inl (cA_1914, 1002, .inl (fun j : Nat => zI (a2_9 (j : Int)))))] t.heap ∧ va_K (dC, dI) vwQ [(cA_1912, .boolean), (cA_1913, .boolean), (cA_1914, .int)] t ∧ va_D (va_A [(h0, .inr (16, [v19_0, v19_1, v19_2, v19_3, v19_4, v19_5, v19_6, v19_7, v19_8, v19_9, v19_10, v19_11, .ref q_1912, .ref q_1913, .ref q_1914, v19_15, v19_16, v19_17, v19_18, v19_19, v19_20, v19_21, v19_22, v19_23, v19_24, v19_25, v19_26, v19_27, v19_28, v19_29, v19_30, v19_31, v19_32, v19_33, v19_34, v19_35, v19_36, v19_37, v19_38, v19_39, v19_40])), (q_1912, .inl (cA_1912, 1002, .inl (fun j : Nat => zI (a19_replaced (j : Int))))), (q_1913, .inl (cA_1913, 1002, .inl (fun j : Nat => zI (a19_byReg (j : Int))))), (q_1914, .inl (cA_1914, 1002, .inl (fun j : Nat => zI (a19_by (j : Int)))))] sz) [(h0, .inr (16, [v19_0, v19_1, v19_2, v19_3, v19_4, v19_5, v19_6, v19_7, v19_8, v19_9, v19_10, v19_11, .ref q_1912, .ref q_1913, .ref q_1914, v19_15, v19_16, v19_17, v19_18, v19_19, v19_20, v19_21, v19_22, v19_23, v19_24, v19_25, v19_26, v19_27, v19_28, v19_29, v19_30, v19_31, v19_32, v19_33, v19_34, v19_35, v19_36, v19_37, v19_38, v19_39, v19_40])), (q_1912, .inl (cA_1912, 1002, .inl (fun j : Nat => zI (a0_9 (j : Int))))), (q_1913, .inl (cA_1913, 1002, .inl (fun j : Nat => zI (a1_9 (j : Int))))), (q_1914, .inl (cA_1914, 1002, .inl (fun j : Nat => zI (a2_9 (j : Int)))))]) (va_A [(h0, .inr (16, [v19_0, v19_1, v19_2, v19_3, v19_4, v19_5, v19_6, v19_7, v19_8, v19_9, v19_10, v19_11, .ref q_1912, .ref q_1913, .ref q_1914, v19_15, v19_16, v19_17, v19_18, v19_19, v19_20, v19_21, v19_22, v19_23, v19_24, v19_25, v19_26, v19_27, v19_28, v19_29, v19_30, v19_31, v19_32, v19_33, v19_34, v19_35, v19_36, v19_37, v19_38, v19_39, v19_40])), (q_1912, .inl (cA_1912, 1002, .inl (fun j : Nat => zI (a19_replaced (j : Int))))), (q_1913, .inl (cA_1913, 1002, .inl (fun j : Nat => zI (a19_byReg (j : Int))))), (q_1914, .inl (cA_1914, 1002, .inl (fun j : Nat => zI (a19_by (j : Int)))))] sz)) 0 0 (va_A [(h0, .inr (16, [v19_0, v19_1, v19_2, v19_3, v19_4, v19_5, v19_6, v19_7, v19_8, v19_9, v19_10, v19_11, .ref q_1912, .ref q_1913, .ref q_1914, v19_15, v19_16, v19_17, v19_18, v19_19, v19_20, v19_21, v19_22, v19_23, v19_24, v19_25, v19_26, v19_27, v19_28, v19_29, v19_30, v19_31, v19_32, v19_33, v19_34, v19_35, v19_36, v19_37, v19_38, v19_39, v19_40])), (q_1912, .inl (cA_1912, 1002, .inl (fun j : Nat => zI (a19_replaced (j : Int))))), (q_1913, .inl (cA_1913, 1002, .inl (fun j : Nat => zI (a19_byReg (j : Int))))), (q_1914, .inl (cA_1914, 1002, .inl (fun j : Nat => zI (a19_by (j : Int)))))] sz) := by
  refine Met.ofW (cc := cX19_replace) (maxL := 4) (ret := none) (by decide) rfl ?_
  intro p e s m args below meth c s₁ B hml hv
  obtain ⟨rfl, hsz, hP, hK, hD0⟩ := hv
  have hx := B.exec
  have hb := B.bytes
  have hr := B.returns
  have hts := atoms_spec (ws := v_X19_replaceE) B.pre
  have hown : s.vm.findClass RX19 = some m.cls := findClass_of_methodNamed B.named
  have hlocks := B.notSynchronized
  have ow : ∀ {k : Nat} {w : Cond}, o_X19_replaceE[k]? = some w → w.before ([.ref h0, .int (zI (r0)), .int (zI (x)), .int (zI (g))] : List Value).toArray s = true := fun h => hts _ (mow_X19_replaceE _ (List.mem_of_getElem? h))
  subst hsz
  have hD := hD0.self (sz := s.heap.size)
  generalize hAe : va_A [(h0, .inr (16, [v19_0, v19_1, v19_2, v19_3, v19_4, v19_5, v19_6, v19_7, v19_8, v19_9, v19_10, v19_11, .ref q_1912, .ref q_1913, .ref q_1914, v19_15, v19_16, v19_17, v19_18, v19_19, v19_20, v19_21, v19_22, v19_23, v19_24, v19_25, v19_26, v19_27, v19_28, v19_29, v19_30, v19_31, v19_32, v19_33, v19_34, v19_35, v19_36, v19_37, v19_38, v19_39, v19_40])), (q_1912, .inl (cA_1912, 1002, .inl (fun j : Nat => zI (a19_replaced (j : Int))))), (q_1913, .inl (cA_1913, 1002, .inl (fun j : Nat => zI (a19_byReg (j : Int))))), (q_1914, .inl (cA_1914, 1002, .inl (fun j : Nat => zI (a19_by (j : Int)))))] s.heap.size = A at hD ⊢
  have hA : ∀ q : Nat, s.heap.size ≤ q → A q := fun q h => by rw [← hAe]; exact Or.inr h
  have hS : va_S A s.heap s.heap [] := va_S.rf
  have hP : va_P (dC, dI) vwQ [(h0, .inr (16, [v19_0, v19_1, v19_2, v19_3, v19_4, v19_5, v19_6, v19_7, v19_8, v19_9, v19_10, v19_11, .ref q_1912, .ref q_1913, .ref q_1914, v19_15, v19_16, v19_17, v19_18, v19_19, v19_20, v19_21, v19_22, v19_23, v19_24, v19_25, v19_26, v19_27, v19_28, v19_29, v19_30, v19_31, v19_32, v19_33, v19_34, v19_35, v19_36, v19_37, v19_38, v19_39, v19_40])), (q_1912, .inl (cA_1912, 1002, .inl (fun j : Nat => zI (a19_replaced (j : Int))))), (q_1913, .inl (cA_1913, 1002, .inl (fun j : Nat => zI (a19_byReg (j : Int))))), (q_1914, .inl (cA_1914, 1002, .inl (fun j : Nat => zI (a19_by (j : Int)))))] s.heap := hP
  have hl := lv_entry ([.ref h0, .int (zI (r0)), .int (zI (x)), .int (zI (g))]) (n := 4) (Nat.le_of_ble_eq_true rfl)
  rw [lg_entry_eq]
  generalize (lg_sl ([.ref h0, .int (zI (r0)), .int (zI (x)), .int (zI (g))]) ++ List.replicate (4 - (lg_sl ([.ref h0, .int (zI (r0)), .int (zI (x)), .int (zI (g))])).length) Slot.unset).toArray = ls at hl ⊢
  have hl : lv_has ls 4 [(0, .ref h0), (1, .int (zI (r0))), (2, .int (zI (x))), (3, .int (zI (g)))] := hl
  obtain ⟨H, hH⟩ : ∃ H, H = s.heap := ⟨_, rfl⟩
  rw [← hH] at hP
  have hS : va_S A s.heap H [] := by rw [hH]; exact hS
  rw [← hH]
  refine zW_cap (fun Q hQ => ?_)
  refine lv_aload_n hx hb dX19_replace_0 rfl (lv_at hl 0 rfl) ?_
  refine va_get (D := (dC, dI)) (ci := 16) (v := .ref q_1912) (C := RX19) (T := TX19) (N := 41) hx hb hts mem_X19_replaceE_0 hown hK hP 0 rfl rfl 12 (by decide) (ow (k := 0) rfl) (fun _ h9 => h9) rfl dX19_replace_1 ?_
  refine lv_iload_n hx hb dX19_replace_4 rfl (lv_at hl 1 rfl) ?_
  refine lv_iconst (v := 1) hx hb dX19_replace_5 (by decide) ?_
  refine va_zast (i := zI (r0)) hx hb hK hP hD hS 1 0 rfl rfl (zI_in (a := r0) (n := 1002) (by omega) (by omega) (by decide)) dX19_replace_6 (fun H locs hP hD hS => ?_)
  rw [show vp_nar .boolean 1 = 1 from zI_nar (a := 1) (by omega) (by omega)] at hP hD
  have eQ : upd (fun j : Nat => zI (a19_replaced (j : Int))) (zI (r0)).toNatClampNeg 1 = (fun j : Nat => zI (zup a19_replaced (r0) (1) (j : Int))) := zI_st a19_replaced (e := r0) (v := 1) (by omega) (by omega)
  rw [eQ] at hP hD
  clear eQ
  have ra_2001 : ∀ j : Int, 0 ≤ zup a19_replaced (r0) (1) j ∧ zup a19_replaced (r0) (1) j ≤ 1 := zup_P (P := fun x9 => 0 ≤ x9 ∧ x9 ≤ 1) hR_a19_replaced (show 0 ≤ (1) ∧ (1) ≤ 1 by omega)
  obtain ⟨a_2001, ea_2001⟩ : ∃ a9 : Int → Int, a9 = zup a19_replaced (r0) (1) := ⟨_, rfl⟩
  rw [← ea_2001] at hP hD ra_2001
  have hP : va_P (dC, dI) vwQ [(h0, .inr (16, [v19_0, v19_1, v19_2, v19_3, v19_4, v19_5, v19_6, v19_7, v19_8, v19_9, v19_10, v19_11, .ref q_1912, .ref q_1913, .ref q_1914, v19_15, v19_16, v19_17, v19_18, v19_19, v19_20, v19_21, v19_22, v19_23, v19_24, v19_25, v19_26, v19_27, v19_28, v19_29, v19_30, v19_31, v19_32, v19_33, v19_34, v19_35, v19_36, v19_37, v19_38, v19_39, v19_40])), (q_1912, .inl (cA_1912, 1002, .inl (fun j : Nat => zI (a_2001 (j : Int))))), (q_1913, .inl (cA_1913, 1002, .inl (fun j : Nat => zI (a19_byReg (j : Int))))), (q_1914, .inl (cA_1914, 1002, .inl (fun j : Nat => zI (a19_by (j : Int)))))] H := hP
  have hD : va_D A [(h0, .inr (16, [v19_0, v19_1, v19_2, v19_3, v19_4, v19_5, v19_6, v19_7, v19_8, v19_9, v19_10, v19_11, .ref q_1912, .ref q_1913, .ref q_1914, v19_15, v19_16, v19_17, v19_18, v19_19, v19_20, v19_21, v19_22, v19_23, v19_24, v19_25, v19_26, v19_27, v19_28, v19_29, v19_30, v19_31, v19_32, v19_33, v19_34, v19_35, v19_36, v19_37, v19_38, v19_39, v19_40])), (q_1912, .inl (cA_1912, 1002, .inl (fun j : Nat => zI (a_2001 (j : Int))))), (q_1913, .inl (cA_1913, 1002, .inl (fun j : Nat => zI (a19_byReg (j : Int))))), (q_1914, .inl (cA_1914, 1002, .inl (fun j : Nat => zI (a19_by (j : Int)))))] := hD
  refine lv_aload_n hx hb dX19_replace_7 rfl (lv_at hl 0 rfl) ?_
  refine va_get (D := (dC, dI)) (ci := 16) (v := .ref q_1914) (C := RX19) (T := TX19) (N := 41) hx hb hts mem_X19_replaceE_0 hown hK hP 0 rfl rfl 14 (by decide) (ow (k := 1) rfl) (fun _ h9 => h9) rfl dX19_replace_8 ?_
  refine lv_iload_n hx hb dX19_replace_11 rfl (lv_at hl 1 rfl) ?_
  refine lv_iload_n hx hb dX19_replace_12 rfl (lv_at hl 2 rfl) ?_
  refine va_iast (i := zI (r0)) hx hb hK hP hD hS 3 2 rfl rfl (zI_in (a := r0) (n := 1002) (by omega) (by omega) (by decide)) dX19_replace_13 (fun H locs hP hD hS => ?_)
  have eQ : upd (fun j : Nat => zI (a19_by (j : Int))) (zI (r0)).toNatClampNeg (zI (x)) = (fun j : Nat => zI (zup a19_by (r0) (x) (j : Int))) := zI_st a19_by (e := r0) (v := x) (by omega) (by omega)
  rw [eQ] at hP hD
  clear eQ
  have ra_2002 : ∀ j : Int, -2147483648 ≤ zup a19_by (r0) (x) j ∧ zup a19_by (r0) (x) j ≤ 2147483647 := zup_P (P := fun x9 => -2147483648 ≤ x9 ∧ x9 ≤ 2147483647) hR_a19_by (show -2147483648 ≤ (x) ∧ (x) ≤ 2147483647 by omega)
  obtain ⟨a_2002, ea_2002⟩ : ∃ a9 : Int → Int, a9 = zup a19_by (r0) (x) := ⟨_, rfl⟩
  rw [← ea_2002] at hP hD ra_2002
  have hP : va_P (dC, dI) vwQ [(h0, .inr (16, [v19_0, v19_1, v19_2, v19_3, v19_4, v19_5, v19_6, v19_7, v19_8, v19_9, v19_10, v19_11, .ref q_1912, .ref q_1913, .ref q_1914, v19_15, v19_16, v19_17, v19_18, v19_19, v19_20, v19_21, v19_22, v19_23, v19_24, v19_25, v19_26, v19_27, v19_28, v19_29, v19_30, v19_31, v19_32, v19_33, v19_34, v19_35, v19_36, v19_37, v19_38, v19_39, v19_40])), (q_1912, .inl (cA_1912, 1002, .inl (fun j : Nat => zI (a_2001 (j : Int))))), (q_1913, .inl (cA_1913, 1002, .inl (fun j : Nat => zI (a19_byReg (j : Int))))), (q_1914, .inl (cA_1914, 1002, .inl (fun j : Nat => zI (a_2002 (j : Int)))))] H := hP
  have hD : va_D A [(h0, .inr (16, [v19_0, v19_1, v19_2, v19_3, v19_4, v19_5, v19_6, v19_7, v19_8, v19_9, v19_10, v19_11, .ref q_1912, .ref q_1913, .ref q_1914, v19_15, v19_16, v19_17, v19_18, v19_19, v19_20, v19_21, v19_22, v19_23, v19_24, v19_25, v19_26, v19_27, v19_28, v19_29, v19_30, v19_31, v19_32, v19_33, v19_34, v19_35, v19_36, v19_37, v19_38, v19_39, v19_40])), (q_1912, .inl (cA_1912, 1002, .inl (fun j : Nat => zI (a_2001 (j : Int))))), (q_1913, .inl (cA_1913, 1002, .inl (fun j : Nat => zI (a19_byReg (j : Int))))), (q_1914, .inl (cA_1914, 1002, .inl (fun j : Nat => zI (a_2002 (j : Int)))))] := hD
  refine lv_aload_n hx hb dX19_replace_14 rfl (lv_at hl 0 rfl) ?_
  refine va_get (D := (dC, dI)) (ci := 16) (v := .ref q_1913) (C := RX19) (T := TX19) (N := 41) hx hb hts mem_X19_replaceE_0 hown hK hP 0 rfl rfl 13 (by decide) (ow (k := 2) rfl) (fun _ h9 => h9) rfl dX19_replace_15 ?_
  refine lv_iload_n hx hb dX19_replace_18 rfl (lv_at hl 1 rfl) ?_
  refine lv_iload_n hx hb dX19_replace_19 rfl (lv_at hl 3 rfl) ?_
  refine va_zast (i := zI (r0)) hx hb hK hP hD hS 2 1 rfl rfl (zI_in (a := r0) (n := 1002) (by omega) (by omega) (by decide)) dX19_replace_20 (fun H locs hP hD hS => ?_)
  rw [show vp_nar .boolean (zI (g)) = (zI (g)) from zI_nar (a := g) (by omega) (by omega)] at hP hD
  have eQ : upd (fun j : Nat => zI (a19_byReg (j : Int))) (zI (r0)).toNatClampNeg (zI (g)) = (fun j : Nat => zI (zup a19_byReg (r0) (g) (j : Int))) := zI_st a19_byReg (e := r0) (v := g) (by omega) (by omega)
  rw [eQ] at hP hD
  clear eQ
  have ra_2003 : ∀ j : Int, 0 ≤ zup a19_byReg (r0) (g) j ∧ zup a19_byReg (r0) (g) j ≤ 1 := zup_P (P := fun x9 => 0 ≤ x9 ∧ x9 ≤ 1) hR_a19_byReg (show 0 ≤ (g) ∧ (g) ≤ 1 by omega)
  obtain ⟨a_2003, ea_2003⟩ : ∃ a9 : Int → Int, a9 = zup a19_byReg (r0) (g) := ⟨_, rfl⟩
  rw [← ea_2003] at hP hD ra_2003
  have hP : va_P (dC, dI) vwQ [(h0, .inr (16, [v19_0, v19_1, v19_2, v19_3, v19_4, v19_5, v19_6, v19_7, v19_8, v19_9, v19_10, v19_11, .ref q_1912, .ref q_1913, .ref q_1914, v19_15, v19_16, v19_17, v19_18, v19_19, v19_20, v19_21, v19_22, v19_23, v19_24, v19_25, v19_26, v19_27, v19_28, v19_29, v19_30, v19_31, v19_32, v19_33, v19_34, v19_35, v19_36, v19_37, v19_38, v19_39, v19_40])), (q_1912, .inl (cA_1912, 1002, .inl (fun j : Nat => zI (a_2001 (j : Int))))), (q_1913, .inl (cA_1913, 1002, .inl (fun j : Nat => zI (a_2003 (j : Int))))), (q_1914, .inl (cA_1914, 1002, .inl (fun j : Nat => zI (a_2002 (j : Int)))))] H := hP
  have hD : va_D A [(h0, .inr (16, [v19_0, v19_1, v19_2, v19_3, v19_4, v19_5, v19_6, v19_7, v19_8, v19_9, v19_10, v19_11, .ref q_1912, .ref q_1913, .ref q_1914, v19_15, v19_16, v19_17, v19_18, v19_19, v19_20, v19_21, v19_22, v19_23, v19_24, v19_25, v19_26, v19_27, v19_28, v19_29, v19_30, v19_31, v19_32, v19_33, v19_34, v19_35, v19_36, v19_37, v19_38, v19_39, v19_40])), (q_1912, .inl (cA_1912, 1002, .inl (fun j : Nat => zI (a_2001 (j : Int))))), (q_1913, .inl (cA_1913, 1002, .inl (fun j : Nat => zI (a_2003 (j : Int))))), (q_1914, .inl (cA_1914, 1002, .inl (fun j : Nat => zI (a_2002 (j : Int)))))] := hD
  subst hQ
  refine W.widen (k := 0) (n := 0) (Nat.le_of_ble_eq_true rfl) (Nat.le_of_ble_eq_true rfl) ?_
  exact W.vret hx hb hr (fun t ht hW => ⟨⟨(), rfl, trivial, a_2001, a_2003, a_2002, ⟨ra_2001, ra_2003, ra_2002, ⟨(by rw [ea_2001, ea_2003, ea_2002]; exact hX_R.put (by omega)), ea_2001, ea_2003, ea_2002⟩⟩, by rw [ht]; exact hP, va_K.moved hW.alike hK, hD⟩, hS.F ht⟩) hS.2.2 dX19_replace_21
def o_P19_likeRowE : List Cond := [.fieldLink RX19 64 "SsaForgeModel$Row" "op" "I", .fieldLink RX19 233 "SsaForgeModel$Row" "regA" "Z", .methodLink RX19 306 yX19_turns, .static yX19_turns, .initialized RX19, .fieldLink RX19 240 "SsaForgeModel$Row" "regB" "Z", .fieldLink RX19 204 "SsaForgeModel$Row" "a" "I", .fieldLink RX19 210 "SsaForgeModel$Row" "b" "I"]
def v_P19_likeRowE : List Cond := .code yX19_like cX19_like 3 (some .boolean) :: (o_P19_likeRowE ++ (wsX170 ++ (v_X19_turns ++ [])))
theorem mow_P19_likeRowE : ∀ w ∈ o_P19_likeRowE, w ∈ v_P19_likeRowE := fun _ h => List.mem_cons_of_mem _ (List.mem_append_left _ h)
theorem mem_P19_likeRowE_0 : ∀ w ∈ wsX170, w ∈ v_P19_likeRowE := fun _ h => List.mem_cons_of_mem _ (List.mem_append_right _ (List.mem_append_left _ h))
theorem mem_P19_likeRowE_1 : ∀ w ∈ v_X19_turns, w ∈ v_P19_likeRowE := fun _ h => List.mem_cons_of_mem _ (List.mem_append_right _ (List.mem_append_right _ (List.mem_append_left _ h)))
set_option maxRecDepth 20000 in
theorem gw_P19_likeRowE : v_P19_likeRowE.all goodWord = true := by decide +kernel
set_option maxRecDepth 20000 in
theorem g_P19_likeRowE_X19_turns : GoodIn v_P19_likeRowE (wsS RX19 306 yX19_turns v_X19_turns) := goodIn_app (goodIn_sub (fun w h => mow_P19_likeRowE w (by revert w h; decide +kernel)) (by decide +kernel)) (goodIn_sub mem_P19_likeRowE_1 gw_X19_turns)
set_option maxHeartbeats 4000000 in
set_option maxRecDepth 100000 in
theorem c_P19_likeRowE (l : Launch) (dC : Nat → ClassId) (dI : Nat → Nat → Nat) (cO : ClassId) (L : List Nat) (P : PO) (xr : Nat) (xo : Nat) (hX_x : xr ∈ L) (hX_k : P.kd xr = 17) (hX_r : ROK9 P xr) (hX_y : xo ∈ L) (hX_j : P.kd xo = 17) (hX_t : ROK9 P xo) (sz : Nat) : Met l yX19_like v_P19_likeRowE ({ frames := 1, cells := 0, slots := 0, locals := 20 }) (va_Pc [.ref xr, .ref xo] (fun U => U.heap.size = sz ∧ va_P (dC, dI) vwQ ([] ++ va_pl L (pE P)) U.heap ∧ va_K (dC, dI) vwQ [(cO, .object "java/lang/Object")] U ∧ va_D (fun _ => True) ([] ++ va_pl L (pE P)))) (va_Qi (fun (r : Int32) (_ : Unit) => ∃ z : Int, r = zI z ∧ (0 ≤ z ∧ z ≤ 1 ∧ (z = 0 ∨ P.ro xr = P.ro xo))) (fun (_ : Unit) (t : State) => va_P (dC, dI) vwQ ([] ++ va_pl L (pE P)) t.heap ∧ va_K (dC, dI) vwQ [(cO, .object "java/lang/Object")] t ∧ va_D (va_A ([] ++ va_pl L (pE P)) sz) ([] ++ va_pl L (pE P))) (va_A ([] ++ va_pl L (pE P)) sz)) 0 0 (va_A ([] ++ va_pl L (pE P)) sz) := by
  refine Met.ofW (cc := cX19_like) (maxL := 3) (ret := (some .boolean)) (by decide) rfl ?_
  intro p e s m args below meth c s₁ B hml hv
  obtain ⟨rfl, hsz, hP, hK, hD0⟩ := hv
  have hx := B.exec
  have hb := B.bytes
  have hr := B.returns
  have hts := atoms_spec (ws := v_P19_likeRowE) B.pre
  have hown : s.vm.findClass RX19 = some m.cls := findClass_of_methodNamed B.named
  have hlocks := B.notSynchronized
  have ow : ∀ {k : Nat} {w : Cond}, o_P19_likeRowE[k]? = some w → w.before ([.ref xr, .ref xo] : List Value).toArray s = true := fun h => hts _ (mow_P19_likeRowE _ (List.mem_of_getElem? h))
  subst hsz
  have hD := hD0.self (sz := s.heap.size)
  generalize hAe : va_A ([] ++ va_pl L (pE P)) s.heap.size = A at hD ⊢
  have hA : ∀ q : Nat, s.heap.size ≤ q → A q := fun q h => by rw [← hAe]; exact Or.inr h
  have hS : va_S A s.heap s.heap [] := va_S.rf
  have hP : va_P (dC, dI) vwQ ([] ++ va_pl L (pE P)) s.heap := hP
  have hl := lv_entry ([.ref xr, .ref xo]) (n := 3) (Nat.le_of_ble_eq_true rfl)
  rw [lg_entry_eq]
  generalize (lg_sl ([.ref xr, .ref xo]) ++ List.replicate (3 - (lg_sl ([.ref xr, .ref xo])).length) Slot.unset).toArray = ls at hl ⊢
  have hl : lv_has ls 3 [(0, .ref xr), (1, .ref xo)] := hl
  obtain ⟨H, hH⟩ : ∃ H, H = s.heap := ⟨_, rfl⟩
  rw [← hH] at hP
  have hS : va_S A s.heap H [] := by rw [hH]; exact hS
  rw [← hH]
  refine zW_cap (fun Q hQ => ?_)
  have ⟨hr1, hr2, hr3, hr4, hr5, hr6, hr7, hr8, hr9⟩ := hX_r
  have ⟨hs1, hs2, hs3, hs4, hs5, hs6, hs7, hs8, hs9⟩ := hX_t
  refine lv_aload_n hx hb dX19_like_0 rfl (lv_at hl 0 rfl) ?_
  obtain ⟨kp_1, hkp_1⟩ := va_pl_get (X := []) (f := pE P) hX_x
  rw [pE_row hX_k] at hkp_1
  refine va_get (D := (dC, dI)) (ci := 21) (v := .int (zI (P.ro xr))) (C := RX17) (T := TX17) (N := 7) hx hb hts mem_P19_likeRowE_0 hown hK hP kp_1 hkp_1 rfl 0 (by decide) (ow (k := 0) rfl) (fun _ h9 => h9) rfl dX19_like_1 ?_
  refine lv_aload_n hx hb dX19_like_4 rfl (lv_at hl 1 rfl) ?_
  obtain ⟨kp_2, hkp_2⟩ := va_pl_get (X := []) (f := pE P) hX_y
  rw [pE_row hX_j] at hkp_2
  refine va_get (D := (dC, dI)) (ci := 21) (v := .int (zI (P.ro xo))) (C := RX17) (T := TX17) (N := 7) hx hb hts mem_P19_likeRowE_0 hown hK hP kp_2 hkp_2 rfl 0 (by decide) (ow (k := 0) rfl) (fun _ h9 => h9) rfl dX19_like_5 ?_
  refine lv_icmp_eq (tgt := 13) hx hb dX19_like_8 (by decide) (fun b8 => ?_) (fun b8 => ?_)
  · have yb8 : (P.ro xr : Int) = (P.ro xo : Int) := (zI_eq (a := P.ro xr) (b := P.ro xo) (by omega) (by omega) (by omega) (by omega)).mp b8
    refine lv_aload_n hx hb dX19_like_13 rfl (lv_at hl 0 rfl) ?_
    obtain ⟨kp_3, hkp_3⟩ := va_pl_get (X := []) (f := pE P) hX_x
    rw [pE_row hX_k] at hkp_3
    refine va_get (D := (dC, dI)) (ci := 21) (v := .int (zI (P.rA xr))) (C := RX17) (T := TX17) (N := 7) hx hb hts mem_P19_likeRowE_0 hown hK hP kp_3 hkp_3 rfl 4 (by decide) (ow (k := 1) rfl) (fun _ h9 => h9) rfl dX19_like_14 ?_
    refine lv_aload_n hx hb dX19_like_17 rfl (lv_at hl 1 rfl) ?_
    obtain ⟨kp_4, hkp_4⟩ := va_pl_get (X := []) (f := pE P) hX_y
    rw [pE_row hX_j] at hkp_4
    refine va_get (D := (dC, dI)) (ci := 21) (v := .int (zI (P.rA xo))) (C := RX17) (T := TX17) (N := 7) hx hb hts mem_P19_likeRowE_0 hown hK hP kp_4 hkp_4 rfl 4 (by decide) (ow (k := 1) rfl) (fun _ h9 => h9) rfl dX19_like_18 ?_
    have key62 : ∀ (ms62_0 : Int) (ls : Array Slot) (H : Heap) (locs : List Loc), (0 ≤ ms62_0 ∧ ms62_0 ≤ 1) → lv_has ls 3 [(0, .ref xr), (1, .ref xo)] → va_P (dC, dI) vwQ ([] ++ va_pl L (pE P)) H → va_D A ([] ++ va_pl L (pE P)) → va_S A s.heap H locs → W p l e (headSpec v_P19_likeRowE ({ frames := 1, cells := 0, slots := 0, locals := 20 })).room s m ([.ref xr, .ref xo] : List Value).toArray below meth c H locs 0 0 Q (F0 m 62 ls [.int (zI (ms62_0))]) := by
      intro ms62_0 ls H locs jms62_0 hl hP hD hS
      refine lv_istore_n (lv' := [(2, .int (zI (ms62_0))), (0, .ref xr), (1, .ref xo)]) hx hb dX19_like_62 rfl hl (by decide) rfl (fun ls hl => ?_)
      refine lv_iload_n hx hb dX19_like_63 rfl (lv_at hl 0 rfl) ?_
      refine lv_if_ne (tgt := 121) hx hb dX19_like_64 (by decide) (fun b64 => ?_) (fun b64 => ?_)
      · have yb64 : ¬ (ms62_0 : Int) = (0 : Int) := fun q => b64 ((zI_eq (a := ms62_0) (b := 0) (by omega) (by omega) (by omega) (by omega)).mpr q)
        refine lv_iconst (v := 1) hx hb dX19_like_121 (by decide) ?_
        refine lv_goto (tgt := 126) hx hb dX19_like_122 (by decide) ?_
        subst hQ
        refine W.widen (k := 0) (n := 0) (Nat.le_of_ble_eq_true rfl) (Nat.le_of_ble_eq_true rfl) ?_
        exact W.zret (v := 1) hx hb hr (by decide) (fun t ht hW => ⟨⟨1, (), rfl, ⟨1, rfl, (by omega)⟩, by rw [ht]; exact hP, va_K.moved hW.alike hK, hD⟩, hS.F ht⟩) hS.2.2 dX19_like_126
      · have yb64 : (ms62_0 : Int) = (0 : Int) := (zI_eq (a := ms62_0) (b := 0) (by omega) (by omega) (by omega) (by omega)).mp b64
        refine lv_aload_n hx hb dX19_like_67 rfl (lv_at hl 1 rfl) ?_
        obtain ⟨kp_5, hkp_5⟩ := va_pl_get (X := []) (f := pE P) hX_x
        rw [pE_row hX_k] at hkp_5
        refine va_get (D := (dC, dI)) (ci := 21) (v := .int (zI (P.ro xr))) (C := RX17) (T := TX17) (N := 7) hx hb hts mem_P19_likeRowE_0 hown hK hP kp_5 hkp_5 rfl 0 (by decide) (ow (k := 0) rfl) (fun _ h9 => h9) rfl dX19_like_68 ?_
        have hPc := hP.sub (ws' := []) [] rfl
        have hDc := hD.sub (ws' := []) [] (by decide) rfl
        have hKc := hK.sub (tys' := []) [] rfl
        have hFc := va_free (wc := []) hD hS hA [] rfl
        refine va_calli (va_runS (As := [.int (zI (P.ro xr))]) (rest := []) ⟨hx, hb, hml, hown, hts⟩ (c_X19_turns l dC dI (P.ro xr) (by omega) H.size) (cwS 1 hts g_P19_likeRowE_X19_turns rfl rfl rfl (by decide +kernel) ⟨(Nat.le_of_ble_eq_true rfl), (Nat.le_of_ble_eq_true rfl)⟩) ⟨fun a U g mk q => by obtain ⟨q0, q1, qP, qK, qD⟩ := q; exact ⟨q0, q1, qP, va_K.moved (u := U) (U := U.calling g mk a) (Vm.Alike.refl U.vm) qK, qD⟩, fun U hU hW => ⟨rfl, by rw [hU], by rw [hU]; exact hPc, va_K.moved hW.alike hKc, hDc.weaken (fun _ _ _ _ => trivial)⟩⟩ rfl rfl hl.1 rfl (lv_room (Nat.le_of_ble_eq_true rfl)) dX19_like_71 ⟨(Nat.le_of_ble_eq_true rfl), (Nat.le_of_ble_eq_true rfl)⟩) hS (fun q _ h => hFc q h) hFc (fun r_6 u t H1 locs ht hvm hw hB hz1 hk1 hS => ?_)
        obtain ⟨hP1, hK1, hD1⟩ := hB
        rw [ht] at hP1
        have hK1 := va_K.moved hvm.symm hK1
        obtain ⟨hP, hD⟩ := va_joinQ (X := []) (cx := []) (wr := []) (w1 := []) (pl := va_pl L (pE P)) hP hD [] [] rfl rfl (by decide) (by decide) hk1 hFc hP1 hD1
        have hK := (hK.sub (tys' := [(cO, .object "java/lang/Object")]) [0] rfl).app hK1
        generalize H1 = H at hP hS ⊢
        have hP : va_P (dC, dI) vwQ ([] ++ va_pl L (pE P)) H := hP
        have hD : va_D A ([] ++ va_pl L (pE P)) := hD
        have hK : va_K (dC, dI) vwQ [(cO, .object "java/lang/Object")] s := hK
        refine W.widen (k := 0) (n := 0) (Nat.le_of_ble_eq_true rfl) (Nat.le_of_ble_eq_true rfl) ?_
        have hw_7 := hw
        obtain ⟨z_8, rfl, hzz_8⟩ := hw_7
        refine lv_if_eq (tgt := 125) hx hb dX19_like_74 (by decide) (fun b74 => ?_) (fun b74 => ?_)
        · have yb74 : (z_8 : Int) = (0 : Int) := (zI_eq (a := z_8) (b := 0) (by omega) (by omega) (by omega) (by omega)).mp b74
          refine lv_iconst (v := 0) hx hb dX19_like_125 (by decide) ?_
          subst hQ
          refine W.widen (k := 0) (n := 0) (Nat.le_of_ble_eq_true rfl) (Nat.le_of_ble_eq_true rfl) ?_
          exact W.zret (v := 0) hx hb hr (by decide) (fun t ht hW => ⟨⟨0, (), rfl, ⟨0, rfl, (by omega)⟩, by rw [ht]; exact hP, va_K.moved hW.alike hK, hD⟩, hS.F ht⟩) hS.2.2 dX19_like_126
        · have yb74 : ¬ (z_8 : Int) = (0 : Int) := fun q => b74 ((zI_eq (a := z_8) (b := 0) (by omega) (by omega) (by omega) (by omega)).mpr q)
          refine lv_aload_n hx hb dX19_like_77 rfl (lv_at hl 1 rfl) ?_
          obtain ⟨kp_9, hkp_9⟩ := va_pl_get (X := []) (f := pE P) hX_x
          rw [pE_row hX_k] at hkp_9
          refine va_get (D := (dC, dI)) (ci := 21) (v := .int (zI (P.rA xr))) (C := RX17) (T := TX17) (N := 7) hx hb hts mem_P19_likeRowE_0 hown hK hP kp_9 hkp_9 rfl 4 (by decide) (ow (k := 1) rfl) (fun _ h9 => h9) rfl dX19_like_78 ?_
          refine lv_aload_n hx hb dX19_like_81 rfl (lv_at hl 2 rfl) ?_
          obtain ⟨kp_10, hkp_10⟩ := va_pl_get (X := []) (f := pE P) hX_y
          rw [pE_row hX_j] at hkp_10
          refine va_get (D := (dC, dI)) (ci := 21) (v := .int (zI (P.rB xo))) (C := RX17) (T := TX17) (N := 7) hx hb hts mem_P19_likeRowE_0 hown hK hP kp_10 hkp_10 rfl 5 (by decide) (ow (k := 5) rfl) (fun _ h9 => h9) rfl dX19_like_82 ?_
          refine lv_icmp_ne (tgt := 125) hx hb dX19_like_85 (by decide) (fun b85 => ?_) (fun b85 => ?_)
          · have yb85 : ¬ (P.rA xr : Int) = (P.rB xo : Int) := fun q => b85 ((zI_eq (a := P.rA xr) (b := P.rB xo) (by omega) (by omega) (by omega) (by omega)).mpr q)
            refine lv_iconst (v := 0) hx hb dX19_like_125 (by decide) ?_
            subst hQ
            refine W.widen (k := 0) (n := 0) (Nat.le_of_ble_eq_true rfl) (Nat.le_of_ble_eq_true rfl) ?_
            exact W.zret (v := 0) hx hb hr (by decide) (fun t ht hW => ⟨⟨0, (), rfl, ⟨0, rfl, (by omega)⟩, by rw [ht]; exact hP, va_K.moved hW.alike hK, hD⟩, hS.F ht⟩) hS.2.2 dX19_like_126
          · have yb85 : (P.rA xr : Int) = (P.rB xo : Int) := (zI_eq (a := P.rA xr) (b := P.rB xo) (by omega) (by omega) (by omega) (by omega)).mp b85
            refine lv_aload_n hx hb dX19_like_88 rfl (lv_at hl 1 rfl) ?_
            obtain ⟨kp_11, hkp_11⟩ := va_pl_get (X := []) (f := pE P) hX_x
            rw [pE_row hX_k] at hkp_11
            refine va_get (D := (dC, dI)) (ci := 21) (v := .int (zI (P.ra xr))) (C := RX17) (T := TX17) (N := 7) hx hb hts mem_P19_likeRowE_0 hown hK hP kp_11 hkp_11 rfl 2 (by decide) (ow (k := 6) rfl) (fun _ h9 => h9) rfl dX19_like_89 ?_
            refine lv_aload_n hx hb dX19_like_92 rfl (lv_at hl 2 rfl) ?_
            obtain ⟨kp_12, hkp_12⟩ := va_pl_get (X := []) (f := pE P) hX_y
            rw [pE_row hX_j] at hkp_12
            refine va_get (D := (dC, dI)) (ci := 21) (v := .int (zI (P.rb xo))) (C := RX17) (T := TX17) (N := 7) hx hb hts mem_P19_likeRowE_0 hown hK hP kp_12 hkp_12 rfl 3 (by decide) (ow (k := 7) rfl) (fun _ h9 => h9) rfl dX19_like_93 ?_
            refine lv_icmp_ne (tgt := 125) hx hb dX19_like_96 (by decide) (fun b96 => ?_) (fun b96 => ?_)
            · have yb96 : ¬ (P.ra xr : Int) = (P.rb xo : Int) := fun q => b96 ((zI_eq (a := P.ra xr) (b := P.rb xo) (by omega) (by omega) (by omega) (by omega)).mpr q)
              refine lv_iconst (v := 0) hx hb dX19_like_125 (by decide) ?_
              subst hQ
              refine W.widen (k := 0) (n := 0) (Nat.le_of_ble_eq_true rfl) (Nat.le_of_ble_eq_true rfl) ?_
              exact W.zret (v := 0) hx hb hr (by decide) (fun t ht hW => ⟨⟨0, (), rfl, ⟨0, rfl, (by omega)⟩, by rw [ht]; exact hP, va_K.moved hW.alike hK, hD⟩, hS.F ht⟩) hS.2.2 dX19_like_126
            · have yb96 : (P.ra xr : Int) = (P.rb xo : Int) := (zI_eq (a := P.ra xr) (b := P.rb xo) (by omega) (by omega) (by omega) (by omega)).mp b96
              refine lv_aload_n hx hb dX19_like_99 rfl (lv_at hl 1 rfl) ?_
              obtain ⟨kp_13, hkp_13⟩ := va_pl_get (X := []) (f := pE P) hX_x
              rw [pE_row hX_k] at hkp_13
              refine va_get (D := (dC, dI)) (ci := 21) (v := .int (zI (P.rB xr))) (C := RX17) (T := TX17) (N := 7) hx hb hts mem_P19_likeRowE_0 hown hK hP kp_13 hkp_13 rfl 5 (by decide) (ow (k := 5) rfl) (fun _ h9 => h9) rfl dX19_like_100 ?_
              refine lv_aload_n hx hb dX19_like_103 rfl (lv_at hl 2 rfl) ?_
              obtain ⟨kp_14, hkp_14⟩ := va_pl_get (X := []) (f := pE P) hX_y
              rw [pE_row hX_j] at hkp_14
              refine va_get (D := (dC, dI)) (ci := 21) (v := .int (zI (P.rA xo))) (C := RX17) (T := TX17) (N := 7) hx hb hts mem_P19_likeRowE_0 hown hK hP kp_14 hkp_14 rfl 4 (by decide) (ow (k := 1) rfl) (fun _ h9 => h9) rfl dX19_like_104 ?_
              refine lv_icmp_ne (tgt := 125) hx hb dX19_like_107 (by decide) (fun b107 => ?_) (fun b107 => ?_)
              · have yb107 : ¬ (P.rB xr : Int) = (P.rA xo : Int) := fun q => b107 ((zI_eq (a := P.rB xr) (b := P.rA xo) (by omega) (by omega) (by omega) (by omega)).mpr q)
                refine lv_iconst (v := 0) hx hb dX19_like_125 (by decide) ?_
                subst hQ
                refine W.widen (k := 0) (n := 0) (Nat.le_of_ble_eq_true rfl) (Nat.le_of_ble_eq_true rfl) ?_
                exact W.zret (v := 0) hx hb hr (by decide) (fun t ht hW => ⟨⟨0, (), rfl, ⟨0, rfl, (by omega)⟩, by rw [ht]; exact hP, va_K.moved hW.alike hK, hD⟩, hS.F ht⟩) hS.2.2 dX19_like_126
              · have yb107 : (P.rB xr : Int) = (P.rA xo : Int) := (zI_eq (a := P.rB xr) (b := P.rA xo) (by omega) (by omega) (by omega) (by omega)).mp b107
                refine lv_aload_n hx hb dX19_like_110 rfl (lv_at hl 1 rfl) ?_
                obtain ⟨kp_15, hkp_15⟩ := va_pl_get (X := []) (f := pE P) hX_x
                rw [pE_row hX_k] at hkp_15
                refine va_get (D := (dC, dI)) (ci := 21) (v := .int (zI (P.rb xr))) (C := RX17) (T := TX17) (N := 7) hx hb hts mem_P19_likeRowE_0 hown hK hP kp_15 hkp_15 rfl 3 (by decide) (ow (k := 7) rfl) (fun _ h9 => h9) rfl dX19_like_111 ?_
                refine lv_aload_n hx hb dX19_like_114 rfl (lv_at hl 2 rfl) ?_
                obtain ⟨kp_16, hkp_16⟩ := va_pl_get (X := []) (f := pE P) hX_y
                rw [pE_row hX_j] at hkp_16
                refine va_get (D := (dC, dI)) (ci := 21) (v := .int (zI (P.ra xo))) (C := RX17) (T := TX17) (N := 7) hx hb hts mem_P19_likeRowE_0 hown hK hP kp_16 hkp_16 rfl 2 (by decide) (ow (k := 6) rfl) (fun _ h9 => h9) rfl dX19_like_115 ?_
                refine lv_icmp_ne (tgt := 125) hx hb dX19_like_118 (by decide) (fun b118 => ?_) (fun b118 => ?_)
                · have yb118 : ¬ (P.rb xr : Int) = (P.ra xo : Int) := fun q => b118 ((zI_eq (a := P.rb xr) (b := P.ra xo) (by omega) (by omega) (by omega) (by omega)).mpr q)
                  refine lv_iconst (v := 0) hx hb dX19_like_125 (by decide) ?_
                  subst hQ
                  refine W.widen (k := 0) (n := 0) (Nat.le_of_ble_eq_true rfl) (Nat.le_of_ble_eq_true rfl) ?_
                  exact W.zret (v := 0) hx hb hr (by decide) (fun t ht hW => ⟨⟨0, (), rfl, ⟨0, rfl, (by omega)⟩, by rw [ht]; exact hP, va_K.moved hW.alike hK, hD⟩, hS.F ht⟩) hS.2.2 dX19_like_126
                · have yb118 : (P.rb xr : Int) = (P.ra xo : Int) := (zI_eq (a := P.rb xr) (b := P.ra xo) (by omega) (by omega) (by omega) (by omega)).mp b118
                  refine lv_iconst (v := 1) hx hb dX19_like_121 (by decide) ?_
                  refine lv_goto (tgt := 126) hx hb dX19_like_122 (by decide) ?_
                  subst hQ
                  refine W.widen (k := 0) (n := 0) (Nat.le_of_ble_eq_true rfl) (Nat.le_of_ble_eq_true rfl) ?_
                  exact W.zret (v := 1) hx hb hr (by decide) (fun t ht hW => ⟨⟨1, (), rfl, ⟨1, rfl, (by omega)⟩, by rw [ht]; exact hP, va_K.moved hW.alike hK, hD⟩, hS.F ht⟩) hS.2.2 dX19_like_126
    refine lv_icmp_ne (tgt := 61) hx hb dX19_like_21 (by decide) (fun b21 => ?_) (fun b21 => ?_)
    · have yb21 : ¬ (P.rA xr : Int) = (P.rA xo : Int) := fun q => b21 ((zI_eq (a := P.rA xr) (b := P.rA xo) (by omega) (by omega) (by omega) (by omega)).mpr q)
      refine lv_iconst (v := 0) hx hb dX19_like_61 (by decide) ?_
      exact key62 0 ls H _ (by omega) (lv_sub hl [0, 1] rfl) hP hD hS
    · have yb21 : (P.rA xr : Int) = (P.rA xo : Int) := (zI_eq (a := P.rA xr) (b := P.rA xo) (by omega) (by omega) (by omega) (by omega)).mp b21
      refine lv_aload_n hx hb dX19_like_24 rfl (lv_at hl 0 rfl) ?_
      obtain ⟨kp_17, hkp_17⟩ := va_pl_get (X := []) (f := pE P) hX_x
      rw [pE_row hX_k] at hkp_17
      refine va_get (D := (dC, dI)) (ci := 21) (v := .int (zI (P.ra xr))) (C := RX17) (T := TX17) (N := 7) hx hb hts mem_P19_likeRowE_0 hown hK hP kp_17 hkp_17 rfl 2 (by decide) (ow (k := 6) rfl) (fun _ h9 => h9) rfl dX19_like_25 ?_
      refine lv_aload_n hx hb dX19_like_28 rfl (lv_at hl 1 rfl) ?_
      obtain ⟨kp_18, hkp_18⟩ := va_pl_get (X := []) (f := pE P) hX_y
      rw [pE_row hX_j] at hkp_18
      refine va_get (D := (dC, dI)) (ci := 21) (v := .int (zI (P.ra xo))) (C := RX17) (T := TX17) (N := 7) hx hb hts mem_P19_likeRowE_0 hown hK hP kp_18 hkp_18 rfl 2 (by decide) (ow (k := 6) rfl) (fun _ h9 => h9) rfl dX19_like_29 ?_
      refine lv_icmp_ne (tgt := 61) hx hb dX19_like_32 (by decide) (fun b32 => ?_) (fun b32 => ?_)
      · have yb32 : ¬ (P.ra xr : Int) = (P.ra xo : Int) := fun q => b32 ((zI_eq (a := P.ra xr) (b := P.ra xo) (by omega) (by omega) (by omega) (by omega)).mpr q)
        refine lv_iconst (v := 0) hx hb dX19_like_61 (by decide) ?_
        exact key62 0 ls H _ (by omega) (lv_sub hl [0, 1] rfl) hP hD hS
      · have yb32 : (P.ra xr : Int) = (P.ra xo : Int) := (zI_eq (a := P.ra xr) (b := P.ra xo) (by omega) (by omega) (by omega) (by omega)).mp b32
        refine lv_aload_n hx hb dX19_like_35 rfl (lv_at hl 0 rfl) ?_
        obtain ⟨kp_19, hkp_19⟩ := va_pl_get (X := []) (f := pE P) hX_x
        rw [pE_row hX_k] at hkp_19
        refine va_get (D := (dC, dI)) (ci := 21) (v := .int (zI (P.rB xr))) (C := RX17) (T := TX17) (N := 7) hx hb hts mem_P19_likeRowE_0 hown hK hP kp_19 hkp_19 rfl 5 (by decide) (ow (k := 5) rfl) (fun _ h9 => h9) rfl dX19_like_36 ?_
        refine lv_aload_n hx hb dX19_like_39 rfl (lv_at hl 1 rfl) ?_
        obtain ⟨kp_20, hkp_20⟩ := va_pl_get (X := []) (f := pE P) hX_y
        rw [pE_row hX_j] at hkp_20
        refine va_get (D := (dC, dI)) (ci := 21) (v := .int (zI (P.rB xo))) (C := RX17) (T := TX17) (N := 7) hx hb hts mem_P19_likeRowE_0 hown hK hP kp_20 hkp_20 rfl 5 (by decide) (ow (k := 5) rfl) (fun _ h9 => h9) rfl dX19_like_40 ?_
        refine lv_icmp_ne (tgt := 61) hx hb dX19_like_43 (by decide) (fun b43 => ?_) (fun b43 => ?_)
        · have yb43 : ¬ (P.rB xr : Int) = (P.rB xo : Int) := fun q => b43 ((zI_eq (a := P.rB xr) (b := P.rB xo) (by omega) (by omega) (by omega) (by omega)).mpr q)
          refine lv_iconst (v := 0) hx hb dX19_like_61 (by decide) ?_
          exact key62 0 ls H _ (by omega) (lv_sub hl [0, 1] rfl) hP hD hS
        · have yb43 : (P.rB xr : Int) = (P.rB xo : Int) := (zI_eq (a := P.rB xr) (b := P.rB xo) (by omega) (by omega) (by omega) (by omega)).mp b43
          refine lv_aload_n hx hb dX19_like_46 rfl (lv_at hl 0 rfl) ?_
          obtain ⟨kp_21, hkp_21⟩ := va_pl_get (X := []) (f := pE P) hX_x
          rw [pE_row hX_k] at hkp_21
          refine va_get (D := (dC, dI)) (ci := 21) (v := .int (zI (P.rb xr))) (C := RX17) (T := TX17) (N := 7) hx hb hts mem_P19_likeRowE_0 hown hK hP kp_21 hkp_21 rfl 3 (by decide) (ow (k := 7) rfl) (fun _ h9 => h9) rfl dX19_like_47 ?_
          refine lv_aload_n hx hb dX19_like_50 rfl (lv_at hl 1 rfl) ?_
          obtain ⟨kp_22, hkp_22⟩ := va_pl_get (X := []) (f := pE P) hX_y
          rw [pE_row hX_j] at hkp_22
          refine va_get (D := (dC, dI)) (ci := 21) (v := .int (zI (P.rb xo))) (C := RX17) (T := TX17) (N := 7) hx hb hts mem_P19_likeRowE_0 hown hK hP kp_22 hkp_22 rfl 3 (by decide) (ow (k := 7) rfl) (fun _ h9 => h9) rfl dX19_like_51 ?_
          refine lv_icmp_ne (tgt := 61) hx hb dX19_like_54 (by decide) (fun b54 => ?_) (fun b54 => ?_)
          · have yb54 : ¬ (P.rb xr : Int) = (P.rb xo : Int) := fun q => b54 ((zI_eq (a := P.rb xr) (b := P.rb xo) (by omega) (by omega) (by omega) (by omega)).mpr q)
            refine lv_iconst (v := 0) hx hb dX19_like_61 (by decide) ?_
            exact key62 0 ls H _ (by omega) (lv_sub hl [0, 1] rfl) hP hD hS
          · have yb54 : (P.rb xr : Int) = (P.rb xo : Int) := (zI_eq (a := P.rb xr) (b := P.rb xo) (by omega) (by omega) (by omega) (by omega)).mp b54
            refine lv_iconst (v := 1) hx hb dX19_like_57 (by decide) ?_
            refine lv_goto (tgt := 62) hx hb dX19_like_58 (by decide) ?_
            exact key62 1 ls H _ (by omega) (lv_sub hl [0, 1] rfl) hP hD hS
  · have yb8 : ¬ (P.ro xr : Int) = (P.ro xo : Int) := fun q => b8 ((zI_eq (a := P.ro xr) (b := P.ro xo) (by omega) (by omega) (by omega) (by omega)).mpr q)
    refine lv_iconst (v := 0) hx hb dX19_like_11 (by decide) ?_
    subst hQ
    refine W.widen (k := 0) (n := 0) (Nat.le_of_ble_eq_true rfl) (Nat.le_of_ble_eq_true rfl) ?_
    exact W.zret (v := 0) hx hb hr (by decide) (fun t ht hW => ⟨⟨0, (), rfl, ⟨0, rfl, (by omega)⟩, by rw [ht]; exact hP, va_K.moved hW.alike hK, hD⟩, hS.F ht⟩) hS.2.2 dX19_like_12
def o_X19_nothingReplacedE : List Cond := [.fieldLink RX19 284 "SsaForgeModel" "replaced" "[Z"]
def v_X19_nothingReplacedE : List Cond := .code yX19_nothingReplaced cX19_nothingReplaced 2 none :: (o_X19_nothingReplacedE ++ (wsX190 ++ []))
theorem mow_X19_nothingReplacedE : ∀ w ∈ o_X19_nothingReplacedE, w ∈ v_X19_nothingReplacedE := fun _ h => List.mem_cons_of_mem _ (List.mem_append_left _ h)
theorem mem_X19_nothingReplacedE_0 : ∀ w ∈ wsX190, w ∈ v_X19_nothingReplacedE := fun _ h => List.mem_cons_of_mem _ (List.mem_append_right _ (List.mem_append_left _ h))
set_option maxRecDepth 20000 in
theorem gw_X19_nothingReplacedE : v_X19_nothingReplacedE.all goodWord = true := by decide +kernel
set_option maxHeartbeats 4000000 in
set_option maxRecDepth 100000 in
theorem c_X19_nothingReplacedE (l : Launch) (dC : Nat → ClassId) (dI : Nat → Nat → Nat) (h0 : Nat) (v19_0 : Value) (v19_1 : Value) (v19_2 : Value) (v19_3 : Value) (v19_4 : Value) (v19_5 : Value) (v19_6 : Value) (v19_7 : Value) (v19_8 : Value) (v19_9 : Value) (v19_10 : Value) (v19_11 : Value) (q_1912 : Nat) (cA_1912 : ClassId) (a19_replaced : Int → Int) (q_1913 : Nat) (cA_1913 : ClassId) (a19_byReg : Int → Int) (q_1914 : Nat) (cA_1914 : ClassId) (a19_by : Int → Int) (v19_15 : Value) (v19_16 : Value) (v19_17 : Value) (v19_18 : Value) (v19_19 : Value) (v19_20 : Value) (v19_21 : Value) (v19_22 : Value) (v19_23 : Value) (v19_24 : Value) (v19_25 : Value) (v19_26 : Value) (v19_27 : Value) (v19_28 : Value) (v19_29 : Value) (v19_30 : Value) (v19_31 : Value) (v19_32 : Value) (v19_33 : Value) (v19_34 : Value) (v19_35 : Value) (v19_36 : Value) (v19_37 : Value) (v19_38 : Value) (v19_39 : Value) (v19_40 : Value) (hR_a19_replaced : ∀ j : Int, 0 ≤ a19_replaced j ∧ a19_replaced j ≤ 1) (hR_a19_byReg : ∀ j : Int, 0 ≤ a19_byReg j ∧ a19_byReg j ≤ 1) (hR_a19_by : ∀ j : Int, -2147483648 ≤ a19_by j ∧ a19_by j ≤ 2147483647) (sz : Nat) : Met l yX19_nothingReplaced v_X19_nothingReplacedE ({ frames := 0, cells := 0, slots := 0, locals := 0 }) (va_Pc [.ref h0] (fun U => U.heap.size = sz ∧ va_P (dC, dI) vwQ [(h0, .inr (16, [v19_0, v19_1, v19_2, v19_3, v19_4, v19_5, v19_6, v19_7, v19_8, v19_9, v19_10, v19_11, .ref q_1912, .ref q_1913, .ref q_1914, v19_15, v19_16, v19_17, v19_18, v19_19, v19_20, v19_21, v19_22, v19_23, v19_24, v19_25, v19_26, v19_27, v19_28, v19_29, v19_30, v19_31, v19_32, v19_33, v19_34, v19_35, v19_36, v19_37, v19_38, v19_39, v19_40])), (q_1912, .inl (cA_1912, 1002, .inl (fun j : Nat => zI (a19_replaced (j : Int))))), (q_1913, .inl (cA_1913, 1002, .inl (fun j : Nat => zI (a19_byReg (j : Int))))), (q_1914, .inl (cA_1914, 1002, .inl (fun j : Nat => zI (a19_by (j : Int)))))] U.heap ∧ va_K (dC, dI) vwQ [(cA_1912, .boolean), (cA_1913, .boolean), (cA_1914, .int)] U ∧ va_D (fun _ => True) [(h0, .inr (16, [v19_0, v19_1, v19_2, v19_3, v19_4, v19_5, v19_6, v19_7, v19_8, v19_9, v19_10, v19_11, .ref q_1912, .ref q_1913, .ref q_1914, v19_15, v19_16, v19_17, v19_18, v19_19, v19_20, v19_21, v19_22, v19_23, v19_24, v19_25, v19_26, v19_27, v19_28, v19_29, v19_30, v19_31, v19_32, v19_33, v19_34, v19_35, v19_36, v19_37, v19_38, v19_39, v19_40])), (q_1912, .inl (cA_1912, 1002, .inl (fun j : Nat => zI (a19_replaced (j : Int))))), (q_1913, .inl (cA_1913, 1002, .inl (fun j : Nat => zI (a19_byReg (j : Int))))), (q_1914, .inl (cA_1914, 1002, .inl (fun j : Nat => zI (a19_by (j : Int)))))])) (va_Qv (fun _ : Unit => True) (fun (_ : Unit) (t : State) => ∃ (a0_9 : Int → Int), ((∀ j : Int, 0 ≤ a0_9 j ∧ a0_9 j ≤ 1) ∧ (RPL a0_9 a19_byReg a19_by ∧ ∀ x : Int, 0 ≤ x → x ≤ 1001 → a0_9 x = 0)) ∧ va_P (dC, dI) vwQ [(h0, .inr (16, [v19_0, v19_1, v19_2, v19_3, v19_4, v19_5, v19_6, v19_7, v19_8, v19_9, v19_10, v19_11, .ref q_1912, .ref q_1913, .ref q_1914, v19_15, v19_16, v19_17, v19_18, v19_19, v19_20, v19_21, v19_22, v19_23, v19_24, v19_25, v19_26, v19_27, v19_28, v19_29, v19_30, v19_31, v19_32, v19_33, v19_34, v19_35, v19_36, v19_37, v19_38, v19_39, v19_40])), (q_1912, .inl (cA_1912, 1002, .inl (fun j : Nat => zI (a0_9 (j : Int))))), (q_1913, .inl (cA_1913, 1002, .inl (fun j : Nat => zI (a19_byReg (j : Int))))), (q_1914, .inl (cA_1914, 1002, .inl (fun j : Nat => zI (a19_by (j : Int)))))] t.heap ∧ va_K (dC, dI) vwQ [(cA_1912, .boolean), (cA_1913, .boolean), (cA_1914, .int)] t ∧ va_D (va_A [(h0, .inr (16, [v19_0, v19_1, v19_2, v19_3, v19_4, v19_5, v19_6, v19_7, v19_8, v19_9, v19_10, v19_11, .ref q_1912, .ref q_1913, .ref q_1914, v19_15, v19_16, v19_17, v19_18, v19_19, v19_20, v19_21, v19_22, v19_23, v19_24, v19_25, v19_26, v19_27, v19_28, v19_29, v19_30, v19_31, v19_32, v19_33, v19_34, v19_35, v19_36, v19_37, v19_38, v19_39, v19_40])), (q_1912, .inl (cA_1912, 1002, .inl (fun j : Nat => zI (a19_replaced (j : Int))))), (q_1913, .inl (cA_1913, 1002, .inl (fun j : Nat => zI (a19_byReg (j : Int))))), (q_1914, .inl (cA_1914, 1002, .inl (fun j : Nat => zI (a19_by (j : Int)))))] sz) [(h0, .inr (16, [v19_0, v19_1, v19_2, v19_3, v19_4, v19_5, v19_6, v19_7, v19_8, v19_9, v19_10, v19_11, .ref q_1912, .ref q_1913, .ref q_1914, v19_15, v19_16, v19_17, v19_18, v19_19, v19_20, v19_21, v19_22, v19_23, v19_24, v19_25, v19_26, v19_27, v19_28, v19_29, v19_30, v19_31, v19_32, v19_33, v19_34, v19_35, v19_36, v19_37, v19_38, v19_39, v19_40])), (q_1912, .inl (cA_1912, 1002, .inl (fun j : Nat => zI (a0_9 (j : Int))))), (q_1913, .inl (cA_1913, 1002, .inl (fun j : Nat => zI (a19_byReg (j : Int))))), (q_1914, .inl (cA_1914, 1002, .inl (fun j : Nat => zI (a19_by (j : Int)))))]) (va_A [(h0, .inr (16, [v19_0, v19_1, v19_2, v19_3, v19_4, v19_5, v19_6, v19_7, v19_8, v19_9, v19_10, v19_11, .ref q_1912, .ref q_1913, .ref q_1914, v19_15, v19_16, v19_17, v19_18, v19_19, v19_20, v19_21, v19_22, v19_23, v19_24, v19_25, v19_26, v19_27, v19_28, v19_29, v19_30, v19_31, v19_32, v19_33, v19_34, v19_35, v19_36, v19_37, v19_38, v19_39, v19_40])), (q_1912, .inl (cA_1912, 1002, .inl (fun j : Nat => zI (a19_replaced (j : Int))))), (q_1913, .inl (cA_1913, 1002, .inl (fun j : Nat => zI (a19_byReg (j : Int))))), (q_1914, .inl (cA_1914, 1002, .inl (fun j : Nat => zI (a19_by (j : Int)))))] sz)) 0 0 (va_A [(h0, .inr (16, [v19_0, v19_1, v19_2, v19_3, v19_4, v19_5, v19_6, v19_7, v19_8, v19_9, v19_10, v19_11, .ref q_1912, .ref q_1913, .ref q_1914, v19_15, v19_16, v19_17, v19_18, v19_19, v19_20, v19_21, v19_22, v19_23, v19_24, v19_25, v19_26, v19_27, v19_28, v19_29, v19_30, v19_31, v19_32, v19_33, v19_34, v19_35, v19_36, v19_37, v19_38, v19_39, v19_40])), (q_1912, .inl (cA_1912, 1002, .inl (fun j : Nat => zI (a19_replaced (j : Int))))), (q_1913, .inl (cA_1913, 1002, .inl (fun j : Nat => zI (a19_byReg (j : Int))))), (q_1914, .inl (cA_1914, 1002, .inl (fun j : Nat => zI (a19_by (j : Int)))))] sz) := by
  refine Met.ofW (cc := cX19_nothingReplaced) (maxL := 2) (ret := none) (by decide) rfl ?_
  intro p e s m args below meth c s₁ B hml hv
  obtain ⟨rfl, hsz, hP, hK, hD0⟩ := hv
  have hx := B.exec
  have hb := B.bytes
  have hr := B.returns
  have hts := atoms_spec (ws := v_X19_nothingReplacedE) B.pre
  have hown : s.vm.findClass RX19 = some m.cls := findClass_of_methodNamed B.named
  have hlocks := B.notSynchronized
  have ow : ∀ {k : Nat} {w : Cond}, o_X19_nothingReplacedE[k]? = some w → w.before ([.ref h0] : List Value).toArray s = true := fun h => hts _ (mow_X19_nothingReplacedE _ (List.mem_of_getElem? h))
  subst hsz
  have hD := hD0.self (sz := s.heap.size)
  generalize hAe : va_A [(h0, .inr (16, [v19_0, v19_1, v19_2, v19_3, v19_4, v19_5, v19_6, v19_7, v19_8, v19_9, v19_10, v19_11, .ref q_1912, .ref q_1913, .ref q_1914, v19_15, v19_16, v19_17, v19_18, v19_19, v19_20, v19_21, v19_22, v19_23, v19_24, v19_25, v19_26, v19_27, v19_28, v19_29, v19_30, v19_31, v19_32, v19_33, v19_34, v19_35, v19_36, v19_37, v19_38, v19_39, v19_40])), (q_1912, .inl (cA_1912, 1002, .inl (fun j : Nat => zI (a19_replaced (j : Int))))), (q_1913, .inl (cA_1913, 1002, .inl (fun j : Nat => zI (a19_byReg (j : Int))))), (q_1914, .inl (cA_1914, 1002, .inl (fun j : Nat => zI (a19_by (j : Int)))))] s.heap.size = A at hD ⊢
  have hA : ∀ q : Nat, s.heap.size ≤ q → A q := fun q h => by rw [← hAe]; exact Or.inr h
  have hS : va_S A s.heap s.heap [] := va_S.rf
  have hP : va_P (dC, dI) vwQ [(h0, .inr (16, [v19_0, v19_1, v19_2, v19_3, v19_4, v19_5, v19_6, v19_7, v19_8, v19_9, v19_10, v19_11, .ref q_1912, .ref q_1913, .ref q_1914, v19_15, v19_16, v19_17, v19_18, v19_19, v19_20, v19_21, v19_22, v19_23, v19_24, v19_25, v19_26, v19_27, v19_28, v19_29, v19_30, v19_31, v19_32, v19_33, v19_34, v19_35, v19_36, v19_37, v19_38, v19_39, v19_40])), (q_1912, .inl (cA_1912, 1002, .inl (fun j : Nat => zI (a19_replaced (j : Int))))), (q_1913, .inl (cA_1913, 1002, .inl (fun j : Nat => zI (a19_byReg (j : Int))))), (q_1914, .inl (cA_1914, 1002, .inl (fun j : Nat => zI (a19_by (j : Int)))))] s.heap := hP
  have hl := lv_entry ([.ref h0]) (n := 2) (Nat.le_of_ble_eq_true rfl)
  rw [lg_entry_eq]
  generalize (lg_sl ([.ref h0]) ++ List.replicate (2 - (lg_sl ([.ref h0])).length) Slot.unset).toArray = ls at hl ⊢
  have hl : lv_has ls 2 [(0, .ref h0)] := hl
  obtain ⟨H, hH⟩ : ∃ H, H = s.heap := ⟨_, rfl⟩
  rw [← hH] at hP
  have hS : va_S A s.heap H [] := by rw [hH]; exact hS
  rw [← hH]
  refine zW_cap (fun Q hQ => ?_)
  refine lv_iconst (v := 0) hx hb dX19_nothingReplaced_0 (by decide) ?_
  refine lv_istore_n (lv' := [(1, .int 0), (0, .ref h0)]) hx hb dX19_nothingReplaced_1 rfl hl (by decide) rfl (fun ls hl => ?_)
  have key2 : ∀ n2 : Nat, ∀ (d2_1 : Int) (w2_1912 : Int → Int) (ls : Array Slot) (H : Heap) (locs : List Loc), (0 ≤ d2_1 ∧ d2_1 ≤ 1000000000) → (∀ j : Int, 0 ≤ w2_1912 j ∧ w2_1912 j ≤ 1) → (∀ x : Int, 0 ≤ x → x < d2_1 → w2_1912 x = 0) → (((1001) - (d2_1) + 1 : Int).toNat) < n2 → lv_has ls 2 [(0, .ref h0), (1, .int (zI (d2_1)))] → va_P (dC, dI) vwQ [(h0, .inr (16, [v19_0, v19_1, v19_2, v19_3, v19_4, v19_5, v19_6, v19_7, v19_8, v19_9, v19_10, v19_11, .ref q_1912, .ref q_1913, .ref q_1914, v19_15, v19_16, v19_17, v19_18, v19_19, v19_20, v19_21, v19_22, v19_23, v19_24, v19_25, v19_26, v19_27, v19_28, v19_29, v19_30, v19_31, v19_32, v19_33, v19_34, v19_35, v19_36, v19_37, v19_38, v19_39, v19_40])), (q_1912, .inl (cA_1912, 1002, .inl (fun j : Nat => zI (w2_1912 (j : Int))))), (q_1913, .inl (cA_1913, 1002, .inl (fun j : Nat => zI (a19_byReg (j : Int))))), (q_1914, .inl (cA_1914, 1002, .inl (fun j : Nat => zI (a19_by (j : Int)))))] H → va_D A [(h0, .inr (16, [v19_0, v19_1, v19_2, v19_3, v19_4, v19_5, v19_6, v19_7, v19_8, v19_9, v19_10, v19_11, .ref q_1912, .ref q_1913, .ref q_1914, v19_15, v19_16, v19_17, v19_18, v19_19, v19_20, v19_21, v19_22, v19_23, v19_24, v19_25, v19_26, v19_27, v19_28, v19_29, v19_30, v19_31, v19_32, v19_33, v19_34, v19_35, v19_36, v19_37, v19_38, v19_39, v19_40])), (q_1912, .inl (cA_1912, 1002, .inl (fun j : Nat => zI (w2_1912 (j : Int))))), (q_1913, .inl (cA_1913, 1002, .inl (fun j : Nat => zI (a19_byReg (j : Int))))), (q_1914, .inl (cA_1914, 1002, .inl (fun j : Nat => zI (a19_by (j : Int)))))] → va_S A s.heap H locs → W p l e (headSpec v_X19_nothingReplacedE ({ frames := 0, cells := 0, slots := 0, locals := 0 })).room s m ([.ref h0] : List Value).toArray below meth c H locs 0 0 Q (F0 m 2 ls []) := by
    intro n2
    induction n2 with
    | zero => intro d2_1 w2_1912 ls H locs jd2_1 jw2_1912 jz hm2; exact absurd hm2 (by omega)
    | succ n2 ih2 =>
      intro d2_1 w2_1912 ls H locs jd2_1 jw2_1912 jz hm2 hl hP hD hS
      refine lv_iload_n hx hb dX19_nothingReplaced_2 rfl (lv_at hl 1 rfl) ?_
      refine lv_sipush (v := 1001) hx hb dX19_nothingReplaced_3 (by decide) ?_
      refine lv_icmp_gt (tgt := 22) hx hb dX19_nothingReplaced_6 (by decide) (fun b6 => ?_) (fun b6 => ?_)
      · have yb6 : (1001 : Int) < (d2_1 : Int) := (zI_lt (a := 1001) (b := d2_1) (by omega) (by omega) (by omega) (by omega)).mp b6
        subst hQ
        refine W.widen (k := 0) (n := 0) (Nat.le_of_ble_eq_true rfl) (Nat.le_of_ble_eq_true rfl) ?_
        exact W.vret hx hb hr (fun t ht hW => ⟨⟨(), rfl, trivial, w2_1912, ⟨jw2_1912, ⟨RPL.none (fun x h1 h2 => jz x h1 (by omega)), fun x h1 h2 => jz x h1 (by omega)⟩⟩, by rw [ht]; exact hP, va_K.moved hW.alike hK, hD⟩, hS.F ht⟩) hS.2.2 dX19_nothingReplaced_22
      · have yb6 : ¬ (1001 : Int) < (d2_1 : Int) := fun q => b6 ((zI_lt (a := 1001) (b := d2_1) (by omega) (by omega) (by omega) (by omega)).mpr q)
        refine lv_aload_n hx hb dX19_nothingReplaced_9 rfl (lv_at hl 0 rfl) ?_
        refine va_get (D := (dC, dI)) (ci := 16) (v := .ref q_1912) (C := RX19) (T := TX19) (N := 41) hx hb hts mem_X19_nothingReplacedE_0 hown hK hP 0 rfl rfl 12 (by decide) (ow (k := 0) rfl) (fun _ h9 => h9) rfl dX19_nothingReplaced_10 ?_
        refine lv_iload_n hx hb dX19_nothingReplaced_13 rfl (lv_at hl 1 rfl) ?_
        refine lv_iconst (v := 0) hx hb dX19_nothingReplaced_14 (by decide) ?_
        refine va_zast (i := zI (d2_1)) hx hb hK hP hD hS 1 0 rfl rfl (zI_in (a := d2_1) (n := 1002) (by omega) (by omega) (by decide)) dX19_nothingReplaced_15 (fun H locs hP hD hS => ?_)
        rw [show vp_nar .boolean 0 = 0 from zI_nar (a := 0) (by omega) (by omega)] at hP hD
        have eQ : upd (fun j : Nat => zI (w2_1912 (j : Int))) (zI (d2_1)).toNatClampNeg 0 = (fun j : Nat => zI (zup w2_1912 (d2_1) (0) (j : Int))) := zI_st w2_1912 (e := d2_1) (v := 0) (by omega) (by omega)
        rw [eQ] at hP hD
        clear eQ
        have ra_2001 : ∀ j : Int, 0 ≤ zup w2_1912 (d2_1) (0) j ∧ zup w2_1912 (d2_1) (0) j ≤ 1 := zup_P (P := fun x9 => 0 ≤ x9 ∧ x9 ≤ 1) jw2_1912 (show 0 ≤ (0) ∧ (0) ≤ 1 by omega)
        obtain ⟨a_2001, ea_2001⟩ : ∃ a9 : Int → Int, a9 = zup w2_1912 (d2_1) (0) := ⟨_, rfl⟩
        rw [← ea_2001] at hP hD ra_2001
        have hP : va_P (dC, dI) vwQ [(h0, .inr (16, [v19_0, v19_1, v19_2, v19_3, v19_4, v19_5, v19_6, v19_7, v19_8, v19_9, v19_10, v19_11, .ref q_1912, .ref q_1913, .ref q_1914, v19_15, v19_16, v19_17, v19_18, v19_19, v19_20, v19_21, v19_22, v19_23, v19_24, v19_25, v19_26, v19_27, v19_28, v19_29, v19_30, v19_31, v19_32, v19_33, v19_34, v19_35, v19_36, v19_37, v19_38, v19_39, v19_40])), (q_1912, .inl (cA_1912, 1002, .inl (fun j : Nat => zI (a_2001 (j : Int))))), (q_1913, .inl (cA_1913, 1002, .inl (fun j : Nat => zI (a19_byReg (j : Int))))), (q_1914, .inl (cA_1914, 1002, .inl (fun j : Nat => zI (a19_by (j : Int)))))] H := hP
        have hD : va_D A [(h0, .inr (16, [v19_0, v19_1, v19_2, v19_3, v19_4, v19_5, v19_6, v19_7, v19_8, v19_9, v19_10, v19_11, .ref q_1912, .ref q_1913, .ref q_1914, v19_15, v19_16, v19_17, v19_18, v19_19, v19_20, v19_21, v19_22, v19_23, v19_24, v19_25, v19_26, v19_27, v19_28, v19_29, v19_30, v19_31, v19_32, v19_33, v19_34, v19_35, v19_36, v19_37, v19_38, v19_39, v19_40])), (q_1912, .inl (cA_1912, 1002, .inl (fun j : Nat => zI (a_2001 (j : Int))))), (q_1913, .inl (cA_1913, 1002, .inl (fun j : Nat => zI (a19_byReg (j : Int))))), (q_1914, .inl (cA_1914, 1002, .inl (fun j : Nat => zI (a19_by (j : Int)))))] := hD
        refine lv_iinc (v := zI (d2_1 + 1)) (lv' := [(1, .int (zI (d2_1 + 1))), (0, .ref h0)]) hx hb dX19_nothingReplaced_16 hl (k := 1) rfl (zI_add (d2_1) (1)) (by decide) rfl (fun ls hl => ?_)
        refine lv_goto (tgt := 2) hx hb dX19_nothingReplaced_19 (by decide) ?_
        exact ih2 (d2_1 + 1) a_2001 ls H _ (by omega) ra_2001 (fun x h1 h2 => by rw [ea_2001]; unfold zup; split; rfl; exact jz x h1 (by omega)) (by omega) (lv_sub hl [1, 0] rfl) hP hD hS
  exact key2 (((1001) - (0) + 1 : Int).toNat + 1) 0 a19_replaced ls H _ (by omega) hR_a19_replaced (fun x h1 h2 => by omega) (by omega) (lv_sub hl [1, 0] rfl) hP hD hS
def o_P19_likeE : List Cond := [.methodLink RX19 57 yX13_get, .instanceMethod yX13_get, .selects RX13 yX13_get yX13_get, .initialized RX13, .fieldLink RX19 116 "SsaForgeModel$Block" "rows" "Ljava/util/ArrayList;", .methodLink RX19 41 yJx4a65c_get_915e3, .instanceMethod yJx4a65c_get_915e3, .selects RJx4a65c yJx4a65c_get_915e3 yJx4a65c_get_915e3, .initialized RJx4a65c, .classLink RX19 65 "SsaForgeModel$Row", .fieldLink RX19 130 "SsaForgeModel" "flow" "LSsaForgeModel$Flow;", .fieldLink RX19 197 "SsaForgeModel$Flow" "idom" "[I", .fieldLink RX19 319 "SsaForgeModel$Row" "gone" "Z", .methodLink RX19 336 yX19_like, .static yX19_like, .initialized RX19, .methodLink RX19 53 yJx4a65c_size_8abf5, .instanceMethod yJx4a65c_size_8abf5, .selects RJx4a65c yJx4a65c_size_8abf5 yJx4a65c_size_8abf5]
def v_P19_likeE : List Cond := .code yX19_like_ cX19_like_ 9 (some (.object "SsaForgeModel$Row")) :: (o_P19_likeE ++ (v_PC_get ++ (wsX120 ++ (v_PL_get ++ (wsX190 ++ (wsX140 ++ (wsX170 ++ (v_P19_likeRowE ++ (v_PL_size ++ [])))))))))
theorem mow_P19_likeE : ∀ w ∈ o_P19_likeE, w ∈ v_P19_likeE := fun _ h => List.mem_cons_of_mem _ (List.mem_append_left _ h)
theorem mem_P19_likeE_0 : ∀ w ∈ v_PC_get, w ∈ v_P19_likeE := fun _ h => List.mem_cons_of_mem _ (List.mem_append_right _ (List.mem_append_left _ h))
theorem mem_P19_likeE_1 : ∀ w ∈ wsX120, w ∈ v_P19_likeE := fun _ h => List.mem_cons_of_mem _ (List.mem_append_right _ (List.mem_append_right _ (List.mem_append_left _ h)))
theorem mem_P19_likeE_2 : ∀ w ∈ v_PL_get, w ∈ v_P19_likeE := fun _ h => List.mem_cons_of_mem _ (List.mem_append_right _ (List.mem_append_right _ (List.mem_append_right _ (List.mem_append_left _ h))))
theorem mem_P19_likeE_3 : ∀ w ∈ wsX190, w ∈ v_P19_likeE := fun _ h => List.mem_cons_of_mem _ (List.mem_append_right _ (List.mem_append_right _ (List.mem_append_right _ (List.mem_append_right _ (List.mem_append_left _ h)))))
theorem mem_P19_likeE_4 : ∀ w ∈ wsX140, w ∈ v_P19_likeE := fun _ h => List.mem_cons_of_mem _ (List.mem_append_right _ (List.mem_append_right _ (List.mem_append_right _ (List.mem_append_right _ (List.mem_append_right _ (List.mem_append_left _ h))))))
theorem mem_P19_likeE_5 : ∀ w ∈ wsX170, w ∈ v_P19_likeE := fun _ h => List.mem_cons_of_mem _ (List.mem_append_right _ (List.mem_append_right _ (List.mem_append_right _ (List.mem_append_right _ (List.mem_append_right _ (List.mem_append_right _ (List.mem_append_left _ h)))))))
theorem mem_P19_likeE_6 : ∀ w ∈ v_P19_likeRowE, w ∈ v_P19_likeE := fun _ h => List.mem_cons_of_mem _ (List.mem_append_right _ (List.mem_append_right _ (List.mem_append_right _ (List.mem_append_right _ (List.mem_append_right _ (List.mem_append_right _ (List.mem_append_right _ (List.mem_append_left _ h))))))))
theorem mem_P19_likeE_7 : ∀ w ∈ v_PL_size, w ∈ v_P19_likeE := fun _ h => List.mem_cons_of_mem _ (List.mem_append_right _ (List.mem_append_right _ (List.mem_append_right _ (List.mem_append_right _ (List.mem_append_right _ (List.mem_append_right _ (List.mem_append_right _ (List.mem_append_right _ (List.mem_append_left _ h)))))))))
set_option maxRecDepth 20000 in
theorem gw_P19_likeE : v_P19_likeE.all goodWord = true := by decide +kernel
set_option maxRecDepth 20000 in
theorem g_P19_likeE_PC_get : GoodIn v_P19_likeE (wsV RX19 57 RX13 yX13_get v_PC_get) := goodIn_app (goodIn_sub (fun w h => mow_P19_likeE w (by revert w h; decide +kernel)) (by decide +kernel)) (goodIn_sub mem_P19_likeE_0 gw_PC_get)
set_option maxRecDepth 20000 in
theorem g_P19_likeE_PL_get : GoodIn v_P19_likeE (wsV RX19 41 RJx4a65c yJx4a65c_get_915e3 v_PL_get) := goodIn_app (goodIn_sub (fun w h => mow_P19_likeE w (by revert w h; decide +kernel)) (by decide +kernel)) (goodIn_sub mem_P19_likeE_2 gw_PL_get)
set_option maxRecDepth 20000 in
theorem g_P19_likeE_P19_likeRowE : GoodIn v_P19_likeE (wsS RX19 336 yX19_like v_P19_likeRowE) := goodIn_app (goodIn_sub (fun w h => mow_P19_likeE w (by revert w h; decide +kernel)) (by decide +kernel)) (goodIn_sub mem_P19_likeE_6 gw_P19_likeRowE)
set_option maxRecDepth 20000 in
theorem g_P19_likeE_PL_size : GoodIn v_P19_likeE (wsV RX19 53 RJx4a65c yJx4a65c_size_8abf5 v_PL_size) := goodIn_app (goodIn_sub (fun w h => mow_P19_likeE w (by revert w h; decide +kernel)) (by decide +kernel)) (goodIn_sub mem_P19_likeE_7 gw_PL_size)
set_option maxHeartbeats 4000000 in
set_option maxRecDepth 100000 in
theorem c_P19_likeE (l : Launch) (dC : Nat → ClassId) (dI : Nat → Nat → Nat) (cI : ClassId) (cZ : ClassId) (h0 : Nat) (v19_1 : Value) (v19_2 : Value) (v19_3 : Value) (v19_4 : Value) (v19_5 : Value) (v19_6 : Value) (v19_7 : Value) (v19_8 : Value) (v19_9 : Value) (v19_10 : Value) (v19_11 : Value) (v19_12 : Value) (v19_13 : Value) (v19_14 : Value) (v19_15 : Value) (v19_16 : Value) (v19_17 : Value) (v19_18 : Value) (v19_19 : Value) (v19_20 : Value) (v19_21 : Value) (v19_22 : Value) (v19_23 : Value) (v19_24 : Value) (v19_25 : Value) (v19_26 : Value) (v19_27 : Value) (v19_28 : Value) (v19_29 : Value) (v19_30 : Value) (v19_31 : Value) (v19_32 : Value) (v19_33 : Value) (v19_34 : Value) (v19_35 : Value) (v19_36 : Value) (v19_37 : Value) (v19_38 : Value) (v19_39 : Value) (v19_40 : Value) (hf : Nat) (v14_1 : Value) (v14_2 : Value) (v14_3 : Value) (v14_5 : Value) (v14_6 : Value) (v14_7 : Value) (v14_8 : Value) (v14_9 : Value) (v14_10 : Value) (v14_11 : Value) (v14_12 : Value) (q_1404 : Nat) (cA_1404 : ClassId) (n14_idom : Nat) (a14_idom : Int → Int) (hc : Nat) (v13_0 : Value) (v13_1 : Value) (v13_2 : Value) (v13_3 : Value) (v13_4 : Value) (v13_6 : Value) (la : Nat) (cO : ClassId) (L : List Nat) (P : PO) (sx_ed : Nat) (x0 : Int) (j0 : Int) (rk : Int → Int) (hNn14_idom : n14_idom ≤ 1000) (hR_a14_idom : ∀ j : Int, -2 ≤ a14_idom j ∧ a14_idom j ≤ 299) (hX_a : ALP L P cO cI cZ sx_ed la) (hNb : 0 ≤ x0 ∧ x0 < P.lz la ∧ P.lz la ≤ n14_idom ∧ 0 ≤ j0 ∧ j0 < P.lz (P.br (P.el la x0)) ∧ 0 ≤ rk x0) (hX_K : RNK a14_idom rk (P.lz la)) (hX_Z : IDZ P la a14_idom) (hX_rc : RCH P la (-1) x0) (sz : Nat) : Met l yX19_like_ v_P19_likeE ({ frames := 4, cells := 0, slots := 0, locals := 85 }) (va_Pc [.ref h0, .ref hc, .int (zI (x0)), .int (zI (j0))] (fun U => U.heap.size = sz ∧ va_P (dC, dI) vwQ ([(h0, .inr (16, [.ref hf, v19_1, v19_2, v19_3, v19_4, v19_5, v19_6, v19_7, v19_8, v19_9, v19_10, v19_11, v19_12, v19_13, v19_14, v19_15, v19_16, v19_17, v19_18, v19_19, v19_20, v19_21, v19_22, v19_23, v19_24, v19_25, v19_26, v19_27, v19_28, v19_29, v19_30, v19_31, v19_32, v19_33, v19_34, v19_35, v19_36, v19_37, v19_38, v19_39, v19_40])), (hf, .inr (13, [.ref hc, v14_1, v14_2, v14_3, .ref q_1404, v14_5, v14_6, v14_7, v14_8, v14_9, v14_10, v14_11, v14_12])), (q_1404, .inl (cA_1404, n14_idom, .inl (fun j : Nat => zI (a14_idom (j : Int))))), (hc, .inr (12, [v13_0, v13_1, v13_2, v13_3, v13_4, .ref la, v13_6]))] ++ va_pl L (pE P)) U.heap ∧ va_K (dC, dI) vwQ [(cA_1404, .int), (cO, .object "java/lang/Object"), (cI, .int), (cZ, .boolean)] U ∧ va_D (fun _ => True) ([(h0, .inr (16, [.ref hf, v19_1, v19_2, v19_3, v19_4, v19_5, v19_6, v19_7, v19_8, v19_9, v19_10, v19_11, v19_12, v19_13, v19_14, v19_15, v19_16, v19_17, v19_18, v19_19, v19_20, v19_21, v19_22, v19_23, v19_24, v19_25, v19_26, v19_27, v19_28, v19_29, v19_30, v19_31, v19_32, v19_33, v19_34, v19_35, v19_36, v19_37, v19_38, v19_39, v19_40])), (hf, .inr (13, [.ref hc, v14_1, v14_2, v14_3, .ref q_1404, v14_5, v14_6, v14_7, v14_8, v14_9, v14_10, v14_11, v14_12])), (q_1404, .inl (cA_1404, n14_idom, .inl (fun j : Nat => zI (a14_idom (j : Int))))), (hc, .inr (12, [v13_0, v13_1, v13_2, v13_3, v13_4, .ref la, v13_6]))] ++ va_pl L (pE P)) ∧ va_Nw (.castable "SsaForgeModel$Block" "SsaForgeModel$Block") U ∧ va_Nw (.castable "SsaForgeModel$Row" "SsaForgeModel$Row") U)) (va_Qq (fun (r : Option Nat) (_ : Unit) => r = none ∨ ∃ a9 : Nat, r = some a9 ∧ a9 ∈ L ∧ P.kd a9 = 17 ∧ LKX P la x0 j0 a9 ∧ P.ro a9 = P.ro (P.el (P.br (P.el la x0)) j0)) (fun (_ : Unit) (t : State) => va_P (dC, dI) vwQ ([(h0, .inr (16, [.ref hf, v19_1, v19_2, v19_3, v19_4, v19_5, v19_6, v19_7, v19_8, v19_9, v19_10, v19_11, v19_12, v19_13, v19_14, v19_15, v19_16, v19_17, v19_18, v19_19, v19_20, v19_21, v19_22, v19_23, v19_24, v19_25, v19_26, v19_27, v19_28, v19_29, v19_30, v19_31, v19_32, v19_33, v19_34, v19_35, v19_36, v19_37, v19_38, v19_39, v19_40])), (hf, .inr (13, [.ref hc, v14_1, v14_2, v14_3, .ref q_1404, v14_5, v14_6, v14_7, v14_8, v14_9, v14_10, v14_11, v14_12])), (q_1404, .inl (cA_1404, n14_idom, .inl (fun j : Nat => zI (a14_idom (j : Int))))), (hc, .inr (12, [v13_0, v13_1, v13_2, v13_3, v13_4, .ref la, v13_6]))] ++ va_pl L (pE P)) t.heap ∧ va_K (dC, dI) vwQ [(cA_1404, .int), (cO, .object "java/lang/Object"), (cI, .int), (cZ, .boolean)] t ∧ va_D (va_A ([(h0, .inr (16, [.ref hf, v19_1, v19_2, v19_3, v19_4, v19_5, v19_6, v19_7, v19_8, v19_9, v19_10, v19_11, v19_12, v19_13, v19_14, v19_15, v19_16, v19_17, v19_18, v19_19, v19_20, v19_21, v19_22, v19_23, v19_24, v19_25, v19_26, v19_27, v19_28, v19_29, v19_30, v19_31, v19_32, v19_33, v19_34, v19_35, v19_36, v19_37, v19_38, v19_39, v19_40])), (hf, .inr (13, [.ref hc, v14_1, v14_2, v14_3, .ref q_1404, v14_5, v14_6, v14_7, v14_8, v14_9, v14_10, v14_11, v14_12])), (q_1404, .inl (cA_1404, n14_idom, .inl (fun j : Nat => zI (a14_idom (j : Int))))), (hc, .inr (12, [v13_0, v13_1, v13_2, v13_3, v13_4, .ref la, v13_6]))] ++ va_pl L (pE P)) sz) ([(h0, .inr (16, [.ref hf, v19_1, v19_2, v19_3, v19_4, v19_5, v19_6, v19_7, v19_8, v19_9, v19_10, v19_11, v19_12, v19_13, v19_14, v19_15, v19_16, v19_17, v19_18, v19_19, v19_20, v19_21, v19_22, v19_23, v19_24, v19_25, v19_26, v19_27, v19_28, v19_29, v19_30, v19_31, v19_32, v19_33, v19_34, v19_35, v19_36, v19_37, v19_38, v19_39, v19_40])), (hf, .inr (13, [.ref hc, v14_1, v14_2, v14_3, .ref q_1404, v14_5, v14_6, v14_7, v14_8, v14_9, v14_10, v14_11, v14_12])), (q_1404, .inl (cA_1404, n14_idom, .inl (fun j : Nat => zI (a14_idom (j : Int))))), (hc, .inr (12, [v13_0, v13_1, v13_2, v13_3, v13_4, .ref la, v13_6]))] ++ va_pl L (pE P))) (va_A ([(h0, .inr (16, [.ref hf, v19_1, v19_2, v19_3, v19_4, v19_5, v19_6, v19_7, v19_8, v19_9, v19_10, v19_11, v19_12, v19_13, v19_14, v19_15, v19_16, v19_17, v19_18, v19_19, v19_20, v19_21, v19_22, v19_23, v19_24, v19_25, v19_26, v19_27, v19_28, v19_29, v19_30, v19_31, v19_32, v19_33, v19_34, v19_35, v19_36, v19_37, v19_38, v19_39, v19_40])), (hf, .inr (13, [.ref hc, v14_1, v14_2, v14_3, .ref q_1404, v14_5, v14_6, v14_7, v14_8, v14_9, v14_10, v14_11, v14_12])), (q_1404, .inl (cA_1404, n14_idom, .inl (fun j : Nat => zI (a14_idom (j : Int))))), (hc, .inr (12, [v13_0, v13_1, v13_2, v13_3, v13_4, .ref la, v13_6]))] ++ va_pl L (pE P)) sz)) 0 0 (va_A ([(h0, .inr (16, [.ref hf, v19_1, v19_2, v19_3, v19_4, v19_5, v19_6, v19_7, v19_8, v19_9, v19_10, v19_11, v19_12, v19_13, v19_14, v19_15, v19_16, v19_17, v19_18, v19_19, v19_20, v19_21, v19_22, v19_23, v19_24, v19_25, v19_26, v19_27, v19_28, v19_29, v19_30, v19_31, v19_32, v19_33, v19_34, v19_35, v19_36, v19_37, v19_38, v19_39, v19_40])), (hf, .inr (13, [.ref hc, v14_1, v14_2, v14_3, .ref q_1404, v14_5, v14_6, v14_7, v14_8, v14_9, v14_10, v14_11, v14_12])), (q_1404, .inl (cA_1404, n14_idom, .inl (fun j : Nat => zI (a14_idom (j : Int))))), (hc, .inr (12, [v13_0, v13_1, v13_2, v13_3, v13_4, .ref la, v13_6]))] ++ va_pl L (pE P)) sz) := by
  refine Met.ofW (cc := cX19_like_) (maxL := 9) (ret := (some (.object "SsaForgeModel$Row"))) (by decide) rfl ?_
  intro p e s m args below meth c s₁ B hml hv
  obtain ⟨rfl, hsz, hP, hK, hD0, hp0, hp1⟩ := hv
  have hx := B.exec
  have hb := B.bytes
  have hr := B.returns
  have hts := atoms_spec (ws := v_P19_likeE) B.pre
  have hown : s.vm.findClass RX19 = some m.cls := findClass_of_methodNamed B.named
  have hlocks := B.notSynchronized
  have ow : ∀ {k : Nat} {w : Cond}, o_P19_likeE[k]? = some w → w.before ([.ref h0, .ref hc, .int (zI (x0)), .int (zI (j0))] : List Value).toArray s = true := fun h => hts _ (mow_P19_likeE _ (List.mem_of_getElem? h))
  subst hsz
  have hD := hD0.self (sz := s.heap.size)
  generalize hAe : va_A ([(h0, .inr (16, [.ref hf, v19_1, v19_2, v19_3, v19_4, v19_5, v19_6, v19_7, v19_8, v19_9, v19_10, v19_11, v19_12, v19_13, v19_14, v19_15, v19_16, v19_17, v19_18, v19_19, v19_20, v19_21, v19_22, v19_23, v19_24, v19_25, v19_26, v19_27, v19_28, v19_29, v19_30, v19_31, v19_32, v19_33, v19_34, v19_35, v19_36, v19_37, v19_38, v19_39, v19_40])), (hf, .inr (13, [.ref hc, v14_1, v14_2, v14_3, .ref q_1404, v14_5, v14_6, v14_7, v14_8, v14_9, v14_10, v14_11, v14_12])), (q_1404, .inl (cA_1404, n14_idom, .inl (fun j : Nat => zI (a14_idom (j : Int))))), (hc, .inr (12, [v13_0, v13_1, v13_2, v13_3, v13_4, .ref la, v13_6]))] ++ va_pl L (pE P)) s.heap.size = A at hD ⊢
  have hA : ∀ q : Nat, s.heap.size ≤ q → A q := fun q h => by rw [← hAe]; exact Or.inr h
  have hS : va_S A s.heap s.heap [] := va_S.rf
  have hP : va_P (dC, dI) vwQ ([(h0, .inr (16, [.ref hf, v19_1, v19_2, v19_3, v19_4, v19_5, v19_6, v19_7, v19_8, v19_9, v19_10, v19_11, v19_12, v19_13, v19_14, v19_15, v19_16, v19_17, v19_18, v19_19, v19_20, v19_21, v19_22, v19_23, v19_24, v19_25, v19_26, v19_27, v19_28, v19_29, v19_30, v19_31, v19_32, v19_33, v19_34, v19_35, v19_36, v19_37, v19_38, v19_39, v19_40])), (hf, .inr (13, [.ref hc, v14_1, v14_2, v14_3, .ref q_1404, v14_5, v14_6, v14_7, v14_8, v14_9, v14_10, v14_11, v14_12])), (q_1404, .inl (cA_1404, n14_idom, .inl (fun j : Nat => zI (a14_idom (j : Int))))), (hc, .inr (12, [v13_0, v13_1, v13_2, v13_3, v13_4, .ref la, v13_6]))] ++ va_pl L (pE P)) s.heap := hP
  have hl := lv_entry ([.ref h0, .ref hc, .int (zI (x0)), .int (zI (j0))]) (n := 9) (Nat.le_of_ble_eq_true rfl)
  rw [lg_entry_eq]
  generalize (lg_sl ([.ref h0, .ref hc, .int (zI (x0)), .int (zI (j0))]) ++ List.replicate (9 - (lg_sl ([.ref h0, .ref hc, .int (zI (x0)), .int (zI (j0))])).length) Slot.unset).toArray = ls at hl ⊢
  have hl : lv_has ls 9 [(0, .ref h0), (1, .ref hc), (2, .int (zI (x0))), (3, .int (zI (j0)))] := hl
  obtain ⟨H, hH⟩ : ∃ H, H = s.heap := ⟨_, rfl⟩
  rw [← hH] at hP
  have hS : va_S A s.heap H [] := by rw [hH]; exact hS
  rw [← hH]
  refine zW_cap (fun Q hQ => ?_)
  have hX_a9 := hX_a
  have hla := hX_a.lok.2.2.1
  have hla2 := hX_a.1.1.2.1
  refine lv_aload_n hx hb dX19_like__0 rfl (lv_at hl 1 rfl) ?_
  refine lv_iload_n hx hb dX19_like__1 rfl (lv_at hl 2 rfl) ?_
  have hX_l := hX_a9.lok
  have hlz9 := hX_l.2.2.1
  obtain ⟨x, ex⟩ : ∃ q9 : Nat, q9 = P.el la (x0) := ⟨_, rfl⟩
  have hX_el := ex
  have hPc := hP.part (X := [(h0, .inr (16, [.ref hf, v19_1, v19_2, v19_3, v19_4, v19_5, v19_6, v19_7, v19_8, v19_9, v19_10, v19_11, v19_12, v19_13, v19_14, v19_15, v19_16, v19_17, v19_18, v19_19, v19_20, v19_21, v19_22, v19_23, v19_24, v19_25, v19_26, v19_27, v19_28, v19_29, v19_30, v19_31, v19_32, v19_33, v19_34, v19_35, v19_36, v19_37, v19_38, v19_39, v19_40])), (hf, .inr (13, [.ref hc, v14_1, v14_2, v14_3, .ref q_1404, v14_5, v14_6, v14_7, v14_8, v14_9, v14_10, v14_11, v14_12])), (q_1404, .inl (cA_1404, n14_idom, .inl (fun j : Nat => zI (a14_idom (j : Int))))), (hc, .inr (12, [v13_0, v13_1, v13_2, v13_3, v13_4, .ref la, v13_6]))]) (cx := [(hc, .inr (12, [v13_0, v13_1, v13_2, v13_3, v13_4, .ref la, v13_6]))]) (pl := va_pl L (pE P)) [3] rfl
  have hDc := hD.part (X := [(h0, .inr (16, [.ref hf, v19_1, v19_2, v19_3, v19_4, v19_5, v19_6, v19_7, v19_8, v19_9, v19_10, v19_11, v19_12, v19_13, v19_14, v19_15, v19_16, v19_17, v19_18, v19_19, v19_20, v19_21, v19_22, v19_23, v19_24, v19_25, v19_26, v19_27, v19_28, v19_29, v19_30, v19_31, v19_32, v19_33, v19_34, v19_35, v19_36, v19_37, v19_38, v19_39, v19_40])), (hf, .inr (13, [.ref hc, v14_1, v14_2, v14_3, .ref q_1404, v14_5, v14_6, v14_7, v14_8, v14_9, v14_10, v14_11, v14_12])), (q_1404, .inl (cA_1404, n14_idom, .inl (fun j : Nat => zI (a14_idom (j : Int))))), (hc, .inr (12, [v13_0, v13_1, v13_2, v13_3, v13_4, .ref la, v13_6]))]) (cx := [(hc, .inr (12, [v13_0, v13_1, v13_2, v13_3, v13_4, .ref la, v13_6]))]) (pl := va_pl L (pE P)) [3] (by decide) rfl
  have hKc := hK.sub (tys' := [(cO, .object "java/lang/Object")]) [1] rfl
  have hFc := va_freeP (X := [(h0, .inr (16, [.ref hf, v19_1, v19_2, v19_3, v19_4, v19_5, v19_6, v19_7, v19_8, v19_9, v19_10, v19_11, v19_12, v19_13, v19_14, v19_15, v19_16, v19_17, v19_18, v19_19, v19_20, v19_21, v19_22, v19_23, v19_24, v19_25, v19_26, v19_27, v19_28, v19_29, v19_30, v19_31, v19_32, v19_33, v19_34, v19_35, v19_36, v19_37, v19_38, v19_39, v19_40])), (hf, .inr (13, [.ref hc, v14_1, v14_2, v14_3, .ref q_1404, v14_5, v14_6, v14_7, v14_8, v14_9, v14_10, v14_11, v14_12])), (q_1404, .inl (cA_1404, n14_idom, .inl (fun j : Nat => zI (a14_idom (j : Int))))), (hc, .inr (12, [v13_0, v13_1, v13_2, v13_3, v13_4, .ref la, v13_6]))]) (cx := [(hc, .inr (12, [v13_0, v13_1, v13_2, v13_3, v13_4, .ref la, v13_6]))]) (pl := va_pl L (pE P)) hD hS hA [3] rfl
  refine va_callr (va_runV (As := [.int (zI (x0))]) (rest := []) ⟨hx, hb, hml, hown, hts⟩ (c_PC_get l dC dI hc v13_0 v13_1 v13_2 v13_3 v13_4 v13_6 la cO L P x0 x hX_l (by omega) hX_el H.size) (cwV 1 hts g_P19_likeE_PC_get rfl rfl rfl (by decide +kernel) ⟨(Nat.le_of_ble_eq_true rfl), (Nat.le_of_ble_eq_true rfl)⟩) ⟨fun a U g mk q => by obtain ⟨q0, q1, qP, qK, qD, e0⟩ := q; exact ⟨q0, q1, qP, va_K.moved (u := U) (U := U.calling g mk a) (Vm.Alike.refl U.vm) qK, qD, va_Nw.same rfl (u := U) (U := U.calling g mk a) rfl e0⟩, va_recv hKc hPc (ci := 12) (q0 := 0) rfl rfl, fun U hU hW => ⟨rfl, by rw [hU], by rw [hU]; exact hPc, va_K.moved hW.alike hKc, hDc.weaken (fun _ _ _ _ => trivial), va_Nw.warmC hW hp0⟩⟩ rfl rfl hl.1 rfl (lv_room (Nat.le_of_ble_eq_true rfl)) dX19_like__2 ⟨(Nat.le_of_ble_eq_true rfl), (Nat.le_of_ble_eq_true rfl)⟩) hS (fun q _ h => hFc q h) hFc (fun u q_2001 t H1 locs ht hvm hw hB hz1 hk1 hS => ?_)
  obtain ⟨hxt_2001, hP1, hK1, hD1⟩ := hB
  rw [ht] at hP1
  have hK1 := va_K.moved hvm.symm hK1
  obtain ⟨hP, hD⟩ := va_joinP (X := [(h0, .inr (16, [.ref hf, v19_1, v19_2, v19_3, v19_4, v19_5, v19_6, v19_7, v19_8, v19_9, v19_10, v19_11, v19_12, v19_13, v19_14, v19_15, v19_16, v19_17, v19_18, v19_19, v19_20, v19_21, v19_22, v19_23, v19_24, v19_25, v19_26, v19_27, v19_28, v19_29, v19_30, v19_31, v19_32, v19_33, v19_34, v19_35, v19_36, v19_37, v19_38, v19_39, v19_40])), (hf, .inr (13, [.ref hc, v14_1, v14_2, v14_3, .ref q_1404, v14_5, v14_6, v14_7, v14_8, v14_9, v14_10, v14_11, v14_12])), (q_1404, .inl (cA_1404, n14_idom, .inl (fun j : Nat => zI (a14_idom (j : Int))))), (hc, .inr (12, [v13_0, v13_1, v13_2, v13_3, v13_4, .ref la, v13_6]))]) (cx := [(hc, .inr (12, [v13_0, v13_1, v13_2, v13_3, v13_4, .ref la, v13_6]))]) (wr := [(h0, .inr (16, [.ref hf, v19_1, v19_2, v19_3, v19_4, v19_5, v19_6, v19_7, v19_8, v19_9, v19_10, v19_11, v19_12, v19_13, v19_14, v19_15, v19_16, v19_17, v19_18, v19_19, v19_20, v19_21, v19_22, v19_23, v19_24, v19_25, v19_26, v19_27, v19_28, v19_29, v19_30, v19_31, v19_32, v19_33, v19_34, v19_35, v19_36, v19_37, v19_38, v19_39, v19_40])), (hf, .inr (13, [.ref hc, v14_1, v14_2, v14_3, .ref q_1404, v14_5, v14_6, v14_7, v14_8, v14_9, v14_10, v14_11, v14_12])), (q_1404, .inl (cA_1404, n14_idom, .inl (fun j : Nat => zI (a14_idom (j : Int)))))]) (rx := [(hc, .inr (12, [v13_0, v13_1, v13_2, v13_3, v13_4, .ref la, v13_6]))]) (pl := va_pl L (pE P)) (pl1 := va_pl L (pE P)) hP hD [3] [0, 1, 2] rfl rfl (by decide) (by decide) hk1 hFc hP1 hD1
  have hK := (hK.sub (tys' := [(cA_1404, .int), (cI, .int), (cZ, .boolean)]) [0, 2, 3] rfl).app hK1
  generalize H1 = H at hP hS ⊢
  have hP : va_P (dC, dI) vwQ ([(h0, .inr (16, [.ref hf, v19_1, v19_2, v19_3, v19_4, v19_5, v19_6, v19_7, v19_8, v19_9, v19_10, v19_11, v19_12, v19_13, v19_14, v19_15, v19_16, v19_17, v19_18, v19_19, v19_20, v19_21, v19_22, v19_23, v19_24, v19_25, v19_26, v19_27, v19_28, v19_29, v19_30, v19_31, v19_32, v19_33, v19_34, v19_35, v19_36, v19_37, v19_38, v19_39, v19_40])), (hf, .inr (13, [.ref hc, v14_1, v14_2, v14_3, .ref q_1404, v14_5, v14_6, v14_7, v14_8, v14_9, v14_10, v14_11, v14_12])), (q_1404, .inl (cA_1404, n14_idom, .inl (fun j : Nat => zI (a14_idom (j : Int))))), (hc, .inr (12, [v13_0, v13_1, v13_2, v13_3, v13_4, .ref la, v13_6]))] ++ va_pl L (pE P)) H := hP
  have hD : va_D A ([(h0, .inr (16, [.ref hf, v19_1, v19_2, v19_3, v19_4, v19_5, v19_6, v19_7, v19_8, v19_9, v19_10, v19_11, v19_12, v19_13, v19_14, v19_15, v19_16, v19_17, v19_18, v19_19, v19_20, v19_21, v19_22, v19_23, v19_24, v19_25, v19_26, v19_27, v19_28, v19_29, v19_30, v19_31, v19_32, v19_33, v19_34, v19_35, v19_36, v19_37, v19_38, v19_39, v19_40])), (hf, .inr (13, [.ref hc, v14_1, v14_2, v14_3, .ref q_1404, v14_5, v14_6, v14_7, v14_8, v14_9, v14_10, v14_11, v14_12])), (q_1404, .inl (cA_1404, n14_idom, .inl (fun j : Nat => zI (a14_idom (j : Int))))), (hc, .inr (12, [v13_0, v13_1, v13_2, v13_3, v13_4, .ref la, v13_6]))] ++ va_pl L (pE P)) := hD
  have hK : va_K (dC, dI) vwQ [(cA_1404, .int), (cI, .int), (cZ, .boolean), (cO, .object "java/lang/Object")] s := hK
  refine W.widen (k := 0) (n := 0) (Nat.le_of_ble_eq_true rfl) (Nat.le_of_ble_eq_true rfl) ?_
  rw [hxt_2001]
  obtain ⟨xb_2002, h9⟩ : ∃ q9 : Nat, q9 = x := ⟨_, rfl⟩
  subst h9
  have hi_2003 : INB P la xb_2002 := ⟨x0, by omega, by omega, ex⟩
  clear hX_el
  have hx_2005 := ex
  have hB_2004 := hX_a9.inb hi_2003
  have hfb := hB_2004.2.2.2.2
  obtain ⟨kp_2006, hkp_2006⟩ := va_pl_get (X := [(h0, .inr (16, [.ref hf, v19_1, v19_2, v19_3, v19_4, v19_5, v19_6, v19_7, v19_8, v19_9, v19_10, v19_11, v19_12, v19_13, v19_14, v19_15, v19_16, v19_17, v19_18, v19_19, v19_20, v19_21, v19_22, v19_23, v19_24, v19_25, v19_26, v19_27, v19_28, v19_29, v19_30, v19_31, v19_32, v19_33, v19_34, v19_35, v19_36, v19_37, v19_38, v19_39, v19_40])), (hf, .inr (13, [.ref hc, v14_1, v14_2, v14_3, .ref q_1404, v14_5, v14_6, v14_7, v14_8, v14_9, v14_10, v14_11, v14_12])), (q_1404, .inl (cA_1404, n14_idom, .inl (fun j : Nat => zI (a14_idom (j : Int))))), (hc, .inr (12, [v13_0, v13_1, v13_2, v13_3, v13_4, .ref la, v13_6]))]) (f := pE P) hB_2004.1.1
  rw [pE_block hB_2004.1.2] at hkp_2006
  refine va_get (D := (dC, dI)) (ci := 19) (v := .ref (P.br xb_2002)) (C := RX12) (T := TX12) (N := 5) hx hb hts mem_P19_likeE_1 hown hK hP kp_2006 hkp_2006 rfl 1 (by decide) (ow (k := 4) rfl) (fun _ h9 => h9) rfl dX19_like__5 ?_
  obtain ⟨pr_2007, epr_2007⟩ : ∃ q9 : Nat, q9 = P.br xb_2002 := ⟨_, rfl⟩
  rw [← epr_2007]
  have hlk_2008 : LOK L P cO 17 pr_2007 := (by rw [epr_2007]; exact (hX_a9.inb hi_2003).2.1)
  have hlz9 := hlk_2008.2.2.1
  have : P.lz pr_2007 = P.lz (P.br xb_2002) := (by rw [epr_2007])
  refine lv_iload_n hx hb dX19_like__8 rfl (lv_at hl 3 rfl) ?_
  have : P.lz (P.br xb_2002) = P.lz (P.br (P.el la x0)) := (by rw [hx_2005])
  have hlk_2009 := (show LOK L P cO 17 pr_2007 from (by rw [← epr_2007.symm]; exact (hX_a9.inb hi_2003).2.1))
  obtain ⟨x, ex⟩ : ∃ q9 : Nat, q9 = P.el pr_2007 (j0) := ⟨_, rfl⟩
  have hX_x := hlk_2009.1
  have hX_k := hlk_2009.2.1
  have hq9 := hlk_2009.row (i := j0) (by omega) (by omega)
  have hX_q : P.le pr_2007 ∈ L ∧ P.kd (P.le pr_2007) = 31 ∧ P.ac (P.le pr_2007) = cO := ⟨hq9.1, hq9.2.1, hq9.2.2.1⟩
  have hq8 := hq9.2.2.2
  have hX_e0 : P.oa (P.le pr_2007) (j0).toNat = some x := (by rw [ex]; exact (hlk_2009.2.2.2.2 (j0) (by omega) (by omega)).1)
  have hxm : x ∈ L := (by rw [ex]; exact (hlk_2009.2.2.2.2 (j0) (by omega) (by omega)).2.1)
  have hxk := (hlk_2009.2.2.2.2 (j0) (by omega) (by omega)).2.2
  rw [← ex] at hxk
  have hPc := hP.part (X := [(h0, .inr (16, [.ref hf, v19_1, v19_2, v19_3, v19_4, v19_5, v19_6, v19_7, v19_8, v19_9, v19_10, v19_11, v19_12, v19_13, v19_14, v19_15, v19_16, v19_17, v19_18, v19_19, v19_20, v19_21, v19_22, v19_23, v19_24, v19_25, v19_26, v19_27, v19_28, v19_29, v19_30, v19_31, v19_32, v19_33, v19_34, v19_35, v19_36, v19_37, v19_38, v19_39, v19_40])), (hf, .inr (13, [.ref hc, v14_1, v14_2, v14_3, .ref q_1404, v14_5, v14_6, v14_7, v14_8, v14_9, v14_10, v14_11, v14_12])), (q_1404, .inl (cA_1404, n14_idom, .inl (fun j : Nat => zI (a14_idom (j : Int))))), (hc, .inr (12, [v13_0, v13_1, v13_2, v13_3, v13_4, .ref la, v13_6]))]) (cx := []) (pl := va_pl L (pE P)) [] rfl
  have hDc := hD.part (X := [(h0, .inr (16, [.ref hf, v19_1, v19_2, v19_3, v19_4, v19_5, v19_6, v19_7, v19_8, v19_9, v19_10, v19_11, v19_12, v19_13, v19_14, v19_15, v19_16, v19_17, v19_18, v19_19, v19_20, v19_21, v19_22, v19_23, v19_24, v19_25, v19_26, v19_27, v19_28, v19_29, v19_30, v19_31, v19_32, v19_33, v19_34, v19_35, v19_36, v19_37, v19_38, v19_39, v19_40])), (hf, .inr (13, [.ref hc, v14_1, v14_2, v14_3, .ref q_1404, v14_5, v14_6, v14_7, v14_8, v14_9, v14_10, v14_11, v14_12])), (q_1404, .inl (cA_1404, n14_idom, .inl (fun j : Nat => zI (a14_idom (j : Int))))), (hc, .inr (12, [v13_0, v13_1, v13_2, v13_3, v13_4, .ref la, v13_6]))]) (cx := []) (pl := va_pl L (pE P)) [] (by decide) rfl
  have hKc := hK.sub (tys' := [(cO, .object "java/lang/Object")]) [3] rfl
  have hFc := va_freeP (X := [(h0, .inr (16, [.ref hf, v19_1, v19_2, v19_3, v19_4, v19_5, v19_6, v19_7, v19_8, v19_9, v19_10, v19_11, v19_12, v19_13, v19_14, v19_15, v19_16, v19_17, v19_18, v19_19, v19_20, v19_21, v19_22, v19_23, v19_24, v19_25, v19_26, v19_27, v19_28, v19_29, v19_30, v19_31, v19_32, v19_33, v19_34, v19_35, v19_36, v19_37, v19_38, v19_39, v19_40])), (hf, .inr (13, [.ref hc, v14_1, v14_2, v14_3, .ref q_1404, v14_5, v14_6, v14_7, v14_8, v14_9, v14_10, v14_11, v14_12])), (q_1404, .inl (cA_1404, n14_idom, .inl (fun j : Nat => zI (a14_idom (j : Int))))), (hc, .inr (12, [v13_0, v13_1, v13_2, v13_3, v13_4, .ref la, v13_6]))]) (cx := []) (pl := va_pl L (pE P)) hD hS hA [] rfl
  refine va_callr (va_runV (As := [.int (zI (j0))]) (rest := []) ⟨hx, hb, hml, hown, hts⟩ (c_PL_get l dC dI cO L P pr_2007 j0 x hX_x hX_k hX_q (by omega) hX_e0 H.size) (cwV 1 hts g_P19_likeE_PL_get rfl rfl rfl (by decide +kernel) ⟨(Nat.le_of_ble_eq_true rfl), (Nat.le_of_ble_eq_true rfl)⟩) ⟨fun a U g mk q => by obtain ⟨q0, q1, qP, qK, qD⟩ := q; exact ⟨q0, q1, qP, va_K.moved (u := U) (U := U.calling g mk a) (Vm.Alike.refl U.vm) qK, qD⟩, recv_30 hKc hPc hlk_2008.1 hlk_2008.2.1, fun U hU hW => ⟨rfl, by rw [hU], by rw [hU]; exact hPc, va_K.moved hW.alike hKc, hDc.weaken (fun _ _ _ _ => trivial)⟩⟩ rfl rfl hl.1 rfl (lv_room (Nat.le_of_ble_eq_true rfl)) dX19_like__9 ⟨(Nat.le_of_ble_eq_true rfl), (Nat.le_of_ble_eq_true rfl)⟩) hS (fun q _ h => hFc q h) hFc (fun u q_2010 t H1 locs ht hvm hw hB hz1 hk1 hS => ?_)
  obtain ⟨hxt_2010, hP1, hK1, hD1⟩ := hB
  rw [ht] at hP1
  have hK1 := va_K.moved hvm.symm hK1
  obtain ⟨hP, hD⟩ := va_joinP (X := [(h0, .inr (16, [.ref hf, v19_1, v19_2, v19_3, v19_4, v19_5, v19_6, v19_7, v19_8, v19_9, v19_10, v19_11, v19_12, v19_13, v19_14, v19_15, v19_16, v19_17, v19_18, v19_19, v19_20, v19_21, v19_22, v19_23, v19_24, v19_25, v19_26, v19_27, v19_28, v19_29, v19_30, v19_31, v19_32, v19_33, v19_34, v19_35, v19_36, v19_37, v19_38, v19_39, v19_40])), (hf, .inr (13, [.ref hc, v14_1, v14_2, v14_3, .ref q_1404, v14_5, v14_6, v14_7, v14_8, v14_9, v14_10, v14_11, v14_12])), (q_1404, .inl (cA_1404, n14_idom, .inl (fun j : Nat => zI (a14_idom (j : Int))))), (hc, .inr (12, [v13_0, v13_1, v13_2, v13_3, v13_4, .ref la, v13_6]))]) (cx := []) (wr := [(h0, .inr (16, [.ref hf, v19_1, v19_2, v19_3, v19_4, v19_5, v19_6, v19_7, v19_8, v19_9, v19_10, v19_11, v19_12, v19_13, v19_14, v19_15, v19_16, v19_17, v19_18, v19_19, v19_20, v19_21, v19_22, v19_23, v19_24, v19_25, v19_26, v19_27, v19_28, v19_29, v19_30, v19_31, v19_32, v19_33, v19_34, v19_35, v19_36, v19_37, v19_38, v19_39, v19_40])), (hf, .inr (13, [.ref hc, v14_1, v14_2, v14_3, .ref q_1404, v14_5, v14_6, v14_7, v14_8, v14_9, v14_10, v14_11, v14_12])), (q_1404, .inl (cA_1404, n14_idom, .inl (fun j : Nat => zI (a14_idom (j : Int))))), (hc, .inr (12, [v13_0, v13_1, v13_2, v13_3, v13_4, .ref la, v13_6]))]) (rx := []) (pl := va_pl L (pE P)) (pl1 := va_pl L (pE P)) hP hD [] [0, 1, 2, 3] rfl rfl (by decide) (by decide) hk1 hFc hP1 hD1
  have hK := (hK.sub (tys' := [(cA_1404, .int), (cI, .int), (cZ, .boolean)]) [0, 1, 2] rfl).app hK1
  generalize H1 = H at hP hS ⊢
  have hP : va_P (dC, dI) vwQ ([(h0, .inr (16, [.ref hf, v19_1, v19_2, v19_3, v19_4, v19_5, v19_6, v19_7, v19_8, v19_9, v19_10, v19_11, v19_12, v19_13, v19_14, v19_15, v19_16, v19_17, v19_18, v19_19, v19_20, v19_21, v19_22, v19_23, v19_24, v19_25, v19_26, v19_27, v19_28, v19_29, v19_30, v19_31, v19_32, v19_33, v19_34, v19_35, v19_36, v19_37, v19_38, v19_39, v19_40])), (hf, .inr (13, [.ref hc, v14_1, v14_2, v14_3, .ref q_1404, v14_5, v14_6, v14_7, v14_8, v14_9, v14_10, v14_11, v14_12])), (q_1404, .inl (cA_1404, n14_idom, .inl (fun j : Nat => zI (a14_idom (j : Int))))), (hc, .inr (12, [v13_0, v13_1, v13_2, v13_3, v13_4, .ref la, v13_6]))] ++ va_pl L (pE P)) H := hP
  have hD : va_D A ([(h0, .inr (16, [.ref hf, v19_1, v19_2, v19_3, v19_4, v19_5, v19_6, v19_7, v19_8, v19_9, v19_10, v19_11, v19_12, v19_13, v19_14, v19_15, v19_16, v19_17, v19_18, v19_19, v19_20, v19_21, v19_22, v19_23, v19_24, v19_25, v19_26, v19_27, v19_28, v19_29, v19_30, v19_31, v19_32, v19_33, v19_34, v19_35, v19_36, v19_37, v19_38, v19_39, v19_40])), (hf, .inr (13, [.ref hc, v14_1, v14_2, v14_3, .ref q_1404, v14_5, v14_6, v14_7, v14_8, v14_9, v14_10, v14_11, v14_12])), (q_1404, .inl (cA_1404, n14_idom, .inl (fun j : Nat => zI (a14_idom (j : Int))))), (hc, .inr (12, [v13_0, v13_1, v13_2, v13_3, v13_4, .ref la, v13_6]))] ++ va_pl L (pE P)) := hD
  have hK : va_K (dC, dI) vwQ [(cA_1404, .int), (cI, .int), (cZ, .boolean), (cO, .object "java/lang/Object")] s := hK
  refine W.widen (k := 0) (n := 0) (Nat.le_of_ble_eq_true rfl) (Nat.le_of_ble_eq_true rfl) ?_
  rw [hxt_2010]
  clear hX_e0
  obtain ⟨xr_2011, h9⟩ : ∃ q9 : Nat, q9 = x := ⟨_, rfl⟩
  subst h9
  have hm_2012 := hxm
  have hk_2013 := hxk
  have hE_2014 : P.ek xr_2011 ≠ 1 := (by rw [ex, ← epr_2007.symm]; exact (hX_a9.2.2.2.1 _ (hX_a9.2.1.2.2.1 xb_2002 hB_2004.1.1 hB_2004.1.2).1.2.2.1 (hX_a9.2.1.2.2.1 xb_2002 hB_2004.1.1 hB_2004.1.2).1.2.2.2).2.2 (hX_a9.2.1.2.2.1 xb_2002 hB_2004.1.1 hB_2004.1.2).1.1 _ (by omega) (by rw [epr_2007.symm]; omega))
  refine va_castY (C := "SsaForgeModel$Row") (nm := "SsaForgeModel$Row") hx hb hown (ow (k := 9) rfl) hp1 (recv_17 hK hP hm_2012 hk_2013) dX19_like__12 ?_
  refine lv_astore (lv' := [(4, .ref xr_2011), (0, .ref h0), (1, .ref hc), (2, .int (zI (x0))), (3, .int (zI (j0)))]) hx hb dX19_like__15 hl (by decide) rfl (fun ls hl => ?_)
  have hr0 : xr_2011 = P.el (P.br (P.el la x0)) j0 := (by rw [← hx_2005, epr_2007.symm]; exact ex)
  refine lv_iload_n hx hb dX19_like__17 rfl (lv_at hl 3 rfl) ?_
  refine lv_istore (lv' := [(5, .int (zI (x0))), (4, .ref xr_2011), (0, .ref h0), (1, .ref hc), (2, .int (zI (x0))), (3, .int (zI (j0)))]) hx hb dX19_like__18 hl (by decide) rfl (fun ls hl => ?_)
  have key20 : ∀ n20 : Nat, ∀ (d20_5 : Int) (ls : Array Slot) (H : Heap) (locs : List Loc), (-1 ≤ d20_5 ∧ d20_5 < P.lz la) → (0 ≤ d20_5 → 0 ≤ rk (d20_5)) → (DMX P la (d20_5) x0) → ((MRK rk (d20_5) : Int).toNat) < n20 → lv_has ls 9 [(0, .ref h0), (1, .ref hc), (2, .int (zI (x0))), (3, .int (zI (j0))), (4, .ref xr_2011), (5, .int (zI (d20_5)))] → va_P (dC, dI) vwQ ([(h0, .inr (16, [.ref hf, v19_1, v19_2, v19_3, v19_4, v19_5, v19_6, v19_7, v19_8, v19_9, v19_10, v19_11, v19_12, v19_13, v19_14, v19_15, v19_16, v19_17, v19_18, v19_19, v19_20, v19_21, v19_22, v19_23, v19_24, v19_25, v19_26, v19_27, v19_28, v19_29, v19_30, v19_31, v19_32, v19_33, v19_34, v19_35, v19_36, v19_37, v19_38, v19_39, v19_40])), (hf, .inr (13, [.ref hc, v14_1, v14_2, v14_3, .ref q_1404, v14_5, v14_6, v14_7, v14_8, v14_9, v14_10, v14_11, v14_12])), (q_1404, .inl (cA_1404, n14_idom, .inl (fun j : Nat => zI (a14_idom (j : Int))))), (hc, .inr (12, [v13_0, v13_1, v13_2, v13_3, v13_4, .ref la, v13_6]))] ++ va_pl L (pE P)) H → va_D A ([(h0, .inr (16, [.ref hf, v19_1, v19_2, v19_3, v19_4, v19_5, v19_6, v19_7, v19_8, v19_9, v19_10, v19_11, v19_12, v19_13, v19_14, v19_15, v19_16, v19_17, v19_18, v19_19, v19_20, v19_21, v19_22, v19_23, v19_24, v19_25, v19_26, v19_27, v19_28, v19_29, v19_30, v19_31, v19_32, v19_33, v19_34, v19_35, v19_36, v19_37, v19_38, v19_39, v19_40])), (hf, .inr (13, [.ref hc, v14_1, v14_2, v14_3, .ref q_1404, v14_5, v14_6, v14_7, v14_8, v14_9, v14_10, v14_11, v14_12])), (q_1404, .inl (cA_1404, n14_idom, .inl (fun j : Nat => zI (a14_idom (j : Int))))), (hc, .inr (12, [v13_0, v13_1, v13_2, v13_3, v13_4, .ref la, v13_6]))] ++ va_pl L (pE P)) → va_S A s.heap H locs → W p l e (headSpec v_P19_likeE ({ frames := 4, cells := 0, slots := 0, locals := 85 })).room s m ([.ref h0, .ref hc, .int (zI (x0)), .int (zI (j0))] : List Value).toArray below meth c H locs 0 0 Q (F0 m 20 ls []) := by
    intro n20
    induction n20 with
    | zero => intro d20_5 ls H locs jd20_5 jr20 jd20 hm20; exact absurd hm20 (by omega)
    | succ n20 ih20 =>
      intro d20_5 ls H locs jd20_5 jr20 jd20 hm20 hl hP hD hS
      skip
      refine lv_iload hx hb dX19_like__20 (lv_at hl 5 rfl) ?_
      refine lv_if_lt (tgt := 117) hx hb dX19_like__22 (by decide) (fun b22 => ?_) (fun b22 => ?_)
      · have yb22 : (d20_5 : Int) < (0 : Int) := (zI_lt (a := d20_5) (b := 0) (by omega) (by omega) (by omega) (by omega)).mp b22
        refine lv_null hx hb dX19_like__117 ?_
        subst hQ
        have hK := hK.sub (tys' := [(cA_1404, .int), (cO, .object "java/lang/Object"), (cI, .int), (cZ, .boolean)]) [0, 3, 1, 2] rfl
        refine W.widen (k := 0) (n := 0) (Nat.le_of_ble_eq_true rfl) (Nat.le_of_ble_eq_true rfl) ?_
        exact W.aret (v := va_rf none) hx hb hr (Or.inl ⟨_, rfl⟩) (va_rf_or _) (fun t ht hW => ⟨⟨none, (), rfl, (Or.inl rfl), by rw [ht]; exact hP, va_K.moved hW.alike hK, hD⟩, hS.F ht⟩) hS.2.2 dX19_like__118
      · have yb22 : ¬ (d20_5 : Int) < (0 : Int) := fun q => b22 ((zI_lt (a := d20_5) (b := 0) (by omega) (by omega) (by omega) (by omega)).mpr q)
        refine lv_aload_n hx hb dX19_like__25 rfl (lv_at hl 1 rfl) ?_
        refine lv_iload hx hb dX19_like__26 (lv_at hl 5 rfl) ?_
        have hX_l := hX_a9.lok
        obtain ⟨x, ex⟩ : ∃ q9 : Nat, q9 = P.el la (d20_5) := ⟨_, rfl⟩
        have hX_el := ex
        have hPc := hP.part (X := [(h0, .inr (16, [.ref hf, v19_1, v19_2, v19_3, v19_4, v19_5, v19_6, v19_7, v19_8, v19_9, v19_10, v19_11, v19_12, v19_13, v19_14, v19_15, v19_16, v19_17, v19_18, v19_19, v19_20, v19_21, v19_22, v19_23, v19_24, v19_25, v19_26, v19_27, v19_28, v19_29, v19_30, v19_31, v19_32, v19_33, v19_34, v19_35, v19_36, v19_37, v19_38, v19_39, v19_40])), (hf, .inr (13, [.ref hc, v14_1, v14_2, v14_3, .ref q_1404, v14_5, v14_6, v14_7, v14_8, v14_9, v14_10, v14_11, v14_12])), (q_1404, .inl (cA_1404, n14_idom, .inl (fun j : Nat => zI (a14_idom (j : Int))))), (hc, .inr (12, [v13_0, v13_1, v13_2, v13_3, v13_4, .ref la, v13_6]))]) (cx := [(hc, .inr (12, [v13_0, v13_1, v13_2, v13_3, v13_4, .ref la, v13_6]))]) (pl := va_pl L (pE P)) [3] rfl
        have hDc := hD.part (X := [(h0, .inr (16, [.ref hf, v19_1, v19_2, v19_3, v19_4, v19_5, v19_6, v19_7, v19_8, v19_9, v19_10, v19_11, v19_12, v19_13, v19_14, v19_15, v19_16, v19_17, v19_18, v19_19, v19_20, v19_21, v19_22, v19_23, v19_24, v19_25, v19_26, v19_27, v19_28, v19_29, v19_30, v19_31, v19_32, v19_33, v19_34, v19_35, v19_36, v19_37, v19_38, v19_39, v19_40])), (hf, .inr (13, [.ref hc, v14_1, v14_2, v14_3, .ref q_1404, v14_5, v14_6, v14_7, v14_8, v14_9, v14_10, v14_11, v14_12])), (q_1404, .inl (cA_1404, n14_idom, .inl (fun j : Nat => zI (a14_idom (j : Int))))), (hc, .inr (12, [v13_0, v13_1, v13_2, v13_3, v13_4, .ref la, v13_6]))]) (cx := [(hc, .inr (12, [v13_0, v13_1, v13_2, v13_3, v13_4, .ref la, v13_6]))]) (pl := va_pl L (pE P)) [3] (by decide) rfl
        have hKc := hK.sub (tys' := [(cO, .object "java/lang/Object")]) [3] rfl
        have hFc := va_freeP (X := [(h0, .inr (16, [.ref hf, v19_1, v19_2, v19_3, v19_4, v19_5, v19_6, v19_7, v19_8, v19_9, v19_10, v19_11, v19_12, v19_13, v19_14, v19_15, v19_16, v19_17, v19_18, v19_19, v19_20, v19_21, v19_22, v19_23, v19_24, v19_25, v19_26, v19_27, v19_28, v19_29, v19_30, v19_31, v19_32, v19_33, v19_34, v19_35, v19_36, v19_37, v19_38, v19_39, v19_40])), (hf, .inr (13, [.ref hc, v14_1, v14_2, v14_3, .ref q_1404, v14_5, v14_6, v14_7, v14_8, v14_9, v14_10, v14_11, v14_12])), (q_1404, .inl (cA_1404, n14_idom, .inl (fun j : Nat => zI (a14_idom (j : Int))))), (hc, .inr (12, [v13_0, v13_1, v13_2, v13_3, v13_4, .ref la, v13_6]))]) (cx := [(hc, .inr (12, [v13_0, v13_1, v13_2, v13_3, v13_4, .ref la, v13_6]))]) (pl := va_pl L (pE P)) hD hS hA [3] rfl
        refine va_callr (va_runV (As := [.int (zI (d20_5))]) (rest := []) ⟨hx, hb, hml, hown, hts⟩ (c_PC_get l dC dI hc v13_0 v13_1 v13_2 v13_3 v13_4 v13_6 la cO L P d20_5 x hX_l (by omega) hX_el H.size) (cwV 1 hts g_P19_likeE_PC_get rfl rfl rfl (by decide +kernel) ⟨(Nat.le_of_ble_eq_true rfl), (Nat.le_of_ble_eq_true rfl)⟩) ⟨fun a U g mk q => by obtain ⟨q0, q1, qP, qK, qD, e0⟩ := q; exact ⟨q0, q1, qP, va_K.moved (u := U) (U := U.calling g mk a) (Vm.Alike.refl U.vm) qK, qD, va_Nw.same rfl (u := U) (U := U.calling g mk a) rfl e0⟩, va_recv hKc hPc (ci := 12) (q0 := 0) rfl rfl, fun U hU hW => ⟨rfl, by rw [hU], by rw [hU]; exact hPc, va_K.moved hW.alike hKc, hDc.weaken (fun _ _ _ _ => trivial), va_Nw.warmC hW hp0⟩⟩ rfl rfl hl.1 rfl (lv_room (Nat.le_of_ble_eq_true rfl)) dX19_like__28 ⟨(Nat.le_of_ble_eq_true rfl), (Nat.le_of_ble_eq_true rfl)⟩) hS (fun q _ h => hFc q h) hFc (fun u q_2015 t H1 locs ht hvm hw hB hz1 hk1 hS => ?_)
        obtain ⟨hxt_2015, hP1, hK1, hD1⟩ := hB
        rw [ht] at hP1
        have hK1 := va_K.moved hvm.symm hK1
        obtain ⟨hP, hD⟩ := va_joinP (X := [(h0, .inr (16, [.ref hf, v19_1, v19_2, v19_3, v19_4, v19_5, v19_6, v19_7, v19_8, v19_9, v19_10, v19_11, v19_12, v19_13, v19_14, v19_15, v19_16, v19_17, v19_18, v19_19, v19_20, v19_21, v19_22, v19_23, v19_24, v19_25, v19_26, v19_27, v19_28, v19_29, v19_30, v19_31, v19_32, v19_33, v19_34, v19_35, v19_36, v19_37, v19_38, v19_39, v19_40])), (hf, .inr (13, [.ref hc, v14_1, v14_2, v14_3, .ref q_1404, v14_5, v14_6, v14_7, v14_8, v14_9, v14_10, v14_11, v14_12])), (q_1404, .inl (cA_1404, n14_idom, .inl (fun j : Nat => zI (a14_idom (j : Int))))), (hc, .inr (12, [v13_0, v13_1, v13_2, v13_3, v13_4, .ref la, v13_6]))]) (cx := [(hc, .inr (12, [v13_0, v13_1, v13_2, v13_3, v13_4, .ref la, v13_6]))]) (wr := [(h0, .inr (16, [.ref hf, v19_1, v19_2, v19_3, v19_4, v19_5, v19_6, v19_7, v19_8, v19_9, v19_10, v19_11, v19_12, v19_13, v19_14, v19_15, v19_16, v19_17, v19_18, v19_19, v19_20, v19_21, v19_22, v19_23, v19_24, v19_25, v19_26, v19_27, v19_28, v19_29, v19_30, v19_31, v19_32, v19_33, v19_34, v19_35, v19_36, v19_37, v19_38, v19_39, v19_40])), (hf, .inr (13, [.ref hc, v14_1, v14_2, v14_3, .ref q_1404, v14_5, v14_6, v14_7, v14_8, v14_9, v14_10, v14_11, v14_12])), (q_1404, .inl (cA_1404, n14_idom, .inl (fun j : Nat => zI (a14_idom (j : Int)))))]) (rx := [(hc, .inr (12, [v13_0, v13_1, v13_2, v13_3, v13_4, .ref la, v13_6]))]) (pl := va_pl L (pE P)) (pl1 := va_pl L (pE P)) hP hD [3] [0, 1, 2] rfl rfl (by decide) (by decide) hk1 hFc hP1 hD1
        have hK := (hK.sub (tys' := [(cA_1404, .int), (cI, .int), (cZ, .boolean)]) [0, 1, 2] rfl).app hK1
        generalize H1 = H at hP hS ⊢
        have hP : va_P (dC, dI) vwQ ([(h0, .inr (16, [.ref hf, v19_1, v19_2, v19_3, v19_4, v19_5, v19_6, v19_7, v19_8, v19_9, v19_10, v19_11, v19_12, v19_13, v19_14, v19_15, v19_16, v19_17, v19_18, v19_19, v19_20, v19_21, v19_22, v19_23, v19_24, v19_25, v19_26, v19_27, v19_28, v19_29, v19_30, v19_31, v19_32, v19_33, v19_34, v19_35, v19_36, v19_37, v19_38, v19_39, v19_40])), (hf, .inr (13, [.ref hc, v14_1, v14_2, v14_3, .ref q_1404, v14_5, v14_6, v14_7, v14_8, v14_9, v14_10, v14_11, v14_12])), (q_1404, .inl (cA_1404, n14_idom, .inl (fun j : Nat => zI (a14_idom (j : Int))))), (hc, .inr (12, [v13_0, v13_1, v13_2, v13_3, v13_4, .ref la, v13_6]))] ++ va_pl L (pE P)) H := hP
        have hD : va_D A ([(h0, .inr (16, [.ref hf, v19_1, v19_2, v19_3, v19_4, v19_5, v19_6, v19_7, v19_8, v19_9, v19_10, v19_11, v19_12, v19_13, v19_14, v19_15, v19_16, v19_17, v19_18, v19_19, v19_20, v19_21, v19_22, v19_23, v19_24, v19_25, v19_26, v19_27, v19_28, v19_29, v19_30, v19_31, v19_32, v19_33, v19_34, v19_35, v19_36, v19_37, v19_38, v19_39, v19_40])), (hf, .inr (13, [.ref hc, v14_1, v14_2, v14_3, .ref q_1404, v14_5, v14_6, v14_7, v14_8, v14_9, v14_10, v14_11, v14_12])), (q_1404, .inl (cA_1404, n14_idom, .inl (fun j : Nat => zI (a14_idom (j : Int))))), (hc, .inr (12, [v13_0, v13_1, v13_2, v13_3, v13_4, .ref la, v13_6]))] ++ va_pl L (pE P)) := hD
        have hK : va_K (dC, dI) vwQ [(cA_1404, .int), (cI, .int), (cZ, .boolean), (cO, .object "java/lang/Object")] s := hK
        refine W.widen (k := 0) (n := 0) (Nat.le_of_ble_eq_true rfl) (Nat.le_of_ble_eq_true rfl) ?_
        rw [hxt_2015]
        obtain ⟨xb_2016, h9⟩ : ∃ q9 : Nat, q9 = x := ⟨_, rfl⟩
        subst h9
        have hi_2017 : INB P la xb_2016 := ⟨d20_5, by omega, by omega, ex⟩
        clear hX_el
        have hx_2019 := ex
        have hB_2018 := hX_a9.inb hi_2017
        have hfb := hB_2018.2.2.2.2
        refine lv_astore (lv' := [(6, .ref xb_2016), (0, .ref h0), (1, .ref hc), (2, .int (zI (x0))), (3, .int (zI (j0))), (4, .ref xr_2011), (5, .int (zI (d20_5)))]) hx hb dX19_like__31 hl (by decide) rfl (fun ls hl => ?_)
        have hlb9 := (hX_a9.inb hi_2017).2.1.2.2.1
        refine lv_iload hx hb dX19_like__33 (lv_at hl 6 rfl) ?_
        refine lv_iload_n hx hb dX19_like__35 rfl (lv_at hl 3 rfl) ?_
        have key51 : ∀ (ms51_0 : Int) (ls : Array Slot) (H : Heap) (locs : List Loc), (0 ≤ ms51_0 ∧ ms51_0 ≤ P.lz (P.br xb_2016) ∧ (d20_5 ≠ x0 ∨ ms51_0 ≤ j0)) → lv_has ls 9 [(0, .ref h0), (1, .ref hc), (2, .int (zI (x0))), (3, .int (zI (j0))), (4, .ref xr_2011), (5, .int (zI (d20_5))), (6, .ref xb_2016)] → va_P (dC, dI) vwQ ([(h0, .inr (16, [.ref hf, v19_1, v19_2, v19_3, v19_4, v19_5, v19_6, v19_7, v19_8, v19_9, v19_10, v19_11, v19_12, v19_13, v19_14, v19_15, v19_16, v19_17, v19_18, v19_19, v19_20, v19_21, v19_22, v19_23, v19_24, v19_25, v19_26, v19_27, v19_28, v19_29, v19_30, v19_31, v19_32, v19_33, v19_34, v19_35, v19_36, v19_37, v19_38, v19_39, v19_40])), (hf, .inr (13, [.ref hc, v14_1, v14_2, v14_3, .ref q_1404, v14_5, v14_6, v14_7, v14_8, v14_9, v14_10, v14_11, v14_12])), (q_1404, .inl (cA_1404, n14_idom, .inl (fun j : Nat => zI (a14_idom (j : Int))))), (hc, .inr (12, [v13_0, v13_1, v13_2, v13_3, v13_4, .ref la, v13_6]))] ++ va_pl L (pE P)) H → va_D A ([(h0, .inr (16, [.ref hf, v19_1, v19_2, v19_3, v19_4, v19_5, v19_6, v19_7, v19_8, v19_9, v19_10, v19_11, v19_12, v19_13, v19_14, v19_15, v19_16, v19_17, v19_18, v19_19, v19_20, v19_21, v19_22, v19_23, v19_24, v19_25, v19_26, v19_27, v19_28, v19_29, v19_30, v19_31, v19_32, v19_33, v19_34, v19_35, v19_36, v19_37, v19_38, v19_39, v19_40])), (hf, .inr (13, [.ref hc, v14_1, v14_2, v14_3, .ref q_1404, v14_5, v14_6, v14_7, v14_8, v14_9, v14_10, v14_11, v14_12])), (q_1404, .inl (cA_1404, n14_idom, .inl (fun j : Nat => zI (a14_idom (j : Int))))), (hc, .inr (12, [v13_0, v13_1, v13_2, v13_3, v13_4, .ref la, v13_6]))] ++ va_pl L (pE P)) → va_S A s.heap H locs → W p l e (headSpec v_P19_likeE ({ frames := 4, cells := 0, slots := 0, locals := 85 })).room s m ([.ref h0, .ref hc, .int (zI (x0)), .int (zI (j0))] : List Value).toArray below meth c H locs 0 0 Q (F0 m 51 ls [.int (zI (ms51_0))]) := by
          intro ms51_0 ls H locs jms51_0 hl hP hD hS
          refine lv_iconst (v := 1) hx hb dX19_like__51 (by decide) ?_
          refine lv_isub hx hb dX19_like__52 ?_
          refine lv_topi (fun z ez => ?_)
          obtain rfl : z = zI (ms51_0 - 1) := ez.trans (zI_sub (ms51_0) (1))
          refine lv_istore (lv' := [(7, .int (zI (ms51_0 - 1))), (0, .ref h0), (1, .ref hc), (2, .int (zI (x0))), (3, .int (zI (j0))), (4, .ref xr_2011), (5, .int (zI (d20_5))), (6, .ref xb_2016)]) hx hb dX19_like__53 hl (by decide) rfl (fun ls hl => ?_)
          have key55 : ∀ n55 : Nat, ∀ (d55_7 : Int) (ls : Array Slot) (H : Heap) (locs : List Loc), (-1 ≤ d55_7 ∧ d55_7 < P.lz (P.br xb_2016) ∧ (d20_5 ≠ x0 ∨ d55_7 < j0)) → ((d55_7 + 1 : Int).toNat) < n55 → lv_has ls 9 [(0, .ref h0), (1, .ref hc), (2, .int (zI (x0))), (3, .int (zI (j0))), (4, .ref xr_2011), (5, .int (zI (d20_5))), (6, .ref xb_2016), (7, .int (zI (d55_7)))] → va_P (dC, dI) vwQ ([(h0, .inr (16, [.ref hf, v19_1, v19_2, v19_3, v19_4, v19_5, v19_6, v19_7, v19_8, v19_9, v19_10, v19_11, v19_12, v19_13, v19_14, v19_15, v19_16, v19_17, v19_18, v19_19, v19_20, v19_21, v19_22, v19_23, v19_24, v19_25, v19_26, v19_27, v19_28, v19_29, v19_30, v19_31, v19_32, v19_33, v19_34, v19_35, v19_36, v19_37, v19_38, v19_39, v19_40])), (hf, .inr (13, [.ref hc, v14_1, v14_2, v14_3, .ref q_1404, v14_5, v14_6, v14_7, v14_8, v14_9, v14_10, v14_11, v14_12])), (q_1404, .inl (cA_1404, n14_idom, .inl (fun j : Nat => zI (a14_idom (j : Int))))), (hc, .inr (12, [v13_0, v13_1, v13_2, v13_3, v13_4, .ref la, v13_6]))] ++ va_pl L (pE P)) H → va_D A ([(h0, .inr (16, [.ref hf, v19_1, v19_2, v19_3, v19_4, v19_5, v19_6, v19_7, v19_8, v19_9, v19_10, v19_11, v19_12, v19_13, v19_14, v19_15, v19_16, v19_17, v19_18, v19_19, v19_20, v19_21, v19_22, v19_23, v19_24, v19_25, v19_26, v19_27, v19_28, v19_29, v19_30, v19_31, v19_32, v19_33, v19_34, v19_35, v19_36, v19_37, v19_38, v19_39, v19_40])), (hf, .inr (13, [.ref hc, v14_1, v14_2, v14_3, .ref q_1404, v14_5, v14_6, v14_7, v14_8, v14_9, v14_10, v14_11, v14_12])), (q_1404, .inl (cA_1404, n14_idom, .inl (fun j : Nat => zI (a14_idom (j : Int))))), (hc, .inr (12, [v13_0, v13_1, v13_2, v13_3, v13_4, .ref la, v13_6]))] ++ va_pl L (pE P)) → va_S A s.heap H locs → W p l e (headSpec v_P19_likeE ({ frames := 4, cells := 0, slots := 0, locals := 85 })).room s m ([.ref h0, .ref hc, .int (zI (x0)), .int (zI (j0))] : List Value).toArray below meth c H locs 0 0 Q (F0 m 55 ls []) := by
            intro n55
            induction n55 with
            | zero => intro d55_7 ls H locs jd55_7 hm55; exact absurd hm55 (by omega)
            | succ n55 ih55 =>
              intro d55_7 ls H locs jd55_7 hm55 hl hP hD hS
              skip
              refine lv_iload hx hb dX19_like__55 (lv_at hl 7 rfl) ?_
              refine lv_if_lt (tgt := 102) hx hb dX19_like__57 (by decide) (fun b57 => ?_) (fun b57 => ?_)
              · have yb57 : (d55_7 : Int) < (0 : Int) := (zI_lt (a := d55_7) (b := 0) (by omega) (by omega) (by omega) (by omega)).mp b57
                refine lv_aload_n hx hb dX19_like__102 rfl (lv_at hl 0 rfl) ?_
                refine va_get (D := (dC, dI)) (ci := 16) (v := .ref hf) (C := RX19) (T := TX19) (N := 41) hx hb hts mem_P19_likeE_3 hown hK hP 0 rfl rfl 0 (by decide) (ow (k := 10) rfl) (fun _ h9 => h9) rfl dX19_like__103 ?_
                refine va_get (D := (dC, dI)) (ci := 13) (v := .ref q_1404) (C := RX14) (T := TX14) (N := 13) hx hb hts mem_P19_likeE_4 hown hK hP 1 rfl rfl 4 (by decide) (ow (k := 11) rfl) (fun _ h9 => h9) rfl dX19_like__106 ?_
                refine lv_iload hx hb dX19_like__109 (lv_at hl 5 rfl) ?_
                refine va_iald hx hb hK hP 2 0 rfl rfl (zI_in (a := d20_5) (n := n14_idom) (by omega) (by omega) (by omega)) dX19_like__111 ?_
                refine lv_topi (fun z ez => ?_)
                obtain rfl : z = zI (a14_idom (d20_5)) := ez.trans (zI_ld (a14_idom) (by omega) (by omega))
                have k1 := hR_a14_idom (d20_5)
                have hdn9 := hX_K.down (x := d20_5) (by omega) (by omega) (jr20 (by omega))
                have hdn1 := hdn9.1
                have hdn2 := hdn9.2.2
                have hdn3 := MRK.nn rk (a14_idom (d20_5))
                refine lv_istore (lv' := [(5, .int (zI (a14_idom (d20_5)))), (0, .ref h0), (1, .ref hc), (2, .int (zI (x0))), (3, .int (zI (j0))), (4, .ref xr_2011), (6, .ref xb_2016), (7, .int (zI (d55_7)))]) hx hb dX19_like__112 hl (by decide) rfl (fun ls hl => ?_)
                refine lv_goto (tgt := 20) hx hb dX19_like__114 (by decide) ?_
                exact ih20 (a14_idom (d20_5)) ls H _ (by omega) hdn9.2.1 (jd20.up hX_Z (by omega) (by omega)) (by omega) (lv_sub hl [1, 2, 3, 4, 5, 0] rfl) hP hD hS
              · have yb57 : ¬ (d55_7 : Int) < (0 : Int) := fun q => b57 ((zI_lt (a := d55_7) (b := 0) (by omega) (by omega) (by omega) (by omega)).mpr q)
                refine lv_aload hx hb dX19_like__60 (lv_at hl 6 rfl) ?_
                obtain ⟨kp_2020, hkp_2020⟩ := va_pl_get (X := [(h0, .inr (16, [.ref hf, v19_1, v19_2, v19_3, v19_4, v19_5, v19_6, v19_7, v19_8, v19_9, v19_10, v19_11, v19_12, v19_13, v19_14, v19_15, v19_16, v19_17, v19_18, v19_19, v19_20, v19_21, v19_22, v19_23, v19_24, v19_25, v19_26, v19_27, v19_28, v19_29, v19_30, v19_31, v19_32, v19_33, v19_34, v19_35, v19_36, v19_37, v19_38, v19_39, v19_40])), (hf, .inr (13, [.ref hc, v14_1, v14_2, v14_3, .ref q_1404, v14_5, v14_6, v14_7, v14_8, v14_9, v14_10, v14_11, v14_12])), (q_1404, .inl (cA_1404, n14_idom, .inl (fun j : Nat => zI (a14_idom (j : Int))))), (hc, .inr (12, [v13_0, v13_1, v13_2, v13_3, v13_4, .ref la, v13_6]))]) (f := pE P) hB_2018.1.1
                rw [pE_block hB_2018.1.2] at hkp_2020
                refine va_get (D := (dC, dI)) (ci := 19) (v := .ref (P.br xb_2016)) (C := RX12) (T := TX12) (N := 5) hx hb hts mem_P19_likeE_1 hown hK hP kp_2020 hkp_2020 rfl 1 (by decide) (ow (k := 4) rfl) (fun _ h9 => h9) rfl dX19_like__62 ?_
                obtain ⟨pr_2021, epr_2021⟩ : ∃ q9 : Nat, q9 = P.br xb_2016 := ⟨_, rfl⟩
                rw [← epr_2021]
                have hlk_2022 : LOK L P cO 17 pr_2021 := (by rw [epr_2021]; exact (hX_a9.inb hi_2017).2.1)
                have hlz9 := hlk_2022.2.2.1
                have : P.lz pr_2021 = P.lz (P.br xb_2016) := (by rw [epr_2021])
                refine lv_iload hx hb dX19_like__65 (lv_at hl 7 rfl) ?_
                have hlk_2023 := (show LOK L P cO 17 pr_2021 from (by rw [← epr_2021.symm]; exact (hX_a9.inb hi_2017).2.1))
                obtain ⟨x, ex⟩ : ∃ q9 : Nat, q9 = P.el pr_2021 (d55_7) := ⟨_, rfl⟩
                have hX_x := hlk_2023.1
                have hX_k := hlk_2023.2.1
                have hq9 := hlk_2023.row (i := d55_7) (by omega) (by omega)
                have hX_q : P.le pr_2021 ∈ L ∧ P.kd (P.le pr_2021) = 31 ∧ P.ac (P.le pr_2021) = cO := ⟨hq9.1, hq9.2.1, hq9.2.2.1⟩
                have hq8 := hq9.2.2.2
                have hX_e0 : P.oa (P.le pr_2021) (d55_7).toNat = some x := (by rw [ex]; exact (hlk_2023.2.2.2.2 (d55_7) (by omega) (by omega)).1)
                have hxm : x ∈ L := (by rw [ex]; exact (hlk_2023.2.2.2.2 (d55_7) (by omega) (by omega)).2.1)
                have hxk := (hlk_2023.2.2.2.2 (d55_7) (by omega) (by omega)).2.2
                rw [← ex] at hxk
                have hPc := hP.part (X := [(h0, .inr (16, [.ref hf, v19_1, v19_2, v19_3, v19_4, v19_5, v19_6, v19_7, v19_8, v19_9, v19_10, v19_11, v19_12, v19_13, v19_14, v19_15, v19_16, v19_17, v19_18, v19_19, v19_20, v19_21, v19_22, v19_23, v19_24, v19_25, v19_26, v19_27, v19_28, v19_29, v19_30, v19_31, v19_32, v19_33, v19_34, v19_35, v19_36, v19_37, v19_38, v19_39, v19_40])), (hf, .inr (13, [.ref hc, v14_1, v14_2, v14_3, .ref q_1404, v14_5, v14_6, v14_7, v14_8, v14_9, v14_10, v14_11, v14_12])), (q_1404, .inl (cA_1404, n14_idom, .inl (fun j : Nat => zI (a14_idom (j : Int))))), (hc, .inr (12, [v13_0, v13_1, v13_2, v13_3, v13_4, .ref la, v13_6]))]) (cx := []) (pl := va_pl L (pE P)) [] rfl
                have hDc := hD.part (X := [(h0, .inr (16, [.ref hf, v19_1, v19_2, v19_3, v19_4, v19_5, v19_6, v19_7, v19_8, v19_9, v19_10, v19_11, v19_12, v19_13, v19_14, v19_15, v19_16, v19_17, v19_18, v19_19, v19_20, v19_21, v19_22, v19_23, v19_24, v19_25, v19_26, v19_27, v19_28, v19_29, v19_30, v19_31, v19_32, v19_33, v19_34, v19_35, v19_36, v19_37, v19_38, v19_39, v19_40])), (hf, .inr (13, [.ref hc, v14_1, v14_2, v14_3, .ref q_1404, v14_5, v14_6, v14_7, v14_8, v14_9, v14_10, v14_11, v14_12])), (q_1404, .inl (cA_1404, n14_idom, .inl (fun j : Nat => zI (a14_idom (j : Int))))), (hc, .inr (12, [v13_0, v13_1, v13_2, v13_3, v13_4, .ref la, v13_6]))]) (cx := []) (pl := va_pl L (pE P)) [] (by decide) rfl
                have hKc := hK.sub (tys' := [(cO, .object "java/lang/Object")]) [3] rfl
                have hFc := va_freeP (X := [(h0, .inr (16, [.ref hf, v19_1, v19_2, v19_3, v19_4, v19_5, v19_6, v19_7, v19_8, v19_9, v19_10, v19_11, v19_12, v19_13, v19_14, v19_15, v19_16, v19_17, v19_18, v19_19, v19_20, v19_21, v19_22, v19_23, v19_24, v19_25, v19_26, v19_27, v19_28, v19_29, v19_30, v19_31, v19_32, v19_33, v19_34, v19_35, v19_36, v19_37, v19_38, v19_39, v19_40])), (hf, .inr (13, [.ref hc, v14_1, v14_2, v14_3, .ref q_1404, v14_5, v14_6, v14_7, v14_8, v14_9, v14_10, v14_11, v14_12])), (q_1404, .inl (cA_1404, n14_idom, .inl (fun j : Nat => zI (a14_idom (j : Int))))), (hc, .inr (12, [v13_0, v13_1, v13_2, v13_3, v13_4, .ref la, v13_6]))]) (cx := []) (pl := va_pl L (pE P)) hD hS hA [] rfl
                refine va_callr (va_runV (As := [.int (zI (d55_7))]) (rest := []) ⟨hx, hb, hml, hown, hts⟩ (c_PL_get l dC dI cO L P pr_2021 d55_7 x hX_x hX_k hX_q (by omega) hX_e0 H.size) (cwV 1 hts g_P19_likeE_PL_get rfl rfl rfl (by decide +kernel) ⟨(Nat.le_of_ble_eq_true rfl), (Nat.le_of_ble_eq_true rfl)⟩) ⟨fun a U g mk q => by obtain ⟨q0, q1, qP, qK, qD⟩ := q; exact ⟨q0, q1, qP, va_K.moved (u := U) (U := U.calling g mk a) (Vm.Alike.refl U.vm) qK, qD⟩, recv_30 hKc hPc hlk_2022.1 hlk_2022.2.1, fun U hU hW => ⟨rfl, by rw [hU], by rw [hU]; exact hPc, va_K.moved hW.alike hKc, hDc.weaken (fun _ _ _ _ => trivial)⟩⟩ rfl rfl hl.1 rfl (lv_room (Nat.le_of_ble_eq_true rfl)) dX19_like__67 ⟨(Nat.le_of_ble_eq_true rfl), (Nat.le_of_ble_eq_true rfl)⟩) hS (fun q _ h => hFc q h) hFc (fun u q_2024 t H1 locs ht hvm hw hB hz1 hk1 hS => ?_)
                obtain ⟨hxt_2024, hP1, hK1, hD1⟩ := hB
                rw [ht] at hP1
                have hK1 := va_K.moved hvm.symm hK1
                obtain ⟨hP, hD⟩ := va_joinP (X := [(h0, .inr (16, [.ref hf, v19_1, v19_2, v19_3, v19_4, v19_5, v19_6, v19_7, v19_8, v19_9, v19_10, v19_11, v19_12, v19_13, v19_14, v19_15, v19_16, v19_17, v19_18, v19_19, v19_20, v19_21, v19_22, v19_23, v19_24, v19_25, v19_26, v19_27, v19_28, v19_29, v19_30, v19_31, v19_32, v19_33, v19_34, v19_35, v19_36, v19_37, v19_38, v19_39, v19_40])), (hf, .inr (13, [.ref hc, v14_1, v14_2, v14_3, .ref q_1404, v14_5, v14_6, v14_7, v14_8, v14_9, v14_10, v14_11, v14_12])), (q_1404, .inl (cA_1404, n14_idom, .inl (fun j : Nat => zI (a14_idom (j : Int))))), (hc, .inr (12, [v13_0, v13_1, v13_2, v13_3, v13_4, .ref la, v13_6]))]) (cx := []) (wr := [(h0, .inr (16, [.ref hf, v19_1, v19_2, v19_3, v19_4, v19_5, v19_6, v19_7, v19_8, v19_9, v19_10, v19_11, v19_12, v19_13, v19_14, v19_15, v19_16, v19_17, v19_18, v19_19, v19_20, v19_21, v19_22, v19_23, v19_24, v19_25, v19_26, v19_27, v19_28, v19_29, v19_30, v19_31, v19_32, v19_33, v19_34, v19_35, v19_36, v19_37, v19_38, v19_39, v19_40])), (hf, .inr (13, [.ref hc, v14_1, v14_2, v14_3, .ref q_1404, v14_5, v14_6, v14_7, v14_8, v14_9, v14_10, v14_11, v14_12])), (q_1404, .inl (cA_1404, n14_idom, .inl (fun j : Nat => zI (a14_idom (j : Int))))), (hc, .inr (12, [v13_0, v13_1, v13_2, v13_3, v13_4, .ref la, v13_6]))]) (rx := []) (pl := va_pl L (pE P)) (pl1 := va_pl L (pE P)) hP hD [] [0, 1, 2, 3] rfl rfl (by decide) (by decide) hk1 hFc hP1 hD1
                have hK := (hK.sub (tys' := [(cA_1404, .int), (cI, .int), (cZ, .boolean)]) [0, 1, 2] rfl).app hK1
                generalize H1 = H at hP hS ⊢
                have hP : va_P (dC, dI) vwQ ([(h0, .inr (16, [.ref hf, v19_1, v19_2, v19_3, v19_4, v19_5, v19_6, v19_7, v19_8, v19_9, v19_10, v19_11, v19_12, v19_13, v19_14, v19_15, v19_16, v19_17, v19_18, v19_19, v19_20, v19_21, v19_22, v19_23, v19_24, v19_25, v19_26, v19_27, v19_28, v19_29, v19_30, v19_31, v19_32, v19_33, v19_34, v19_35, v19_36, v19_37, v19_38, v19_39, v19_40])), (hf, .inr (13, [.ref hc, v14_1, v14_2, v14_3, .ref q_1404, v14_5, v14_6, v14_7, v14_8, v14_9, v14_10, v14_11, v14_12])), (q_1404, .inl (cA_1404, n14_idom, .inl (fun j : Nat => zI (a14_idom (j : Int))))), (hc, .inr (12, [v13_0, v13_1, v13_2, v13_3, v13_4, .ref la, v13_6]))] ++ va_pl L (pE P)) H := hP
                have hD : va_D A ([(h0, .inr (16, [.ref hf, v19_1, v19_2, v19_3, v19_4, v19_5, v19_6, v19_7, v19_8, v19_9, v19_10, v19_11, v19_12, v19_13, v19_14, v19_15, v19_16, v19_17, v19_18, v19_19, v19_20, v19_21, v19_22, v19_23, v19_24, v19_25, v19_26, v19_27, v19_28, v19_29, v19_30, v19_31, v19_32, v19_33, v19_34, v19_35, v19_36, v19_37, v19_38, v19_39, v19_40])), (hf, .inr (13, [.ref hc, v14_1, v14_2, v14_3, .ref q_1404, v14_5, v14_6, v14_7, v14_8, v14_9, v14_10, v14_11, v14_12])), (q_1404, .inl (cA_1404, n14_idom, .inl (fun j : Nat => zI (a14_idom (j : Int))))), (hc, .inr (12, [v13_0, v13_1, v13_2, v13_3, v13_4, .ref la, v13_6]))] ++ va_pl L (pE P)) := hD
                have hK : va_K (dC, dI) vwQ [(cA_1404, .int), (cI, .int), (cZ, .boolean), (cO, .object "java/lang/Object")] s := hK
                refine W.widen (k := 0) (n := 0) (Nat.le_of_ble_eq_true rfl) (Nat.le_of_ble_eq_true rfl) ?_
                rw [hxt_2024]
                clear hX_e0
                obtain ⟨xr_2025, h9⟩ : ∃ q9 : Nat, q9 = x := ⟨_, rfl⟩
                subst h9
                have hm_2026 := hxm
                have hk_2027 := hxk
                have hE_2028 : P.ek xr_2025 ≠ 1 := (by rw [ex, ← epr_2021.symm]; exact (hX_a9.2.2.2.1 _ (hX_a9.2.1.2.2.1 xb_2016 hB_2018.1.1 hB_2018.1.2).1.2.2.1 (hX_a9.2.1.2.2.1 xb_2016 hB_2018.1.1 hB_2018.1.2).1.2.2.2).2.2 (hX_a9.2.1.2.2.1 xb_2016 hB_2018.1.1 hB_2018.1.2).1.1 _ (by omega) (by rw [epr_2021.symm]; omega))
                refine va_castY (C := "SsaForgeModel$Row") (nm := "SsaForgeModel$Row") hx hb hown (ow (k := 9) rfl) hp1 (recv_17 hK hP hm_2026 hk_2027) dX19_like__70 ?_
                refine lv_astore (lv' := [(8, .ref xr_2025), (0, .ref h0), (1, .ref hc), (2, .int (zI (x0))), (3, .int (zI (j0))), (4, .ref xr_2011), (5, .int (zI (d20_5))), (6, .ref xb_2016), (7, .int (zI (d55_7)))]) hx hb dX19_like__73 hl (by decide) rfl (fun ls hl => ?_)
                refine lv_aload hx hb dX19_like__75 (lv_at hl 0 rfl) ?_
                have ⟨hr1, hr2, hr3, hr4, hr5, hr6, hr7, hr8, hr9⟩ := hX_a9.rok hm_2026 hk_2027
                obtain ⟨kp_2029, hkp_2029⟩ := va_pl_get (X := [(h0, .inr (16, [.ref hf, v19_1, v19_2, v19_3, v19_4, v19_5, v19_6, v19_7, v19_8, v19_9, v19_10, v19_11, v19_12, v19_13, v19_14, v19_15, v19_16, v19_17, v19_18, v19_19, v19_20, v19_21, v19_22, v19_23, v19_24, v19_25, v19_26, v19_27, v19_28, v19_29, v19_30, v19_31, v19_32, v19_33, v19_34, v19_35, v19_36, v19_37, v19_38, v19_39, v19_40])), (hf, .inr (13, [.ref hc, v14_1, v14_2, v14_3, .ref q_1404, v14_5, v14_6, v14_7, v14_8, v14_9, v14_10, v14_11, v14_12])), (q_1404, .inl (cA_1404, n14_idom, .inl (fun j : Nat => zI (a14_idom (j : Int))))), (hc, .inr (12, [v13_0, v13_1, v13_2, v13_3, v13_4, .ref la, v13_6]))]) (f := pE P) hm_2026
                rw [pE_row hk_2027] at hkp_2029
                refine va_get (D := (dC, dI)) (ci := 21) (v := .int (zI (P.rg xr_2025))) (C := RX17) (T := TX17) (N := 7) hx hb hts mem_P19_likeE_5 hown hK hP kp_2029 hkp_2029 rfl 6 (by decide) (ow (k := 12) rfl) (fun _ h9 => h9) rfl dX19_like__77 ?_
                refine lv_if_ne (tgt := 96) hx hb dX19_like__80 (by decide) (fun b80 => ?_) (fun b80 => ?_)
                · have yb80 : ¬ (P.rg xr_2025 : Int) = (0 : Int) := fun q => b80 ((zI_eq (a := P.rg xr_2025) (b := 0) (by omega) (by omega) (by omega) (by omega)).mpr q)
                  refine lv_iinc (v := zI (d55_7 - 1)) (lv' := [(7, .int (zI (d55_7 - 1))), (8, .ref xr_2025), (0, .ref h0), (1, .ref hc), (2, .int (zI (x0))), (3, .int (zI (j0))), (4, .ref xr_2011), (5, .int (zI (d20_5))), (6, .ref xb_2016)]) hx hb dX19_like__96 hl (k := 8) rfl (zI_dec (d55_7) (1)) (by decide) rfl (fun ls hl => ?_)
                  refine lv_goto (tgt := 55) hx hb dX19_like__99 (by decide) ?_
                  exact ih55 (d55_7 - 1) ls H _ (by omega) (by omega) (lv_sub hl [2, 3, 4, 5, 6, 7, 8, 0] rfl) hP hD hS
                · have yb80 : (P.rg xr_2025 : Int) = (0 : Int) := (zI_eq (a := P.rg xr_2025) (b := 0) (by omega) (by omega) (by omega) (by omega)).mp b80
                  refine lv_aload hx hb dX19_like__83 (lv_at hl 5 rfl) ?_
                  refine lv_aload hx hb dX19_like__85 (lv_at hl 0 rfl) ?_
                  have hX_x := hm_2012
                  have hX_k := hk_2013
                  have hX_r := hX_a9.rok hm_2012 hk_2013
                  have ⟨hr1, hr2, hr3, hr4, hr5, hr6, hr7, hr8, hr9⟩ := hX_a9.rok hm_2012 hk_2013
                  have hX_y := hm_2026
                  have hX_j := hk_2027
                  have hX_t := hX_a9.rok hm_2026 hk_2027
                  have hPc := hP.part (X := [(h0, .inr (16, [.ref hf, v19_1, v19_2, v19_3, v19_4, v19_5, v19_6, v19_7, v19_8, v19_9, v19_10, v19_11, v19_12, v19_13, v19_14, v19_15, v19_16, v19_17, v19_18, v19_19, v19_20, v19_21, v19_22, v19_23, v19_24, v19_25, v19_26, v19_27, v19_28, v19_29, v19_30, v19_31, v19_32, v19_33, v19_34, v19_35, v19_36, v19_37, v19_38, v19_39, v19_40])), (hf, .inr (13, [.ref hc, v14_1, v14_2, v14_3, .ref q_1404, v14_5, v14_6, v14_7, v14_8, v14_9, v14_10, v14_11, v14_12])), (q_1404, .inl (cA_1404, n14_idom, .inl (fun j : Nat => zI (a14_idom (j : Int))))), (hc, .inr (12, [v13_0, v13_1, v13_2, v13_3, v13_4, .ref la, v13_6]))]) (cx := []) (pl := va_pl L (pE P)) [] rfl
                  have hDc := hD.part (X := [(h0, .inr (16, [.ref hf, v19_1, v19_2, v19_3, v19_4, v19_5, v19_6, v19_7, v19_8, v19_9, v19_10, v19_11, v19_12, v19_13, v19_14, v19_15, v19_16, v19_17, v19_18, v19_19, v19_20, v19_21, v19_22, v19_23, v19_24, v19_25, v19_26, v19_27, v19_28, v19_29, v19_30, v19_31, v19_32, v19_33, v19_34, v19_35, v19_36, v19_37, v19_38, v19_39, v19_40])), (hf, .inr (13, [.ref hc, v14_1, v14_2, v14_3, .ref q_1404, v14_5, v14_6, v14_7, v14_8, v14_9, v14_10, v14_11, v14_12])), (q_1404, .inl (cA_1404, n14_idom, .inl (fun j : Nat => zI (a14_idom (j : Int))))), (hc, .inr (12, [v13_0, v13_1, v13_2, v13_3, v13_4, .ref la, v13_6]))]) (cx := []) (pl := va_pl L (pE P)) [] (by decide) rfl
                  have hKc := hK.sub (tys' := [(cO, .object "java/lang/Object")]) [3] rfl
                  have hFc := va_freeP (X := [(h0, .inr (16, [.ref hf, v19_1, v19_2, v19_3, v19_4, v19_5, v19_6, v19_7, v19_8, v19_9, v19_10, v19_11, v19_12, v19_13, v19_14, v19_15, v19_16, v19_17, v19_18, v19_19, v19_20, v19_21, v19_22, v19_23, v19_24, v19_25, v19_26, v19_27, v19_28, v19_29, v19_30, v19_31, v19_32, v19_33, v19_34, v19_35, v19_36, v19_37, v19_38, v19_39, v19_40])), (hf, .inr (13, [.ref hc, v14_1, v14_2, v14_3, .ref q_1404, v14_5, v14_6, v14_7, v14_8, v14_9, v14_10, v14_11, v14_12])), (q_1404, .inl (cA_1404, n14_idom, .inl (fun j : Nat => zI (a14_idom (j : Int))))), (hc, .inr (12, [v13_0, v13_1, v13_2, v13_3, v13_4, .ref la, v13_6]))]) (cx := []) (pl := va_pl L (pE P)) hD hS hA [] rfl
                  refine va_calli (va_runS (As := [.ref xr_2011, .ref xr_2025]) (rest := []) ⟨hx, hb, hml, hown, hts⟩ (c_P19_likeRowE l dC dI cO L P xr_2011 xr_2025 hX_x hX_k hX_r hX_y hX_j hX_t H.size) (cwS 2 hts g_P19_likeE_P19_likeRowE rfl rfl rfl (by decide +kernel) ⟨(Nat.le_of_ble_eq_true rfl), (Nat.le_of_ble_eq_true rfl)⟩) ⟨fun a U g mk q => by obtain ⟨q0, q1, qP, qK, qD⟩ := q; exact ⟨q0, q1, qP, va_K.moved (u := U) (U := U.calling g mk a) (Vm.Alike.refl U.vm) qK, qD⟩, fun U hU hW => ⟨rfl, by rw [hU], by rw [hU]; exact hPc, va_K.moved hW.alike hKc, hDc.weaken (fun _ _ _ _ => trivial)⟩⟩ rfl rfl hl.1 rfl (lv_room (Nat.le_of_ble_eq_true rfl)) dX19_like__87 ⟨(Nat.le_of_ble_eq_true rfl), (Nat.le_of_ble_eq_true rfl)⟩) hS (fun q _ h => hFc q h) hFc (fun r_2030 u t H1 locs ht hvm hw hB hz1 hk1 hS => ?_)
                  obtain ⟨hP1, hK1, hD1⟩ := hB
                  rw [ht] at hP1
                  have hK1 := va_K.moved hvm.symm hK1
                  obtain ⟨hP, hD⟩ := va_joinP (X := [(h0, .inr (16, [.ref hf, v19_1, v19_2, v19_3, v19_4, v19_5, v19_6, v19_7, v19_8, v19_9, v19_10, v19_11, v19_12, v19_13, v19_14, v19_15, v19_16, v19_17, v19_18, v19_19, v19_20, v19_21, v19_22, v19_23, v19_24, v19_25, v19_26, v19_27, v19_28, v19_29, v19_30, v19_31, v19_32, v19_33, v19_34, v19_35, v19_36, v19_37, v19_38, v19_39, v19_40])), (hf, .inr (13, [.ref hc, v14_1, v14_2, v14_3, .ref q_1404, v14_5, v14_6, v14_7, v14_8, v14_9, v14_10, v14_11, v14_12])), (q_1404, .inl (cA_1404, n14_idom, .inl (fun j : Nat => zI (a14_idom (j : Int))))), (hc, .inr (12, [v13_0, v13_1, v13_2, v13_3, v13_4, .ref la, v13_6]))]) (cx := []) (wr := [(h0, .inr (16, [.ref hf, v19_1, v19_2, v19_3, v19_4, v19_5, v19_6, v19_7, v19_8, v19_9, v19_10, v19_11, v19_12, v19_13, v19_14, v19_15, v19_16, v19_17, v19_18, v19_19, v19_20, v19_21, v19_22, v19_23, v19_24, v19_25, v19_26, v19_27, v19_28, v19_29, v19_30, v19_31, v19_32, v19_33, v19_34, v19_35, v19_36, v19_37, v19_38, v19_39, v19_40])), (hf, .inr (13, [.ref hc, v14_1, v14_2, v14_3, .ref q_1404, v14_5, v14_6, v14_7, v14_8, v14_9, v14_10, v14_11, v14_12])), (q_1404, .inl (cA_1404, n14_idom, .inl (fun j : Nat => zI (a14_idom (j : Int))))), (hc, .inr (12, [v13_0, v13_1, v13_2, v13_3, v13_4, .ref la, v13_6]))]) (rx := []) (pl := va_pl L (pE P)) (pl1 := va_pl L (pE P)) hP hD [] [0, 1, 2, 3] rfl rfl (by decide) (by decide) hk1 hFc hP1 hD1
                  have hK := (hK.sub (tys' := [(cA_1404, .int), (cI, .int), (cZ, .boolean)]) [0, 1, 2] rfl).app hK1
                  generalize H1 = H at hP hS ⊢
                  have hP : va_P (dC, dI) vwQ ([(h0, .inr (16, [.ref hf, v19_1, v19_2, v19_3, v19_4, v19_5, v19_6, v19_7, v19_8, v19_9, v19_10, v19_11, v19_12, v19_13, v19_14, v19_15, v19_16, v19_17, v19_18, v19_19, v19_20, v19_21, v19_22, v19_23, v19_24, v19_25, v19_26, v19_27, v19_28, v19_29, v19_30, v19_31, v19_32, v19_33, v19_34, v19_35, v19_36, v19_37, v19_38, v19_39, v19_40])), (hf, .inr (13, [.ref hc, v14_1, v14_2, v14_3, .ref q_1404, v14_5, v14_6, v14_7, v14_8, v14_9, v14_10, v14_11, v14_12])), (q_1404, .inl (cA_1404, n14_idom, .inl (fun j : Nat => zI (a14_idom (j : Int))))), (hc, .inr (12, [v13_0, v13_1, v13_2, v13_3, v13_4, .ref la, v13_6]))] ++ va_pl L (pE P)) H := hP
                  have hD : va_D A ([(h0, .inr (16, [.ref hf, v19_1, v19_2, v19_3, v19_4, v19_5, v19_6, v19_7, v19_8, v19_9, v19_10, v19_11, v19_12, v19_13, v19_14, v19_15, v19_16, v19_17, v19_18, v19_19, v19_20, v19_21, v19_22, v19_23, v19_24, v19_25, v19_26, v19_27, v19_28, v19_29, v19_30, v19_31, v19_32, v19_33, v19_34, v19_35, v19_36, v19_37, v19_38, v19_39, v19_40])), (hf, .inr (13, [.ref hc, v14_1, v14_2, v14_3, .ref q_1404, v14_5, v14_6, v14_7, v14_8, v14_9, v14_10, v14_11, v14_12])), (q_1404, .inl (cA_1404, n14_idom, .inl (fun j : Nat => zI (a14_idom (j : Int))))), (hc, .inr (12, [v13_0, v13_1, v13_2, v13_3, v13_4, .ref la, v13_6]))] ++ va_pl L (pE P)) := hD
                  have hK : va_K (dC, dI) vwQ [(cA_1404, .int), (cI, .int), (cZ, .boolean), (cO, .object "java/lang/Object")] s := hK
                  refine W.widen (k := 0) (n := 0) (Nat.le_of_ble_eq_true rfl) (Nat.le_of_ble_eq_true rfl) ?_
                  have hw_2031 := hw
                  obtain ⟨z_2032, rfl, hzz_2032⟩ := hw_2031
                  refine lv_if_eq (tgt := 96) hx hb dX19_like__90 (by decide) (fun b90 => ?_) (fun b90 => ?_)
                  · have yb90 : (z_2032 : Int) = (0 : Int) := (zI_eq (a := z_2032) (b := 0) (by omega) (by omega) (by omega) (by omega)).mp b90
                    refine lv_iinc (v := zI (d55_7 - 1)) (lv' := [(7, .int (zI (d55_7 - 1))), (8, .ref xr_2025), (0, .ref h0), (1, .ref hc), (2, .int (zI (x0))), (3, .int (zI (j0))), (4, .ref xr_2011), (5, .int (zI (d20_5))), (6, .ref xb_2016)]) hx hb dX19_like__96 hl (k := 8) rfl (zI_dec (d55_7) (1)) (by decide) rfl (fun ls hl => ?_)
                    refine lv_goto (tgt := 55) hx hb dX19_like__99 (by decide) ?_
                    exact ih55 (d55_7 - 1) ls H _ (by omega) (by omega) (lv_sub hl [2, 3, 4, 5, 6, 7, 8, 0] rfl) hP hD hS
                  · have yb90 : ¬ (z_2032 : Int) = (0 : Int) := fun q => b90 ((zI_eq (a := z_2032) (b := 0) (by omega) (by omega) (by omega) (by omega)).mpr q)
                    refine lv_aload hx hb dX19_like__93 (lv_at hl 0 rfl) ?_
                    subst hQ
                    have hK := hK.sub (tys' := [(cA_1404, .int), (cO, .object "java/lang/Object"), (cI, .int), (cZ, .boolean)]) [0, 3, 1, 2] rfl
                    refine W.widen (k := 0) (n := 0) (Nat.le_of_ble_eq_true rfl) (Nat.le_of_ble_eq_true rfl) ?_
                    exact W.aret (v := va_rf (some xr_2025)) hx hb hr (Or.inl ⟨_, rfl⟩) (va_rf_or _) (fun t ht hW => ⟨⟨(some xr_2025), (), rfl, (Or.inr ⟨xr_2025, rfl, hm_2026, hk_2027, ⟨d20_5, d55_7, by omega, by omega, by omega, (by rw [← hx_2019]; omega), (by rw [← hx_2019, epr_2021.symm]; exact ex), (by by_cases q9 : d20_5 = x0; exact Or.inl ⟨q9, by omega⟩; exact Or.inr ⟨jd20 (by omega), q9⟩)⟩, (by rw [← hr0]; omega)⟩), by rw [ht]; exact hP, va_K.moved hW.alike hK, hD⟩, hS.F ht⟩) hS.2.2 dX19_like__95
          exact key55 ((ms51_0 - 1 + 1 : Int).toNat + 1) (ms51_0 - 1) ls H _ (by omega) (by omega) (lv_sub hl [1, 2, 3, 4, 5, 6, 7, 0] rfl) hP hD hS
        refine lv_icmp_ne (tgt := 43) hx hb dX19_like__36 (by decide) (fun b36 => ?_) (fun b36 => ?_)
        · have yb36 : ¬ (d20_5 : Int) = (x0 : Int) := fun q => b36 ((zI_eq (a := d20_5) (b := x0) (by omega) (by omega) (by omega) (by omega)).mpr q)
          refine lv_aload hx hb dX19_like__43 (lv_at hl 0 rfl) ?_
          obtain ⟨kp_2033, hkp_2033⟩ := va_pl_get (X := [(h0, .inr (16, [.ref hf, v19_1, v19_2, v19_3, v19_4, v19_5, v19_6, v19_7, v19_8, v19_9, v19_10, v19_11, v19_12, v19_13, v19_14, v19_15, v19_16, v19_17, v19_18, v19_19, v19_20, v19_21, v19_22, v19_23, v19_24, v19_25, v19_26, v19_27, v19_28, v19_29, v19_30, v19_31, v19_32, v19_33, v19_34, v19_35, v19_36, v19_37, v19_38, v19_39, v19_40])), (hf, .inr (13, [.ref hc, v14_1, v14_2, v14_3, .ref q_1404, v14_5, v14_6, v14_7, v14_8, v14_9, v14_10, v14_11, v14_12])), (q_1404, .inl (cA_1404, n14_idom, .inl (fun j : Nat => zI (a14_idom (j : Int))))), (hc, .inr (12, [v13_0, v13_1, v13_2, v13_3, v13_4, .ref la, v13_6]))]) (f := pE P) hB_2018.1.1
          rw [pE_block hB_2018.1.2] at hkp_2033
          refine va_get (D := (dC, dI)) (ci := 19) (v := .ref (P.br xb_2016)) (C := RX12) (T := TX12) (N := 5) hx hb hts mem_P19_likeE_1 hown hK hP kp_2033 hkp_2033 rfl 1 (by decide) (ow (k := 4) rfl) (fun _ h9 => h9) rfl dX19_like__45 ?_
          obtain ⟨pr_2034, epr_2034⟩ : ∃ q9 : Nat, q9 = P.br xb_2016 := ⟨_, rfl⟩
          rw [← epr_2034]
          have hlk_2035 : LOK L P cO 17 pr_2034 := (by rw [epr_2034]; exact (hX_a9.inb hi_2017).2.1)
          have hlz9 := hlk_2035.2.2.1
          have : P.lz pr_2034 = P.lz (P.br xb_2016) := (by rw [epr_2034])
          have hlk_2036 := (show LOK L P cO 17 pr_2034 from (by rw [← epr_2034.symm]; exact (hX_a9.inb hi_2017).2.1))
          have hX_x := hlk_2036.1
          have hX_k := hlk_2036.2.1
          have hlz9 := hlk_2036.2.2.1
          have hPc := hP.part (X := [(h0, .inr (16, [.ref hf, v19_1, v19_2, v19_3, v19_4, v19_5, v19_6, v19_7, v19_8, v19_9, v19_10, v19_11, v19_12, v19_13, v19_14, v19_15, v19_16, v19_17, v19_18, v19_19, v19_20, v19_21, v19_22, v19_23, v19_24, v19_25, v19_26, v19_27, v19_28, v19_29, v19_30, v19_31, v19_32, v19_33, v19_34, v19_35, v19_36, v19_37, v19_38, v19_39, v19_40])), (hf, .inr (13, [.ref hc, v14_1, v14_2, v14_3, .ref q_1404, v14_5, v14_6, v14_7, v14_8, v14_9, v14_10, v14_11, v14_12])), (q_1404, .inl (cA_1404, n14_idom, .inl (fun j : Nat => zI (a14_idom (j : Int))))), (hc, .inr (12, [v13_0, v13_1, v13_2, v13_3, v13_4, .ref la, v13_6]))]) (cx := []) (pl := va_pl L (pE P)) [] rfl
          have hDc := hD.part (X := [(h0, .inr (16, [.ref hf, v19_1, v19_2, v19_3, v19_4, v19_5, v19_6, v19_7, v19_8, v19_9, v19_10, v19_11, v19_12, v19_13, v19_14, v19_15, v19_16, v19_17, v19_18, v19_19, v19_20, v19_21, v19_22, v19_23, v19_24, v19_25, v19_26, v19_27, v19_28, v19_29, v19_30, v19_31, v19_32, v19_33, v19_34, v19_35, v19_36, v19_37, v19_38, v19_39, v19_40])), (hf, .inr (13, [.ref hc, v14_1, v14_2, v14_3, .ref q_1404, v14_5, v14_6, v14_7, v14_8, v14_9, v14_10, v14_11, v14_12])), (q_1404, .inl (cA_1404, n14_idom, .inl (fun j : Nat => zI (a14_idom (j : Int))))), (hc, .inr (12, [v13_0, v13_1, v13_2, v13_3, v13_4, .ref la, v13_6]))]) (cx := []) (pl := va_pl L (pE P)) [] (by decide) rfl
          have hKc := hK.sub (tys' := [(cO, .object "java/lang/Object")]) [3] rfl
          have hFc := va_freeP (X := [(h0, .inr (16, [.ref hf, v19_1, v19_2, v19_3, v19_4, v19_5, v19_6, v19_7, v19_8, v19_9, v19_10, v19_11, v19_12, v19_13, v19_14, v19_15, v19_16, v19_17, v19_18, v19_19, v19_20, v19_21, v19_22, v19_23, v19_24, v19_25, v19_26, v19_27, v19_28, v19_29, v19_30, v19_31, v19_32, v19_33, v19_34, v19_35, v19_36, v19_37, v19_38, v19_39, v19_40])), (hf, .inr (13, [.ref hc, v14_1, v14_2, v14_3, .ref q_1404, v14_5, v14_6, v14_7, v14_8, v14_9, v14_10, v14_11, v14_12])), (q_1404, .inl (cA_1404, n14_idom, .inl (fun j : Nat => zI (a14_idom (j : Int))))), (hc, .inr (12, [v13_0, v13_1, v13_2, v13_3, v13_4, .ref la, v13_6]))]) (cx := []) (pl := va_pl L (pE P)) hD hS hA [] rfl
          refine va_calli (va_runV (As := []) (rest := []) ⟨hx, hb, hml, hown, hts⟩ (c_PL_size l dC dI cO L P pr_2034 hX_x hX_k (by omega) H.size) (cwV 0 hts g_P19_likeE_PL_size rfl rfl rfl (by decide +kernel) ⟨(Nat.le_of_ble_eq_true rfl), (Nat.le_of_ble_eq_true rfl)⟩) ⟨fun a U g mk q => by obtain ⟨q0, q1, qP, qK, qD⟩ := q; exact ⟨q0, q1, qP, va_K.moved (u := U) (U := U.calling g mk a) (Vm.Alike.refl U.vm) qK, qD⟩, recv_30 hKc hPc hlk_2035.1 hlk_2035.2.1, fun U hU hW => ⟨rfl, by rw [hU], by rw [hU]; exact hPc, va_K.moved hW.alike hKc, hDc.weaken (fun _ _ _ _ => trivial)⟩⟩ rfl rfl hl.1 rfl (lv_room (Nat.le_of_ble_eq_true rfl)) dX19_like__48 ⟨(Nat.le_of_ble_eq_true rfl), (Nat.le_of_ble_eq_true rfl)⟩) hS (fun q _ h => hFc q h) hFc (fun r_2037 u t H1 locs ht hvm hw hB hz1 hk1 hS => ?_)
          obtain ⟨hP1, hK1, hD1⟩ := hB
          rw [ht] at hP1
          have hK1 := va_K.moved hvm.symm hK1
          obtain ⟨hP, hD⟩ := va_joinP (X := [(h0, .inr (16, [.ref hf, v19_1, v19_2, v19_3, v19_4, v19_5, v19_6, v19_7, v19_8, v19_9, v19_10, v19_11, v19_12, v19_13, v19_14, v19_15, v19_16, v19_17, v19_18, v19_19, v19_20, v19_21, v19_22, v19_23, v19_24, v19_25, v19_26, v19_27, v19_28, v19_29, v19_30, v19_31, v19_32, v19_33, v19_34, v19_35, v19_36, v19_37, v19_38, v19_39, v19_40])), (hf, .inr (13, [.ref hc, v14_1, v14_2, v14_3, .ref q_1404, v14_5, v14_6, v14_7, v14_8, v14_9, v14_10, v14_11, v14_12])), (q_1404, .inl (cA_1404, n14_idom, .inl (fun j : Nat => zI (a14_idom (j : Int))))), (hc, .inr (12, [v13_0, v13_1, v13_2, v13_3, v13_4, .ref la, v13_6]))]) (cx := []) (wr := [(h0, .inr (16, [.ref hf, v19_1, v19_2, v19_3, v19_4, v19_5, v19_6, v19_7, v19_8, v19_9, v19_10, v19_11, v19_12, v19_13, v19_14, v19_15, v19_16, v19_17, v19_18, v19_19, v19_20, v19_21, v19_22, v19_23, v19_24, v19_25, v19_26, v19_27, v19_28, v19_29, v19_30, v19_31, v19_32, v19_33, v19_34, v19_35, v19_36, v19_37, v19_38, v19_39, v19_40])), (hf, .inr (13, [.ref hc, v14_1, v14_2, v14_3, .ref q_1404, v14_5, v14_6, v14_7, v14_8, v14_9, v14_10, v14_11, v14_12])), (q_1404, .inl (cA_1404, n14_idom, .inl (fun j : Nat => zI (a14_idom (j : Int))))), (hc, .inr (12, [v13_0, v13_1, v13_2, v13_3, v13_4, .ref la, v13_6]))]) (rx := []) (pl := va_pl L (pE P)) (pl1 := va_pl L (pE P)) hP hD [] [0, 1, 2, 3] rfl rfl (by decide) (by decide) hk1 hFc hP1 hD1
          have hK := (hK.sub (tys' := [(cA_1404, .int), (cI, .int), (cZ, .boolean)]) [0, 1, 2] rfl).app hK1
          generalize H1 = H at hP hS ⊢
          have hP : va_P (dC, dI) vwQ ([(h0, .inr (16, [.ref hf, v19_1, v19_2, v19_3, v19_4, v19_5, v19_6, v19_7, v19_8, v19_9, v19_10, v19_11, v19_12, v19_13, v19_14, v19_15, v19_16, v19_17, v19_18, v19_19, v19_20, v19_21, v19_22, v19_23, v19_24, v19_25, v19_26, v19_27, v19_28, v19_29, v19_30, v19_31, v19_32, v19_33, v19_34, v19_35, v19_36, v19_37, v19_38, v19_39, v19_40])), (hf, .inr (13, [.ref hc, v14_1, v14_2, v14_3, .ref q_1404, v14_5, v14_6, v14_7, v14_8, v14_9, v14_10, v14_11, v14_12])), (q_1404, .inl (cA_1404, n14_idom, .inl (fun j : Nat => zI (a14_idom (j : Int))))), (hc, .inr (12, [v13_0, v13_1, v13_2, v13_3, v13_4, .ref la, v13_6]))] ++ va_pl L (pE P)) H := hP
          have hD : va_D A ([(h0, .inr (16, [.ref hf, v19_1, v19_2, v19_3, v19_4, v19_5, v19_6, v19_7, v19_8, v19_9, v19_10, v19_11, v19_12, v19_13, v19_14, v19_15, v19_16, v19_17, v19_18, v19_19, v19_20, v19_21, v19_22, v19_23, v19_24, v19_25, v19_26, v19_27, v19_28, v19_29, v19_30, v19_31, v19_32, v19_33, v19_34, v19_35, v19_36, v19_37, v19_38, v19_39, v19_40])), (hf, .inr (13, [.ref hc, v14_1, v14_2, v14_3, .ref q_1404, v14_5, v14_6, v14_7, v14_8, v14_9, v14_10, v14_11, v14_12])), (q_1404, .inl (cA_1404, n14_idom, .inl (fun j : Nat => zI (a14_idom (j : Int))))), (hc, .inr (12, [v13_0, v13_1, v13_2, v13_3, v13_4, .ref la, v13_6]))] ++ va_pl L (pE P)) := hD
          have hK : va_K (dC, dI) vwQ [(cA_1404, .int), (cI, .int), (cZ, .boolean), (cO, .object "java/lang/Object")] s := hK
          refine W.widen (k := 0) (n := 0) (Nat.le_of_ble_eq_true rfl) (Nat.le_of_ble_eq_true rfl) ?_
          obtain rfl : r_2037 = (zI (P.lz pr_2034)) := hw
          exact key51 (P.lz pr_2034) ls H _ (by omega) (lv_sub hl [1, 2, 3, 4, 5, 6, 0] rfl) hP hD hS
        · have yb36 : (d20_5 : Int) = (x0 : Int) := (zI_eq (a := d20_5) (b := x0) (by omega) (by omega) (by omega) (by omega)).mp b36
          have : P.lz (P.br xb_2016) = P.lz (P.br (P.el la x0)) := (by rw [hx_2019, show d20_5 = x0 from (by omega)])
          refine lv_iload_n hx hb dX19_like__39 rfl (lv_at hl 4 rfl) ?_
          refine lv_goto (tgt := 51) hx hb dX19_like__40 (by decide) ?_
          exact key51 j0 ls H _ (by omega) (lv_sub hl [1, 2, 3, 4, 5, 6, 0] rfl) hP hD hS
  exact key20 ((MRK rk (x0) : Int).toNat + 1) x0 ls H _ (by omega) (fun _ => by omega) (fun _ => DOM.refl hX_rc) (by omega) (lv_sub hl [2, 3, 4, 5, 1, 0] rfl) hP hD hS
