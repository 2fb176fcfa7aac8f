def o_X19_flagsN : List Cond := [.fieldLink RX19 95 "SsaForgeModel" "flags" "[Z"]
def v_X19_flagsN : List Cond := .code yX19_flags cX19_flags 5 none :: (o_X19_flagsN ++ (wsX190 ++ []))
theorem mow_X19_flagsN : ∀ w ∈ o_X19_flagsN, w ∈ v_X19_flagsN := fun _ h => List.mem_cons_of_mem _ (List.mem_append_left _ h)
theorem mem_X19_flagsN_0 : ∀ w ∈ wsX190, w ∈ v_X19_flagsN := fun _ h => List.mem_cons_of_mem _ (List.mem_append_right _ (List.mem_append_left _ h))
set_option maxRecDepth 20000 in
theorem gw_X19_flagsN : v_X19_flagsN.all goodWord = true := by decide +kernel
set_option maxHeartbeats 4000000 in
set_option maxRecDepth 100000 in
theorem c_X19_flagsN (l : Launch) (dC : Nat → ClassId) (dI : Nat → Nat → Nat) (h0 : Nat) (v19_0 : Value) (v19_1 : Value) (v19_2 : Value) (v19_3 : Value) (v19_5 : Value) (v19_6 : Value) (v19_7 : Value) (v19_8 : Value) (v19_9 : Value) (v19_10 : Value) (v19_11 : Value) (v19_12 : Value) (v19_13 : Value) (v19_14 : Value) (v19_15 : Value) (v19_16 : Value) (v19_17 : Value) (v19_18 : Value) (v19_19 : Value) (v19_20 : Value) (v19_21 : Value) (v19_22 : Value) (v19_23 : Value) (v19_24 : Value) (v19_25 : Value) (v19_26 : Value) (v19_27 : Value) (v19_28 : Value) (v19_29 : Value) (v19_30 : Value) (v19_31 : Value) (v19_32 : Value) (v19_33 : Value) (v19_34 : Value) (v19_35 : Value) (v19_36 : Value) (v19_37 : Value) (v19_38 : Value) (v19_39 : Value) (v19_40 : Value) (q_1904 : Nat) (cA_1904 : ClassId) (n19_flags : Nat) (a19_flags : Int → Int) (n0 : Int) (hNn19_flags : n19_flags ≤ 1000) (hR_a19_flags : ∀ j : Int, 0 ≤ a19_flags j ∧ a19_flags j ≤ 1) (hNn : 0 ≤ n0 ∧ n0 ≤ 300 ∧ n0 ≤ n19_flags) (sz : Nat) : Met l yX19_flags v_X19_flagsN ({ frames := 0, cells := 0, slots := 0, locals := 0 }) (va_Pc [.ref h0, .int (zI (n0))] (fun U => U.heap.size = sz ∧ va_P (dC, dI) vwQ [(h0, .inr (16, [v19_0, v19_1, v19_2, v19_3, .ref q_1904, v19_5, v19_6, v19_7, v19_8, v19_9, v19_10, v19_11, v19_12, v19_13, v19_14, v19_15, v19_16, v19_17, v19_18, v19_19, v19_20, v19_21, v19_22, v19_23, v19_24, v19_25, v19_26, v19_27, v19_28, v19_29, v19_30, v19_31, v19_32, v19_33, v19_34, v19_35, v19_36, v19_37, v19_38, v19_39, v19_40])), (q_1904, .inl (cA_1904, n19_flags, .inl (fun j : Nat => zI (a19_flags (j : Int)))))] U.heap ∧ va_K (dC, dI) vwQ [(cA_1904, .boolean)] U ∧ va_D (fun _ => True) [(h0, .inr (16, [v19_0, v19_1, v19_2, v19_3, .ref q_1904, v19_5, v19_6, v19_7, v19_8, v19_9, v19_10, v19_11, v19_12, v19_13, v19_14, v19_15, v19_16, v19_17, v19_18, v19_19, v19_20, v19_21, v19_22, v19_23, v19_24, v19_25, v19_26, v19_27, v19_28, v19_29, v19_30, v19_31, v19_32, v19_33, v19_34, v19_35, v19_36, v19_37, v19_38, v19_39, v19_40])), (q_1904, .inl (cA_1904, n19_flags, .inl (fun j : Nat => zI (a19_flags (j : Int)))))])) (va_Qv (fun _ : Unit => True) (fun (_ : Unit) (t : State) => va_P (dC, dI) vwQ [(h0, .inr (16, [v19_0, v19_1, v19_2, v19_3, .ref q_1904, v19_5, v19_6, v19_7, v19_8, v19_9, v19_10, v19_11, v19_12, v19_13, v19_14, v19_15, v19_16, v19_17, v19_18, v19_19, v19_20, v19_21, v19_22, v19_23, v19_24, v19_25, v19_26, v19_27, v19_28, v19_29, v19_30, v19_31, v19_32, v19_33, v19_34, v19_35, v19_36, v19_37, v19_38, v19_39, v19_40])), (q_1904, .inl (cA_1904, n19_flags, .inl (fun j : Nat => zI (a19_flags (j : Int)))))] t.heap ∧ va_K (dC, dI) vwQ [(cA_1904, .boolean)] t ∧ va_D (va_A [(h0, .inr (16, [v19_0, v19_1, v19_2, v19_3, .ref q_1904, v19_5, v19_6, v19_7, v19_8, v19_9, v19_10, v19_11, v19_12, v19_13, v19_14, v19_15, v19_16, v19_17, v19_18, v19_19, v19_20, v19_21, v19_22, v19_23, v19_24, v19_25, v19_26, v19_27, v19_28, v19_29, v19_30, v19_31, v19_32, v19_33, v19_34, v19_35, v19_36, v19_37, v19_38, v19_39, v19_40])), (q_1904, .inl (cA_1904, n19_flags, .inl (fun j : Nat => zI (a19_flags (j : Int)))))] sz) [(h0, .inr (16, [v19_0, v19_1, v19_2, v19_3, .ref q_1904, v19_5, v19_6, v19_7, v19_8, v19_9, v19_10, v19_11, v19_12, v19_13, v19_14, v19_15, v19_16, v19_17, v19_18, v19_19, v19_20, v19_21, v19_22, v19_23, v19_24, v19_25, v19_26, v19_27, v19_28, v19_29, v19_30, v19_31, v19_32, v19_33, v19_34, v19_35, v19_36, v19_37, v19_38, v19_39, v19_40])), (q_1904, .inl (cA_1904, n19_flags, .inl (fun j : Nat => zI (a19_flags (j : Int)))))]) (va_A [(h0, .inr (16, [v19_0, v19_1, v19_2, v19_3, .ref q_1904, v19_5, v19_6, v19_7, v19_8, v19_9, v19_10, v19_11, v19_12, v19_13, v19_14, v19_15, v19_16, v19_17, v19_18, v19_19, v19_20, v19_21, v19_22, v19_23, v19_24, v19_25, v19_26, v19_27, v19_28, v19_29, v19_30, v19_31, v19_32, v19_33, v19_34, v19_35, v19_36, v19_37, v19_38, v19_39, v19_40])), (q_1904, .inl (cA_1904, n19_flags, .inl (fun j : Nat => zI (a19_flags (j : Int)))))] sz)) 0 0 (va_A [(h0, .inr (16, [v19_0, v19_1, v19_2, v19_3, .ref q_1904, v19_5, v19_6, v19_7, v19_8, v19_9, v19_10, v19_11, v19_12, v19_13, v19_14, v19_15, v19_16, v19_17, v19_18, v19_19, v19_20, v19_21, v19_22, v19_23, v19_24, v19_25, v19_26, v19_27, v19_28, v19_29, v19_30, v19_31, v19_32, v19_33, v19_34, v19_35, v19_36, v19_37, v19_38, v19_39, v19_40])), (q_1904, .inl (cA_1904, n19_flags, .inl (fun j : Nat => zI (a19_flags (j : Int)))))] sz) := by
  refine Met.ofW (cc := cX19_flags) (maxL := 5) (ret := none) (by decide) rfl ?_
  intro p e s m args below meth c s₁ B hml hv
  obtain ⟨rfl, hsz, hP, hK, hD0⟩ := hv
  have hx := B.exec
  have hb := B.bytes
  have hr := B.returns
  have hts := atoms_spec (ws := v_X19_flagsN) B.pre
  have hown : s.vm.findClass RX19 = some m.cls := findClass_of_methodNamed B.named
  have hlocks := B.notSynchronized
  have ow : ∀ {k : Nat} {w : Cond}, o_X19_flagsN[k]? = some w → w.before ([.ref h0, .int (zI (n0))] : List Value).toArray s = true := fun h => hts _ (mow_X19_flagsN _ (List.mem_of_getElem? h))
  subst hsz
  have hD := hD0.self (sz := s.heap.size)
  generalize hAe : va_A [(h0, .inr (16, [v19_0, v19_1, v19_2, v19_3, .ref q_1904, v19_5, v19_6, v19_7, v19_8, v19_9, v19_10, v19_11, v19_12, v19_13, v19_14, v19_15, v19_16, v19_17, v19_18, v19_19, v19_20, v19_21, v19_22, v19_23, v19_24, v19_25, v19_26, v19_27, v19_28, v19_29, v19_30, v19_31, v19_32, v19_33, v19_34, v19_35, v19_36, v19_37, v19_38, v19_39, v19_40])), (q_1904, .inl (cA_1904, n19_flags, .inl (fun j : Nat => zI (a19_flags (j : Int)))))] s.heap.size = A at hD ⊢
  have hA : ∀ q : Nat, s.heap.size ≤ q → A q := fun q h => by rw [← hAe]; exact Or.inr h
  have hS : va_S A s.heap s.heap [] := va_S.rf
  have hP : va_P (dC, dI) vwQ [(h0, .inr (16, [v19_0, v19_1, v19_2, v19_3, .ref q_1904, v19_5, v19_6, v19_7, v19_8, v19_9, v19_10, v19_11, v19_12, v19_13, v19_14, v19_15, v19_16, v19_17, v19_18, v19_19, v19_20, v19_21, v19_22, v19_23, v19_24, v19_25, v19_26, v19_27, v19_28, v19_29, v19_30, v19_31, v19_32, v19_33, v19_34, v19_35, v19_36, v19_37, v19_38, v19_39, v19_40])), (q_1904, .inl (cA_1904, n19_flags, .inl (fun j : Nat => zI (a19_flags (j : Int)))))] s.heap := hP
  have hl := lv_entry ([.ref h0, .int (zI (n0))]) (n := 5) (Nat.le_of_ble_eq_true rfl)
  rw [lg_entry_eq]
  generalize (lg_sl ([.ref h0, .int (zI (n0))]) ++ List.replicate (5 - (lg_sl ([.ref h0, .int (zI (n0))])).length) Slot.unset).toArray = ls at hl ⊢
  have hl : lv_has ls 5 [(0, .ref h0), (1, .int (zI (n0)))] := hl
  obtain ⟨H, hH⟩ : ∃ H, H = s.heap := ⟨_, rfl⟩
  rw [← hH] at hP
  have hS : va_S A s.heap H [] := by rw [hH]; exact hS
  rw [← hH]
  refine zW_cap (fun Q hQ => ?_)
  refine lv_aload_n hx hb dX19_flags_0 rfl (lv_at hl 0 rfl) ?_
  refine va_get (D := (dC, dI)) (ci := 16) (v := .ref q_1904) (C := RX19) (T := TX19) (N := 41) hx hb hts mem_X19_flagsN_0 hown hK hP 0 rfl rfl 4 (by decide) (ow (k := 0) rfl) (fun _ h9 => h9) rfl dX19_flags_1 ?_
  refine va_alen (v := zI ((n19_flags : Int))) hx hb hK hP 1 0 rfl rfl (zI_ofNat n19_flags) dX19_flags_4 ?_
  refine lv_iload_n hx hb dX19_flags_5 rfl (lv_at hl 1 rfl) ?_
  refine lv_icmp_lt (tgt := 10) hx hb dX19_flags_6 (by decide) (fun b6 => ?_) (fun b6 => ?_)
  · have yb6 : ((n19_flags : Int) : Int) < (n0 : Int) := (zI_lt (a := (n19_flags : Int)) (b := n0) (by omega) (by omega) (by omega) (by omega)).mp b6
    exfalso
    omega
  · have yb6 : ¬ ((n19_flags : Int) : Int) < (n0 : Int) := fun q => b6 ((zI_lt (a := (n19_flags : Int)) (b := n0) (by omega) (by omega) (by omega) (by omega)).mpr q)
    subst hQ
    refine W.widen (k := 0) (n := 0) (Nat.le_of_ble_eq_true rfl) (Nat.le_of_ble_eq_true rfl) ?_
    exact W.vret hx hb hr (fun t ht hW => ⟨⟨(), rfl, trivial, by rw [ht]; exact hP, va_K.moved hW.alike hK, hD⟩, hS.F ht⟩) hS.2.2 dX19_flags_9
