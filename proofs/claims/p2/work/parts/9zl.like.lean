theorem dX3_sameArgs_0 : decode cX3_sameArgs 0 = .ok (.iconst 0, 1) := by decide +kernel
theorem dX3_sameArgs_1 : decode cX3_sameArgs 1 = .ok (.istore 4, 2) := by decide +kernel
theorem dX3_sameArgs_3 : decode cX3_sameArgs 3 = .ok (.iload 4, 2) := by decide +kernel
theorem dX3_sameArgs_5 : decode cX3_sameArgs 5 = .ok (.iload_n 3, 1) := by decide +kernel
theorem dX3_sameArgs_6 : decode cX3_sameArgs 6 = .ok (.if_icmp .ge 43, 3) := by decide +kernel
theorem dX3_sameArgs_49 : decode cX3_sameArgs 49 = .ok (.iconst 1, 1) := by decide +kernel
theorem dX3_sameArgs_50 : decode cX3_sameArgs 50 = .ok (.ireturn, 1) := by decide +kernel
theorem dX3_sameArgs_9 : decode cX3_sameArgs 9 = .ok (.aload_n 0, 1) := by decide +kernel
theorem dX3_sameArgs_10 : decode cX3_sameArgs 10 = .ok (.getfield 116, 3) := by decide +kernel
theorem dX3_sameArgs_13 : decode cX3_sameArgs 13 = .ok (.aload_n 0, 1) := by decide +kernel
theorem dX3_sameArgs_14 : decode cX3_sameArgs 14 = .ok (.getfield 119, 3) := by decide +kernel
theorem dX3_sameArgs_17 : decode cX3_sameArgs 17 = .ok (.iload_n 1, 1) := by decide +kernel
theorem dX3_sameArgs_18 : decode cX3_sameArgs 18 = .ok (.iaload, 1) := by decide +kernel
theorem dX3_sameArgs_19 : decode cX3_sameArgs 19 = .ok (.iload 4, 2) := by decide +kernel
theorem dX3_sameArgs_21 : decode cX3_sameArgs 21 = .ok (.iadd, 1) := by decide +kernel
theorem dX3_sameArgs_22 : decode cX3_sameArgs 22 = .ok (.laload, 1) := by decide +kernel
theorem dX3_sameArgs_23 : decode cX3_sameArgs 23 = .ok (.aload_n 0, 1) := by decide +kernel
theorem dX3_sameArgs_24 : decode cX3_sameArgs 24 = .ok (.getfield 116, 3) := by decide +kernel
theorem dX3_sameArgs_27 : decode cX3_sameArgs 27 = .ok (.aload_n 0, 1) := by decide +kernel
theorem dX3_sameArgs_28 : decode cX3_sameArgs 28 = .ok (.getfield 119, 3) := by decide +kernel
theorem dX3_sameArgs_31 : decode cX3_sameArgs 31 = .ok (.iload_n 2, 1) := by decide +kernel
theorem dX3_sameArgs_32 : decode cX3_sameArgs 32 = .ok (.iaload, 1) := by decide +kernel
theorem dX3_sameArgs_33 : decode cX3_sameArgs 33 = .ok (.iload 4, 2) := by decide +kernel
theorem dX3_sameArgs_35 : decode cX3_sameArgs 35 = .ok (.iadd, 1) := by decide +kernel
theorem dX3_sameArgs_36 : decode cX3_sameArgs 36 = .ok (.laload, 1) := by decide +kernel
theorem dX3_sameArgs_37 : decode cX3_sameArgs 37 = .ok (.lcmp, 1) := by decide +kernel
theorem dX3_sameArgs_38 : decode cX3_sameArgs 38 = .ok (.ifCond .eq 5, 3) := by decide +kernel
theorem dX3_sameArgs_43 : decode cX3_sameArgs 43 = .ok (.iinc 4 1, 3) := by decide +kernel
theorem dX3_sameArgs_46 : decode cX3_sameArgs 46 = .ok (.goto (-43), 3) := by decide +kernel
theorem dX3_sameArgs_41 : decode cX3_sameArgs 41 = .ok (.iconst 0, 1) := by decide +kernel
theorem dX3_sameArgs_42 : decode cX3_sameArgs 42 = .ok (.ireturn, 1) := by decide +kernel
def o_X3_sameArgs : List Cond := [.fieldLink RX3 116 "SsaForge$Code" "args" "[J", .fieldLink RX3 119 "SsaForge$Code" "argStart" "[I"]
def v_X3_sameArgs : List Cond := .code yX3_sameArgs cX3_sameArgs 5 (some .boolean) :: (o_X3_sameArgs ++ (wsX00 ++ []))
theorem mow_X3_sameArgs : ∀ w ∈ o_X3_sameArgs, w ∈ v_X3_sameArgs := fun _ h => List.mem_cons_of_mem _ (List.mem_append_left _ h)
theorem mem_X3_sameArgs_0 : ∀ w ∈ wsX00, w ∈ v_X3_sameArgs := fun _ h => List.mem_cons_of_mem _ (List.mem_append_right _ (List.mem_append_left _ h))
set_option maxRecDepth 20000 in
theorem gw_X3_sameArgs : v_X3_sameArgs.all goodWord = true := by decide +kernel
set_option maxHeartbeats 4000000 in
set_option maxRecDepth 100000 in
theorem c_X3_sameArgs (l : Launch) (dC : Nat → ClassId) (dI : Nat → Nat → Nat) (hc : Nat) (v_0 : Value) (v_1 : Value) (v_2 : Value) (v_3 : Value) (v_4 : Value) (v_5 : Value) (v_6 : Value) (v_7 : Value) (v_8 : Value) (v_9 : Value) (v_10 : Value) (v_11 : Value) (v_12 : Value) (v_13 : Value) (v_14 : Value) (v_15 : Value) (v_16 : Value) (q_717 : Nat) (cA_717 : ClassId) (a_17 : Int → Int) (q_718 : Nat) (cA_718 : ClassId) (na1 : Nat) (a_18 : Int → Int) (i : Int) (i2 : Int) (n : Int) (hR_a_17 : ∀ j : Int, 0 ≤ a_17 j ∧ a_17 j ≤ 60000) (hNna1 : na1 ≤ 60000) (hR_a_18 : ∀ j : Int, ((-2147483648 ≤ a_18 j ∧ a_18 j ≤ 4294968319) ∨ a_18 j = 1099511627776)) (hNi : (0 ≤ i ∧ i < 1000) ∧ (0 ≤ i2 ∧ i2 < 1000)) (hNn : -600 ≤ n ∧ n ≤ 600 ∧ a_17 i + n ≤ na1 ∧ a_17 i2 + n ≤ na1) (sz : Nat) : Met l yX3_sameArgs v_X3_sameArgs ({ frames := 0, cells := 0, slots := 0, locals := 0 }) (va_Pc [.ref hc, .int (zI (i)), .int (zI (i2)), .int (zI (n))] (fun U => U.heap.size = sz ∧ va_P (dC, dI) vwP [(hc, .inr (0, [v_0, v_1, v_2, v_3, v_4, v_5, v_6, v_7, v_8, v_9, v_10, v_11, v_12, v_13, v_14, v_15, v_16, .ref q_717, .ref q_718])), (q_717, .inl (cA_717, 1000, .inl (fun j : Nat => zI (a_17 (j : Int))))), (q_718, .inl (cA_718, na1, .inr (.inl (fun j : Nat => lI (a_18 (j : Int))))))] U.heap ∧ va_K (dC, dI) vwP [(cA_717, .int), (cA_718, .long)] U ∧ va_D (fun _ => True) [(hc, .inr (0, [v_0, v_1, v_2, v_3, v_4, v_5, v_6, v_7, v_8, v_9, v_10, v_11, v_12, v_13, v_14, v_15, v_16, .ref q_717, .ref q_718])), (q_717, .inl (cA_717, 1000, .inl (fun j : Nat => zI (a_17 (j : Int))))), (q_718, .inl (cA_718, na1, .inr (.inl (fun j : Nat => lI (a_18 (j : Int))))))])) (va_Qi (fun (r : Int32) (_ : Unit) => ∃ z : Int, r = zI z ∧ (0 ≤ z ∧ z ≤ 1)) (fun (_ : Unit) (t : State) => va_P (dC, dI) vwP [(hc, .inr (0, [v_0, v_1, v_2, v_3, v_4, v_5, v_6, v_7, v_8, v_9, v_10, v_11, v_12, v_13, v_14, v_15, v_16, .ref q_717, .ref q_718])), (q_717, .inl (cA_717, 1000, .inl (fun j : Nat => zI (a_17 (j : Int))))), (q_718, .inl (cA_718, na1, .inr (.inl (fun j : Nat => lI (a_18 (j : Int))))))] t.heap ∧ va_K (dC, dI) vwP [(cA_717, .int), (cA_718, .long)] t ∧ va_D (va_A [(hc, .inr (0, [v_0, v_1, v_2, v_3, v_4, v_5, v_6, v_7, v_8, v_9, v_10, v_11, v_12, v_13, v_14, v_15, v_16, .ref q_717, .ref q_718])), (q_717, .inl (cA_717, 1000, .inl (fun j : Nat => zI (a_17 (j : Int))))), (q_718, .inl (cA_718, na1, .inr (.inl (fun j : Nat => lI (a_18 (j : Int))))))] sz) [(hc, .inr (0, [v_0, v_1, v_2, v_3, v_4, v_5, v_6, v_7, v_8, v_9, v_10, v_11, v_12, v_13, v_14, v_15, v_16, .ref q_717, .ref q_718])), (q_717, .inl (cA_717, 1000, .inl (fun j : Nat => zI (a_17 (j : Int))))), (q_718, .inl (cA_718, na1, .inr (.inl (fun j : Nat => lI (a_18 (j : Int))))))]) (va_A [(hc, .inr (0, [v_0, v_1, v_2, v_3, v_4, v_5, v_6, v_7, v_8, v_9, v_10, v_11, v_12, v_13, v_14, v_15, v_16, .ref q_717, .ref q_718])), (q_717, .inl (cA_717, 1000, .inl (fun j : Nat => zI (a_17 (j : Int))))), (q_718, .inl (cA_718, na1, .inr (.inl (fun j : Nat => lI (a_18 (j : Int))))))] sz)) 0 0 (va_A [(hc, .inr (0, [v_0, v_1, v_2, v_3, v_4, v_5, v_6, v_7, v_8, v_9, v_10, v_11, v_12, v_13, v_14, v_15, v_16, .ref q_717, .ref q_718])), (q_717, .inl (cA_717, 1000, .inl (fun j : Nat => zI (a_17 (j : Int))))), (q_718, .inl (cA_718, na1, .inr (.inl (fun j : Nat => lI (a_18 (j : Int))))))] sz) := by
  refine Met.ofW (cc := cX3_sameArgs) (maxL := 5) (ret := (some .boolean)) (by decide) rfl ?_
  intro p e s m args below meth c s₁ B hml hv
  obtain ⟨rfl, hsz, hP, hK, hD0⟩ := hv
  have hx := B.exec
  have hb := B.bytes
  have hr := B.returns
  have hts := atoms_spec (ws := v_X3_sameArgs) B.pre
  have hown : s.vm.findClass RX3 = some m.cls := findClass_of_methodNamed B.named
  have hlocks := B.notSynchronized
  have ow : ∀ {k : Nat} {w : Cond}, o_X3_sameArgs[k]? = some w → w.before ([.ref hc, .int (zI (i)), .int (zI (i2)), .int (zI (n))] : List Value).toArray s = true := fun h => hts _ (mow_X3_sameArgs _ (List.mem_of_getElem? h))
  subst hsz
  have hD := hD0.self (sz := s.heap.size)
  generalize hAe : va_A [(hc, .inr (0, [v_0, v_1, v_2, v_3, v_4, v_5, v_6, v_7, v_8, v_9, v_10, v_11, v_12, v_13, v_14, v_15, v_16, .ref q_717, .ref q_718])), (q_717, .inl (cA_717, 1000, .inl (fun j : Nat => zI (a_17 (j : Int))))), (q_718, .inl (cA_718, na1, .inr (.inl (fun j : Nat => lI (a_18 (j : Int))))))] s.heap.size = A at hD ⊢
  have hA : ∀ q : Nat, s.heap.size ≤ q → A q := fun q h => by rw [← hAe]; exact Or.inr h
  have hS : va_S A s.heap s.heap [] := va_S.rf
  have hP : va_P (dC, dI) vwP [(hc, .inr (0, [v_0, v_1, v_2, v_3, v_4, v_5, v_6, v_7, v_8, v_9, v_10, v_11, v_12, v_13, v_14, v_15, v_16, .ref q_717, .ref q_718])), (q_717, .inl (cA_717, 1000, .inl (fun j : Nat => zI (a_17 (j : Int))))), (q_718, .inl (cA_718, na1, .inr (.inl (fun j : Nat => lI (a_18 (j : Int))))))] s.heap := hP
  have hl := lv_entry ([.ref hc, .int (zI (i)), .int (zI (i2)), .int (zI (n))]) (n := 5) (Nat.le_of_ble_eq_true rfl)
  rw [lg_entry_eq]
  generalize (lg_sl ([.ref hc, .int (zI (i)), .int (zI (i2)), .int (zI (n))]) ++ List.replicate (5 - (lg_sl ([.ref hc, .int (zI (i)), .int (zI (i2)), .int (zI (n))])).length) Slot.unset).toArray = ls at hl ⊢
  have hl : lv_has ls 5 [(0, .ref hc), (1, .int (zI (i))), (2, .int (zI (i2))), (3, .int (zI (n)))] := hl
  obtain ⟨H, hH⟩ : ∃ H, H = s.heap := ⟨_, rfl⟩
  rw [← hH] at hP
  have hS : va_S A s.heap H [] := by rw [hH]; exact hS
  rw [← hH]
  refine zW_cap (fun Q hQ => ?_)
  refine lv_iconst (v := 0) hx hb dX3_sameArgs_0 (by decide) ?_
  refine lv_istore (lv' := [(4, .int 0), (0, .ref hc), (1, .int (zI (i))), (2, .int (zI (i2))), (3, .int (zI (n)))]) hx hb dX3_sameArgs_1 hl (by decide) rfl (fun ls hl => ?_)
  have key3 : ∀ n3 : Nat, ∀ (d3_4 : Int) (ls : Array Slot) (H : Heap) (locs : List Loc), (0 ≤ d3_4 ∧ d3_4 ≤ 1000000000) → (((n) - (d3_4) : Int).toNat) < n3 → lv_has ls 5 [(0, .ref hc), (1, .int (zI (i))), (2, .int (zI (i2))), (3, .int (zI (n))), (4, .int (zI (d3_4)))] → va_P (dC, dI) vwP [(hc, .inr (0, [v_0, v_1, v_2, v_3, v_4, v_5, v_6, v_7, v_8, v_9, v_10, v_11, v_12, v_13, v_14, v_15, v_16, .ref q_717, .ref q_718])), (q_717, .inl (cA_717, 1000, .inl (fun j : Nat => zI (a_17 (j : Int))))), (q_718, .inl (cA_718, na1, .inr (.inl (fun j : Nat => lI (a_18 (j : Int))))))] H → va_D A [(hc, .inr (0, [v_0, v_1, v_2, v_3, v_4, v_5, v_6, v_7, v_8, v_9, v_10, v_11, v_12, v_13, v_14, v_15, v_16, .ref q_717, .ref q_718])), (q_717, .inl (cA_717, 1000, .inl (fun j : Nat => zI (a_17 (j : Int))))), (q_718, .inl (cA_718, na1, .inr (.inl (fun j : Nat => lI (a_18 (j : Int))))))] → va_S A s.heap H locs → W p l e (headSpec v_X3_sameArgs ({ frames := 0, cells := 0, slots := 0, locals := 0 })).room s m ([.ref hc, .int (zI (i)), .int (zI (i2)), .int (zI (n))] : List Value).toArray below meth c H locs 0 0 Q (F0 m 3 ls []) := by
    intro n3
    induction n3 with
    | zero => intro d3_4 ls H locs jd3_4 hm3; exact absurd hm3 (by omega)
    | succ n3 ih3 =>
      intro d3_4 ls H locs jd3_4 hm3 hl hP hD hS
      refine lv_iload hx hb dX3_sameArgs_3 (lv_at hl 4 rfl) ?_
      refine lv_iload_n hx hb dX3_sameArgs_5 rfl (lv_at hl 3 rfl) ?_
      refine lv_icmp_ge (tgt := 49) hx hb dX3_sameArgs_6 (by decide) (fun b6 => ?_) (fun b6 => ?_)
      · have yb6 : (n : Int) ≤ (d3_4 : Int) := (zI_le (a := n) (b := d3_4) (by omega) (by omega) (by omega) (by omega)).mp b6
        refine lv_iconst (v := 1) hx hb dX3_sameArgs_49 (by decide) ?_
        subst hQ
        refine W.widen (k := 0) (n := 0) (Nat.le_of_ble_eq_true rfl) (Nat.le_of_ble_eq_true rfl) ?_
        exact W.zret (v := 1) hx hb hr (by decide) (fun t ht hW => ⟨⟨1, (), rfl, ⟨1, rfl, by omega⟩, by rw [ht]; exact hP, va_K.moved hW.alike hK, hD⟩, hS.F ht⟩) hS.2.2 dX3_sameArgs_50
      · have yb6 : ¬ (n : Int) ≤ (d3_4 : Int) := fun q => b6 ((zI_le (a := n) (b := d3_4) (by omega) (by omega) (by omega) (by omega)).mpr q)
        refine lv_aload_n hx hb dX3_sameArgs_9 rfl (lv_at hl 0 rfl) ?_
        refine va_get (D := (dC, dI)) (ci := 0) (v := .ref q_718) (C := RX0) (T := TX0) (N := 19) hx hb hts mem_X3_sameArgs_0 hown hK hP 0 rfl rfl 18 (by decide) (ow (k := 0) rfl) (fun _ h9 => h9) rfl dX3_sameArgs_10 ?_
        refine lv_aload_n hx hb dX3_sameArgs_13 rfl (lv_at hl 0 rfl) ?_
        refine va_get (D := (dC, dI)) (ci := 0) (v := .ref q_717) (C := RX0) (T := TX0) (N := 19) hx hb hts mem_X3_sameArgs_0 hown hK hP 0 rfl rfl 17 (by decide) (ow (k := 1) rfl) (fun _ h9 => h9) rfl dX3_sameArgs_14 ?_
        refine lv_iload_n hx hb dX3_sameArgs_17 rfl (lv_at hl 1 rfl) ?_
        refine va_iald hx hb hK hP 1 0 rfl rfl (zI_in (a := i) (n := 1000) (by omega) (by omega) (by decide)) dX3_sameArgs_18 ?_
        refine lv_topi (fun z ez => ?_)
        obtain rfl : z = zI (a_17 (i)) := ez.trans (zI_ld (a_17) (by omega) (by omega))
        have k1 := hR_a_17 (i)
        refine lv_iload hx hb dX3_sameArgs_19 (lv_at hl 4 rfl) ?_
        refine lv_iadd hx hb dX3_sameArgs_21 ?_
        refine lv_topi (fun z ez => ?_)
        obtain rfl : z = zI ((a_17 (i)) + d3_4) := ez.trans (zI_add (a_17 (i)) (d3_4))
        refine va_lald hx hb hK hP 2 1 rfl rfl (zI_in (a := (a_17 (i)) + d3_4) (n := na1) (by omega) (by omega) (by omega)) dX3_sameArgs_22 ?_
        refine lv_topl (fun z ez => ?_)
        obtain rfl : z = lI (a_18 ((a_17 (i)) + d3_4)) := ez.trans (lI_ld (a_18) (by omega) (by omega))
        have k2 := hR_a_18 ((a_17 (i)) + d3_4)
        refine lv_aload_n hx hb dX3_sameArgs_23 rfl (lv_at hl 0 rfl) ?_
        refine va_get (D := (dC, dI)) (ci := 0) (v := .ref q_718) (C := RX0) (T := TX0) (N := 19) hx hb hts mem_X3_sameArgs_0 hown hK hP 0 rfl rfl 18 (by decide) (ow (k := 0) rfl) (fun _ h9 => h9) rfl dX3_sameArgs_24 ?_
        refine lv_aload_n hx hb dX3_sameArgs_27 rfl (lv_at hl 0 rfl) ?_
        refine va_get (D := (dC, dI)) (ci := 0) (v := .ref q_717) (C := RX0) (T := TX0) (N := 19) hx hb hts mem_X3_sameArgs_0 hown hK hP 0 rfl rfl 17 (by decide) (ow (k := 1) rfl) (fun _ h9 => h9) rfl dX3_sameArgs_28 ?_
        refine lv_iload_n hx hb dX3_sameArgs_31 rfl (lv_at hl 2 rfl) ?_
        refine va_iald hx hb hK hP 1 0 rfl rfl (zI_in (a := i2) (n := 1000) (by omega) (by omega) (by decide)) dX3_sameArgs_32 ?_
        refine lv_topi (fun z ez => ?_)
        obtain rfl : z = zI (a_17 (i2)) := ez.trans (zI_ld (a_17) (by omega) (by omega))
        have k3 := hR_a_17 (i2)
        refine lv_iload hx hb dX3_sameArgs_33 (lv_at hl 4 rfl) ?_
        refine lv_iadd hx hb dX3_sameArgs_35 ?_
        refine lv_topi (fun z ez => ?_)
        obtain rfl : z = zI ((a_17 (i2)) + d3_4) := ez.trans (zI_add (a_17 (i2)) (d3_4))
        refine va_lald hx hb hK hP 2 1 rfl rfl (zI_in (a := (a_17 (i2)) + d3_4) (n := na1) (by omega) (by omega) (by omega)) dX3_sameArgs_36 ?_
        refine lv_topl (fun z ez => ?_)
        obtain rfl : z = lI (a_18 ((a_17 (i2)) + d3_4)) := ez.trans (lI_ld (a_18) (by omega) (by omega))
        have k4 := hR_a_18 ((a_17 (i2)) + d3_4)
        refine W.lcmp hx hb dX3_sameArgs_37 ?_
        refine lv_if_eq (tgt := 43) hx hb dX3_sameArgs_38 (by decide) (fun b38 => ?_) (fun b38 => ?_)
        · have yb38 : (a_18 ((a_17 (i)) + d3_4) : Int) = a_18 ((a_17 (i2)) + d3_4) := (lc_eq (a := a_18 ((a_17 (i)) + d3_4)) (b := a_18 ((a_17 (i2)) + d3_4)) (by omega) (by omega) (by omega) (by omega)).mp b38
          refine lv_iinc (v := zI (d3_4 + 1)) (lv' := [(4, .int (zI (d3_4 + 1))), (0, .ref hc), (1, .int (zI (i))), (2, .int (zI (i2))), (3, .int (zI (n)))]) hx hb dX3_sameArgs_43 hl (k := 4) rfl (zI_add (d3_4) (1)) (by decide) rfl (fun ls hl => ?_)
          refine lv_goto (tgt := 3) hx hb dX3_sameArgs_46 (by decide) ?_
          exact ih3 (d3_4 + 1) ls H _ (by omega) (by omega) (lv_sub hl [1, 2, 3, 4, 0] rfl) hP hD hS
        · have yb38 : ¬ (a_18 ((a_17 (i)) + d3_4) : Int) = a_18 ((a_17 (i2)) + d3_4) := fun q => b38 ((lc_eq (a := a_18 ((a_17 (i)) + d3_4)) (b := a_18 ((a_17 (i2)) + d3_4)) (by omega) (by omega) (by omega) (by omega)).mpr q)
          refine lv_iconst (v := 0) hx hb dX3_sameArgs_41 (by decide) ?_
          subst hQ
          refine W.widen (k := 0) (n := 0) (Nat.le_of_ble_eq_true rfl) (Nat.le_of_ble_eq_true rfl) ?_
          exact W.zret (v := 0) hx hb hr (by decide) (fun t ht hW => ⟨⟨0, (), rfl, ⟨0, rfl, by omega⟩, by rw [ht]; exact hP, va_K.moved hW.alike hK, hD⟩, hS.F ht⟩) hS.2.2 dX3_sameArgs_42
  exact key3 (((n) - (0) : Int).toNat + 1) 0 ls H _ (by omega) (by omega) (lv_sub hl [1, 2, 3, 4, 0] rfl) hP hD hS
theorem dX3_valueOfPhi_0 : decode cX3_valueOfPhi 0 = .ok (.aload_n 0, 1) := by decide +kernel
theorem dX3_valueOfPhi_1 : decode cX3_valueOfPhi 1 = .ok (.getfield 62, 3) := by decide +kernel
theorem dX3_valueOfPhi_4 : decode cX3_valueOfPhi 4 = .ok (.iload_n 1, 1) := by decide +kernel
theorem dX3_valueOfPhi_5 : decode cX3_valueOfPhi 5 = .ok (.iaload, 1) := by decide +kernel
theorem dX3_valueOfPhi_6 : decode cX3_valueOfPhi 6 = .ok (.istore_n 3, 1) := by decide +kernel
theorem dX3_valueOfPhi_7 : decode cX3_valueOfPhi 7 = .ok (.iload_n 3, 1) := by decide +kernel
theorem dX3_valueOfPhi_8 : decode cX3_valueOfPhi 8 = .ok (.iload_n 2, 1) := by decide +kernel
theorem dX3_valueOfPhi_9 : decode cX3_valueOfPhi 9 = .ok (.if_icmp .ge 35, 3) := by decide +kernel
theorem dX3_valueOfPhi_44 : decode cX3_valueOfPhi 44 = .ok (.ldc2_w 102, 3) := by decide +kernel
theorem dX3_valueOfPhi_47 : decode cX3_valueOfPhi 47 = .ok (.aload_n 0, 1) := by decide +kernel
theorem dX3_valueOfPhi_48 : decode cX3_valueOfPhi 48 = .ok (.getfield 55, 3) := by decide +kernel
theorem dX3_valueOfPhi_51 : decode cX3_valueOfPhi 51 = .ok (.iload_n 2, 1) := by decide +kernel
theorem dX3_valueOfPhi_52 : decode cX3_valueOfPhi 52 = .ok (.iaload, 1) := by decide +kernel
theorem dX3_valueOfPhi_53 : decode cX3_valueOfPhi 53 = .ok (.i2l, 1) := by decide +kernel
theorem dX3_valueOfPhi_54 : decode cX3_valueOfPhi 54 = .ok (.ladd, 1) := by decide +kernel
theorem dX3_valueOfPhi_55 : decode cX3_valueOfPhi 55 = .ok (.lstore_n 3, 1) := by decide +kernel
theorem dX3_valueOfPhi_56 : decode cX3_valueOfPhi 56 = .ok (.ldc2_w 29, 3) := by decide +kernel
theorem dX3_valueOfPhi_59 : decode cX3_valueOfPhi 59 = .ok (.lstore 5, 2) := by decide +kernel
theorem dX3_valueOfPhi_61 : decode cX3_valueOfPhi 61 = .ok (.iconst 0, 1) := by decide +kernel
theorem dX3_valueOfPhi_62 : decode cX3_valueOfPhi 62 = .ok (.istore 7, 2) := by decide +kernel
theorem dX3_valueOfPhi_64 : decode cX3_valueOfPhi 64 = .ok (.iload 7, 2) := by decide +kernel
theorem dX3_valueOfPhi_66 : decode cX3_valueOfPhi 66 = .ok (.aload_n 0, 1) := by decide +kernel
theorem dX3_valueOfPhi_67 : decode cX3_valueOfPhi 67 = .ok (.iload_n 1, 1) := by decide +kernel
theorem dX3_valueOfPhi_68 : decode cX3_valueOfPhi 68 = .ok (.invokevirtual 108, 3) := by decide +kernel
theorem dX3_valueOfPhi_71 : decode cX3_valueOfPhi 71 = .ok (.if_icmp .ge 57, 3) := by decide +kernel
theorem dX3_valueOfPhi_128 : decode cX3_valueOfPhi 128 = .ok (.lload 5, 2) := by decide +kernel
theorem dX3_valueOfPhi_130 : decode cX3_valueOfPhi 130 = .ok (.lreturn, 1) := by decide +kernel
theorem dX3_valueOfPhi_74 : decode cX3_valueOfPhi 74 = .ok (.aload_n 0, 1) := by decide +kernel
theorem dX3_valueOfPhi_75 : decode cX3_valueOfPhi 75 = .ok (.getfield 116, 3) := by decide +kernel
theorem dX3_valueOfPhi_78 : decode cX3_valueOfPhi 78 = .ok (.aload_n 0, 1) := by decide +kernel
theorem dX3_valueOfPhi_79 : decode cX3_valueOfPhi 79 = .ok (.getfield 119, 3) := by decide +kernel
theorem dX3_valueOfPhi_82 : decode cX3_valueOfPhi 82 = .ok (.iload_n 2, 1) := by decide +kernel
theorem dX3_valueOfPhi_83 : decode cX3_valueOfPhi 83 = .ok (.iaload, 1) := by decide +kernel
theorem dX3_valueOfPhi_84 : decode cX3_valueOfPhi 84 = .ok (.iload 7, 2) := by decide +kernel
theorem dX3_valueOfPhi_86 : decode cX3_valueOfPhi 86 = .ok (.iadd, 1) := by decide +kernel
theorem dX3_valueOfPhi_87 : decode cX3_valueOfPhi 87 = .ok (.laload, 1) := by decide +kernel
theorem dX3_valueOfPhi_88 : decode cX3_valueOfPhi 88 = .ok (.lstore 8, 2) := by decide +kernel
theorem dX3_valueOfPhi_90 : decode cX3_valueOfPhi 90 = .ok (.lload 8, 2) := by decide +kernel
theorem dX3_valueOfPhi_92 : decode cX3_valueOfPhi 92 = .ok (.lload_n 3, 1) := by decide +kernel
theorem dX3_valueOfPhi_93 : decode cX3_valueOfPhi 93 = .ok (.lcmp, 1) := by decide +kernel
theorem dX3_valueOfPhi_94 : decode cX3_valueOfPhi 94 = .ok (.ifCond .eq 28, 3) := by decide +kernel
theorem dX3_valueOfPhi_122 : decode cX3_valueOfPhi 122 = .ok (.iinc 7 1, 3) := by decide +kernel
theorem dX3_valueOfPhi_125 : decode cX3_valueOfPhi 125 = .ok (.goto (-61), 3) := by decide +kernel
theorem dX3_valueOfPhi_97 : decode cX3_valueOfPhi 97 = .ok (.lload 8, 2) := by decide +kernel
theorem dX3_valueOfPhi_99 : decode cX3_valueOfPhi 99 = .ok (.lload 5, 2) := by decide +kernel
theorem dX3_valueOfPhi_101 : decode cX3_valueOfPhi 101 = .ok (.lcmp, 1) := by decide +kernel
theorem dX3_valueOfPhi_102 : decode cX3_valueOfPhi 102 = .ok (.ifCond .eq 20, 3) := by decide +kernel
theorem dX3_valueOfPhi_105 : decode cX3_valueOfPhi 105 = .ok (.lload 5, 2) := by decide +kernel
theorem dX3_valueOfPhi_107 : decode cX3_valueOfPhi 107 = .ok (.ldc2_w 29, 3) := by decide +kernel
theorem dX3_valueOfPhi_110 : decode cX3_valueOfPhi 110 = .ok (.lcmp, 1) := by decide +kernel
theorem dX3_valueOfPhi_111 : decode cX3_valueOfPhi 111 = .ok (.ifCond .eq 7, 3) := by decide +kernel
theorem dX3_valueOfPhi_118 : decode cX3_valueOfPhi 118 = .ok (.lload 8, 2) := by decide +kernel
theorem dX3_valueOfPhi_120 : decode cX3_valueOfPhi 120 = .ok (.lstore 5, 2) := by decide +kernel
theorem dX3_valueOfPhi_114 : decode cX3_valueOfPhi 114 = .ok (.ldc2_w 29, 3) := by decide +kernel
theorem dX3_valueOfPhi_117 : decode cX3_valueOfPhi 117 = .ok (.lreturn, 1) := by decide +kernel
theorem dX3_valueOfPhi_12 : decode cX3_valueOfPhi 12 = .ok (.aload_n 0, 1) := by decide +kernel
theorem dX3_valueOfPhi_13 : decode cX3_valueOfPhi 13 = .ok (.iload_n 2, 1) := by decide +kernel
theorem dX3_valueOfPhi_14 : decode cX3_valueOfPhi 14 = .ok (.iload_n 3, 1) := by decide +kernel
theorem dX3_valueOfPhi_15 : decode cX3_valueOfPhi 15 = .ok (.aload_n 0, 1) := by decide +kernel
theorem dX3_valueOfPhi_16 : decode cX3_valueOfPhi 16 = .ok (.iload_n 1, 1) := by decide +kernel
theorem dX3_valueOfPhi_17 : decode cX3_valueOfPhi 17 = .ok (.invokevirtual 108, 3) := by decide +kernel
theorem dX3_valueOfPhi_20 : decode cX3_valueOfPhi 20 = .ok (.invokestatic 112, 3) := by decide +kernel
theorem dX3_valueOfPhi_23 : decode cX3_valueOfPhi 23 = .ok (.ifCond .eq 15, 3) := by decide +kernel
theorem dX3_valueOfPhi_38 : decode cX3_valueOfPhi 38 = .ok (.iinc 3 1, 3) := by decide +kernel
theorem dX3_valueOfPhi_41 : decode cX3_valueOfPhi 41 = .ok (.goto (-34), 3) := by decide +kernel
theorem dX3_valueOfPhi_26 : decode cX3_valueOfPhi 26 = .ok (.ldc2_w 102, 3) := by decide +kernel
theorem dX3_valueOfPhi_29 : decode cX3_valueOfPhi 29 = .ok (.aload_n 0, 1) := by decide +kernel
theorem dX3_valueOfPhi_30 : decode cX3_valueOfPhi 30 = .ok (.getfield 55, 3) := by decide +kernel
theorem dX3_valueOfPhi_33 : decode cX3_valueOfPhi 33 = .ok (.iload_n 3, 1) := by decide +kernel
theorem dX3_valueOfPhi_34 : decode cX3_valueOfPhi 34 = .ok (.iaload, 1) := by decide +kernel
theorem dX3_valueOfPhi_35 : decode cX3_valueOfPhi 35 = .ok (.i2l, 1) := by decide +kernel
theorem dX3_valueOfPhi_36 : decode cX3_valueOfPhi 36 = .ok (.ladd, 1) := by decide +kernel
theorem dX3_valueOfPhi_37 : decode cX3_valueOfPhi 37 = .ok (.lreturn, 1) := by decide +kernel
def o_X3_valueOfPhi : List Cond := [.fieldLink RX3 62 "SsaForge$Code" "phiStart" "[I", .constantLong RX3 102 (4294967296), .fieldLink RX3 55 "SsaForge$Code" "phiTarget" "[I", .constantLong RX3 29 (1099511627776), .methodLink RX3 108 yX0_predCount, .instanceMethod yX0_predCount, .selects RX0 yX0_predCount yX0_predCount, .initialized RX0, .fieldLink RX3 116 "SsaForge$Code" "args" "[J", .fieldLink RX3 119 "SsaForge$Code" "argStart" "[I", .methodLink RX3 112 yX3_sameArgs, .static yX3_sameArgs, .initialized RX3]
def v_X3_valueOfPhi : List Cond := .code yX3_valueOfPhi cX3_valueOfPhi 10 (some .long) :: (o_X3_valueOfPhi ++ (wsX00 ++ (v_X0_predCount ++ (v_X3_sameArgs ++ []))))
theorem mow_X3_valueOfPhi : ∀ w ∈ o_X3_valueOfPhi, w ∈ v_X3_valueOfPhi := fun _ h => List.mem_cons_of_mem _ (List.mem_append_left _ h)
theorem mem_X3_valueOfPhi_0 : ∀ w ∈ wsX00, w ∈ v_X3_valueOfPhi := fun _ h => List.mem_cons_of_mem _ (List.mem_append_right _ (List.mem_append_left _ h))
theorem mem_X3_valueOfPhi_1 : ∀ w ∈ v_X0_predCount, w ∈ v_X3_valueOfPhi := fun _ h => List.mem_cons_of_mem _ (List.mem_append_right _ (List.mem_append_right _ (List.mem_append_left _ h)))
theorem mem_X3_valueOfPhi_2 : ∀ w ∈ v_X3_sameArgs, w ∈ v_X3_valueOfPhi := fun _ h => List.mem_cons_of_mem _ (List.mem_append_right _ (List.mem_append_right _ (List.mem_append_right _ (List.mem_append_left _ h))))
set_option maxRecDepth 20000 in
theorem gw_X3_valueOfPhi : v_X3_valueOfPhi.all goodWord = true := by decide +kernel
set_option maxRecDepth 20000 in
theorem g_X3_valueOfPhi_X0_predCount : GoodIn v_X3_valueOfPhi (wsV RX3 108 RX0 yX0_predCount v_X0_predCount) := goodIn_app (goodIn_sub (fun w h => mow_X3_valueOfPhi w (by revert w h; decide +kernel)) (by decide +kernel)) (goodIn_sub mem_X3_valueOfPhi_1 gw_X0_predCount)
set_option maxRecDepth 20000 in
theorem g_X3_valueOfPhi_X3_sameArgs : GoodIn v_X3_valueOfPhi (wsS RX3 112 yX3_sameArgs v_X3_sameArgs) := goodIn_app (goodIn_sub (fun w h => mow_X3_valueOfPhi w (by revert w h; decide +kernel)) (by decide +kernel)) (goodIn_sub mem_X3_valueOfPhi_2 gw_X3_sameArgs)
set_option maxHeartbeats 4000000 in
set_option maxRecDepth 100000 in
theorem c_X3_valueOfPhi (l : Launch) (dC : Nat → ClassId) (dI : Nat → Nat → Nat) (hc : Nat) (B1 : Int) (v_1 : Value) (P1 : Int) (v_3 : Value) (v_4 : Value) (v_5 : Value) (v_6 : Value) (v_7 : Value) (v_8 : Value) (v_9 : Value) (v_10 : Value) (v_11 : Value) (v_12 : Value) (q_713 : Nat) (cA_713 : ClassId) (a_13 : Int → Int) (v_14 : Value) (q_715 : Nat) (cA_715 : ClassId) (a_15 : Int → Int) (q_716 : Nat) (cA_716 : ClassId) (a_16 : Int → Int) (q_717 : Nat) (cA_717 : ClassId) (a_17 : Int → Int) (q_718 : Nat) (cA_718 : ClassId) (na1 : Nat) (a_18 : Int → Int) (b : Int) (i : Int) (hNB1 : 0 ≤ B1 ∧ B1 ≤ 300) (hNP1 : 0 ≤ P1 ∧ P1 ≤ 1000) (hR_a_13 : ∀ j : Int, 0 ≤ a_13 j ∧ a_13 j ≤ 600) (hR_a_15 : ∀ j : Int, 0 ≤ a_15 j ∧ a_15 j ≤ 1000) (hR_a_16 : ∀ j : Int, -1 ≤ a_16 j ∧ a_16 j ≤ 1023) (hR_a_17 : ∀ j : Int, 0 ≤ a_17 j ∧ a_17 j ≤ 60000) (hNna1 : na1 ≤ 60000) (hR_a_18 : ∀ j : Int, ((-2147483648 ≤ a_18 j ∧ a_18 j ≤ 4294968319) ∨ a_18 j = 1099511627776)) (hNb : 0 ≤ b ∧ b < B1) (hNi : a_15 b ≤ i ∧ i < a_15 (b + 1)) (hX_T : ∀ i : Int, 0 ≤ i → i < P1 → 0 ≤ a_16 i) (hX_P : ∀ b : Int, 0 ≤ b → b ≤ B1 → a_15 b ≤ P1) (hX_A : ∀ b i : Int, 0 ≤ b → b < B1 → a_15 b ≤ i → i < a_15 (b + 1) → a_17 i + (a_13 (b + 1) - a_13 b) ≤ na1) (sz : Nat) : Met l yX3_valueOfPhi v_X3_valueOfPhi ({ frames := 1, cells := 0, slots := 0, locals := 24 }) (va_Pc [.ref hc, .int (zI (b)), .int (zI (i))] (fun U => U.heap.size = sz ∧ va_P (dC, dI) vwP [(hc, .inr (0, [.int (zI (B1)), v_1, .int (zI (P1)), v_3, v_4, v_5, v_6, v_7, v_8, v_9, v_10, v_11, v_12, .ref q_713, v_14, .ref q_715, .ref q_716, .ref q_717, .ref q_718])), (q_713, .inl (cA_713, 301, .inl (fun j : Nat => zI (a_13 (j : Int))))), (q_715, .inl (cA_715, 301, .inl (fun j : Nat => zI (a_15 (j : Int))))), (q_716, .inl (cA_716, 1000, .inl (fun j : Nat => zI (a_16 (j : Int))))), (q_717, .inl (cA_717, 1000, .inl (fun j : Nat => zI (a_17 (j : Int))))), (q_718, .inl (cA_718, na1, .inr (.inl (fun j : Nat => lI (a_18 (j : Int))))))] U.heap ∧ va_K (dC, dI) vwP [(cA_713, .int), (cA_715, .int), (cA_716, .int), (cA_717, .int), (cA_718, .long)] U ∧ va_D (fun _ => True) [(hc, .inr (0, [.int (zI (B1)), v_1, .int (zI (P1)), v_3, v_4, v_5, v_6, v_7, v_8, v_9, v_10, v_11, v_12, .ref q_713, v_14, .ref q_715, .ref q_716, .ref q_717, .ref q_718])), (q_713, .inl (cA_713, 301, .inl (fun j : Nat => zI (a_13 (j : Int))))), (q_715, .inl (cA_715, 301, .inl (fun j : Nat => zI (a_15 (j : Int))))), (q_716, .inl (cA_716, 1000, .inl (fun j : Nat => zI (a_16 (j : Int))))), (q_717, .inl (cA_717, 1000, .inl (fun j : Nat => zI (a_17 (j : Int))))), (q_718, .inl (cA_718, na1, .inr (.inl (fun j : Nat => lI (a_18 (j : Int))))))])) (va_Ql (fun (r : Int64) (_ : Unit) => ∃ z : Int, r = lI z ∧ (((-2147483648 ≤ z ∧ z ≤ 4294968319) ∨ z = 1099511627776))) (fun (_ : Unit) (t : State) => va_P (dC, dI) vwP [(hc, .inr (0, [.int (zI (B1)), v_1, .int (zI (P1)), v_3, v_4, v_5, v_6, v_7, v_8, v_9, v_10, v_11, v_12, .ref q_713, v_14, .ref q_715, .ref q_716, .ref q_717, .ref q_718])), (q_713, .inl (cA_713, 301, .inl (fun j : Nat => zI (a_13 (j : Int))))), (q_715, .inl (cA_715, 301, .inl (fun j : Nat => zI (a_15 (j : Int))))), (q_716, .inl (cA_716, 1000, .inl (fun j : Nat => zI (a_16 (j : Int))))), (q_717, .inl (cA_717, 1000, .inl (fun j : Nat => zI (a_17 (j : Int))))), (q_718, .inl (cA_718, na1, .inr (.inl (fun j : Nat => lI (a_18 (j : Int))))))] t.heap ∧ va_K (dC, dI) vwP [(cA_713, .int), (cA_715, .int), (cA_716, .int), (cA_717, .int), (cA_718, .long)] t ∧ va_D (va_A [(hc, .inr (0, [.int (zI (B1)), v_1, .int (zI (P1)), v_3, v_4, v_5, v_6, v_7, v_8, v_9, v_10, v_11, v_12, .ref q_713, v_14, .ref q_715, .ref q_716, .ref q_717, .ref q_718])), (q_713, .inl (cA_713, 301, .inl (fun j : Nat => zI (a_13 (j : Int))))), (q_715, .inl (cA_715, 301, .inl (fun j : Nat => zI (a_15 (j : Int))))), (q_716, .inl (cA_716, 1000, .inl (fun j : Nat => zI (a_16 (j : Int))))), (q_717, .inl (cA_717, 1000, .inl (fun j : Nat => zI (a_17 (j : Int))))), (q_718, .inl (cA_718, na1, .inr (.inl (fun j : Nat => lI (a_18 (j : Int))))))] sz) [(hc, .inr (0, [.int (zI (B1)), v_1, .int (zI (P1)), v_3, v_4, v_5, v_6, v_7, v_8, v_9, v_10, v_11, v_12, .ref q_713, v_14, .ref q_715, .ref q_716, .ref q_717, .ref q_718])), (q_713, .inl (cA_713, 301, .inl (fun j : Nat => zI (a_13 (j : Int))))), (q_715, .inl (cA_715, 301, .inl (fun j : Nat => zI (a_15 (j : Int))))), (q_716, .inl (cA_716, 1000, .inl (fun j : Nat => zI (a_16 (j : Int))))), (q_717, .inl (cA_717, 1000, .inl (fun j : Nat => zI (a_17 (j : Int))))), (q_718, .inl (cA_718, na1, .inr (.inl (fun j : Nat => lI (a_18 (j : Int))))))]) (va_A [(hc, .inr (0, [.int (zI (B1)), v_1, .int (zI (P1)), v_3, v_4, v_5, v_6, v_7, v_8, v_9, v_10, v_11, v_12, .ref q_713, v_14, .ref q_715, .ref q_716, .ref q_717, .ref q_718])), (q_713, .inl (cA_713, 301, .inl (fun j : Nat => zI (a_13 (j : Int))))), (q_715, .inl (cA_715, 301, .inl (fun j : Nat => zI (a_15 (j : Int))))), (q_716, .inl (cA_716, 1000, .inl (fun j : Nat => zI (a_16 (j : Int))))), (q_717, .inl (cA_717, 1000, .inl (fun j : Nat => zI (a_17 (j : Int))))), (q_718, .inl (cA_718, na1, .inr (.inl (fun j : Nat => lI (a_18 (j : Int))))))] sz)) 0 0 (va_A [(hc, .inr (0, [.int (zI (B1)), v_1, .int (zI (P1)), v_3, v_4, v_5, v_6, v_7, v_8, v_9, v_10, v_11, v_12, .ref q_713, v_14, .ref q_715, .ref q_716, .ref q_717, .ref q_718])), (q_713, .inl (cA_713, 301, .inl (fun j : Nat => zI (a_13 (j : Int))))), (q_715, .inl (cA_715, 301, .inl (fun j : Nat => zI (a_15 (j : Int))))), (q_716, .inl (cA_716, 1000, .inl (fun j : Nat => zI (a_16 (j : Int))))), (q_717, .inl (cA_717, 1000, .inl (fun j : Nat => zI (a_17 (j : Int))))), (q_718, .inl (cA_718, na1, .inr (.inl (fun j : Nat => lI (a_18 (j : Int))))))] sz) := by
  refine Met.ofW (cc := cX3_valueOfPhi) (maxL := 10) (ret := (some .long)) (by decide) rfl ?_
  intro p e s m args below meth c s₁ B hml hv
  obtain ⟨rfl, hsz, hP, hK, hD0⟩ := hv
  have hx := B.exec
  have hb := B.bytes
  have hr := B.returns
  have hts := atoms_spec (ws := v_X3_valueOfPhi) B.pre
  have hown : s.vm.findClass RX3 = some m.cls := findClass_of_methodNamed B.named
  have hlocks := B.notSynchronized
  have ow : ∀ {k : Nat} {w : Cond}, o_X3_valueOfPhi[k]? = some w → w.before ([.ref hc, .int (zI (b)), .int (zI (i))] : List Value).toArray s = true := fun h => hts _ (mow_X3_valueOfPhi _ (List.mem_of_getElem? h))
  subst hsz
  have hD := hD0.self (sz := s.heap.size)
  generalize hAe : va_A [(hc, .inr (0, [.int (zI (B1)), v_1, .int (zI (P1)), v_3, v_4, v_5, v_6, v_7, v_8, v_9, v_10, v_11, v_12, .ref q_713, v_14, .ref q_715, .ref q_716, .ref q_717, .ref q_718])), (q_713, .inl (cA_713, 301, .inl (fun j : Nat => zI (a_13 (j : Int))))), (q_715, .inl (cA_715, 301, .inl (fun j : Nat => zI (a_15 (j : Int))))), (q_716, .inl (cA_716, 1000, .inl (fun j : Nat => zI (a_16 (j : Int))))), (q_717, .inl (cA_717, 1000, .inl (fun j : Nat => zI (a_17 (j : Int))))), (q_718, .inl (cA_718, na1, .inr (.inl (fun j : Nat => lI (a_18 (j : Int))))))] s.heap.size = A at hD ⊢
  have hA : ∀ q : Nat, s.heap.size ≤ q → A q := fun q h => by rw [← hAe]; exact Or.inr h
  have hS : va_S A s.heap s.heap [] := va_S.rf
  have hP : va_P (dC, dI) vwP [(hc, .inr (0, [.int (zI (B1)), v_1, .int (zI (P1)), v_3, v_4, v_5, v_6, v_7, v_8, v_9, v_10, v_11, v_12, .ref q_713, v_14, .ref q_715, .ref q_716, .ref q_717, .ref q_718])), (q_713, .inl (cA_713, 301, .inl (fun j : Nat => zI (a_13 (j : Int))))), (q_715, .inl (cA_715, 301, .inl (fun j : Nat => zI (a_15 (j : Int))))), (q_716, .inl (cA_716, 1000, .inl (fun j : Nat => zI (a_16 (j : Int))))), (q_717, .inl (cA_717, 1000, .inl (fun j : Nat => zI (a_17 (j : Int))))), (q_718, .inl (cA_718, na1, .inr (.inl (fun j : Nat => lI (a_18 (j : Int))))))] s.heap := hP
  have hl := lv_entry ([.ref hc, .int (zI (b)), .int (zI (i))]) (n := 10) (Nat.le_of_ble_eq_true rfl)
  rw [lg_entry_eq]
  generalize (lg_sl ([.ref hc, .int (zI (b)), .int (zI (i))]) ++ List.replicate (10 - (lg_sl ([.ref hc, .int (zI (b)), .int (zI (i))])).length) Slot.unset).toArray = ls at hl ⊢
  have hl : lv_has ls 10 [(0, .ref hc), (1, .int (zI (b))), (2, .int (zI (i)))] := hl
  obtain ⟨H, hH⟩ : ∃ H, H = s.heap := ⟨_, rfl⟩
  rw [← hH] at hP
  have hS : va_S A s.heap H [] := by rw [hH]; exact hS
  rw [← hH]
  refine zW_cap (fun Q hQ => ?_)
  have hp9 := hX_P (b + 1) (by omega) (by omega)
  have hq9 := hX_A b i (by omega) (by omega) (by omega) (by omega)
  have ht9 := hX_T i (by have := hR_a_15 b; omega) (by omega)
  have hf9 := hR_a_15 b
  refine lv_aload_n hx hb dX3_valueOfPhi_0 rfl (lv_at hl 0 rfl) ?_
  refine va_get (D := (dC, dI)) (ci := 0) (v := .ref q_715) (C := RX0) (T := TX0) (N := 19) hx hb hts mem_X3_valueOfPhi_0 hown hK hP 0 rfl rfl 15 (by decide) (ow (k := 0) rfl) (fun _ h9 => h9) rfl dX3_valueOfPhi_1 ?_
  refine lv_iload_n hx hb dX3_valueOfPhi_4 rfl (lv_at hl 1 rfl) ?_
  refine va_iald hx hb hK hP 2 1 rfl rfl (zI_in (a := b) (n := 301) (by omega) (by omega) (by decide)) dX3_valueOfPhi_5 ?_
  refine lv_topi (fun z ez => ?_)
  obtain rfl : z = zI (a_15 (b)) := ez.trans (zI_ld (a_15) (by omega) (by omega))
  have k1 := hR_a_15 (b)
  refine lv_istore_n (lv' := [(3, .int (zI (a_15 (b)))), (0, .ref hc), (1, .int (zI (b))), (2, .int (zI (i)))]) hx hb dX3_valueOfPhi_6 rfl hl (by decide) rfl (fun ls hl => ?_)
  have key7 : ∀ n7 : Nat, ∀ (d7_3 : Int) (ls : Array Slot) (H : Heap) (locs : List Loc), (a_15 b ≤ d7_3 ∧ d7_3 ≤ i) → (((i) - (d7_3) : Int).toNat) < n7 → lv_has ls 10 [(0, .ref hc), (1, .int (zI (b))), (2, .int (zI (i))), (3, .int (zI (d7_3)))] → va_P (dC, dI) vwP [(hc, .inr (0, [.int (zI (B1)), v_1, .int (zI (P1)), v_3, v_4, v_5, v_6, v_7, v_8, v_9, v_10, v_11, v_12, .ref q_713, v_14, .ref q_715, .ref q_716, .ref q_717, .ref q_718])), (q_713, .inl (cA_713, 301, .inl (fun j : Nat => zI (a_13 (j : Int))))), (q_715, .inl (cA_715, 301, .inl (fun j : Nat => zI (a_15 (j : Int))))), (q_716, .inl (cA_716, 1000, .inl (fun j : Nat => zI (a_16 (j : Int))))), (q_717, .inl (cA_717, 1000, .inl (fun j : Nat => zI (a_17 (j : Int))))), (q_718, .inl (cA_718, na1, .inr (.inl (fun j : Nat => lI (a_18 (j : Int))))))] H → va_D A [(hc, .inr (0, [.int (zI (B1)), v_1, .int (zI (P1)), v_3, v_4, v_5, v_6, v_7, v_8, v_9, v_10, v_11, v_12, .ref q_713, v_14, .ref q_715, .ref q_716, .ref q_717, .ref q_718])), (q_713, .inl (cA_713, 301, .inl (fun j : Nat => zI (a_13 (j : Int))))), (q_715, .inl (cA_715, 301, .inl (fun j : Nat => zI (a_15 (j : Int))))), (q_716, .inl (cA_716, 1000, .inl (fun j : Nat => zI (a_16 (j : Int))))), (q_717, .inl (cA_717, 1000, .inl (fun j : Nat => zI (a_17 (j : Int))))), (q_718, .inl (cA_718, na1, .inr (.inl (fun j : Nat => lI (a_18 (j : Int))))))] → va_S A s.heap H locs → W p l e (headSpec v_X3_valueOfPhi ({ frames := 1, cells := 0, slots := 0, locals := 24 })).room s m ([.ref hc, .int (zI (b)), .int (zI (i))] : List Value).toArray below meth c H locs 0 0 Q (F0 m 7 ls []) := by
    intro n7
    induction n7 with
    | zero => intro d7_3 ls H locs jd7_3 hm7; exact absurd hm7 (by omega)
    | succ n7 ih7 =>
      intro d7_3 ls H locs jd7_3 hm7 hl hP hD hS
      refine lv_iload_n hx hb dX3_valueOfPhi_7 rfl (lv_at hl 3 rfl) ?_
      refine lv_iload_n hx hb dX3_valueOfPhi_8 rfl (lv_at hl 2 rfl) ?_
      refine lv_icmp_ge (tgt := 44) hx hb dX3_valueOfPhi_9 (by decide) (fun b9 => ?_) (fun b9 => ?_)
      · have yb9 : (i : Int) ≤ (d7_3 : Int) := (zI_le (a := i) (b := d7_3) (by omega) (by omega) (by omega) (by omega)).mp b9
        refine lv_ldc2 (v := 4294967296) hx hb hown (ow (k := 1) rfl) dX3_valueOfPhi_44 ?_
        refine lv_topl (fun z ez => ?_)
        obtain rfl : z = lI (4294967296) := ez
        refine lv_aload_n hx hb dX3_valueOfPhi_47 rfl (lv_at hl 0 rfl) ?_
        refine va_get (D := (dC, dI)) (ci := 0) (v := .ref q_716) (C := RX0) (T := TX0) (N := 19) hx hb hts mem_X3_valueOfPhi_0 hown hK hP 0 rfl rfl 16 (by decide) (ow (k := 2) rfl) (fun _ h9 => h9) rfl dX3_valueOfPhi_48 ?_
        refine lv_iload_n hx hb dX3_valueOfPhi_51 rfl (lv_at hl 2 rfl) ?_
        refine va_iald hx hb hK hP 3 2 rfl rfl (zI_in (a := i) (n := 1000) (by omega) (by omega) (by decide)) dX3_valueOfPhi_52 ?_
        refine lv_topi (fun z ez => ?_)
        obtain rfl : z = zI (a_16 (i)) := ez.trans (zI_ld (a_16) (by omega) (by omega))
        have k2 := hR_a_16 (i)
        refine lv_i2l (v := lI (a_16 (i))) hx hb dX3_valueOfPhi_53 (zI_l (a := a_16 (i)) (by omega) (by omega)) ?_
        refine lv_ladd hx hb dX3_valueOfPhi_54 ?_
        refine lv_topl (fun z ez => ?_)
        obtain rfl : z = lI (4294967296 + (a_16 (i))) := ez.trans (lI_add (4294967296) (a_16 (i)))
        refine lv_lstore_n (lv' := [(3, .long (lI (4294967296 + (a_16 (i))))), (0, .ref hc), (1, .int (zI (b))), (2, .int (zI (i)))]) hx hb dX3_valueOfPhi_55 rfl hl (by decide) rfl (fun ls hl => ?_)
        refine lv_ldc2 (v := 1099511627776) hx hb hown (ow (k := 3) rfl) dX3_valueOfPhi_56 ?_
        refine lv_topl (fun z ez => ?_)
        obtain rfl : z = lI (1099511627776) := ez
        refine lv_lstore (lv' := [(5, .long (lI (1099511627776))), (3, .long (lI (4294967296 + (a_16 (i))))), (0, .ref hc), (1, .int (zI (b))), (2, .int (zI (i)))]) hx hb dX3_valueOfPhi_59 hl (by decide) rfl (fun ls hl => ?_)
        refine lv_iconst (v := 0) hx hb dX3_valueOfPhi_61 (by decide) ?_
        refine lv_istore (lv' := [(7, .int 0), (5, .long (lI (1099511627776))), (3, .long (lI (4294967296 + (a_16 (i))))), (0, .ref hc), (1, .int (zI (b))), (2, .int (zI (i)))]) hx hb dX3_valueOfPhi_62 hl (by decide) rfl (fun ls hl => ?_)
        have key64 : ∀ n64 : Nat, ∀ (d64_7 : Int) (d64_5 : Int) (ls : Array Slot) (H : Heap) (locs : List Loc), (0 ≤ d64_7 ∧ d64_7 ≤ 600) → (((-2147483648 ≤ d64_5 ∧ d64_5 ≤ 4294968319) ∨ d64_5 = 1099511627776)) → (((a_13 (b + 1) - a_13 (b)) - (d64_7) : Int).toNat) < n64 → lv_has ls 10 [(0, .ref hc), (1, .int (zI (b))), (2, .int (zI (i))), (3, .long (lI (4294967296 + (a_16 (i))))), (5, .long (lI (d64_5))), (7, .int (zI (d64_7)))] → va_P (dC, dI) vwP [(hc, .inr (0, [.int (zI (B1)), v_1, .int (zI (P1)), v_3, v_4, v_5, v_6, v_7, v_8, v_9, v_10, v_11, v_12, .ref q_713, v_14, .ref q_715, .ref q_716, .ref q_717, .ref q_718])), (q_713, .inl (cA_713, 301, .inl (fun j : Nat => zI (a_13 (j : Int))))), (q_715, .inl (cA_715, 301, .inl (fun j : Nat => zI (a_15 (j : Int))))), (q_716, .inl (cA_716, 1000, .inl (fun j : Nat => zI (a_16 (j : Int))))), (q_717, .inl (cA_717, 1000, .inl (fun j : Nat => zI (a_17 (j : Int))))), (q_718, .inl (cA_718, na1, .inr (.inl (fun j : Nat => lI (a_18 (j : Int))))))] H → va_D A [(hc, .inr (0, [.int (zI (B1)), v_1, .int (zI (P1)), v_3, v_4, v_5, v_6, v_7, v_8, v_9, v_10, v_11, v_12, .ref q_713, v_14, .ref q_715, .ref q_716, .ref q_717, .ref q_718])), (q_713, .inl (cA_713, 301, .inl (fun j : Nat => zI (a_13 (j : Int))))), (q_715, .inl (cA_715, 301, .inl (fun j : Nat => zI (a_15 (j : Int))))), (q_716, .inl (cA_716, 1000, .inl (fun j : Nat => zI (a_16 (j : Int))))), (q_717, .inl (cA_717, 1000, .inl (fun j : Nat => zI (a_17 (j : Int))))), (q_718, .inl (cA_718, na1, .inr (.inl (fun j : Nat => lI (a_18 (j : Int))))))] → va_S A s.heap H locs → W p l e (headSpec v_X3_valueOfPhi ({ frames := 1, cells := 0, slots := 0, locals := 24 })).room s m ([.ref hc, .int (zI (b)), .int (zI (i))] : List Value).toArray below meth c H locs 0 0 Q (F0 m 64 ls []) := by
          intro n64
          induction n64 with
          | zero => intro d64_7 d64_5 ls H locs jd64_7 jd64_5 hm64; exact absurd hm64 (by omega)
          | succ n64 ih64 =>
            intro d64_7 d64_5 ls H locs jd64_7 jd64_5 hm64 hl hP hD hS
            refine lv_iload hx hb dX3_valueOfPhi_64 (lv_at hl 5 rfl) ?_
            refine lv_aload_n hx hb dX3_valueOfPhi_66 rfl (lv_at hl 0 rfl) ?_
            refine lv_iload_n hx hb dX3_valueOfPhi_67 rfl (lv_at hl 1 rfl) ?_
            have hPc := hP.sub (ws' := [(hc, .inr (0, [.int (zI (B1)), v_1, .int (zI (P1)), v_3, v_4, v_5, v_6, v_7, v_8, v_9, v_10, v_11, v_12, .ref q_713, v_14, .ref q_715, .ref q_716, .ref q_717, .ref q_718])), (q_713, .inl (cA_713, 301, .inl (fun j : Nat => zI (a_13 (j : Int)))))]) [0, 1] rfl
            have hDc := hD.sub (ws' := [(hc, .inr (0, [.int (zI (B1)), v_1, .int (zI (P1)), v_3, v_4, v_5, v_6, v_7, v_8, v_9, v_10, v_11, v_12, .ref q_713, v_14, .ref q_715, .ref q_716, .ref q_717, .ref q_718])), (q_713, .inl (cA_713, 301, .inl (fun j : Nat => zI (a_13 (j : Int)))))]) [0, 1] (by decide) rfl
            have hKc := hK.sub (tys' := [(cA_713, .int)]) [0] rfl
            have hFc := va_free (wc := [(hc, .inr (0, [.int (zI (B1)), v_1, .int (zI (P1)), v_3, v_4, v_5, v_6, v_7, v_8, v_9, v_10, v_11, v_12, .ref q_713, v_14, .ref q_715, .ref q_716, .ref q_717, .ref q_718])), (q_713, .inl (cA_713, 301, .inl (fun j : Nat => zI (a_13 (j : Int)))))]) hD hS hA [0, 1] rfl
            refine va_calli (va_runV (As := [.int (zI (b))]) (rest := [.int (zI (d64_7))]) ⟨hx, hb, hml, hown, hts⟩ (c_X0_predCount l dC dI hc (.int (zI (B1))) v_1 (.int (zI (P1))) v_3 v_4 v_5 v_6 v_7 v_8 v_9 v_10 v_11 v_12 q_713 cA_713 a_13 v_14 (.ref q_715) (.ref q_716) (.ref q_717) (.ref q_718) b hR_a_13 (by omega) H.size) (cwV 1 hts g_X3_valueOfPhi_X0_predCount rfl rfl rfl (by decide +kernel) ⟨(Nat.le_of_ble_eq_true rfl), (Nat.le_of_ble_eq_true rfl)⟩) ⟨fun a U g mk q => by obtain ⟨q0, q1, qP, qK, qD⟩ := q; exact ⟨q0, q1, qP, va_K.moved (u := U) (U := U.calling g mk a) (Vm.Alike.refl U.vm) qK, qD⟩, va_recv hKc hPc (ci := 0) (q0 := 0) rfl rfl, fun U hU hW => ⟨rfl, by rw [hU], by rw [hU]; exact hPc, va_K.moved hW.alike hKc, hDc.weaken (fun _ _ _ _ => trivial)⟩⟩ rfl rfl hl.1 rfl (lv_room (Nat.le_of_ble_eq_true rfl)) dX3_valueOfPhi_68 ⟨(Nat.le_of_ble_eq_true rfl), (Nat.le_of_ble_eq_true rfl)⟩) hS (fun q _ h => hFc q h) hFc (fun r_2001 u t H1 locs ht hvm hw hB hz1 hk1 hS => ?_)
            obtain ⟨hP1, hK1, hD1⟩ := hB
            rw [ht] at hP1
            have hK1 := va_K.moved hvm.symm hK1
            obtain ⟨hP, hD⟩ := va_join (wr := [(q_715, .inl (cA_715, 301, .inl (fun j : Nat => zI (a_15 (j : Int))))), (q_716, .inl (cA_716, 1000, .inl (fun j : Nat => zI (a_16 (j : Int))))), (q_717, .inl (cA_717, 1000, .inl (fun j : Nat => zI (a_17 (j : Int))))), (q_718, .inl (cA_718, na1, .inr (.inl (fun j : Nat => lI (a_18 (j : Int))))))]) (w1 := [(hc, .inr (0, [.int (zI (B1)), v_1, .int (zI (P1)), v_3, v_4, v_5, v_6, v_7, v_8, v_9, v_10, v_11, v_12, .ref q_713, v_14, .ref q_715, .ref q_716, .ref q_717, .ref q_718])), (q_713, .inl (cA_713, 301, .inl (fun j : Nat => zI (a_13 (j : Int)))))]) hP hD [0, 1] [2, 3, 4, 5] rfl rfl (by decide) (by decide) hk1 hFc hP1 hD1
            have hK := (hK.sub (tys' := [(cA_715, .int), (cA_716, .int), (cA_717, .int), (cA_718, .long)]) [1, 2, 3, 4] rfl).app hK1
            generalize H1 = H at hP hS ⊢
            have hP : va_P (dC, dI) vwP [(q_715, .inl (cA_715, 301, .inl (fun j : Nat => zI (a_15 (j : Int))))), (q_716, .inl (cA_716, 1000, .inl (fun j : Nat => zI (a_16 (j : Int))))), (q_717, .inl (cA_717, 1000, .inl (fun j : Nat => zI (a_17 (j : Int))))), (q_718, .inl (cA_718, na1, .inr (.inl (fun j : Nat => lI (a_18 (j : Int)))))), (hc, .inr (0, [.int (zI (B1)), v_1, .int (zI (P1)), v_3, v_4, v_5, v_6, v_7, v_8, v_9, v_10, v_11, v_12, .ref q_713, v_14, .ref q_715, .ref q_716, .ref q_717, .ref q_718])), (q_713, .inl (cA_713, 301, .inl (fun j : Nat => zI (a_13 (j : Int)))))] H := hP
            have hD : va_D A [(q_715, .inl (cA_715, 301, .inl (fun j : Nat => zI (a_15 (j : Int))))), (q_716, .inl (cA_716, 1000, .inl (fun j : Nat => zI (a_16 (j : Int))))), (q_717, .inl (cA_717, 1000, .inl (fun j : Nat => zI (a_17 (j : Int))))), (q_718, .inl (cA_718, na1, .inr (.inl (fun j : Nat => lI (a_18 (j : Int)))))), (hc, .inr (0, [.int (zI (B1)), v_1, .int (zI (P1)), v_3, v_4, v_5, v_6, v_7, v_8, v_9, v_10, v_11, v_12, .ref q_713, v_14, .ref q_715, .ref q_716, .ref q_717, .ref q_718])), (q_713, .inl (cA_713, 301, .inl (fun j : Nat => zI (a_13 (j : Int)))))] := hD
            have hK : va_K (dC, dI) vwP [(cA_715, .int), (cA_716, .int), (cA_717, .int), (cA_718, .long), (cA_713, .int)] s := hK
            refine W.widen (k := 0) (n := 0) (Nat.le_of_ble_eq_true rfl) (Nat.le_of_ble_eq_true rfl) ?_
            obtain rfl : r_2001 = (zI (a_13 (b + 1) - a_13 (b))) := hw
            have k3 := hR_a_13 (b + 1)
            have k4 := hR_a_13 (b)
            refine lv_icmp_ge (tgt := 128) hx hb dX3_valueOfPhi_71 (by decide) (fun b71 => ?_) (fun b71 => ?_)
            · have yb71 : (a_13 (b + 1) - a_13 (b) : Int) ≤ (d64_7 : Int) := (zI_le (a := a_13 (b + 1) - a_13 (b)) (b := d64_7) (by omega) (by omega) (by omega) (by omega)).mp b71
              refine lv_lload hx hb dX3_valueOfPhi_128 (lv_at hl 4 rfl) ?_
              subst hQ
              have hP := hP.sub (ws' := [(hc, .inr (0, [.int (zI (B1)), v_1, .int (zI (P1)), v_3, v_4, v_5, v_6, v_7, v_8, v_9, v_10, v_11, v_12, .ref q_713, v_14, .ref q_715, .ref q_716, .ref q_717, .ref q_718])), (q_713, .inl (cA_713, 301, .inl (fun j : Nat => zI (a_13 (j : Int))))), (q_715, .inl (cA_715, 301, .inl (fun j : Nat => zI (a_15 (j : Int))))), (q_716, .inl (cA_716, 1000, .inl (fun j : Nat => zI (a_16 (j : Int))))), (q_717, .inl (cA_717, 1000, .inl (fun j : Nat => zI (a_17 (j : Int))))), (q_718, .inl (cA_718, na1, .inr (.inl (fun j : Nat => lI (a_18 (j : Int))))))]) [4, 5, 0, 1, 2, 3] rfl
              have hD := hD.sub (ws' := [(hc, .inr (0, [.int (zI (B1)), v_1, .int (zI (P1)), v_3, v_4, v_5, v_6, v_7, v_8, v_9, v_10, v_11, v_12, .ref q_713, v_14, .ref q_715, .ref q_716, .ref q_717, .ref q_718])), (q_713, .inl (cA_713, 301, .inl (fun j : Nat => zI (a_13 (j : Int))))), (q_715, .inl (cA_715, 301, .inl (fun j : Nat => zI (a_15 (j : Int))))), (q_716, .inl (cA_716, 1000, .inl (fun j : Nat => zI (a_16 (j : Int))))), (q_717, .inl (cA_717, 1000, .inl (fun j : Nat => zI (a_17 (j : Int))))), (q_718, .inl (cA_718, na1, .inr (.inl (fun j : Nat => lI (a_18 (j : Int))))))]) [4, 5, 0, 1, 2, 3] (by decide) rfl
              have hK := hK.sub (tys' := [(cA_713, .int), (cA_715, .int), (cA_716, .int), (cA_717, .int), (cA_718, .long)]) [4, 0, 1, 2, 3] rfl
              refine W.widen (k := 0) (n := 0) (Nat.le_of_ble_eq_true rfl) (Nat.le_of_ble_eq_true rfl) ?_
              exact W.lret (v := (lI (d64_5))) hx hb hr (fun t ht hW => ⟨⟨(lI (d64_5)), (), rfl, ⟨d64_5, rfl, by omega⟩, by rw [ht]; exact hP, va_K.moved hW.alike hK, hD⟩, hS.F ht⟩) hS.2.2 dX3_valueOfPhi_130
            · have yb71 : ¬ (a_13 (b + 1) - a_13 (b) : Int) ≤ (d64_7 : Int) := fun q => b71 ((zI_le (a := a_13 (b + 1) - a_13 (b)) (b := d64_7) (by omega) (by omega) (by omega) (by omega)).mpr q)
              refine lv_aload_n hx hb dX3_valueOfPhi_74 rfl (lv_at hl 0 rfl) ?_
              refine va_get (D := (dC, dI)) (ci := 0) (v := .ref q_718) (C := RX0) (T := TX0) (N := 19) hx hb hts mem_X3_valueOfPhi_0 hown hK hP 4 rfl rfl 18 (by decide) (ow (k := 8) rfl) (fun _ h9 => h9) rfl dX3_valueOfPhi_75 ?_
              refine lv_aload_n hx hb dX3_valueOfPhi_78 rfl (lv_at hl 0 rfl) ?_
              refine va_get (D := (dC, dI)) (ci := 0) (v := .ref q_717) (C := RX0) (T := TX0) (N := 19) hx hb hts mem_X3_valueOfPhi_0 hown hK hP 4 rfl rfl 17 (by decide) (ow (k := 9) rfl) (fun _ h9 => h9) rfl dX3_valueOfPhi_79 ?_
              refine lv_iload_n hx hb dX3_valueOfPhi_82 rfl (lv_at hl 2 rfl) ?_
              refine va_iald hx hb hK hP 2 2 rfl rfl (zI_in (a := i) (n := 1000) (by omega) (by omega) (by decide)) dX3_valueOfPhi_83 ?_
              refine lv_topi (fun z ez => ?_)
              obtain rfl : z = zI (a_17 (i)) := ez.trans (zI_ld (a_17) (by omega) (by omega))
              have k5 := hR_a_17 (i)
              refine lv_iload hx hb dX3_valueOfPhi_84 (lv_at hl 5 rfl) ?_
              refine lv_iadd hx hb dX3_valueOfPhi_86 ?_
              refine lv_topi (fun z ez => ?_)
              obtain rfl : z = zI ((a_17 (i)) + d64_7) := ez.trans (zI_add (a_17 (i)) (d64_7))
              refine va_lald hx hb hK hP 3 3 rfl rfl (zI_in (a := (a_17 (i)) + d64_7) (n := na1) (by omega) (by omega) (by omega)) dX3_valueOfPhi_87 ?_
              refine lv_topl (fun z ez => ?_)
              obtain rfl : z = lI (a_18 ((a_17 (i)) + d64_7)) := ez.trans (lI_ld (a_18) (by omega) (by omega))
              have k6 := hR_a_18 ((a_17 (i)) + d64_7)
              refine lv_lstore (lv' := [(8, .long (lI (a_18 ((a_17 (i)) + d64_7)))), (0, .ref hc), (1, .int (zI (b))), (2, .int (zI (i))), (3, .long (lI (4294967296 + (a_16 (i))))), (5, .long (lI (d64_5))), (7, .int (zI (d64_7)))]) hx hb dX3_valueOfPhi_88 hl (by decide) rfl (fun ls hl => ?_)
              refine lv_lload hx hb dX3_valueOfPhi_90 (lv_at hl 0 rfl) ?_
              refine lv_lload_n hx hb dX3_valueOfPhi_92 rfl (lv_at hl 4 rfl) ?_
              refine W.lcmp hx hb dX3_valueOfPhi_93 ?_
              refine lv_if_eq (tgt := 122) hx hb dX3_valueOfPhi_94 (by decide) (fun b94 => ?_) (fun b94 => ?_)
              · have yb94 : (a_18 ((a_17 (i)) + d64_7) : Int) = 4294967296 + (a_16 (i)) := (lc_eq (a := a_18 ((a_17 (i)) + d64_7)) (b := 4294967296 + (a_16 (i))) (by omega) (by omega) (by omega) (by omega)).mp b94
                refine lv_iinc (v := zI (d64_7 + 1)) (lv' := [(7, .int (zI (d64_7 + 1))), (8, .long (lI (a_18 ((a_17 (i)) + d64_7)))), (0, .ref hc), (1, .int (zI (b))), (2, .int (zI (i))), (3, .long (lI (4294967296 + (a_16 (i))))), (5, .long (lI (d64_5)))]) hx hb dX3_valueOfPhi_122 hl (k := 6) rfl (zI_add (d64_7) (1)) (by decide) rfl (fun ls hl => ?_)
                refine lv_goto (tgt := 64) hx hb dX3_valueOfPhi_125 (by decide) ?_
                have hP := hP.sub (ws' := [(hc, .inr (0, [.int (zI (B1)), v_1, .int (zI (P1)), v_3, v_4, v_5, v_6, v_7, v_8, v_9, v_10, v_11, v_12, .ref q_713, v_14, .ref q_715, .ref q_716, .ref q_717, .ref q_718])), (q_713, .inl (cA_713, 301, .inl (fun j : Nat => zI (a_13 (j : Int))))), (q_715, .inl (cA_715, 301, .inl (fun j : Nat => zI (a_15 (j : Int))))), (q_716, .inl (cA_716, 1000, .inl (fun j : Nat => zI (a_16 (j : Int))))), (q_717, .inl (cA_717, 1000, .inl (fun j : Nat => zI (a_17 (j : Int))))), (q_718, .inl (cA_718, na1, .inr (.inl (fun j : Nat => lI (a_18 (j : Int))))))]) [4, 5, 0, 1, 2, 3] rfl
                have hD := hD.sub (ws' := [(hc, .inr (0, [.int (zI (B1)), v_1, .int (zI (P1)), v_3, v_4, v_5, v_6, v_7, v_8, v_9, v_10, v_11, v_12, .ref q_713, v_14, .ref q_715, .ref q_716, .ref q_717, .ref q_718])), (q_713, .inl (cA_713, 301, .inl (fun j : Nat => zI (a_13 (j : Int))))), (q_715, .inl (cA_715, 301, .inl (fun j : Nat => zI (a_15 (j : Int))))), (q_716, .inl (cA_716, 1000, .inl (fun j : Nat => zI (a_16 (j : Int))))), (q_717, .inl (cA_717, 1000, .inl (fun j : Nat => zI (a_17 (j : Int))))), (q_718, .inl (cA_718, na1, .inr (.inl (fun j : Nat => lI (a_18 (j : Int))))))]) [4, 5, 0, 1, 2, 3] (by decide) rfl
                exact ih64 (d64_7 + 1) d64_5 ls H _ (by omega) (by omega) (by omega) (lv_sub hl [2, 3, 4, 5, 6, 0] rfl) hP hD hS
              · have yb94 : ¬ (a_18 ((a_17 (i)) + d64_7) : Int) = 4294967296 + (a_16 (i)) := fun q => b94 ((lc_eq (a := a_18 ((a_17 (i)) + d64_7)) (b := 4294967296 + (a_16 (i))) (by omega) (by omega) (by omega) (by omega)).mpr q)
                refine lv_lload hx hb dX3_valueOfPhi_97 (lv_at hl 0 rfl) ?_
                refine lv_lload hx hb dX3_valueOfPhi_99 (lv_at hl 5 rfl) ?_
                refine W.lcmp hx hb dX3_valueOfPhi_101 ?_
                refine lv_if_eq (tgt := 122) hx hb dX3_valueOfPhi_102 (by decide) (fun b102 => ?_) (fun b102 => ?_)
                · have yb102 : (a_18 ((a_17 (i)) + d64_7) : Int) = d64_5 := (lc_eq (a := a_18 ((a_17 (i)) + d64_7)) (b := d64_5) (by omega) (by omega) (by omega) (by omega)).mp b102
                  refine lv_iinc (v := zI (d64_7 + 1)) (lv' := [(7, .int (zI (d64_7 + 1))), (8, .long (lI (a_18 ((a_17 (i)) + d64_7)))), (0, .ref hc), (1, .int (zI (b))), (2, .int (zI (i))), (3, .long (lI (4294967296 + (a_16 (i))))), (5, .long (lI (d64_5)))]) hx hb dX3_valueOfPhi_122 hl (k := 6) rfl (zI_add (d64_7) (1)) (by decide) rfl (fun ls hl => ?_)
                  refine lv_goto (tgt := 64) hx hb dX3_valueOfPhi_125 (by decide) ?_
                  have hP := hP.sub (ws' := [(hc, .inr (0, [.int (zI (B1)), v_1, .int (zI (P1)), v_3, v_4, v_5, v_6, v_7, v_8, v_9, v_10, v_11, v_12, .ref q_713, v_14, .ref q_715, .ref q_716, .ref q_717, .ref q_718])), (q_713, .inl (cA_713, 301, .inl (fun j : Nat => zI (a_13 (j : Int))))), (q_715, .inl (cA_715, 301, .inl (fun j : Nat => zI (a_15 (j : Int))))), (q_716, .inl (cA_716, 1000, .inl (fun j : Nat => zI (a_16 (j : Int))))), (q_717, .inl (cA_717, 1000, .inl (fun j : Nat => zI (a_17 (j : Int))))), (q_718, .inl (cA_718, na1, .inr (.inl (fun j : Nat => lI (a_18 (j : Int))))))]) [4, 5, 0, 1, 2, 3] rfl
                  have hD := hD.sub (ws' := [(hc, .inr (0, [.int (zI (B1)), v_1, .int (zI (P1)), v_3, v_4, v_5, v_6, v_7, v_8, v_9, v_10, v_11, v_12, .ref q_713, v_14, .ref q_715, .ref q_716, .ref q_717, .ref q_718])), (q_713, .inl (cA_713, 301, .inl (fun j : Nat => zI (a_13 (j : Int))))), (q_715, .inl (cA_715, 301, .inl (fun j : Nat => zI (a_15 (j : Int))))), (q_716, .inl (cA_716, 1000, .inl (fun j : Nat => zI (a_16 (j : Int))))), (q_717, .inl (cA_717, 1000, .inl (fun j : Nat => zI (a_17 (j : Int))))), (q_718, .inl (cA_718, na1, .inr (.inl (fun j : Nat => lI (a_18 (j : Int))))))]) [4, 5, 0, 1, 2, 3] (by decide) rfl
                  exact ih64 (d64_7 + 1) d64_5 ls H _ (by omega) (by omega) (by omega) (lv_sub hl [2, 3, 4, 5, 6, 0] rfl) hP hD hS
                · have yb102 : ¬ (a_18 ((a_17 (i)) + d64_7) : Int) = d64_5 := fun q => b102 ((lc_eq (a := a_18 ((a_17 (i)) + d64_7)) (b := d64_5) (by omega) (by omega) (by omega) (by omega)).mpr q)
                  refine lv_lload hx hb dX3_valueOfPhi_105 (lv_at hl 5 rfl) ?_
                  refine lv_ldc2 (v := 1099511627776) hx hb hown (ow (k := 3) rfl) dX3_valueOfPhi_107 ?_
                  refine lv_topl (fun z ez => ?_)
                  obtain rfl : z = lI (1099511627776) := ez
                  refine W.lcmp hx hb dX3_valueOfPhi_110 ?_
                  refine lv_if_eq (tgt := 118) hx hb dX3_valueOfPhi_111 (by decide) (fun b111 => ?_) (fun b111 => ?_)
                  · have yb111 : (d64_5 : Int) = 1099511627776 := (lc_eq (a := d64_5) (b := 1099511627776) (by omega) (by omega) (by omega) (by omega)).mp b111
                    refine lv_lload hx hb dX3_valueOfPhi_118 (lv_at hl 0 rfl) ?_
                    refine lv_lstore (lv' := [(5, .long (lI (a_18 ((a_17 (i)) + d64_7)))), (8, .long (lI (a_18 ((a_17 (i)) + d64_7)))), (0, .ref hc), (1, .int (zI (b))), (2, .int (zI (i))), (3, .long (lI (4294967296 + (a_16 (i))))), (7, .int (zI (d64_7)))]) hx hb dX3_valueOfPhi_120 hl (by decide) rfl (fun ls hl => ?_)
                    refine lv_iinc (v := zI (d64_7 + 1)) (lv' := [(7, .int (zI (d64_7 + 1))), (5, .long (lI (a_18 ((a_17 (i)) + d64_7)))), (8, .long (lI (a_18 ((a_17 (i)) + d64_7)))), (0, .ref hc), (1, .int (zI (b))), (2, .int (zI (i))), (3, .long (lI (4294967296 + (a_16 (i)))))]) hx hb dX3_valueOfPhi_122 hl (k := 6) rfl (zI_add (d64_7) (1)) (by decide) rfl (fun ls hl => ?_)
                    refine lv_goto (tgt := 64) hx hb dX3_valueOfPhi_125 (by decide) ?_
                    have hP := hP.sub (ws' := [(hc, .inr (0, [.int (zI (B1)), v_1, .int (zI (P1)), v_3, v_4, v_5, v_6, v_7, v_8, v_9, v_10, v_11, v_12, .ref q_713, v_14, .ref q_715, .ref q_716, .ref q_717, .ref q_718])), (q_713, .inl (cA_713, 301, .inl (fun j : Nat => zI (a_13 (j : Int))))), (q_715, .inl (cA_715, 301, .inl (fun j : Nat => zI (a_15 (j : Int))))), (q_716, .inl (cA_716, 1000, .inl (fun j : Nat => zI (a_16 (j : Int))))), (q_717, .inl (cA_717, 1000, .inl (fun j : Nat => zI (a_17 (j : Int))))), (q_718, .inl (cA_718, na1, .inr (.inl (fun j : Nat => lI (a_18 (j : Int))))))]) [4, 5, 0, 1, 2, 3] rfl
                    have hD := hD.sub (ws' := [(hc, .inr (0, [.int (zI (B1)), v_1, .int (zI (P1)), v_3, v_4, v_5, v_6, v_7, v_8, v_9, v_10, v_11, v_12, .ref q_713, v_14, .ref q_715, .ref q_716, .ref q_717, .ref q_718])), (q_713, .inl (cA_713, 301, .inl (fun j : Nat => zI (a_13 (j : Int))))), (q_715, .inl (cA_715, 301, .inl (fun j : Nat => zI (a_15 (j : Int))))), (q_716, .inl (cA_716, 1000, .inl (fun j : Nat => zI (a_16 (j : Int))))), (q_717, .inl (cA_717, 1000, .inl (fun j : Nat => zI (a_17 (j : Int))))), (q_718, .inl (cA_718, na1, .inr (.inl (fun j : Nat => lI (a_18 (j : Int))))))]) [4, 5, 0, 1, 2, 3] (by decide) rfl
                    exact ih64 (d64_7 + 1) (a_18 ((a_17 (i)) + d64_7)) ls H _ (by omega) (by omega) (by omega) (lv_sub hl [3, 4, 5, 6, 1, 0] rfl) hP hD hS
                  · have yb111 : ¬ (d64_5 : Int) = 1099511627776 := fun q => b111 ((lc_eq (a := d64_5) (b := 1099511627776) (by omega) (by omega) (by omega) (by omega)).mpr q)
                    refine lv_ldc2 (v := 1099511627776) hx hb hown (ow (k := 3) rfl) dX3_valueOfPhi_114 ?_
                    refine lv_topl (fun z ez => ?_)
                    obtain rfl : z = lI (1099511627776) := ez
                    subst hQ
                    have hP := hP.sub (ws' := [(hc, .inr (0, [.int (zI (B1)), v_1, .int (zI (P1)), v_3, v_4, v_5, v_6, v_7, v_8, v_9, v_10, v_11, v_12, .ref q_713, v_14, .ref q_715, .ref q_716, .ref q_717, .ref q_718])), (q_713, .inl (cA_713, 301, .inl (fun j : Nat => zI (a_13 (j : Int))))), (q_715, .inl (cA_715, 301, .inl (fun j : Nat => zI (a_15 (j : Int))))), (q_716, .inl (cA_716, 1000, .inl (fun j : Nat => zI (a_16 (j : Int))))), (q_717, .inl (cA_717, 1000, .inl (fun j : Nat => zI (a_17 (j : Int))))), (q_718, .inl (cA_718, na1, .inr (.inl (fun j : Nat => lI (a_18 (j : Int))))))]) [4, 5, 0, 1, 2, 3] rfl
                    have hD := hD.sub (ws' := [(hc, .inr (0, [.int (zI (B1)), v_1, .int (zI (P1)), v_3, v_4, v_5, v_6, v_7, v_8, v_9, v_10, v_11, v_12, .ref q_713, v_14, .ref q_715, .ref q_716, .ref q_717, .ref q_718])), (q_713, .inl (cA_713, 301, .inl (fun j : Nat => zI (a_13 (j : Int))))), (q_715, .inl (cA_715, 301, .inl (fun j : Nat => zI (a_15 (j : Int))))), (q_716, .inl (cA_716, 1000, .inl (fun j : Nat => zI (a_16 (j : Int))))), (q_717, .inl (cA_717, 1000, .inl (fun j : Nat => zI (a_17 (j : Int))))), (q_718, .inl (cA_718, na1, .inr (.inl (fun j : Nat => lI (a_18 (j : Int))))))]) [4, 5, 0, 1, 2, 3] (by decide) rfl
                    have hK := hK.sub (tys' := [(cA_713, .int), (cA_715, .int), (cA_716, .int), (cA_717, .int), (cA_718, .long)]) [4, 0, 1, 2, 3] rfl
                    refine W.widen (k := 0) (n := 0) (Nat.le_of_ble_eq_true rfl) (Nat.le_of_ble_eq_true rfl) ?_
                    exact W.lret (v := (lI (1099511627776))) hx hb hr (fun t ht hW => ⟨⟨(lI (1099511627776)), (), rfl, ⟨1099511627776, rfl, by omega⟩, by rw [ht]; exact hP, va_K.moved hW.alike hK, hD⟩, hS.F ht⟩) hS.2.2 dX3_valueOfPhi_117
        exact key64 (((a_13 (b + 1) - a_13 (b)) - (0) : Int).toNat + 1) 0 1099511627776 ls H _ (by omega) (by omega) (by omega) (lv_sub hl [3, 4, 5, 2, 1, 0] rfl) hP hD hS
      · have yb9 : ¬ (i : Int) ≤ (d7_3 : Int) := fun q => b9 ((zI_le (a := i) (b := d7_3) (by omega) (by omega) (by omega) (by omega)).mpr q)
        have hq8 := hX_A b d7_3 (by omega) (by omega) (by omega) (by omega)
        have ht8 := hX_T d7_3 (by omega) (by omega)
        refine lv_aload_n hx hb dX3_valueOfPhi_12 rfl (lv_at hl 0 rfl) ?_
        refine lv_iload_n hx hb dX3_valueOfPhi_13 rfl (lv_at hl 2 rfl) ?_
        refine lv_iload_n hx hb dX3_valueOfPhi_14 rfl (lv_at hl 3 rfl) ?_
        refine lv_aload_n hx hb dX3_valueOfPhi_15 rfl (lv_at hl 0 rfl) ?_
        refine lv_iload_n hx hb dX3_valueOfPhi_16 rfl (lv_at hl 1 rfl) ?_
        have hPc := hP.sub (ws' := [(hc, .inr (0, [.int (zI (B1)), v_1, .int (zI (P1)), v_3, v_4, v_5, v_6, v_7, v_8, v_9, v_10, v_11, v_12, .ref q_713, v_14, .ref q_715, .ref q_716, .ref q_717, .ref q_718])), (q_713, .inl (cA_713, 301, .inl (fun j : Nat => zI (a_13 (j : Int)))))]) [0, 1] rfl
        have hDc := hD.sub (ws' := [(hc, .inr (0, [.int (zI (B1)), v_1, .int (zI (P1)), v_3, v_4, v_5, v_6, v_7, v_8, v_9, v_10, v_11, v_12, .ref q_713, v_14, .ref q_715, .ref q_716, .ref q_717, .ref q_718])), (q_713, .inl (cA_713, 301, .inl (fun j : Nat => zI (a_13 (j : Int)))))]) [0, 1] (by decide) rfl
        have hKc := hK.sub (tys' := [(cA_713, .int)]) [0] rfl
        have hFc := va_free (wc := [(hc, .inr (0, [.int (zI (B1)), v_1, .int (zI (P1)), v_3, v_4, v_5, v_6, v_7, v_8, v_9, v_10, v_11, v_12, .ref q_713, v_14, .ref q_715, .ref q_716, .ref q_717, .ref q_718])), (q_713, .inl (cA_713, 301, .inl (fun j : Nat => zI (a_13 (j : Int)))))]) hD hS hA [0, 1] rfl
        refine va_calli (va_runV (As := [.int (zI (b))]) (rest := [.int (zI (d7_3)), .int (zI (i)), .ref hc]) ⟨hx, hb, hml, hown, hts⟩ (c_X0_predCount l dC dI hc (.int (zI (B1))) v_1 (.int (zI (P1))) v_3 v_4 v_5 v_6 v_7 v_8 v_9 v_10 v_11 v_12 q_713 cA_713 a_13 v_14 (.ref q_715) (.ref q_716) (.ref q_717) (.ref q_718) b hR_a_13 (by omega) H.size) (cwV 1 hts g_X3_valueOfPhi_X0_predCount rfl rfl rfl (by decide +kernel) ⟨(Nat.le_of_ble_eq_true rfl), (Nat.le_of_ble_eq_true rfl)⟩) ⟨fun a U g mk q => by obtain ⟨q0, q1, qP, qK, qD⟩ := q; exact ⟨q0, q1, qP, va_K.moved (u := U) (U := U.calling g mk a) (Vm.Alike.refl U.vm) qK, qD⟩, va_recv hKc hPc (ci := 0) (q0 := 0) rfl rfl, fun U hU hW => ⟨rfl, by rw [hU], by rw [hU]; exact hPc, va_K.moved hW.alike hKc, hDc.weaken (fun _ _ _ _ => trivial)⟩⟩ rfl rfl hl.1 rfl (lv_room (Nat.le_of_ble_eq_true rfl)) dX3_valueOfPhi_17 ⟨(Nat.le_of_ble_eq_true rfl), (Nat.le_of_ble_eq_true rfl)⟩) hS (fun q _ h => hFc q h) hFc (fun r_2002 u t H1 locs ht hvm hw hB hz1 hk1 hS => ?_)
        obtain ⟨hP1, hK1, hD1⟩ := hB
        rw [ht] at hP1
        have hK1 := va_K.moved hvm.symm hK1
        obtain ⟨hP, hD⟩ := va_join (wr := [(q_715, .inl (cA_715, 301, .inl (fun j : Nat => zI (a_15 (j : Int))))), (q_716, .inl (cA_716, 1000, .inl (fun j : Nat => zI (a_16 (j : Int))))), (q_717, .inl (cA_717, 1000, .inl (fun j : Nat => zI (a_17 (j : Int))))), (q_718, .inl (cA_718, na1, .inr (.inl (fun j : Nat => lI (a_18 (j : Int))))))]) (w1 := [(hc, .inr (0, [.int (zI (B1)), v_1, .int (zI (P1)), v_3, v_4, v_5, v_6, v_7, v_8, v_9, v_10, v_11, v_12, .ref q_713, v_14, .ref q_715, .ref q_716, .ref q_717, .ref q_718])), (q_713, .inl (cA_713, 301, .inl (fun j : Nat => zI (a_13 (j : Int)))))]) hP hD [0, 1] [2, 3, 4, 5] rfl rfl (by decide) (by decide) hk1 hFc hP1 hD1
        have hK := (hK.sub (tys' := [(cA_715, .int), (cA_716, .int), (cA_717, .int), (cA_718, .long)]) [1, 2, 3, 4] rfl).app hK1
        generalize H1 = H at hP hS ⊢
        have hP : va_P (dC, dI) vwP [(q_715, .inl (cA_715, 301, .inl (fun j : Nat => zI (a_15 (j : Int))))), (q_716, .inl (cA_716, 1000, .inl (fun j : Nat => zI (a_16 (j : Int))))), (q_717, .inl (cA_717, 1000, .inl (fun j : Nat => zI (a_17 (j : Int))))), (q_718, .inl (cA_718, na1, .inr (.inl (fun j : Nat => lI (a_18 (j : Int)))))), (hc, .inr (0, [.int (zI (B1)), v_1, .int (zI (P1)), v_3, v_4, v_5, v_6, v_7, v_8, v_9, v_10, v_11, v_12, .ref q_713, v_14, .ref q_715, .ref q_716, .ref q_717, .ref q_718])), (q_713, .inl (cA_713, 301, .inl (fun j : Nat => zI (a_13 (j : Int)))))] H := hP
        have hD : va_D A [(q_715, .inl (cA_715, 301, .inl (fun j : Nat => zI (a_15 (j : Int))))), (q_716, .inl (cA_716, 1000, .inl (fun j : Nat => zI (a_16 (j : Int))))), (q_717, .inl (cA_717, 1000, .inl (fun j : Nat => zI (a_17 (j : Int))))), (q_718, .inl (cA_718, na1, .inr (.inl (fun j : Nat => lI (a_18 (j : Int)))))), (hc, .inr (0, [.int (zI (B1)), v_1, .int (zI (P1)), v_3, v_4, v_5, v_6, v_7, v_8, v_9, v_10, v_11, v_12, .ref q_713, v_14, .ref q_715, .ref q_716, .ref q_717, .ref q_718])), (q_713, .inl (cA_713, 301, .inl (fun j : Nat => zI (a_13 (j : Int)))))] := hD
        have hK : va_K (dC, dI) vwP [(cA_715, .int), (cA_716, .int), (cA_717, .int), (cA_718, .long), (cA_713, .int)] s := hK
        refine W.widen (k := 0) (n := 0) (Nat.le_of_ble_eq_true rfl) (Nat.le_of_ble_eq_true rfl) ?_
        obtain rfl : r_2002 = (zI (a_13 (b + 1) - a_13 (b))) := hw
        have k7 := hR_a_13 (b + 1)
        have k8 := hR_a_13 (b)
        have hPc := hP.sub (ws' := [(hc, .inr (0, [.int (zI (B1)), v_1, .int (zI (P1)), v_3, v_4, v_5, v_6, v_7, v_8, v_9, v_10, v_11, v_12, .ref q_713, v_14, .ref q_715, .ref q_716, .ref q_717, .ref q_718])), (q_717, .inl (cA_717, 1000, .inl (fun j : Nat => zI (a_17 (j : Int))))), (q_718, .inl (cA_718, na1, .inr (.inl (fun j : Nat => lI (a_18 (j : Int))))))]) [4, 2, 3] rfl
        have hDc := hD.sub (ws' := [(hc, .inr (0, [.int (zI (B1)), v_1, .int (zI (P1)), v_3, v_4, v_5, v_6, v_7, v_8, v_9, v_10, v_11, v_12, .ref q_713, v_14, .ref q_715, .ref q_716, .ref q_717, .ref q_718])), (q_717, .inl (cA_717, 1000, .inl (fun j : Nat => zI (a_17 (j : Int))))), (q_718, .inl (cA_718, na1, .inr (.inl (fun j : Nat => lI (a_18 (j : Int))))))]) [4, 2, 3] (by decide) rfl
        have hKc := hK.sub (tys' := [(cA_717, .int), (cA_718, .long)]) [2, 3] rfl
        have hFc := va_free (wc := [(hc, .inr (0, [.int (zI (B1)), v_1, .int (zI (P1)), v_3, v_4, v_5, v_6, v_7, v_8, v_9, v_10, v_11, v_12, .ref q_713, v_14, .ref q_715, .ref q_716, .ref q_717, .ref q_718])), (q_717, .inl (cA_717, 1000, .inl (fun j : Nat => zI (a_17 (j : Int))))), (q_718, .inl (cA_718, na1, .inr (.inl (fun j : Nat => lI (a_18 (j : Int))))))]) hD hS hA [4, 2, 3] rfl
        refine va_calli (va_runS (As := [.ref hc, .int (zI (i)), .int (zI (d7_3)), .int (zI (a_13 (b + 1) - a_13 (b)))]) (rest := []) ⟨hx, hb, hml, hown, hts⟩ (c_X3_sameArgs l dC dI hc (.int (zI (B1))) v_1 (.int (zI (P1))) v_3 v_4 v_5 v_6 v_7 v_8 v_9 v_10 v_11 v_12 (.ref q_713) v_14 (.ref q_715) (.ref q_716) q_717 cA_717 a_17 q_718 cA_718 na1 a_18 i d7_3 (a_13 (b + 1) - a_13 (b)) hR_a_17 (by omega) hR_a_18 (by omega) (by omega) H.size) (cwS 4 hts g_X3_valueOfPhi_X3_sameArgs rfl rfl rfl (by decide +kernel) ⟨(Nat.le_of_ble_eq_true rfl), (Nat.le_of_ble_eq_true rfl)⟩) ⟨fun a U g mk q => by obtain ⟨q0, q1, qP, qK, qD⟩ := q; exact ⟨q0, q1, qP, va_K.moved (u := U) (U := U.calling g mk a) (Vm.Alike.refl U.vm) qK, qD⟩, fun U hU hW => ⟨rfl, by rw [hU], by rw [hU]; exact hPc, va_K.moved hW.alike hKc, hDc.weaken (fun _ _ _ _ => trivial)⟩⟩ rfl rfl hl.1 rfl (lv_room (Nat.le_of_ble_eq_true rfl)) dX3_valueOfPhi_20 ⟨(Nat.le_of_ble_eq_true rfl), (Nat.le_of_ble_eq_true rfl)⟩) hS (fun q _ h => hFc q h) hFc (fun r_2003 u t H1 locs ht hvm hw hB hz1 hk1 hS => ?_)
        obtain ⟨hP1, hK1, hD1⟩ := hB
        rw [ht] at hP1
        have hK1 := va_K.moved hvm.symm hK1
        obtain ⟨hP, hD⟩ := va_join (wr := [(q_715, .inl (cA_715, 301, .inl (fun j : Nat => zI (a_15 (j : Int))))), (q_716, .inl (cA_716, 1000, .inl (fun j : Nat => zI (a_16 (j : Int))))), (q_713, .inl (cA_713, 301, .inl (fun j : Nat => zI (a_13 (j : Int)))))]) (w1 := [(hc, .inr (0, [.int (zI (B1)), v_1, .int (zI (P1)), v_3, v_4, v_5, v_6, v_7, v_8, v_9, v_10, v_11, v_12, .ref q_713, v_14, .ref q_715, .ref q_716, .ref q_717, .ref q_718])), (q_717, .inl (cA_717, 1000, .inl (fun j : Nat => zI (a_17 (j : Int))))), (q_718, .inl (cA_718, na1, .inr (.inl (fun j : Nat => lI (a_18 (j : Int))))))]) hP hD [4, 2, 3] [0, 1, 5] rfl rfl (by decide) (by decide) hk1 hFc hP1 hD1
        have hK := (hK.sub (tys' := [(cA_715, .int), (cA_716, .int), (cA_713, .int)]) [0, 1, 4] rfl).app hK1
        generalize H1 = H at hP hS ⊢
        have hP : va_P (dC, dI) vwP [(q_715, .inl (cA_715, 301, .inl (fun j : Nat => zI (a_15 (j : Int))))), (q_716, .inl (cA_716, 1000, .inl (fun j : Nat => zI (a_16 (j : Int))))), (q_713, .inl (cA_713, 301, .inl (fun j : Nat => zI (a_13 (j : Int))))), (hc, .inr (0, [.int (zI (B1)), v_1, .int (zI (P1)), v_3, v_4, v_5, v_6, v_7, v_8, v_9, v_10, v_11, v_12, .ref q_713, v_14, .ref q_715, .ref q_716, .ref q_717, .ref q_718])), (q_717, .inl (cA_717, 1000, .inl (fun j : Nat => zI (a_17 (j : Int))))), (q_718, .inl (cA_718, na1, .inr (.inl (fun j : Nat => lI (a_18 (j : Int))))))] H := hP
        have hD : va_D A [(q_715, .inl (cA_715, 301, .inl (fun j : Nat => zI (a_15 (j : Int))))), (q_716, .inl (cA_716, 1000, .inl (fun j : Nat => zI (a_16 (j : Int))))), (q_713, .inl (cA_713, 301, .inl (fun j : Nat => zI (a_13 (j : Int))))), (hc, .inr (0, [.int (zI (B1)), v_1, .int (zI (P1)), v_3, v_4, v_5, v_6, v_7, v_8, v_9, v_10, v_11, v_12, .ref q_713, v_14, .ref q_715, .ref q_716, .ref q_717, .ref q_718])), (q_717, .inl (cA_717, 1000, .inl (fun j : Nat => zI (a_17 (j : Int))))), (q_718, .inl (cA_718, na1, .inr (.inl (fun j : Nat => lI (a_18 (j : Int))))))] := hD
        have hK : va_K (dC, dI) vwP [(cA_715, .int), (cA_716, .int), (cA_713, .int), (cA_717, .int), (cA_718, .long)] s := hK
        refine W.widen (k := 0) (n := 0) (Nat.le_of_ble_eq_true rfl) (Nat.le_of_ble_eq_true rfl) ?_
        have hw_2004 := hw
        obtain ⟨z_2005, rfl, hzz_2005⟩ := hw_2004
        refine lv_if_eq (tgt := 38) hx hb dX3_valueOfPhi_23 (by decide) (fun b23 => ?_) (fun b23 => ?_)
        · have yb23 : (z_2005 : Int) = (0 : Int) := (zI_eq (a := z_2005) (b := 0) (by omega) (by omega) (by omega) (by omega)).mp b23
          refine lv_iinc (v := zI (d7_3 + 1)) (lv' := [(3, .int (zI (d7_3 + 1))), (0, .ref hc), (1, .int (zI (b))), (2, .int (zI (i)))]) hx hb dX3_valueOfPhi_38 hl (k := 3) rfl (zI_add (d7_3) (1)) (by decide) rfl (fun ls hl => ?_)
          refine lv_goto (tgt := 7) hx hb dX3_valueOfPhi_41 (by decide) ?_
          have hP := hP.sub (ws' := [(hc, .inr (0, [.int (zI (B1)), v_1, .int (zI (P1)), v_3, v_4, v_5, v_6, v_7, v_8, v_9, v_10, v_11, v_12, .ref q_713, v_14, .ref q_715, .ref q_716, .ref q_717, .ref q_718])), (q_713, .inl (cA_713, 301, .inl (fun j : Nat => zI (a_13 (j : Int))))), (q_715, .inl (cA_715, 301, .inl (fun j : Nat => zI (a_15 (j : Int))))), (q_716, .inl (cA_716, 1000, .inl (fun j : Nat => zI (a_16 (j : Int))))), (q_717, .inl (cA_717, 1000, .inl (fun j : Nat => zI (a_17 (j : Int))))), (q_718, .inl (cA_718, na1, .inr (.inl (fun j : Nat => lI (a_18 (j : Int))))))]) [3, 2, 0, 1, 4, 5] rfl
          have hD := hD.sub (ws' := [(hc, .inr (0, [.int (zI (B1)), v_1, .int (zI (P1)), v_3, v_4, v_5, v_6, v_7, v_8, v_9, v_10, v_11, v_12, .ref q_713, v_14, .ref q_715, .ref q_716, .ref q_717, .ref q_718])), (q_713, .inl (cA_713, 301, .inl (fun j : Nat => zI (a_13 (j : Int))))), (q_715, .inl (cA_715, 301, .inl (fun j : Nat => zI (a_15 (j : Int))))), (q_716, .inl (cA_716, 1000, .inl (fun j : Nat => zI (a_16 (j : Int))))), (q_717, .inl (cA_717, 1000, .inl (fun j : Nat => zI (a_17 (j : Int))))), (q_718, .inl (cA_718, na1, .inr (.inl (fun j : Nat => lI (a_18 (j : Int))))))]) [3, 2, 0, 1, 4, 5] (by decide) rfl
          exact ih7 (d7_3 + 1) ls H _ (by omega) (by omega) (lv_sub hl [1, 2, 3, 0] rfl) hP hD hS
        · have yb23 : ¬ (z_2005 : Int) = (0 : Int) := fun q => b23 ((zI_eq (a := z_2005) (b := 0) (by omega) (by omega) (by omega) (by omega)).mpr q)
          refine lv_ldc2 (v := 4294967296) hx hb hown (ow (k := 1) rfl) dX3_valueOfPhi_26 ?_
          refine lv_topl (fun z ez => ?_)
          obtain rfl : z = lI (4294967296) := ez
          refine lv_aload_n hx hb dX3_valueOfPhi_29 rfl (lv_at hl 0 rfl) ?_
          refine va_get (D := (dC, dI)) (ci := 0) (v := .ref q_716) (C := RX0) (T := TX0) (N := 19) hx hb hts mem_X3_valueOfPhi_0 hown hK hP 3 rfl rfl 16 (by decide) (ow (k := 2) rfl) (fun _ h9 => h9) rfl dX3_valueOfPhi_30 ?_
          refine lv_iload_n hx hb dX3_valueOfPhi_33 rfl (lv_at hl 3 rfl) ?_
          refine va_iald hx hb hK hP 1 1 rfl rfl (zI_in (a := d7_3) (n := 1000) (by omega) (by omega) (by decide)) dX3_valueOfPhi_34 ?_
          refine lv_topi (fun z ez => ?_)
          obtain rfl : z = zI (a_16 (d7_3)) := ez.trans (zI_ld (a_16) (by omega) (by omega))
          have k9 := hR_a_16 (d7_3)
          refine lv_i2l (v := lI (a_16 (d7_3))) hx hb dX3_valueOfPhi_35 (zI_l (a := a_16 (d7_3)) (by omega) (by omega)) ?_
          refine lv_ladd hx hb dX3_valueOfPhi_36 ?_
          refine lv_topl (fun z ez => ?_)
          obtain rfl : z = lI (4294967296 + (a_16 (d7_3))) := ez.trans (lI_add (4294967296) (a_16 (d7_3)))
          subst hQ
          have hP := hP.sub (ws' := [(hc, .inr (0, [.int (zI (B1)), v_1, .int (zI (P1)), v_3, v_4, v_5, v_6, v_7, v_8, v_9, v_10, v_11, v_12, .ref q_713, v_14, .ref q_715, .ref q_716, .ref q_717, .ref q_718])), (q_713, .inl (cA_713, 301, .inl (fun j : Nat => zI (a_13 (j : Int))))), (q_715, .inl (cA_715, 301, .inl (fun j : Nat => zI (a_15 (j : Int))))), (q_716, .inl (cA_716, 1000, .inl (fun j : Nat => zI (a_16 (j : Int))))), (q_717, .inl (cA_717, 1000, .inl (fun j : Nat => zI (a_17 (j : Int))))), (q_718, .inl (cA_718, na1, .inr (.inl (fun j : Nat => lI (a_18 (j : Int))))))]) [3, 2, 0, 1, 4, 5] rfl
          have hD := hD.sub (ws' := [(hc, .inr (0, [.int (zI (B1)), v_1, .int (zI (P1)), v_3, v_4, v_5, v_6, v_7, v_8, v_9, v_10, v_11, v_12, .ref q_713, v_14, .ref q_715, .ref q_716, .ref q_717, .ref q_718])), (q_713, .inl (cA_713, 301, .inl (fun j : Nat => zI (a_13 (j : Int))))), (q_715, .inl (cA_715, 301, .inl (fun j : Nat => zI (a_15 (j : Int))))), (q_716, .inl (cA_716, 1000, .inl (fun j : Nat => zI (a_16 (j : Int))))), (q_717, .inl (cA_717, 1000, .inl (fun j : Nat => zI (a_17 (j : Int))))), (q_718, .inl (cA_718, na1, .inr (.inl (fun j : Nat => lI (a_18 (j : Int))))))]) [3, 2, 0, 1, 4, 5] (by decide) rfl
          have hK := hK.sub (tys' := [(cA_713, .int), (cA_715, .int), (cA_716, .int), (cA_717, .int), (cA_718, .long)]) [2, 0, 1, 3, 4] rfl
          refine W.widen (k := 0) (n := 0) (Nat.le_of_ble_eq_true rfl) (Nat.le_of_ble_eq_true rfl) ?_
          exact W.lret (v := (lI (4294967296 + (a_16 (d7_3))))) hx hb hr (fun t ht hW => ⟨⟨(lI (4294967296 + (a_16 (d7_3)))), (), rfl, ⟨4294967296 + (a_16 (d7_3)), rfl, by omega⟩, by rw [ht]; exact hP, va_K.moved hW.alike hK, hD⟩, hS.F ht⟩) hS.2.2 dX3_valueOfPhi_37
  exact key7 (((i) - (a_15 (b)) : Int).toNat + 1) (a_15 (b)) ls H _ (by omega) (by omega) (lv_sub hl [1, 2, 3, 0] rfl) hP hD hS
theorem dX3_replaceRow_0 : decode cX3_replaceRow 0 = .ok (.aload_n 0, 1) := by decide +kernel
theorem dX3_replaceRow_1 : decode cX3_replaceRow 1 = .ok (.getfield 9, 3) := by decide +kernel
theorem dX3_replaceRow_4 : decode cX3_replaceRow 4 = .ok (.aload_n 1, 1) := by decide +kernel
theorem dX3_replaceRow_5 : decode cX3_replaceRow 5 = .ok (.getfield 95, 3) := by decide +kernel
theorem dX3_replaceRow_8 : decode cX3_replaceRow 8 = .ok (.iload_n 2, 1) := by decide +kernel
theorem dX3_replaceRow_9 : decode cX3_replaceRow 9 = .ok (.iaload, 1) := by decide +kernel
theorem dX3_replaceRow_10 : decode cX3_replaceRow 10 = .ok (.lload_n 3, 1) := by decide +kernel
theorem dX3_replaceRow_11 : decode cX3_replaceRow 11 = .ok (.lastore, 1) := by decide +kernel
theorem dX3_replaceRow_12 : decode cX3_replaceRow 12 = .ok (.aload_n 1, 1) := by decide +kernel
theorem dX3_replaceRow_13 : decode cX3_replaceRow 13 = .ok (.getfield 82, 3) := by decide +kernel
theorem dX3_replaceRow_16 : decode cX3_replaceRow 16 = .ok (.iload_n 2, 1) := by decide +kernel
theorem dX3_replaceRow_17 : decode cX3_replaceRow 17 = .ok (.iconst (-1), 1) := by decide +kernel
theorem dX3_replaceRow_18 : decode cX3_replaceRow 18 = .ok (.iastore, 1) := by decide +kernel
theorem dX3_replaceRow_19 : decode cX3_replaceRow 19 = .ok (.return_, 1) := by decide +kernel
def o_X3_replaceRow : List Cond := [.fieldLink RX3 9 "SsaForge$Likes" "instead" "[J", .fieldLink RX3 95 "SsaForge$Code" "target" "[I", .fieldLink RX3 82 "SsaForge$Code" "op" "[I"]
def v_X3_replaceRow : List Cond := .code yX3_replaceRow cX3_replaceRow 5 none :: (o_X3_replaceRow ++ (wsX30 ++ (wsX00 ++ [])))
theorem mow_X3_replaceRow : ∀ w ∈ o_X3_replaceRow, w ∈ v_X3_replaceRow := fun _ h => List.mem_cons_of_mem _ (List.mem_append_left _ h)
theorem mem_X3_replaceRow_0 : ∀ w ∈ wsX30, w ∈ v_X3_replaceRow := fun _ h => List.mem_cons_of_mem _ (List.mem_append_right _ (List.mem_append_left _ h))
theorem mem_X3_replaceRow_1 : ∀ w ∈ wsX00, w ∈ v_X3_replaceRow := fun _ h => List.mem_cons_of_mem _ (List.mem_append_right _ (List.mem_append_right _ (List.mem_append_left _ h)))
set_option maxRecDepth 20000 in
theorem gw_X3_replaceRow : v_X3_replaceRow.all goodWord = true := by decide +kernel
set_option maxHeartbeats 4000000 in
set_option maxRecDepth 100000 in
theorem c_X3_replaceRow (l : Launch) (dC : Nat → ClassId) (dI : Nat → Nat → Nat) (h0 : Nat) (q_300 : Nat) (cA_300 : ClassId) (a3_instead : Int → Int) (v3_1 : Value) (v3_2 : Value) (v3_3 : Value) (v3_4 : Value) (hc : Nat) (v_0 : Value) (v_1 : Value) (v_2 : Value) (v_3 : Value) (v_4 : Value) (q_705 : Nat) (cA_705 : ClassId) (a_5 : Int → Int) (q_706 : Nat) (cA_706 : ClassId) (a_6 : Int → Int) (v_7 : Value) (v_8 : Value) (v_9 : Value) (v_10 : Value) (v_11 : Value) (v_12 : Value) (v_13 : Value) (v_14 : Value) (v_15 : Value) (v_16 : Value) (v_17 : Value) (v_18 : Value) (i : Int) (x : Int) (hR_a3_instead : ∀ j : Int, ((-2147483648 ≤ a3_instead j ∧ a3_instead j ≤ 4294968319) ∨ a3_instead j = 1099511627776)) (hR_a_5 : ∀ j : Int, -1 ≤ a_5 j ∧ a_5 j ≤ 100) (hR_a_6 : ∀ j : Int, -1 ≤ a_6 j ∧ a_6 j ≤ 1023) (hNi : 0 ≤ i ∧ i < 2000) (hNx : ((-2147483648 ≤ x ∧ x ≤ 4294968319) ∨ x = 1099511627776)) (hNt : 0 ≤ a_6 i) (sz : Nat) : Met l yX3_replaceRow v_X3_replaceRow ({ frames := 0, cells := 0, slots := 0, locals := 0 }) (va_Pc [.ref h0, .ref hc, .int (zI (i)), .long (lI (x))] (fun U => U.heap.size = sz ∧ va_P (dC, dI) vwP [(h0, .inr (3, [.ref q_300, v3_1, v3_2, v3_3, v3_4])), (q_300, .inl (cA_300, 1024, .inr (.inl (fun j : Nat => lI (a3_instead (j : Int)))))), (hc, .inr (0, [v_0, v_1, v_2, v_3, v_4, .ref q_705, .ref q_706, v_7, v_8, v_9, v_10, v_11, v_12, v_13, v_14, v_15, v_16, v_17, v_18])), (q_705, .inl (cA_705, 2000, .inl (fun j : Nat => zI (a_5 (j : Int))))), (q_706, .inl (cA_706, 2000, .inl (fun j : Nat => zI (a_6 (j : Int)))))] U.heap ∧ va_K (dC, dI) vwP [(cA_300, .long), (cA_705, .int), (cA_706, .int)] U ∧ va_D (fun _ => True) [(h0, .inr (3, [.ref q_300, v3_1, v3_2, v3_3, v3_4])), (q_300, .inl (cA_300, 1024, .inr (.inl (fun j : Nat => lI (a3_instead (j : Int)))))), (hc, .inr (0, [v_0, v_1, v_2, v_3, v_4, .ref q_705, .ref q_706, v_7, v_8, v_9, v_10, v_11, v_12, v_13, v_14, v_15, v_16, v_17, v_18])), (q_705, .inl (cA_705, 2000, .inl (fun j : Nat => zI (a_5 (j : Int))))), (q_706, .inl (cA_706, 2000, .inl (fun j : Nat => zI (a_6 (j : Int)))))])) (va_Qv (fun _ : Unit => True) (fun (_ : Unit) (t : State) => ∃ (a0_9 : Int → Int) (a1_9 : Int → Int), ((∀ j : Int, ((-2147483648 ≤ a0_9 j ∧ a0_9 j ≤ 4294968319) ∨ a0_9 j = 1099511627776)) ∧ (∀ j : Int, -1 ≤ a1_9 j ∧ a1_9 j ≤ 100) ∧ (a1_9 = zup a_5 i (-1))) ∧ va_P (dC, dI) vwP [(h0, .inr (3, [.ref q_300, v3_1, v3_2, v3_3, v3_4])), (q_300, .inl (cA_300, 1024, .inr (.inl (fun j : Nat => lI (a0_9 (j : Int)))))), (hc, .inr (0, [v_0, v_1, v_2, v_3, v_4, .ref q_705, .ref q_706, v_7, v_8, v_9, v_10, v_11, v_12, v_13, v_14, v_15, v_16, v_17, v_18])), (q_705, .inl (cA_705, 2000, .inl (fun j : Nat => zI (a1_9 (j : Int))))), (q_706, .inl (cA_706, 2000, .inl (fun j : Nat => zI (a_6 (j : Int)))))] t.heap ∧ va_K (dC, dI) vwP [(cA_300, .long), (cA_705, .int), (cA_706, .int)] t ∧ va_D (va_A [(h0, .inr (3, [.ref q_300, v3_1, v3_2, v3_3, v3_4])), (q_300, .inl (cA_300, 1024, .inr (.inl (fun j : Nat => lI (a3_instead (j : Int)))))), (hc, .inr (0, [v_0, v_1, v_2, v_3, v_4, .ref q_705, .ref q_706, v_7, v_8, v_9, v_10, v_11, v_12, v_13, v_14, v_15, v_16, v_17, v_18])), (q_705, .inl (cA_705, 2000, .inl (fun j : Nat => zI (a_5 (j : Int))))), (q_706, .inl (cA_706, 2000, .inl (fun j : Nat => zI (a_6 (j : Int)))))] sz) [(h0, .inr (3, [.ref q_300, v3_1, v3_2, v3_3, v3_4])), (q_300, .inl (cA_300, 1024, .inr (.inl (fun j : Nat => lI (a0_9 (j : Int)))))), (hc, .inr (0, [v_0, v_1, v_2, v_3, v_4, .ref q_705, .ref q_706, v_7, v_8, v_9, v_10, v_11, v_12, v_13, v_14, v_15, v_16, v_17, v_18])), (q_705, .inl (cA_705, 2000, .inl (fun j : Nat => zI (a1_9 (j : Int))))), (q_706, .inl (cA_706, 2000, .inl (fun j : Nat => zI (a_6 (j : Int)))))]) (va_A [(h0, .inr (3, [.ref q_300, v3_1, v3_2, v3_3, v3_4])), (q_300, .inl (cA_300, 1024, .inr (.inl (fun j : Nat => lI (a3_instead (j : Int)))))), (hc, .inr (0, [v_0, v_1, v_2, v_3, v_4, .ref q_705, .ref q_706, v_7, v_8, v_9, v_10, v_11, v_12, v_13, v_14, v_15, v_16, v_17, v_18])), (q_705, .inl (cA_705, 2000, .inl (fun j : Nat => zI (a_5 (j : Int))))), (q_706, .inl (cA_706, 2000, .inl (fun j : Nat => zI (a_6 (j : Int)))))] sz)) 0 0 (va_A [(h0, .inr (3, [.ref q_300, v3_1, v3_2, v3_3, v3_4])), (q_300, .inl (cA_300, 1024, .inr (.inl (fun j : Nat => lI (a3_instead (j : Int)))))), (hc, .inr (0, [v_0, v_1, v_2, v_3, v_4, .ref q_705, .ref q_706, v_7, v_8, v_9, v_10, v_11, v_12, v_13, v_14, v_15, v_16, v_17, v_18])), (q_705, .inl (cA_705, 2000, .inl (fun j : Nat => zI (a_5 (j : Int))))), (q_706, .inl (cA_706, 2000, .inl (fun j : Nat => zI (a_6 (j : Int)))))] sz) := by
  refine Met.ofW (cc := cX3_replaceRow) (maxL := 5) (ret := none) (by decide) rfl ?_
  intro p e s m args below meth c s₁ B hml hv
  obtain ⟨rfl, hsz, hP, hK, hD0⟩ := hv
  have hx := B.exec
  have hb := B.bytes
  have hr := B.returns
  have hts := atoms_spec (ws := v_X3_replaceRow) B.pre
  have hown : s.vm.findClass RX3 = some m.cls := findClass_of_methodNamed B.named
  have hlocks := B.notSynchronized
  have ow : ∀ {k : Nat} {w : Cond}, o_X3_replaceRow[k]? = some w → w.before ([.ref h0, .ref hc, .int (zI (i)), .long (lI (x))] : List Value).toArray s = true := fun h => hts _ (mow_X3_replaceRow _ (List.mem_of_getElem? h))
  subst hsz
  have hD := hD0.self (sz := s.heap.size)
  generalize hAe : va_A [(h0, .inr (3, [.ref q_300, v3_1, v3_2, v3_3, v3_4])), (q_300, .inl (cA_300, 1024, .inr (.inl (fun j : Nat => lI (a3_instead (j : Int)))))), (hc, .inr (0, [v_0, v_1, v_2, v_3, v_4, .ref q_705, .ref q_706, v_7, v_8, v_9, v_10, v_11, v_12, v_13, v_14, v_15, v_16, v_17, v_18])), (q_705, .inl (cA_705, 2000, .inl (fun j : Nat => zI (a_5 (j : Int))))), (q_706, .inl (cA_706, 2000, .inl (fun j : Nat => zI (a_6 (j : Int)))))] s.heap.size = A at hD ⊢
  have hA : ∀ q : Nat, s.heap.size ≤ q → A q := fun q h => by rw [← hAe]; exact Or.inr h
  have hS : va_S A s.heap s.heap [] := va_S.rf
  have hP : va_P (dC, dI) vwP [(h0, .inr (3, [.ref q_300, v3_1, v3_2, v3_3, v3_4])), (q_300, .inl (cA_300, 1024, .inr (.inl (fun j : Nat => lI (a3_instead (j : Int)))))), (hc, .inr (0, [v_0, v_1, v_2, v_3, v_4, .ref q_705, .ref q_706, v_7, v_8, v_9, v_10, v_11, v_12, v_13, v_14, v_15, v_16, v_17, v_18])), (q_705, .inl (cA_705, 2000, .inl (fun j : Nat => zI (a_5 (j : Int))))), (q_706, .inl (cA_706, 2000, .inl (fun j : Nat => zI (a_6 (j : Int)))))] s.heap := hP
  have hl := lv_entry ([.ref h0, .ref hc, .int (zI (i)), .long (lI (x))]) (n := 5) (Nat.le_of_ble_eq_true rfl)
  rw [lg_entry_eq]
  generalize (lg_sl ([.ref h0, .ref hc, .int (zI (i)), .long (lI (x))]) ++ List.replicate (5 - (lg_sl ([.ref h0, .ref hc, .int (zI (i)), .long (lI (x))])).length) Slot.unset).toArray = ls at hl ⊢
  have hl : lv_has ls 5 [(0, .ref h0), (1, .ref hc), (2, .int (zI (i))), (3, .long (lI (x)))] := hl
  obtain ⟨H, hH⟩ : ∃ H, H = s.heap := ⟨_, rfl⟩
  rw [← hH] at hP
  have hS : va_S A s.heap H [] := by rw [hH]; exact hS
  rw [← hH]
  refine zW_cap (fun Q hQ => ?_)
  refine lv_aload_n hx hb dX3_replaceRow_0 rfl (lv_at hl 0 rfl) ?_
  refine va_get (D := (dC, dI)) (ci := 3) (v := .ref q_300) (C := RX3) (T := TX3) (N := 5) hx hb hts mem_X3_replaceRow_0 hown hK hP 0 rfl rfl 0 (by decide) (ow (k := 0) rfl) (fun _ h9 => h9) rfl dX3_replaceRow_1 ?_
  refine lv_aload_n hx hb dX3_replaceRow_4 rfl (lv_at hl 1 rfl) ?_
  refine va_get (D := (dC, dI)) (ci := 0) (v := .ref q_706) (C := RX0) (T := TX0) (N := 19) hx hb hts mem_X3_replaceRow_1 hown hK hP 2 rfl rfl 6 (by decide) (ow (k := 1) rfl) (fun _ h9 => h9) rfl dX3_replaceRow_5 ?_
  refine lv_iload_n hx hb dX3_replaceRow_8 rfl (lv_at hl 2 rfl) ?_
  refine va_iald hx hb hK hP 4 2 rfl rfl (zI_in (a := i) (n := 2000) (by omega) (by omega) (by decide)) dX3_replaceRow_9 ?_
  refine lv_topi (fun z ez => ?_)
  obtain rfl : z = zI (a_6 (i)) := ez.trans (zI_ld (a_6) (by omega) (by omega))
  have k1 := hR_a_6 (i)
  refine lv_lload_n hx hb dX3_replaceRow_10 rfl (lv_at hl 3 rfl) ?_
  refine va_last (i := zI (a_6 (i))) hx hb hK hP hD hS 1 0 rfl rfl (zI_in (a := a_6 (i)) (n := 1024) (by omega) (by omega) (by decide)) dX3_replaceRow_11 (fun H locs hP hD hS => ?_)
  have eQ : vp_updL (fun j : Nat => lI (a3_instead (j : Int))) (zI (a_6 (i))).toNatClampNeg (lI (x)) = (fun j : Nat => lI (zup a3_instead (a_6 (i)) (x) (j : Int))) := lI_st a3_instead (e := a_6 (i)) (v := x) (by omega) (by omega)
  rw [eQ] at hP hD
  clear eQ
  have ra_2001 : ∀ j : Int, ((-2147483648 ≤ zup a3_instead (a_6 (i)) (x) j ∧ zup a3_instead (a_6 (i)) (x) j ≤ 4294968319) ∨ zup a3_instead (a_6 (i)) (x) j = 1099511627776) := zup_P (P := fun x9 => ((-2147483648 ≤ x9 ∧ x9 ≤ 4294968319) ∨ x9 = 1099511627776)) hR_a3_instead (show ((-2147483648 ≤ (x) ∧ (x) ≤ 4294968319) ∨ (x) = 1099511627776) by omega)
  generalize zup a3_instead (a_6 (i)) (x) = a_2001 at hP hD ra_2001
  have hP : va_P (dC, dI) vwP [(h0, .inr (3, [.ref q_300, v3_1, v3_2, v3_3, v3_4])), (q_300, .inl (cA_300, 1024, .inr (.inl (fun j : Nat => lI (a_2001 (j : Int)))))), (hc, .inr (0, [v_0, v_1, v_2, v_3, v_4, .ref q_705, .ref q_706, v_7, v_8, v_9, v_10, v_11, v_12, v_13, v_14, v_15, v_16, v_17, v_18])), (q_705, .inl (cA_705, 2000, .inl (fun j : Nat => zI (a_5 (j : Int))))), (q_706, .inl (cA_706, 2000, .inl (fun j : Nat => zI (a_6 (j : Int)))))] H := hP
  have hD : va_D A [(h0, .inr (3, [.ref q_300, v3_1, v3_2, v3_3, v3_4])), (q_300, .inl (cA_300, 1024, .inr (.inl (fun j : Nat => lI (a_2001 (j : Int)))))), (hc, .inr (0, [v_0, v_1, v_2, v_3, v_4, .ref q_705, .ref q_706, v_7, v_8, v_9, v_10, v_11, v_12, v_13, v_14, v_15, v_16, v_17, v_18])), (q_705, .inl (cA_705, 2000, .inl (fun j : Nat => zI (a_5 (j : Int))))), (q_706, .inl (cA_706, 2000, .inl (fun j : Nat => zI (a_6 (j : Int)))))] := hD
  refine lv_aload_n hx hb dX3_replaceRow_12 rfl (lv_at hl 1 rfl) ?_
  refine va_get (D := (dC, dI)) (ci := 0) (v := .ref q_705) (C := RX0) (T := TX0) (N := 19) hx hb hts mem_X3_replaceRow_1 hown hK hP 2 rfl rfl 5 (by decide) (ow (k := 2) rfl) (fun _ h9 => h9) rfl dX3_replaceRow_13 ?_
  refine lv_iload_n hx hb dX3_replaceRow_16 rfl (lv_at hl 2 rfl) ?_
  refine lv_iconst (v := (-1)) hx hb dX3_replaceRow_17 (by decide) ?_
  refine va_iast (i := zI (i)) hx hb hK hP hD hS 3 1 rfl rfl (zI_in (a := i) (n := 2000) (by omega) (by omega) (by decide)) dX3_replaceRow_18 (fun H locs hP hD hS => ?_)
  have eQ : upd (fun j : Nat => zI (a_5 (j : Int))) (zI (i)).toNatClampNeg (-1) = (fun j : Nat => zI (zup a_5 (i) (-1) (j : Int))) := (congrArg (upd (fun j : Nat => zI (a_5 (j : Int))) (zI (i)).toNatClampNeg) (show ((-1) : Int32) = zI (-1) by decide)).trans (zI_st a_5 (e := i) (v := -1) (by omega) (by omega))
  rw [eQ] at hP hD
  clear eQ
  have ra_2002 : ∀ j : Int, -1 ≤ zup a_5 (i) (-1) j ∧ zup a_5 (i) (-1) j ≤ 100 := zup_P (P := fun x9 => -1 ≤ x9 ∧ x9 ≤ 100) hR_a_5 (show -1 ≤ (-1) ∧ (-1) ≤ 100 by omega)
  obtain ⟨a_2002, ea_2002⟩ : ∃ a9 : Int → Int, a9 = zup a_5 (i) (-1) := ⟨_, rfl⟩
  rw [← ea_2002] at hP hD ra_2002
  have hP : va_P (dC, dI) vwP [(h0, .inr (3, [.ref q_300, v3_1, v3_2, v3_3, v3_4])), (q_300, .inl (cA_300, 1024, .inr (.inl (fun j : Nat => lI (a_2001 (j : Int)))))), (hc, .inr (0, [v_0, v_1, v_2, v_3, v_4, .ref q_705, .ref q_706, v_7, v_8, v_9, v_10, v_11, v_12, v_13, v_14, v_15, v_16, v_17, v_18])), (q_705, .inl (cA_705, 2000, .inl (fun j : Nat => zI (a_2002 (j : Int))))), (q_706, .inl (cA_706, 2000, .inl (fun j : Nat => zI (a_6 (j : Int)))))] H := hP
  have hD : va_D A [(h0, .inr (3, [.ref q_300, v3_1, v3_2, v3_3, v3_4])), (q_300, .inl (cA_300, 1024, .inr (.inl (fun j : Nat => lI (a_2001 (j : Int)))))), (hc, .inr (0, [v_0, v_1, v_2, v_3, v_4, .ref q_705, .ref q_706, v_7, v_8, v_9, v_10, v_11, v_12, v_13, v_14, v_15, v_16, v_17, v_18])), (q_705, .inl (cA_705, 2000, .inl (fun j : Nat => zI (a_2002 (j : Int))))), (q_706, .inl (cA_706, 2000, .inl (fun j : Nat => zI (a_6 (j : Int)))))] := hD
  subst hQ
  refine W.widen (k := 0) (n := 0) (Nat.le_of_ble_eq_true rfl) (Nat.le_of_ble_eq_true rfl) ?_
  exact W.vret hx hb hr (fun t ht hW => ⟨⟨(), rfl, trivial, a_2001, a_2002, ⟨ra_2001, ra_2002, ea_2002⟩, by rw [ht]; exact hP, va_K.moved hW.alike hK, hD⟩, hS.F ht⟩) hS.2.2 dX3_replaceRow_19
