theorem dX0_openArgs_0 : decode cX0_openArgs 0 = .ok (.iload_n 1, 1) := by decide +kernel
theorem dX0_openArgs_1 : decode cX0_openArgs 1 = .ok (.aload_n 0, 1) := by decide +kernel
theorem dX0_openArgs_2 : decode cX0_openArgs 2 = .ok (.getfield 68, 3) := by decide +kernel
theorem dX0_openArgs_5 : decode cX0_openArgs 5 = .ok (.arraylength, 1) := by decide +kernel
theorem dX0_openArgs_6 : decode cX0_openArgs 6 = .ok (.if_icmp .le 21, 3) := by decide +kernel
theorem dX0_openArgs_27 : decode cX0_openArgs 27 = .ok (.return_, 1) := by decide +kernel
theorem dX0_openArgs_9 : decode cX0_openArgs 9 = .ok (.aload_n 0, 1) := by decide +kernel
theorem dX0_openArgs_10 : decode cX0_openArgs 10 = .ok (.iload_n 1, 1) := by decide +kernel
theorem dX0_openArgs_11 : decode cX0_openArgs 11 = .ok (.iconst 2, 1) := by decide +kernel
theorem dX0_openArgs_12 : decode cX0_openArgs 12 = .ok (.iload_n 1, 1) := by decide +kernel
theorem dX0_openArgs_13 : decode cX0_openArgs 13 = .ok (.imul, 1) := by decide +kernel
theorem dX0_openArgs_14 : decode cX0_openArgs 14 = .ok (.ldc 71, 2) := by decide +kernel
theorem dX0_openArgs_16 : decode cX0_openArgs 16 = .ok (.invokestatic 72, 3) := by decide +kernel
theorem dX0_openArgs_19 : decode cX0_openArgs 19 = .ok (.invokestatic 78, 3) := by decide +kernel
theorem dX0_openArgs_22 : decode cX0_openArgs 22 = .ok (.newarray .long, 2) := by decide +kernel
theorem dX0_openArgs_24 : decode cX0_openArgs 24 = .ok (.putfield 68, 3) := by decide +kernel
def o_X0_openArgs : List Cond := [.fieldLink RX0 68 "SsaForge$Code" "args" "[J", .constant RX0 71 (60000), .methodLink RX0 72 Lib.Math.min.name, .static Lib.Math.min.name, .initialized "java/lang/Math", .code Lib.Math.min.name Lib.Math.min.code 2 (some .int), .methodLink RX0 78 Lib.Math.max.name, .static Lib.Math.max.name, .code Lib.Math.max.name Lib.Math.max.code 2 (some .int), .arrayClass .long]
def v_X0_openArgs : List Cond := .code yX0_openArgs cX0_openArgs 2 none :: (o_X0_openArgs ++ (wsX00 ++ []))
theorem mow_X0_openArgs : ∀ w ∈ o_X0_openArgs, w ∈ v_X0_openArgs := fun _ h => List.mem_cons_of_mem _ (List.mem_append_left _ h)
theorem mem_X0_openArgs_0 : ∀ w ∈ wsX00, w ∈ v_X0_openArgs := fun _ h => List.mem_cons_of_mem _ (List.mem_append_right _ (List.mem_append_left _ h))
set_option maxRecDepth 20000 in
theorem gw_X0_openArgs : v_X0_openArgs.all goodWord = true := by decide +kernel
set_option maxHeartbeats 4000000 in
set_option maxRecDepth 100000 in
theorem c_X0_openArgs (l : Launch) (dC : Nat → ClassId) (dI : Nat → Nat → Nat) (h0 : Nat) (v_0 : Value) (v_1 : Value) (v_2 : Value) (v_3 : Value) (v_4 : Value) (v_5 : Value) (v_6 : Value) (v_7 : Value) (v_8 : Value) (v_9 : Value) (v_10 : Value) (v_11 : Value) (v_12 : Value) (v_13 : Value) (v_14 : Value) (v_15 : Value) (v_16 : Value) (v_17 : Value) (q_718 : Nat) (cA_718 : ClassId) (na1 : Nat) (a_18 : Int → Int) (n : Int) (hNna1 : na1 ≤ 60000) (hR_a_18 : ∀ j : Int, ((-2147483648 ≤ a_18 j ∧ a_18 j ≤ 4294968319) ∨ a_18 j = 1099511627776)) (hNn : 0 ≤ n ∧ n ≤ 60000) (sz : Nat) : Met l yX0_openArgs v_X0_openArgs ({ frames := 1, cells := 1, slots := 60000, locals := 15 }) (va_Pc [.ref h0, .int (zI (n))] (fun U => U.heap.size = sz ∧ va_P (dC, dI) vwP [(h0, .inr (0, [v_0, v_1, v_2, v_3, v_4, v_5, v_6, v_7, v_8, v_9, v_10, v_11, v_12, v_13, v_14, v_15, v_16, v_17, .ref q_718])), (q_718, .inl (cA_718, na1, .inr (.inl (fun j : Nat => lI (a_18 (j : Int))))))] U.heap ∧ va_K (dC, dI) vwP [(cA_718, .long)] U ∧ va_D (fun _ => True) [(h0, .inr (0, [v_0, v_1, v_2, v_3, v_4, v_5, v_6, v_7, v_8, v_9, v_10, v_11, v_12, v_13, v_14, v_15, v_16, v_17, .ref q_718])), (q_718, .inl (cA_718, na1, .inr (.inl (fun j : Nat => lI (a_18 (j : Int))))))])) (va_Qv (fun _ : Unit => True) (fun (_ : Unit) (t : State) => ∃ (qn_9 : Nat) (cn_9 : ClassId) (nn_9 : Nat) (an_9 : Int → Int), ((∀ j : Int, ((-2147483648 ≤ an_9 j ∧ an_9 j ≤ 4294968319) ∨ an_9 j = 1099511627776)) ∧ (nn_9 ≤ 60000 ∧ n ≤ (nn_9 : Int))) ∧ va_P (dC, dI) vwP [(h0, .inr (0, [v_0, v_1, v_2, v_3, v_4, v_5, v_6, v_7, v_8, v_9, v_10, v_11, v_12, v_13, v_14, v_15, v_16, v_17, .ref qn_9])), (qn_9, .inl (cn_9, nn_9, .inr (.inl (fun j : Nat => lI (an_9 (j : Int))))))] t.heap ∧ va_K (dC, dI) vwP [(cn_9, .long)] t ∧ va_D (va_A [(h0, .inr (0, [v_0, v_1, v_2, v_3, v_4, v_5, v_6, v_7, v_8, v_9, v_10, v_11, v_12, v_13, v_14, v_15, v_16, v_17, .ref q_718])), (q_718, .inl (cA_718, na1, .inr (.inl (fun j : Nat => lI (a_18 (j : Int))))))] sz) [(h0, .inr (0, [v_0, v_1, v_2, v_3, v_4, v_5, v_6, v_7, v_8, v_9, v_10, v_11, v_12, v_13, v_14, v_15, v_16, v_17, .ref qn_9])), (qn_9, .inl (cn_9, nn_9, .inr (.inl (fun j : Nat => lI (an_9 (j : Int))))))]) (va_A [(h0, .inr (0, [v_0, v_1, v_2, v_3, v_4, v_5, v_6, v_7, v_8, v_9, v_10, v_11, v_12, v_13, v_14, v_15, v_16, v_17, .ref q_718])), (q_718, .inl (cA_718, na1, .inr (.inl (fun j : Nat => lI (a_18 (j : Int))))))] sz)) 1 60000 (va_A [(h0, .inr (0, [v_0, v_1, v_2, v_3, v_4, v_5, v_6, v_7, v_8, v_9, v_10, v_11, v_12, v_13, v_14, v_15, v_16, v_17, .ref q_718])), (q_718, .inl (cA_718, na1, .inr (.inl (fun j : Nat => lI (a_18 (j : Int))))))] sz) := by
  refine Met.ofW (cc := cX0_openArgs) (maxL := 2) (ret := none) (by decide) rfl ?_
  intro p e s m args below meth c s₁ B hml hv
  obtain ⟨rfl, hsz, hP, hK, hD0⟩ := hv
  have hx := B.exec
  have hb := B.bytes
  have hr := B.returns
  have hts := atoms_spec (ws := v_X0_openArgs) B.pre
  have hown : s.vm.findClass RX0 = some m.cls := findClass_of_methodNamed B.named
  have hlocks := B.notSynchronized
  have ow : ∀ {k : Nat} {w : Cond}, o_X0_openArgs[k]? = some w → w.before ([.ref h0, .int (zI (n))] : List Value).toArray s = true := fun h => hts _ (mow_X0_openArgs _ (List.mem_of_getElem? h))
  subst hsz
  have hD := hD0.self (sz := s.heap.size)
  generalize hAe : va_A [(h0, .inr (0, [v_0, v_1, v_2, v_3, v_4, v_5, v_6, v_7, v_8, v_9, v_10, v_11, v_12, v_13, v_14, v_15, v_16, v_17, .ref q_718])), (q_718, .inl (cA_718, na1, .inr (.inl (fun j : Nat => lI (a_18 (j : Int))))))] s.heap.size = A at hD ⊢
  have hA : ∀ q : Nat, s.heap.size ≤ q → A q := fun q h => by rw [← hAe]; exact Or.inr h
  have hS : va_S A s.heap s.heap [] := va_S.rf
  have hP : va_P (dC, dI) vwP [(h0, .inr (0, [v_0, v_1, v_2, v_3, v_4, v_5, v_6, v_7, v_8, v_9, v_10, v_11, v_12, v_13, v_14, v_15, v_16, v_17, .ref q_718])), (q_718, .inl (cA_718, na1, .inr (.inl (fun j : Nat => lI (a_18 (j : Int))))))] s.heap := hP
  have hl := lv_entry ([.ref h0, .int (zI (n))]) (n := 2) (Nat.le_of_ble_eq_true rfl)
  rw [lg_entry_eq]
  generalize (lg_sl ([.ref h0, .int (zI (n))]) ++ List.replicate (2 - (lg_sl ([.ref h0, .int (zI (n))])).length) Slot.unset).toArray = ls at hl ⊢
  have hl : lv_has ls 2 [(0, .ref h0), (1, .int (zI (n)))] := hl
  obtain ⟨H, hH⟩ : ∃ H, H = s.heap := ⟨_, rfl⟩
  rw [← hH] at hP
  have hS : va_S A s.heap H [] := by rw [hH]; exact hS
  rw [← hH]
  refine zW_cap (fun Q hQ => ?_)
  refine lv_iload_n hx hb dX0_openArgs_0 rfl (lv_at hl 1 rfl) ?_
  refine lv_aload_n hx hb dX0_openArgs_1 rfl (lv_at hl 0 rfl) ?_
  refine va_get (D := (dC, dI)) (ci := 0) (v := .ref q_718) (C := RX0) (T := TX0) (N := 19) hx hb hts mem_X0_openArgs_0 hown hK hP 0 rfl rfl 18 (by decide) (ow (k := 0) rfl) (fun _ h9 => h9) rfl dX0_openArgs_2 ?_
  refine va_alen (v := zI ((na1 : Int))) hx hb hK hP 1 0 rfl rfl (zI_ofNat na1) dX0_openArgs_5 ?_
  refine lv_icmp_le (tgt := 27) hx hb dX0_openArgs_6 (by decide) (fun b6 => ?_) (fun b6 => ?_)
  · have yb6 : (n : Int) ≤ ((na1 : Int) : Int) := (zI_le (a := n) (b := (na1 : Int)) (by omega) (by omega) (by omega) (by omega)).mp b6
    subst hQ
    refine W.widen (k := 1) (n := 60000) (Nat.le_of_ble_eq_true rfl) (Nat.le_of_ble_eq_true rfl) ?_
    exact W.vret hx hb hr (fun t ht hW => ⟨⟨(), rfl, trivial, q_718, cA_718, na1, a_18, ⟨hR_a_18, (by omega)⟩, by rw [ht]; exact hP, va_K.moved hW.alike hK, hD⟩, hS.F ht⟩) hS.2.2 dX0_openArgs_27
  · have yb6 : ¬ (n : Int) ≤ ((na1 : Int) : Int) := fun q => b6 ((zI_le (a := n) (b := (na1 : Int)) (by omega) (by omega) (by omega) (by omega)).mpr q)
    refine lv_aload_n hx hb dX0_openArgs_9 rfl (lv_at hl 0 rfl) ?_
    refine lv_iload_n hx hb dX0_openArgs_10 rfl (lv_at hl 1 rfl) ?_
    refine lv_iconst (v := 2) hx hb dX0_openArgs_11 (by decide) ?_
    refine lv_iload_n hx hb dX0_openArgs_12 rfl (lv_at hl 1 rfl) ?_
    refine lv_imul hx hb dX0_openArgs_13 ?_
    refine lv_topi (fun z ez => ?_)
    obtain rfl : z = zI (2 * n) := ez.trans (zI_mul (2) (n))
    refine lv_ldc (v := 60000) hx hb hown (ow (k := 1) rfl) dX0_openArgs_14 ?_
    refine va_mmin hx hb (hml.trans hl.1.symm) hown (ow (k := 2) rfl) (ow (k := 3) rfl) (ow (k := 4) rfl) (ow (k := 5) rfl) (Nat.le_of_ble_eq_true rfl) (Nat.le_of_ble_eq_true rfl) (Nat.le_of_ble_eq_true rfl) (Nat.le_of_ble_eq_true rfl) dX0_openArgs_16 ?_
    refine lv_topi (fun z9 ez => ?_)
    obtain ⟨z_2001, rfl, hzz_2001⟩ := zI_min (a := 2 * n) (b := 60000) (by omega) (by omega) (by omega) (by omega) ez
    refine va_mmax hx hb (hml.trans hl.1.symm) hown (ow (k := 6) rfl) (ow (k := 7) rfl) (ow (k := 4) rfl) (ow (k := 8) rfl) (Nat.le_of_ble_eq_true rfl) (Nat.le_of_ble_eq_true rfl) (Nat.le_of_ble_eq_true rfl) (Nat.le_of_ble_eq_true rfl) dX0_openArgs_19 ?_
    refine lv_topi (fun z9 ez => ?_)
    obtain ⟨z_2002, rfl, hzz_2002⟩ := zI_max (a := n) (b := z_2001) (by omega) (by omega) (by omega) (by omega) ez
    obtain ⟨nw_2005, enw_2005⟩ : ∃ n9 : Nat, (n9 : Int) = z_2002 := ⟨(z_2002).toNat, by omega⟩
    refine va_newa (ty := .long) (n := zI (z_2002)) (N' := nw_2005) (a0 := (nw_2005, .inr (.inl (fun _ => 0)))) hx hb (ow (k := 9) rfl) rfl hK hP hD hS hA (fun _ => rfl) (zI_nn (by omega) (by omega)) (by rw [zI_cl (by omega) (by omega)]; omega) (by show nw_2005 * 8 ≤ 536870912; omega) (Nat.le_of_ble_eq_true rfl) (show 0 + nw_2005 ≤ 60000 by omega) dX0_openArgs_22 (fun q_2003 cA_2004 H hK hP hD hS => ?_)
    refine W.widen (k := 1) (n := 60000) (Nat.le_of_ble_eq_true rfl) (by omega) ?_
    have hP : va_P (dC, dI) vwP [(h0, .inr (0, [v_0, v_1, v_2, v_3, v_4, v_5, v_6, v_7, v_8, v_9, v_10, v_11, v_12, v_13, v_14, v_15, v_16, v_17, .ref q_718])), (q_718, .inl (cA_718, na1, .inr (.inl (fun j : Nat => lI (a_18 (j : Int)))))), (q_2003, .inl (cA_2004, nw_2005, .inr (.inl (fun _ => 0))))] H := hP
    have hD : va_D A [(h0, .inr (0, [v_0, v_1, v_2, v_3, v_4, v_5, v_6, v_7, v_8, v_9, v_10, v_11, v_12, v_13, v_14, v_15, v_16, v_17, .ref q_718])), (q_718, .inl (cA_718, na1, .inr (.inl (fun j : Nat => lI (a_18 (j : Int)))))), (q_2003, .inl (cA_2004, nw_2005, .inr (.inl (fun _ => 0))))] := hD
    have hK : va_K (dC, dI) vwP [(cA_718, .long), (cA_2004, .long)] s := hK
    refine va_put (D := (dC, dI)) (ci := 0) (v := .ref q_2003) (ty := .array .long) (C := RX0) (T := TX0) (N := 19) hx hb hts mem_X0_openArgs_0 tyX0 tyX0_ok nmX0 hown hK hP hD hS 0 rfl rfl 18 (by decide) (ow (k := 0) rfl) (fun _ h9 => h9) rfl (by decide +kernel) rfl rfl (Nat.le_of_ble_eq_true rfl) dX0_openArgs_24 (fun H locs hP hD hS => ?_)
    have hP : va_P (dC, dI) vwP [(h0, .inr (0, [v_0, v_1, v_2, v_3, v_4, v_5, v_6, v_7, v_8, v_9, v_10, v_11, v_12, v_13, v_14, v_15, v_16, v_17, .ref q_2003])), (q_718, .inl (cA_718, na1, .inr (.inl (fun j : Nat => lI (a_18 (j : Int)))))), (q_2003, .inl (cA_2004, nw_2005, .inr (.inl (fun _ => 0))))] H := hP
    have hD : va_D A [(h0, .inr (0, [v_0, v_1, v_2, v_3, v_4, v_5, v_6, v_7, v_8, v_9, v_10, v_11, v_12, v_13, v_14, v_15, v_16, v_17, .ref q_2003])), (q_718, .inl (cA_718, na1, .inr (.inl (fun j : Nat => lI (a_18 (j : Int)))))), (q_2003, .inl (cA_2004, nw_2005, .inr (.inl (fun _ => 0))))] := hD
    subst hQ
    have hP := hP.sub (ws' := [(h0, .inr (0, [v_0, v_1, v_2, v_3, v_4, v_5, v_6, v_7, v_8, v_9, v_10, v_11, v_12, v_13, v_14, v_15, v_16, v_17, .ref q_2003])), (q_2003, .inl (cA_2004, nw_2005, .inr (.inl (fun _ => 0))))]) [0, 2] rfl
    have hD := hD.sub (ws' := [(h0, .inr (0, [v_0, v_1, v_2, v_3, v_4, v_5, v_6, v_7, v_8, v_9, v_10, v_11, v_12, v_13, v_14, v_15, v_16, v_17, .ref q_2003])), (q_2003, .inl (cA_2004, nw_2005, .inr (.inl (fun _ => 0))))]) [0, 2] (by decide) rfl
    have hK := hK.sub (tys' := [(cA_2004, .long)]) [1] rfl
    refine W.widen (k := 1) (n := 60000) (Nat.le_of_ble_eq_true rfl) (Nat.le_of_ble_eq_true rfl) ?_
    exact W.vret hx hb hr (fun t ht hW => ⟨⟨(), rfl, trivial, q_2003, cA_2004, nw_2005, (fun _ => 0), ⟨(fun _ => by show ((-2147483648 ≤ (0 : Int) ∧ (0 : Int) ≤ 4294968319) ∨ (0 : Int) = 1099511627776); omega), (by omega)⟩, by rw [ht]; exact hP, va_K.moved hW.alike hK, hD⟩, hS.F ht⟩) hS.2.2 dX0_openArgs_27
