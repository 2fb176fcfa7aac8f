theorem dX5_takeStep_0 : decode cX5_takeStep 0 = .ok (.aload_n 0, 1) := by decide +kernel
theorem dX5_takeStep_1 : decode cX5_takeStep 1 = .ok (.getfield 21, 3) := by decide +kernel
theorem dX5_takeStep_4 : decode cX5_takeStep 4 = .ok (.aload_n 0, 1) := by decide +kernel
theorem dX5_takeStep_5 : decode cX5_takeStep 5 = .ok (.getfield 43, 3) := by decide +kernel
theorem dX5_takeStep_8 : decode cX5_takeStep 8 = .ok (.if_icmp .lt 10, 3) := by decide +kernel
theorem dX5_takeStep_18 : decode cX5_takeStep 18 = .ok (.aload_n 0, 1) := by decide +kernel
theorem dX5_takeStep_19 : decode cX5_takeStep 19 = .ok (.dup, 1) := by decide +kernel
theorem dX5_takeStep_20 : decode cX5_takeStep 20 = .ok (.getfield 21, 3) := by decide +kernel
theorem dX5_takeStep_23 : decode cX5_takeStep 23 = .ok (.iconst 1, 1) := by decide +kernel
theorem dX5_takeStep_24 : decode cX5_takeStep 24 = .ok (.iadd, 1) := by decide +kernel
theorem dX5_takeStep_25 : decode cX5_takeStep 25 = .ok (.putfield 21, 3) := by decide +kernel
theorem dX5_takeStep_28 : decode cX5_takeStep 28 = .ok (.iconst 1, 1) := by decide +kernel
theorem dX5_takeStep_29 : decode cX5_takeStep 29 = .ok (.ireturn, 1) := by decide +kernel
theorem dX5_takeStep_11 : decode cX5_takeStep 11 = .ok (.aload_n 0, 1) := by decide +kernel
theorem dX5_takeStep_12 : decode cX5_takeStep 12 = .ok (.iconst 4, 1) := by decide +kernel
theorem dX5_takeStep_13 : decode cX5_takeStep 13 = .ok (.putfield 27, 3) := by decide +kernel
theorem dX5_takeStep_16 : decode cX5_takeStep 16 = .ok (.iconst 0, 1) := by decide +kernel
theorem dX5_takeStep_17 : decode cX5_takeStep 17 = .ok (.ireturn, 1) := by decide +kernel
def o_X5_takeStep : List Cond := [.fieldLink RX5 21 "SsaForge$Machine" "steps" "I", .fieldLink RX5 43 "SsaForge$Machine" "fuel" "I", .fieldLink RX5 27 "SsaForge$Machine" "ending" "I"]
def v_X5_takeStep : List Cond := .code yX5_takeStep cX5_takeStep 1 (some .boolean) :: (o_X5_takeStep ++ (wsX50 ++ []))
theorem mow_X5_takeStep : ∀ w ∈ o_X5_takeStep, w ∈ v_X5_takeStep := fun _ h => List.mem_cons_of_mem _ (List.mem_append_left _ h)
theorem mem_X5_takeStep_0 : ∀ w ∈ wsX50, w ∈ v_X5_takeStep := fun _ h => List.mem_cons_of_mem _ (List.mem_append_right _ (List.mem_append_left _ h))
set_option maxRecDepth 20000 in
theorem gw_X5_takeStep : v_X5_takeStep.all goodWord = true := by decide +kernel
set_option maxHeartbeats 4000000 in
set_option maxRecDepth 100000 in
theorem c_X5_takeStep (l : Launch) (dC : Nat → ClassId) (dI : Nat → Nat → Nat) (h0 : Nat) (v5_0 : Value) (v5_1 : Value) (v5_2 : Value) (z5_steps : Int) (v5_4 : Value) (z5_ending : Int) (v5_6 : Value) (v5_7 : Value) (v5_8 : Value) (v5_9 : Value) (z5_fuel : Int) (hNz5_steps : 0 ≤ z5_steps ∧ z5_steps ≤ 100000) (hNz5_ending : -1 ≤ z5_ending ∧ z5_ending ≤ 5) (hNz5_fuel : 0 ≤ z5_fuel ∧ z5_fuel ≤ 100000) (sz : Nat) : Met l yX5_takeStep v_X5_takeStep ({ frames := 0, cells := 0, slots := 0, locals := 0 }) (va_Pc [.ref h0] (fun U => U.heap.size = sz ∧ va_P (dC, dI) vwP [(h0, .inr (5, [v5_0, v5_1, v5_2, .int (zI (z5_steps)), v5_4, .int (zI (z5_ending)), v5_6, v5_7, v5_8, v5_9, .int (zI (z5_fuel))]))] U.heap ∧ va_K (dC, dI) vwP [] U ∧ va_D (fun _ => True) [(h0, .inr (5, [v5_0, v5_1, v5_2, .int (zI (z5_steps)), v5_4, .int (zI (z5_ending)), v5_6, v5_7, v5_8, v5_9, .int (zI (z5_fuel))]))])) (va_Qi (fun (r : Int32) (zr : Int) => r = zI zr ∧ (0 ≤ zr ∧ zr ≤ 1)) (fun (zr : Int) (t : State) => ∃ (z0_9 : Int) (z1_9 : Int), ((0 ≤ z0_9 ∧ z0_9 ≤ 100000) ∧ (-1 ≤ z1_9 ∧ z1_9 ≤ 5) ∧ ((zr = 0 → 0 ≤ z1_9) ∧ (zr = 1 → z1_9 = z5_ending))) ∧ va_P (dC, dI) vwP [(h0, .inr (5, [v5_0, v5_1, v5_2, .int (zI (z0_9)), v5_4, .int (zI (z1_9)), v5_6, v5_7, v5_8, v5_9, .int (zI (z5_fuel))]))] t.heap ∧ va_K (dC, dI) vwP [] t ∧ va_D (va_A [(h0, .inr (5, [v5_0, v5_1, v5_2, .int (zI (z5_steps)), v5_4, .int (zI (z5_ending)), v5_6, v5_7, v5_8, v5_9, .int (zI (z5_fuel))]))] sz) [(h0, .inr (5, [v5_0, v5_1, v5_2, .int (zI (z0_9)), v5_4, .int (zI (z1_9)), v5_6, v5_7, v5_8, v5_9, .int (zI (z5_fuel))]))]) (va_A [(h0, .inr (5, [v5_0, v5_1, v5_2, .int (zI (z5_steps)), v5_4, .int (zI (z5_ending)), v5_6, v5_7, v5_8, v5_9, .int (zI (z5_fuel))]))] sz)) 0 0 (va_A [(h0, .inr (5, [v5_0, v5_1, v5_2, .int (zI (z5_steps)), v5_4, .int (zI (z5_ending)), v5_6, v5_7, v5_8, v5_9, .int (zI (z5_fuel))]))] sz) := by
  refine Met.ofW (cc := cX5_takeStep) (maxL := 1) (ret := (some .boolean)) (by decide) rfl ?_
  intro p e s m args below meth c s₁ B hml hv
  obtain ⟨rfl, hsz, hP, hK, hD0⟩ := hv
  have hx := B.exec
  have hb := B.bytes
  have hr := B.returns
  have hts := atoms_spec (ws := v_X5_takeStep) B.pre
  have hown : s.vm.findClass RX5 = some m.cls := findClass_of_methodNamed B.named
  have hlocks := B.notSynchronized
  have ow : ∀ {k : Nat} {w : Cond}, o_X5_takeStep[k]? = some w → w.before ([.ref h0] : List Value).toArray s = true := fun h => hts _ (mow_X5_takeStep _ (List.mem_of_getElem? h))
  subst hsz
  have hD := hD0.self (sz := s.heap.size)
  generalize hAe : va_A [(h0, .inr (5, [v5_0, v5_1, v5_2, .int (zI (z5_steps)), v5_4, .int (zI (z5_ending)), v5_6, v5_7, v5_8, v5_9, .int (zI (z5_fuel))]))] s.heap.size = A at hD ⊢
  have hA : ∀ q : Nat, s.heap.size ≤ q → A q := fun q h => by rw [← hAe]; exact Or.inr h
  have hS : va_S A s.heap s.heap [] := va_S.rf
  have hP : va_P (dC, dI) vwP [(h0, .inr (5, [v5_0, v5_1, v5_2, .int (zI (z5_steps)), v5_4, .int (zI (z5_ending)), v5_6, v5_7, v5_8, v5_9, .int (zI (z5_fuel))]))] s.heap := hP
  have hl := lv_entry ([.ref h0]) (n := 1) (Nat.le_of_ble_eq_true rfl)
  rw [lg_entry_eq]
  generalize (lg_sl ([.ref h0]) ++ List.replicate (1 - (lg_sl ([.ref h0])).length) Slot.unset).toArray = ls at hl ⊢
  have hl : lv_has ls 1 [(0, .ref h0)] := hl
  obtain ⟨H, hH⟩ : ∃ H, H = s.heap := ⟨_, rfl⟩
  rw [← hH] at hP
  have hS : va_S A s.heap H [] := by rw [hH]; exact hS
  rw [← hH]
  refine zW_cap (fun Q hQ => ?_)
  refine lv_aload_n hx hb dX5_takeStep_0 rfl (lv_at hl 0 rfl) ?_
  refine va_get (D := (dC, dI)) (ci := 5) (v := .int (zI (z5_steps))) (C := RX5) (T := TX5) (N := 11) hx hb hts mem_X5_takeStep_0 hown hK hP 0 rfl rfl 3 (by decide) (ow (k := 0) rfl) (fun _ h9 => h9) rfl dX5_takeStep_1 ?_
  refine lv_aload_n hx hb dX5_takeStep_4 rfl (lv_at hl 0 rfl) ?_
  refine va_get (D := (dC, dI)) (ci := 5) (v := .int (zI (z5_fuel))) (C := RX5) (T := TX5) (N := 11) hx hb hts mem_X5_takeStep_0 hown hK hP 0 rfl rfl 10 (by decide) (ow (k := 1) rfl) (fun _ h9 => h9) rfl dX5_takeStep_5 ?_
  refine lv_icmp_lt (tgt := 18) hx hb dX5_takeStep_8 (by decide) (fun b8 => ?_) (fun b8 => ?_)
  · have yb8 : (z5_steps : Int) < (z5_fuel : Int) := (zI_lt (a := z5_steps) (b := z5_fuel) (by omega) (by omega) (by omega) (by omega)).mp b8
    refine lv_aload_n hx hb dX5_takeStep_18 rfl (lv_at hl 0 rfl) ?_
    refine lv_dup hx hb dX5_takeStep_19 rfl ?_
    refine va_get (D := (dC, dI)) (ci := 5) (v := .int (zI (z5_steps))) (C := RX5) (T := TX5) (N := 11) hx hb hts mem_X5_takeStep_0 hown hK hP 0 rfl rfl 3 (by decide) (ow (k := 0) rfl) (fun _ h9 => h9) rfl dX5_takeStep_20 ?_
    refine lv_iconst (v := 1) hx hb dX5_takeStep_23 (by decide) ?_
    refine lv_iadd hx hb dX5_takeStep_24 ?_
    refine lv_topi (fun z ez => ?_)
    obtain rfl : z = zI (z5_steps + 1) := ez.trans (zI_add (z5_steps) (1))
    refine va_put (D := (dC, dI)) (ci := 5) (v := .int (zI (z5_steps + 1))) (ty := .int) (C := RX5) (T := TX5) (N := 11) hx hb hts mem_X5_takeStep_0 tyX5 tyX5_ok nmX5 hown hK hP hD hS 0 rfl rfl 3 (by decide) (ow (k := 0) rfl) (fun _ h9 => h9) rfl (by decide +kernel) rfl rfl (Nat.le_of_ble_eq_true rfl) dX5_takeStep_25 (fun H locs hP hD hS => ?_)
    have hP : va_P (dC, dI) vwP [(h0, .inr (5, [v5_0, v5_1, v5_2, .int (zI (z5_steps + 1)), v5_4, .int (zI (z5_ending)), v5_6, v5_7, v5_8, v5_9, .int (zI (z5_fuel))]))] H := hP
    have hD : va_D A [(h0, .inr (5, [v5_0, v5_1, v5_2, .int (zI (z5_steps + 1)), v5_4, .int (zI (z5_ending)), v5_6, v5_7, v5_8, v5_9, .int (zI (z5_fuel))]))] := hD
    obtain ⟨z_1, ez_1⟩ : ∃ z9 : Int, z9 = z5_steps + 1 := ⟨_, rfl⟩
    rw [← ez_1] at hP hD
    have hP : va_P (dC, dI) vwP [(h0, .inr (5, [v5_0, v5_1, v5_2, .int (zI (z_1)), v5_4, .int (zI (z5_ending)), v5_6, v5_7, v5_8, v5_9, .int (zI (z5_fuel))]))] H := hP
    have hD : va_D A [(h0, .inr (5, [v5_0, v5_1, v5_2, .int (zI (z_1)), v5_4, .int (zI (z5_ending)), v5_6, v5_7, v5_8, v5_9, .int (zI (z5_fuel))]))] := hD
    refine lv_iconst (v := 1) hx hb dX5_takeStep_28 (by decide) ?_
    subst hQ
    refine W.widen (k := 0) (n := 0) (Nat.le_of_ble_eq_true rfl) (Nat.le_of_ble_eq_true rfl) ?_
    exact W.zret (v := 1) hx hb hr (by decide) (fun t ht hW => ⟨⟨1, (1), rfl, ⟨rfl, (by omega)⟩, z_1, z5_ending, ⟨(by omega), (by omega), ⟨fun _ => by omega, fun _ => by omega⟩⟩, by rw [ht]; exact hP, va_K.moved hW.alike hK, hD⟩, hS.F ht⟩) hS.2.2 dX5_takeStep_29
  · have yb8 : ¬ (z5_steps : Int) < (z5_fuel : Int) := fun q => b8 ((zI_lt (a := z5_steps) (b := z5_fuel) (by omega) (by omega) (by omega) (by omega)).mpr q)
    refine lv_aload_n hx hb dX5_takeStep_11 rfl (lv_at hl 0 rfl) ?_
    refine lv_iconst (v := 4) hx hb dX5_takeStep_12 (by decide) ?_
    refine va_put (D := (dC, dI)) (ci := 5) (v := .int 4) (ty := .int) (C := RX5) (T := TX5) (N := 11) hx hb hts mem_X5_takeStep_0 tyX5 tyX5_ok nmX5 hown hK hP hD hS 0 rfl rfl 5 (by decide) (ow (k := 2) rfl) (fun _ h9 => h9) rfl (by decide +kernel) rfl rfl (Nat.le_of_ble_eq_true rfl) dX5_takeStep_13 (fun H locs hP hD hS => ?_)
    have hP : va_P (dC, dI) vwP [(h0, .inr (5, [v5_0, v5_1, v5_2, .int (zI (z5_steps)), v5_4, .int 4, v5_6, v5_7, v5_8, v5_9, .int (zI (z5_fuel))]))] H := hP
    have hD : va_D A [(h0, .inr (5, [v5_0, v5_1, v5_2, .int (zI (z5_steps)), v5_4, .int 4, v5_6, v5_7, v5_8, v5_9, .int (zI (z5_fuel))]))] := hD
    refine lv_iconst (v := 0) hx hb dX5_takeStep_16 (by decide) ?_
    subst hQ
    refine W.widen (k := 0) (n := 0) (Nat.le_of_ble_eq_true rfl) (Nat.le_of_ble_eq_true rfl) ?_
    exact W.zret (v := 0) hx hb hr (by decide) (fun t ht hW => ⟨⟨0, (0), rfl, ⟨rfl, (by omega)⟩, z5_steps, 4, ⟨(by omega), (by omega), ⟨fun _ => by omega, fun _ => by omega⟩⟩, by rw [ht]; exact hP, va_K.moved hW.alike hK, hD⟩, hS.F ht⟩) hS.2.2 dX5_takeStep_17
theorem dX5_valueOf_0 : decode cX5_valueOf 0 = .ok (.lload_n 1, 1) := by decide +kernel
theorem dX5_valueOf_1 : decode cX5_valueOf 1 = .ok (.invokestatic 50, 3) := by decide +kernel
theorem dX5_valueOf_4 : decode cX5_valueOf 4 = .ok (.ifCond .eq 15, 3) := by decide +kernel
theorem dX5_valueOf_19 : decode cX5_valueOf 19 = .ok (.lload_n 1, 1) := by decide +kernel
theorem dX5_valueOf_20 : decode cX5_valueOf 20 = .ok (.l2i, 1) := by decide +kernel
theorem dX5_valueOf_21 : decode cX5_valueOf 21 = .ok (.ireturn, 1) := by decide +kernel
theorem dX5_valueOf_7 : decode cX5_valueOf 7 = .ok (.aload_n 0, 1) := by decide +kernel
theorem dX5_valueOf_8 : decode cX5_valueOf 8 = .ok (.getfield 37, 3) := by decide +kernel
theorem dX5_valueOf_11 : decode cX5_valueOf 11 = .ok (.lload_n 1, 1) := by decide +kernel
theorem dX5_valueOf_12 : decode cX5_valueOf 12 = .ok (.invokestatic 54, 3) := by decide +kernel
theorem dX5_valueOf_15 : decode cX5_valueOf 15 = .ok (.iaload, 1) := by decide +kernel
theorem dX5_valueOf_16 : decode cX5_valueOf 16 = .ok (.goto 5, 3) := by decide +kernel
def o_X5_valueOf : List Cond := [.initialized RX11, .static yX11_isRegister, .fieldLink RX5 37 "SsaForge$Machine" "register" "[I", .static yX11_registerOf]
def v_X5_valueOf : List Cond := .code yX5_valueOf cX5_valueOf 3 (some .int) :: (o_X5_valueOf ++ (v_X11_isRegister ++ (wsX50 ++ (v_X11_registerOf ++ []))))
theorem mow_X5_valueOf : ∀ w ∈ o_X5_valueOf, w ∈ v_X5_valueOf := fun _ h => List.mem_cons_of_mem _ (List.mem_append_left _ h)
theorem mem_X5_valueOf_0 : ∀ w ∈ v_X11_isRegister, w ∈ v_X5_valueOf := fun _ h => List.mem_cons_of_mem _ (List.mem_append_right _ (List.mem_append_left _ h))
theorem mem_X5_valueOf_1 : ∀ w ∈ wsX50, w ∈ v_X5_valueOf := fun _ h => List.mem_cons_of_mem _ (List.mem_append_right _ (List.mem_append_right _ (List.mem_append_left _ h)))
theorem mem_X5_valueOf_2 : ∀ w ∈ v_X11_registerOf, w ∈ v_X5_valueOf := fun _ h => List.mem_cons_of_mem _ (List.mem_append_right _ (List.mem_append_right _ (List.mem_append_right _ (List.mem_append_left _ h))))
set_option maxRecDepth 20000 in
theorem gw_X5_valueOf : v_X5_valueOf.all goodWord = true := by decide +kernel
set_option maxHeartbeats 4000000 in
set_option maxRecDepth 100000 in
theorem c_X5_valueOf (l : Launch) (dC : Nat → ClassId) (dI : Nat → Nat → Nat) (h0 : Nat) (v5_0 : Value) (v5_1 : Value) (v5_2 : Value) (v5_3 : Value) (v5_4 : Value) (v5_5 : Value) (v5_6 : Value) (v5_7 : Value) (q_508 : Nat) (cA_508 : ClassId) (fa5_register : Nat → Int32) (v5_9 : Value) (v5_10 : Value) (x : Int) (hNx : ((-2147483648 ≤ x ∧ x ≤ 4294968319) ∨ x = 1099511627776)) (sz : Nat) : Met l yX5_valueOf v_X5_valueOf ({ frames := 1, cells := 0, slots := 0, locals := 21 }) (va_Pc [.ref h0, .long (lI (x))] (fun U => U.heap.size = sz ∧ va_P (dC, dI) vwP [(h0, .inr (5, [v5_0, v5_1, v5_2, v5_3, v5_4, v5_5, v5_6, v5_7, .ref q_508, v5_9, v5_10])), (q_508, .inl (cA_508, 1024, .inl fa5_register))] U.heap ∧ va_K (dC, dI) vwP [(cA_508, .int)] U ∧ va_D (fun _ => True) [(h0, .inr (5, [v5_0, v5_1, v5_2, v5_3, v5_4, v5_5, v5_6, v5_7, .ref q_508, v5_9, v5_10])), (q_508, .inl (cA_508, 1024, .inl fa5_register))] ∧ va_Nw (.methodLinkNest RX5 50 yX11_isRegister "SsaForge") U ∧ va_Nw (.methodLinkNest RX5 54 yX11_registerOf "SsaForge") U)) (va_Qi (fun (r : Int32) (_ : Unit) => True) (fun (_ : Unit) (t : State) => va_P (dC, dI) vwP [(h0, .inr (5, [v5_0, v5_1, v5_2, v5_3, v5_4, v5_5, v5_6, v5_7, .ref q_508, v5_9, v5_10])), (q_508, .inl (cA_508, 1024, .inl fa5_register))] t.heap ∧ va_K (dC, dI) vwP [(cA_508, .int)] t ∧ va_D (va_A [(h0, .inr (5, [v5_0, v5_1, v5_2, v5_3, v5_4, v5_5, v5_6, v5_7, .ref q_508, v5_9, v5_10])), (q_508, .inl (cA_508, 1024, .inl fa5_register))] sz) [(h0, .inr (5, [v5_0, v5_1, v5_2, v5_3, v5_4, v5_5, v5_6, v5_7, .ref q_508, v5_9, v5_10])), (q_508, .inl (cA_508, 1024, .inl fa5_register))]) (va_A [(h0, .inr (5, [v5_0, v5_1, v5_2, v5_3, v5_4, v5_5, v5_6, v5_7, .ref q_508, v5_9, v5_10])), (q_508, .inl (cA_508, 1024, .inl fa5_register))] sz)) 0 0 (va_A [(h0, .inr (5, [v5_0, v5_1, v5_2, v5_3, v5_4, v5_5, v5_6, v5_7, .ref q_508, v5_9, v5_10])), (q_508, .inl (cA_508, 1024, .inl fa5_register))] sz) := by
  refine Met.ofW (cc := cX5_valueOf) (maxL := 3) (ret := (some .int)) (by decide) rfl ?_
  intro p e s m args below meth c s₁ B hml hv
  obtain ⟨rfl, hsz, hP, hK, hD0, hp0, hp1⟩ := hv
  have hx := B.exec
  have hb := B.bytes
  have hr := B.returns
  have hts := atoms_spec (ws := v_X5_valueOf) B.pre
  have hown : s.vm.findClass RX5 = some m.cls := findClass_of_methodNamed B.named
  have hlocks := B.notSynchronized
  have ow : ∀ {k : Nat} {w : Cond}, o_X5_valueOf[k]? = some w → w.before ([.ref h0, .long (lI (x))] : List Value).toArray s = true := fun h => hts _ (mow_X5_valueOf _ (List.mem_of_getElem? h))
  subst hsz
  have hD := hD0.self (sz := s.heap.size)
  generalize hAe : va_A [(h0, .inr (5, [v5_0, v5_1, v5_2, v5_3, v5_4, v5_5, v5_6, v5_7, .ref q_508, v5_9, v5_10])), (q_508, .inl (cA_508, 1024, .inl fa5_register))] s.heap.size = A at hD ⊢
  have hA : ∀ q : Nat, s.heap.size ≤ q → A q := fun q h => by rw [← hAe]; exact Or.inr h
  have hS : va_S A s.heap s.heap [] := va_S.rf
  have hP : va_P (dC, dI) vwP [(h0, .inr (5, [v5_0, v5_1, v5_2, v5_3, v5_4, v5_5, v5_6, v5_7, .ref q_508, v5_9, v5_10])), (q_508, .inl (cA_508, 1024, .inl fa5_register))] s.heap := hP
  have hl := lv_entry ([.ref h0, .long (lI (x))]) (n := 3) (Nat.le_of_ble_eq_true rfl)
  rw [lg_entry_eq]
  generalize (lg_sl ([.ref h0, .long (lI (x))]) ++ List.replicate (3 - (lg_sl ([.ref h0, .long (lI (x))])).length) Slot.unset).toArray = ls at hl ⊢
  have hl : lv_has ls 3 [(0, .ref h0), (1, .long (lI (x)))] := hl
  obtain ⟨H, hH⟩ : ∃ H, H = s.heap := ⟨_, rfl⟩
  rw [← hH] at hP
  have hS : va_S A s.heap H [] := by rw [hH]; exact hS
  rw [← hH]
  refine zW_cap (fun Q hQ => ?_)
  refine lv_lload_n hx hb dX5_valueOf_0 rfl (lv_at hl 1 rfl) ?_
  have hPc := hP.sub (ws' := []) [] rfl
  have hDc := hD.sub (ws' := []) [] (by decide) rfl
  have hKc := hK.sub (tys' := []) [] rfl
  have hFc := va_free (wc := []) hD hS hA [] rfl
  refine va_calli (va_runSN (As := [.long (lI (x))]) (rest := []) ⟨hx, hb, hml, hown, hts⟩ (c_X11_isRegister l dC dI x (by omega) H.size) ⟨va_cnB 1 hts (goodIn_sub mem_X5_valueOf_0 gw_X11_isRegister) rfl rfl rfl hp0 (ow (k := 0) rfl) (by decide +kernel) ⟨(Nat.le_of_ble_eq_true rfl), (Nat.le_of_ble_eq_true rfl)⟩, (ow (k := 1) rfl), trivial⟩ ⟨fun a U g mk q => by obtain ⟨q0, q1, qP, qK, qD⟩ := q; exact ⟨q0, q1, qP, va_K.moved (u := U) (U := U.calling g mk a) (Vm.Alike.refl U.vm) qK, qD⟩, fun U hU hW => ⟨rfl, by rw [hU], by rw [hU]; exact hPc, va_K.moved hW.alike hKc, hDc.weaken (fun _ _ _ _ => trivial)⟩⟩ rfl rfl hl.1 rfl (lv_room (Nat.le_of_ble_eq_true rfl)) dX5_valueOf_1 ⟨(Nat.le_of_ble_eq_true rfl), (Nat.le_of_ble_eq_true rfl)⟩) hS (fun q _ h => hFc q h) hFc (fun r_2001 u t H1 locs ht hvm hw hB hz1 hk1 hS => ?_)
  obtain ⟨hP1, hK1, hD1⟩ := hB
  rw [ht] at hP1
  have hK1 := va_K.moved hvm.symm hK1
  obtain ⟨hP, hD⟩ := va_join (wr := [(h0, .inr (5, [v5_0, v5_1, v5_2, v5_3, v5_4, v5_5, v5_6, v5_7, .ref q_508, v5_9, v5_10])), (q_508, .inl (cA_508, 1024, .inl fa5_register))]) (w1 := []) hP hD [] [0, 1] rfl rfl (by decide) (by decide) hk1 hFc hP1 hD1
  have hK := (hK.sub (tys' := [(cA_508, .int)]) [0] rfl).app hK1
  generalize H1 = H at hP hS ⊢
  have hP : va_P (dC, dI) vwP [(h0, .inr (5, [v5_0, v5_1, v5_2, v5_3, v5_4, v5_5, v5_6, v5_7, .ref q_508, v5_9, v5_10])), (q_508, .inl (cA_508, 1024, .inl fa5_register))] H := hP
  have hD : va_D A [(h0, .inr (5, [v5_0, v5_1, v5_2, v5_3, v5_4, v5_5, v5_6, v5_7, .ref q_508, v5_9, v5_10])), (q_508, .inl (cA_508, 1024, .inl fa5_register))] := hD
  have hK : va_K (dC, dI) vwP [(cA_508, .int)] s := hK
  refine W.widen (k := 0) (n := 0) (Nat.le_of_ble_eq_true rfl) (Nat.le_of_ble_eq_true rfl) ?_
  obtain rfl : r_2001 = (zI (isR (x))) := hw
  have := isR_spec (x)
  refine lv_if_eq (tgt := 19) hx hb dX5_valueOf_4 (by decide) (fun b4 => ?_) (fun b4 => ?_)
  · have yb4 : (isR (x) : Int) = (0 : Int) := (zI_eq (a := isR (x)) (b := 0) (by omega) (by omega) (by omega) (by omega)).mp b4
    refine lv_lload_n hx hb dX5_valueOf_19 rfl (lv_at hl 1 rfl) ?_
    refine lv_l2i (v := zI (x)) hx hb dX5_valueOf_20 (lI_i (x)) ?_
    subst hQ
    refine W.widen (k := 0) (n := 0) (Nat.le_of_ble_eq_true rfl) (Nat.le_of_ble_eq_true rfl) ?_
    exact W.iret (v := (zI (x))) hx hb hr (fun t ht hW => ⟨⟨(zI (x)), (), rfl, trivial, by rw [ht]; exact hP, va_K.moved hW.alike hK, hD⟩, hS.F ht⟩) hS.2.2 dX5_valueOf_21
  · have yb4 : ¬ (isR (x) : Int) = (0 : Int) := fun q => b4 ((zI_eq (a := isR (x)) (b := 0) (by omega) (by omega) (by omega) (by omega)).mpr q)
    refine lv_aload_n hx hb dX5_valueOf_7 rfl (lv_at hl 0 rfl) ?_
    refine va_get (D := (dC, dI)) (ci := 5) (v := .ref q_508) (C := RX5) (T := TX5) (N := 11) hx hb hts mem_X5_valueOf_1 hown hK hP 0 rfl rfl 8 (by decide) (ow (k := 2) rfl) (fun _ h9 => h9) rfl dX5_valueOf_8 ?_
    refine lv_lload_n hx hb dX5_valueOf_11 rfl (lv_at hl 1 rfl) ?_
    have hPc := hP.sub (ws' := []) [] rfl
    have hDc := hD.sub (ws' := []) [] (by decide) rfl
    have hKc := hK.sub (tys' := []) [] rfl
    have hFc := va_free (wc := []) hD hS hA [] rfl
    refine va_calli (va_runSN (As := [.long (lI (x))]) (rest := [.ref q_508]) ⟨hx, hb, hml, hown, hts⟩ (c_X11_registerOf l dC dI x (by omega) H.size) ⟨va_cnB 1 hts (goodIn_sub mem_X5_valueOf_2 gw_X11_registerOf) rfl rfl rfl hp1 (ow (k := 0) rfl) (by decide +kernel) ⟨(Nat.le_of_ble_eq_true rfl), (Nat.le_of_ble_eq_true rfl)⟩, (ow (k := 3) rfl), trivial⟩ ⟨fun a U g mk q => by obtain ⟨q0, q1, qP, qK, qD⟩ := q; exact ⟨q0, q1, qP, va_K.moved (u := U) (U := U.calling g mk a) (Vm.Alike.refl U.vm) qK, qD⟩, fun U hU hW => ⟨rfl, by rw [hU], by rw [hU]; exact hPc, va_K.moved hW.alike hKc, hDc.weaken (fun _ _ _ _ => trivial)⟩⟩ rfl rfl hl.1 rfl (lv_room (Nat.le_of_ble_eq_true rfl)) dX5_valueOf_12 ⟨(Nat.le_of_ble_eq_true rfl), (Nat.le_of_ble_eq_true rfl)⟩) hS (fun q _ h => hFc q h) hFc (fun r_2002 u t H1 locs ht hvm hw hB hz1 hk1 hS => ?_)
    obtain ⟨hP1, hK1, hD1⟩ := hB
    rw [ht] at hP1
    have hK1 := va_K.moved hvm.symm hK1
    obtain ⟨hP, hD⟩ := va_join (wr := [(h0, .inr (5, [v5_0, v5_1, v5_2, v5_3, v5_4, v5_5, v5_6, v5_7, .ref q_508, v5_9, v5_10])), (q_508, .inl (cA_508, 1024, .inl fa5_register))]) (w1 := []) hP hD [] [0, 1] rfl rfl (by decide) (by decide) hk1 hFc hP1 hD1
    have hK := (hK.sub (tys' := [(cA_508, .int)]) [0] rfl).app hK1
    generalize H1 = H at hP hS ⊢
    have hP : va_P (dC, dI) vwP [(h0, .inr (5, [v5_0, v5_1, v5_2, v5_3, v5_4, v5_5, v5_6, v5_7, .ref q_508, v5_9, v5_10])), (q_508, .inl (cA_508, 1024, .inl fa5_register))] H := hP
    have hD : va_D A [(h0, .inr (5, [v5_0, v5_1, v5_2, v5_3, v5_4, v5_5, v5_6, v5_7, .ref q_508, v5_9, v5_10])), (q_508, .inl (cA_508, 1024, .inl fa5_register))] := hD
    have hK : va_K (dC, dI) vwP [(cA_508, .int)] s := hK
    refine W.widen (k := 0) (n := 0) (Nat.le_of_ble_eq_true rfl) (Nat.le_of_ble_eq_true rfl) ?_
    obtain rfl : r_2002 = (zI (x - 4294967296)) := hw
    refine va_iald hx hb hK hP 1 0 rfl rfl (zI_in (a := x - 4294967296) (n := 1024) (by omega) (by omega) (by decide)) dX5_valueOf_15 ?_
    refine lv_topi (fun x_2003 _ => ?_)
    refine lv_goto (tgt := 21) hx hb dX5_valueOf_16 (by decide) ?_
    subst hQ
    refine W.widen (k := 0) (n := 0) (Nat.le_of_ble_eq_true rfl) (Nat.le_of_ble_eq_true rfl) ?_
    exact W.iret (v := x_2003) hx hb hr (fun t ht hW => ⟨⟨x_2003, (), rfl, trivial, by rw [ht]; exact hP, va_K.moved hW.alike hK, hD⟩, hS.F ht⟩) hS.2.2 dX5_valueOf_21
theorem dX5_nextInput_0 : decode cX5_nextInput 0 = .ok (.aload_n 0, 1) := by decide +kernel
theorem dX5_nextInput_1 : decode cX5_nextInput 1 = .ok (.getfield 24, 3) := by decide +kernel
theorem dX5_nextInput_4 : decode cX5_nextInput 4 = .ok (.aload_n 0, 1) := by decide +kernel
theorem dX5_nextInput_5 : decode cX5_nextInput 5 = .ok (.getfield 9, 3) := by decide +kernel
theorem dX5_nextInput_8 : decode cX5_nextInput 8 = .ok (.if_icmp .lt 5, 3) := by decide +kernel
theorem dX5_nextInput_13 : decode cX5_nextInput 13 = .ok (.aload_n 0, 1) := by decide +kernel
theorem dX5_nextInput_14 : decode cX5_nextInput 14 = .ok (.dup, 1) := by decide +kernel
theorem dX5_nextInput_15 : decode cX5_nextInput 15 = .ok (.getfield 24, 3) := by decide +kernel
theorem dX5_nextInput_18 : decode cX5_nextInput 18 = .ok (.iconst 1, 1) := by decide +kernel
theorem dX5_nextInput_19 : decode cX5_nextInput 19 = .ok (.iadd, 1) := by decide +kernel
theorem dX5_nextInput_20 : decode cX5_nextInput 20 = .ok (.putfield 24, 3) := by decide +kernel
theorem dX5_nextInput_23 : decode cX5_nextInput 23 = .ok (.aload_n 0, 1) := by decide +kernel
theorem dX5_nextInput_24 : decode cX5_nextInput 24 = .ok (.getfield 34, 3) := by decide +kernel
theorem dX5_nextInput_27 : decode cX5_nextInput 27 = .ok (.aload_n 0, 1) := by decide +kernel
theorem dX5_nextInput_28 : decode cX5_nextInput 28 = .ok (.getfield 24, 3) := by decide +kernel
theorem dX5_nextInput_31 : decode cX5_nextInput 31 = .ok (.iconst 1, 1) := by decide +kernel
theorem dX5_nextInput_32 : decode cX5_nextInput 32 = .ok (.isub, 1) := by decide +kernel
theorem dX5_nextInput_33 : decode cX5_nextInput 33 = .ok (.iaload, 1) := by decide +kernel
theorem dX5_nextInput_34 : decode cX5_nextInput 34 = .ok (.ireturn, 1) := by decide +kernel
theorem dX5_nextInput_11 : decode cX5_nextInput 11 = .ok (.iconst 0, 1) := by decide +kernel
theorem dX5_nextInput_12 : decode cX5_nextInput 12 = .ok (.ireturn, 1) := by decide +kernel
def o_X5_nextInput : List Cond := [.fieldLink RX5 24 "SsaForge$Machine" "inputRead" "I", .fieldLink RX5 9 "SsaForge$Machine" "inputLength" "I", .fieldLink RX5 34 "SsaForge$Machine" "inputInts" "[I"]
def v_X5_nextInput : List Cond := .code yX5_nextInput cX5_nextInput 1 (some .int) :: (o_X5_nextInput ++ (wsX50 ++ []))
theorem mow_X5_nextInput : ∀ w ∈ o_X5_nextInput, w ∈ v_X5_nextInput := fun _ h => List.mem_cons_of_mem _ (List.mem_append_left _ h)
theorem mem_X5_nextInput_0 : ∀ w ∈ wsX50, w ∈ v_X5_nextInput := fun _ h => List.mem_cons_of_mem _ (List.mem_append_right _ (List.mem_append_left _ h))
set_option maxRecDepth 20000 in
theorem gw_X5_nextInput : v_X5_nextInput.all goodWord = true := by decide +kernel
set_option maxHeartbeats 4000000 in
set_option maxRecDepth 100000 in
theorem c_X5_nextInput (l : Launch) (dC : Nat → ClassId) (dI : Nat → Nat → Nat) (h0 : Nat) (z5_inputLength : Int) (v5_1 : Value) (v5_2 : Value) (v5_3 : Value) (z5_inputRead : Int) (v5_5 : Value) (v5_6 : Value) (q_507 : Nat) (cA_507 : ClassId) (fa5_inputInts : Nat → Int32) (v5_8 : Value) (v5_9 : Value) (v5_10 : Value) (hNz5_inputLength : 0 ≤ z5_inputLength ∧ z5_inputLength ≤ 2048) (hNz5_inputRead : 0 ≤ z5_inputRead ∧ z5_inputRead ≤ 2048) (sz : Nat) : Met l yX5_nextInput v_X5_nextInput ({ frames := 0, cells := 0, slots := 0, locals := 0 }) (va_Pc [.ref h0] (fun U => U.heap.size = sz ∧ va_P (dC, dI) vwP [(h0, .inr (5, [.int (zI (z5_inputLength)), v5_1, v5_2, v5_3, .int (zI (z5_inputRead)), v5_5, v5_6, .ref q_507, v5_8, v5_9, v5_10])), (q_507, .inl (cA_507, 2048, .inl fa5_inputInts))] U.heap ∧ va_K (dC, dI) vwP [(cA_507, .int)] U ∧ va_D (fun _ => True) [(h0, .inr (5, [.int (zI (z5_inputLength)), v5_1, v5_2, v5_3, .int (zI (z5_inputRead)), v5_5, v5_6, .ref q_507, v5_8, v5_9, v5_10])), (q_507, .inl (cA_507, 2048, .inl fa5_inputInts))])) (va_Qi (fun (r : Int32) (_ : Unit) => True) (fun (_ : Unit) (t : State) => ∃ (z0_9 : Int), ((0 ≤ z0_9 ∧ z0_9 ≤ 2048)) ∧ va_P (dC, dI) vwP [(h0, .inr (5, [.int (zI (z5_inputLength)), v5_1, v5_2, v5_3, .int (zI (z0_9)), v5_5, v5_6, .ref q_507, v5_8, v5_9, v5_10])), (q_507, .inl (cA_507, 2048, .inl fa5_inputInts))] t.heap ∧ va_K (dC, dI) vwP [(cA_507, .int)] t ∧ va_D (va_A [(h0, .inr (5, [.int (zI (z5_inputLength)), v5_1, v5_2, v5_3, .int (zI (z5_inputRead)), v5_5, v5_6, .ref q_507, v5_8, v5_9, v5_10])), (q_507, .inl (cA_507, 2048, .inl fa5_inputInts))] sz) [(h0, .inr (5, [.int (zI (z5_inputLength)), v5_1, v5_2, v5_3, .int (zI (z0_9)), v5_5, v5_6, .ref q_507, v5_8, v5_9, v5_10])), (q_507, .inl (cA_507, 2048, .inl fa5_inputInts))]) (va_A [(h0, .inr (5, [.int (zI (z5_inputLength)), v5_1, v5_2, v5_3, .int (zI (z5_inputRead)), v5_5, v5_6, .ref q_507, v5_8, v5_9, v5_10])), (q_507, .inl (cA_507, 2048, .inl fa5_inputInts))] sz)) 0 0 (va_A [(h0, .inr (5, [.int (zI (z5_inputLength)), v5_1, v5_2, v5_3, .int (zI (z5_inputRead)), v5_5, v5_6, .ref q_507, v5_8, v5_9, v5_10])), (q_507, .inl (cA_507, 2048, .inl fa5_inputInts))] sz) := by
  refine Met.ofW (cc := cX5_nextInput) (maxL := 1) (ret := (some .int)) (by decide) rfl ?_
  intro p e s m args below meth c s₁ B hml hv
  obtain ⟨rfl, hsz, hP, hK, hD0⟩ := hv
  have hx := B.exec
  have hb := B.bytes
  have hr := B.returns
  have hts := atoms_spec (ws := v_X5_nextInput) B.pre
  have hown : s.vm.findClass RX5 = some m.cls := findClass_of_methodNamed B.named
  have hlocks := B.notSynchronized
  have ow : ∀ {k : Nat} {w : Cond}, o_X5_nextInput[k]? = some w → w.before ([.ref h0] : List Value).toArray s = true := fun h => hts _ (mow_X5_nextInput _ (List.mem_of_getElem? h))
  subst hsz
  have hD := hD0.self (sz := s.heap.size)
  generalize hAe : va_A [(h0, .inr (5, [.int (zI (z5_inputLength)), v5_1, v5_2, v5_3, .int (zI (z5_inputRead)), v5_5, v5_6, .ref q_507, v5_8, v5_9, v5_10])), (q_507, .inl (cA_507, 2048, .inl fa5_inputInts))] s.heap.size = A at hD ⊢
  have hA : ∀ q : Nat, s.heap.size ≤ q → A q := fun q h => by rw [← hAe]; exact Or.inr h
  have hS : va_S A s.heap s.heap [] := va_S.rf
  have hP : va_P (dC, dI) vwP [(h0, .inr (5, [.int (zI (z5_inputLength)), v5_1, v5_2, v5_3, .int (zI (z5_inputRead)), v5_5, v5_6, .ref q_507, v5_8, v5_9, v5_10])), (q_507, .inl (cA_507, 2048, .inl fa5_inputInts))] s.heap := hP
  have hl := lv_entry ([.ref h0]) (n := 1) (Nat.le_of_ble_eq_true rfl)
  rw [lg_entry_eq]
  generalize (lg_sl ([.ref h0]) ++ List.replicate (1 - (lg_sl ([.ref h0])).length) Slot.unset).toArray = ls at hl ⊢
  have hl : lv_has ls 1 [(0, .ref h0)] := hl
  obtain ⟨H, hH⟩ : ∃ H, H = s.heap := ⟨_, rfl⟩
  rw [← hH] at hP
  have hS : va_S A s.heap H [] := by rw [hH]; exact hS
  rw [← hH]
  refine zW_cap (fun Q hQ => ?_)
  refine lv_aload_n hx hb dX5_nextInput_0 rfl (lv_at hl 0 rfl) ?_
  refine va_get (D := (dC, dI)) (ci := 5) (v := .int (zI (z5_inputRead))) (C := RX5) (T := TX5) (N := 11) hx hb hts mem_X5_nextInput_0 hown hK hP 0 rfl rfl 4 (by decide) (ow (k := 0) rfl) (fun _ h9 => h9) rfl dX5_nextInput_1 ?_
  refine lv_aload_n hx hb dX5_nextInput_4 rfl (lv_at hl 0 rfl) ?_
  refine va_get (D := (dC, dI)) (ci := 5) (v := .int (zI (z5_inputLength))) (C := RX5) (T := TX5) (N := 11) hx hb hts mem_X5_nextInput_0 hown hK hP 0 rfl rfl 0 (by decide) (ow (k := 1) rfl) (fun _ h9 => h9) rfl dX5_nextInput_5 ?_
  refine lv_icmp_lt (tgt := 13) hx hb dX5_nextInput_8 (by decide) (fun b8 => ?_) (fun b8 => ?_)
  · have yb8 : (z5_inputRead : Int) < (z5_inputLength : Int) := (zI_lt (a := z5_inputRead) (b := z5_inputLength) (by omega) (by omega) (by omega) (by omega)).mp b8
    refine lv_aload_n hx hb dX5_nextInput_13 rfl (lv_at hl 0 rfl) ?_
    refine lv_dup hx hb dX5_nextInput_14 rfl ?_
    refine va_get (D := (dC, dI)) (ci := 5) (v := .int (zI (z5_inputRead))) (C := RX5) (T := TX5) (N := 11) hx hb hts mem_X5_nextInput_0 hown hK hP 0 rfl rfl 4 (by decide) (ow (k := 0) rfl) (fun _ h9 => h9) rfl dX5_nextInput_15 ?_
    refine lv_iconst (v := 1) hx hb dX5_nextInput_18 (by decide) ?_
    refine lv_iadd hx hb dX5_nextInput_19 ?_
    refine lv_topi (fun z ez => ?_)
    obtain rfl : z = zI (z5_inputRead + 1) := ez.trans (zI_add (z5_inputRead) (1))
    refine va_put (D := (dC, dI)) (ci := 5) (v := .int (zI (z5_inputRead + 1))) (ty := .int) (C := RX5) (T := TX5) (N := 11) hx hb hts mem_X5_nextInput_0 tyX5 tyX5_ok nmX5 hown hK hP hD hS 0 rfl rfl 4 (by decide) (ow (k := 0) rfl) (fun _ h9 => h9) rfl (by decide +kernel) rfl rfl (Nat.le_of_ble_eq_true rfl) dX5_nextInput_20 (fun H locs hP hD hS => ?_)
    have hP : va_P (dC, dI) vwP [(h0, .inr (5, [.int (zI (z5_inputLength)), v5_1, v5_2, v5_3, .int (zI (z5_inputRead + 1)), v5_5, v5_6, .ref q_507, v5_8, v5_9, v5_10])), (q_507, .inl (cA_507, 2048, .inl fa5_inputInts))] H := hP
    have hD : va_D A [(h0, .inr (5, [.int (zI (z5_inputLength)), v5_1, v5_2, v5_3, .int (zI (z5_inputRead + 1)), v5_5, v5_6, .ref q_507, v5_8, v5_9, v5_10])), (q_507, .inl (cA_507, 2048, .inl fa5_inputInts))] := hD
    obtain ⟨z_2001, ez_2001⟩ : ∃ z9 : Int, z9 = z5_inputRead + 1 := ⟨_, rfl⟩
    rw [← ez_2001] at hP hD
    have hP : va_P (dC, dI) vwP [(h0, .inr (5, [.int (zI (z5_inputLength)), v5_1, v5_2, v5_3, .int (zI (z_2001)), v5_5, v5_6, .ref q_507, v5_8, v5_9, v5_10])), (q_507, .inl (cA_507, 2048, .inl fa5_inputInts))] H := hP
    have hD : va_D A [(h0, .inr (5, [.int (zI (z5_inputLength)), v5_1, v5_2, v5_3, .int (zI (z_2001)), v5_5, v5_6, .ref q_507, v5_8, v5_9, v5_10])), (q_507, .inl (cA_507, 2048, .inl fa5_inputInts))] := hD
    refine lv_aload_n hx hb dX5_nextInput_23 rfl (lv_at hl 0 rfl) ?_
    refine va_get (D := (dC, dI)) (ci := 5) (v := .ref q_507) (C := RX5) (T := TX5) (N := 11) hx hb hts mem_X5_nextInput_0 hown hK hP 0 rfl rfl 7 (by decide) (ow (k := 2) rfl) (fun _ h9 => h9) rfl dX5_nextInput_24 ?_
    refine lv_aload_n hx hb dX5_nextInput_27 rfl (lv_at hl 0 rfl) ?_
    refine va_get (D := (dC, dI)) (ci := 5) (v := .int (zI (z_2001))) (C := RX5) (T := TX5) (N := 11) hx hb hts mem_X5_nextInput_0 hown hK hP 0 rfl rfl 4 (by decide) (ow (k := 0) rfl) (fun _ h9 => h9) rfl dX5_nextInput_28 ?_
    refine lv_iconst (v := 1) hx hb dX5_nextInput_31 (by decide) ?_
    refine lv_isub hx hb dX5_nextInput_32 ?_
    refine lv_topi (fun z ez => ?_)
    obtain rfl : z = zI (z_2001 - 1) := ez.trans (zI_sub (z_2001) (1))
    refine va_iald hx hb hK hP 1 0 rfl rfl (zI_in (a := z_2001 - 1) (n := 2048) (by omega) (by omega) (by decide)) dX5_nextInput_33 ?_
    refine lv_topi (fun x_2002 _ => ?_)
    subst hQ
    refine W.widen (k := 0) (n := 0) (Nat.le_of_ble_eq_true rfl) (Nat.le_of_ble_eq_true rfl) ?_
    exact W.iret (v := x_2002) hx hb hr (fun t ht hW => ⟨⟨x_2002, (), rfl, trivial, z_2001, (by omega), by rw [ht]; exact hP, va_K.moved hW.alike hK, hD⟩, hS.F ht⟩) hS.2.2 dX5_nextInput_34
  · have yb8 : ¬ (z5_inputRead : Int) < (z5_inputLength : Int) := fun q => b8 ((zI_lt (a := z5_inputRead) (b := z5_inputLength) (by omega) (by omega) (by omega) (by omega)).mpr q)
    refine lv_iconst (v := 0) hx hb dX5_nextInput_11 (by decide) ?_
    subst hQ
    refine W.widen (k := 0) (n := 0) (Nat.le_of_ble_eq_true rfl) (Nat.le_of_ble_eq_true rfl) ?_
    exact W.iret (v := 0) hx hb hr (fun t ht hW => ⟨⟨0, (), rfl, trivial, z5_inputRead, (by omega), by rw [ht]; exact hP, va_K.moved hW.alike hK, hD⟩, hS.F ht⟩) hS.2.2 dX5_nextInput_12
theorem dX5_show_0 : decode cX5_show 0 = .ok (.aload_n 0, 1) := by decide +kernel
theorem dX5_show_1 : decode cX5_show 1 = .ok (.getfield 18, 3) := by decide +kernel
theorem dX5_show_4 : decode cX5_show 4 = .ok (.sipush 512, 3) := by decide +kernel
theorem dX5_show_7 : decode cX5_show 7 = .ok (.if_icmp .lt 10, 3) := by decide +kernel
theorem dX5_show_17 : decode cX5_show 17 = .ok (.aload_n 0, 1) := by decide +kernel
theorem dX5_show_18 : decode cX5_show 18 = .ok (.getfield 30, 3) := by decide +kernel
theorem dX5_show_21 : decode cX5_show 21 = .ok (.aload_n 0, 1) := by decide +kernel
theorem dX5_show_22 : decode cX5_show 22 = .ok (.getfield 18, 3) := by decide +kernel
theorem dX5_show_25 : decode cX5_show 25 = .ok (.iload_n 1, 1) := by decide +kernel
theorem dX5_show_26 : decode cX5_show 26 = .ok (.iastore, 1) := by decide +kernel
theorem dX5_show_27 : decode cX5_show 27 = .ok (.aload_n 0, 1) := by decide +kernel
theorem dX5_show_28 : decode cX5_show 28 = .ok (.dup, 1) := by decide +kernel
theorem dX5_show_29 : decode cX5_show 29 = .ok (.getfield 18, 3) := by decide +kernel
theorem dX5_show_32 : decode cX5_show 32 = .ok (.iconst 1, 1) := by decide +kernel
theorem dX5_show_33 : decode cX5_show 33 = .ok (.iadd, 1) := by decide +kernel
theorem dX5_show_34 : decode cX5_show 34 = .ok (.putfield 18, 3) := by decide +kernel
theorem dX5_show_37 : decode cX5_show 37 = .ok (.iconst 1, 1) := by decide +kernel
theorem dX5_show_38 : decode cX5_show 38 = .ok (.ireturn, 1) := by decide +kernel
theorem dX5_show_10 : decode cX5_show 10 = .ok (.aload_n 0, 1) := by decide +kernel
theorem dX5_show_11 : decode cX5_show 11 = .ok (.iconst 5, 1) := by decide +kernel
theorem dX5_show_12 : decode cX5_show 12 = .ok (.putfield 27, 3) := by decide +kernel
theorem dX5_show_15 : decode cX5_show 15 = .ok (.iconst 0, 1) := by decide +kernel
theorem dX5_show_16 : decode cX5_show 16 = .ok (.ireturn, 1) := by decide +kernel
def o_X5_show : List Cond := [.fieldLink RX5 18 "SsaForge$Machine" "shownCount" "I", .fieldLink RX5 30 "SsaForge$Machine" "shownInts" "[I", .fieldLink RX5 27 "SsaForge$Machine" "ending" "I"]
def v_X5_show : List Cond := .code yX5_show cX5_show 2 (some .boolean) :: (o_X5_show ++ (wsX50 ++ []))
theorem mow_X5_show : ∀ w ∈ o_X5_show, w ∈ v_X5_show := fun _ h => List.mem_cons_of_mem _ (List.mem_append_left _ h)
theorem mem_X5_show_0 : ∀ w ∈ wsX50, w ∈ v_X5_show := fun _ h => List.mem_cons_of_mem _ (List.mem_append_right _ (List.mem_append_left _ h))
set_option maxRecDepth 20000 in
theorem gw_X5_show : v_X5_show.all goodWord = true := by decide +kernel
set_option maxHeartbeats 4000000 in
set_option maxRecDepth 100000 in
theorem c_X5_show (l : Launch) (dC : Nat → ClassId) (dI : Nat → Nat → Nat) (h0 : Nat) (v5_0 : Value) (v5_1 : Value) (z5_shownCount : Int) (v5_3 : Value) (v5_4 : Value) (z5_ending : Int) (q_506 : Nat) (cA_506 : ClassId) (fa5_shownInts : Nat → Int32) (v5_7 : Value) (v5_8 : Value) (v5_9 : Value) (v5_10 : Value) (p0 : Int32) (hNz5_shownCount : 0 ≤ z5_shownCount ∧ z5_shownCount ≤ 512) (hNz5_ending : -1 ≤ z5_ending ∧ z5_ending ≤ 5) (sz : Nat) : Met l yX5_show v_X5_show ({ frames := 0, cells := 0, slots := 0, locals := 0 }) (va_Pc [.ref h0, .int p0] (fun U => U.heap.size = sz ∧ va_P (dC, dI) vwP [(h0, .inr (5, [v5_0, v5_1, .int (zI (z5_shownCount)), v5_3, v5_4, .int (zI (z5_ending)), .ref q_506, v5_7, v5_8, v5_9, v5_10])), (q_506, .inl (cA_506, 512, .inl fa5_shownInts))] U.heap ∧ va_K (dC, dI) vwP [(cA_506, .int)] U ∧ va_D (fun _ => True) [(h0, .inr (5, [v5_0, v5_1, .int (zI (z5_shownCount)), v5_3, v5_4, .int (zI (z5_ending)), .ref q_506, v5_7, v5_8, v5_9, v5_10])), (q_506, .inl (cA_506, 512, .inl fa5_shownInts))])) (va_Qi (fun (r : Int32) (zr : Int) => r = zI zr ∧ (0 ≤ zr ∧ zr ≤ 1)) (fun (zr : Int) (t : State) => ∃ (z0_9 : Int) (z1_9 : Int) (g2_9 : Nat → Int32), ((0 ≤ z0_9 ∧ z0_9 ≤ 512) ∧ (-1 ≤ z1_9 ∧ z1_9 ≤ 5) ∧ ((zr = 0 → 0 ≤ z1_9) ∧ (zr = 1 → z1_9 = z5_ending))) ∧ va_P (dC, dI) vwP [(h0, .inr (5, [v5_0, v5_1, .int (zI (z0_9)), v5_3, v5_4, .int (zI (z1_9)), .ref q_506, v5_7, v5_8, v5_9, v5_10])), (q_506, .inl (cA_506, 512, .inl g2_9))] t.heap ∧ va_K (dC, dI) vwP [(cA_506, .int)] t ∧ va_D (va_A [(h0, .inr (5, [v5_0, v5_1, .int (zI (z5_shownCount)), v5_3, v5_4, .int (zI (z5_ending)), .ref q_506, v5_7, v5_8, v5_9, v5_10])), (q_506, .inl (cA_506, 512, .inl fa5_shownInts))] sz) [(h0, .inr (5, [v5_0, v5_1, .int (zI (z0_9)), v5_3, v5_4, .int (zI (z1_9)), .ref q_506, v5_7, v5_8, v5_9, v5_10])), (q_506, .inl (cA_506, 512, .inl g2_9))]) (va_A [(h0, .inr (5, [v5_0, v5_1, .int (zI (z5_shownCount)), v5_3, v5_4, .int (zI (z5_ending)), .ref q_506, v5_7, v5_8, v5_9, v5_10])), (q_506, .inl (cA_506, 512, .inl fa5_shownInts))] sz)) 0 0 (va_A [(h0, .inr (5, [v5_0, v5_1, .int (zI (z5_shownCount)), v5_3, v5_4, .int (zI (z5_ending)), .ref q_506, v5_7, v5_8, v5_9, v5_10])), (q_506, .inl (cA_506, 512, .inl fa5_shownInts))] sz) := by
  refine Met.ofW (cc := cX5_show) (maxL := 2) (ret := (some .boolean)) (by decide) rfl ?_
  intro p e s m args below meth c s₁ B hml hv
  obtain ⟨rfl, hsz, hP, hK, hD0⟩ := hv
  have hx := B.exec
  have hb := B.bytes
  have hr := B.returns
  have hts := atoms_spec (ws := v_X5_show) B.pre
  have hown : s.vm.findClass RX5 = some m.cls := findClass_of_methodNamed B.named
  have hlocks := B.notSynchronized
  have ow : ∀ {k : Nat} {w : Cond}, o_X5_show[k]? = some w → w.before ([.ref h0, .int p0] : List Value).toArray s = true := fun h => hts _ (mow_X5_show _ (List.mem_of_getElem? h))
  subst hsz
  have hD := hD0.self (sz := s.heap.size)
  generalize hAe : va_A [(h0, .inr (5, [v5_0, v5_1, .int (zI (z5_shownCount)), v5_3, v5_4, .int (zI (z5_ending)), .ref q_506, v5_7, v5_8, v5_9, v5_10])), (q_506, .inl (cA_506, 512, .inl fa5_shownInts))] s.heap.size = A at hD ⊢
  have hA : ∀ q : Nat, s.heap.size ≤ q → A q := fun q h => by rw [← hAe]; exact Or.inr h
  have hS : va_S A s.heap s.heap [] := va_S.rf
  have hP : va_P (dC, dI) vwP [(h0, .inr (5, [v5_0, v5_1, .int (zI (z5_shownCount)), v5_3, v5_4, .int (zI (z5_ending)), .ref q_506, v5_7, v5_8, v5_9, v5_10])), (q_506, .inl (cA_506, 512, .inl fa5_shownInts))] s.heap := hP
  have hl := lv_entry ([.ref h0, .int p0]) (n := 2) (Nat.le_of_ble_eq_true rfl)
  rw [lg_entry_eq]
  generalize (lg_sl ([.ref h0, .int p0]) ++ List.replicate (2 - (lg_sl ([.ref h0, .int p0])).length) Slot.unset).toArray = ls at hl ⊢
  have hl : lv_has ls 2 [(0, .ref h0), (1, .int p0)] := hl
  obtain ⟨H, hH⟩ : ∃ H, H = s.heap := ⟨_, rfl⟩
  rw [← hH] at hP
  have hS : va_S A s.heap H [] := by rw [hH]; exact hS
  rw [← hH]
  refine zW_cap (fun Q hQ => ?_)
  refine lv_aload_n hx hb dX5_show_0 rfl (lv_at hl 0 rfl) ?_
  refine va_get (D := (dC, dI)) (ci := 5) (v := .int (zI (z5_shownCount))) (C := RX5) (T := TX5) (N := 11) hx hb hts mem_X5_show_0 hown hK hP 0 rfl rfl 2 (by decide) (ow (k := 0) rfl) (fun _ h9 => h9) rfl dX5_show_1 ?_
  refine lv_sipush (v := 512) hx hb dX5_show_4 (by decide) ?_
  refine lv_icmp_lt (tgt := 17) hx hb dX5_show_7 (by decide) (fun b7 => ?_) (fun b7 => ?_)
  · have yb7 : (z5_shownCount : Int) < (512 : Int) := (zI_lt (a := z5_shownCount) (b := 512) (by omega) (by omega) (by omega) (by omega)).mp b7
    refine lv_aload_n hx hb dX5_show_17 rfl (lv_at hl 0 rfl) ?_
    refine va_get (D := (dC, dI)) (ci := 5) (v := .ref q_506) (C := RX5) (T := TX5) (N := 11) hx hb hts mem_X5_show_0 hown hK hP 0 rfl rfl 6 (by decide) (ow (k := 1) rfl) (fun _ h9 => h9) rfl dX5_show_18 ?_
    refine lv_aload_n hx hb dX5_show_21 rfl (lv_at hl 0 rfl) ?_
    refine va_get (D := (dC, dI)) (ci := 5) (v := .int (zI (z5_shownCount))) (C := RX5) (T := TX5) (N := 11) hx hb hts mem_X5_show_0 hown hK hP 0 rfl rfl 2 (by decide) (ow (k := 0) rfl) (fun _ h9 => h9) rfl dX5_show_22 ?_
    refine lv_iload_n hx hb dX5_show_25 rfl (lv_at hl 1 rfl) ?_
    refine va_iast (i := zI (z5_shownCount)) hx hb hK hP hD hS 1 0 rfl rfl (zI_in (a := z5_shownCount) (n := 512) (by omega) (by omega) (by decide)) dX5_show_26 (fun H locs hP hD hS => ?_)
    have hP : va_P (dC, dI) vwP [(h0, .inr (5, [v5_0, v5_1, .int (zI (z5_shownCount)), v5_3, v5_4, .int (zI (z5_ending)), .ref q_506, v5_7, v5_8, v5_9, v5_10])), (q_506, .inl (cA_506, 512, .inl (upd fa5_shownInts (zI (z5_shownCount)).toNatClampNeg p0)))] H := hP
    have hD : va_D A [(h0, .inr (5, [v5_0, v5_1, .int (zI (z5_shownCount)), v5_3, v5_4, .int (zI (z5_ending)), .ref q_506, v5_7, v5_8, v5_9, v5_10])), (q_506, .inl (cA_506, 512, .inl (upd fa5_shownInts (zI (z5_shownCount)).toNatClampNeg p0)))] := hD
    generalize (upd fa5_shownInts (zI (z5_shownCount)).toNatClampNeg p0) = f_2001 at hP hD
    have hP : va_P (dC, dI) vwP [(h0, .inr (5, [v5_0, v5_1, .int (zI (z5_shownCount)), v5_3, v5_4, .int (zI (z5_ending)), .ref q_506, v5_7, v5_8, v5_9, v5_10])), (q_506, .inl (cA_506, 512, .inl f_2001))] H := hP
    have hD : va_D A [(h0, .inr (5, [v5_0, v5_1, .int (zI (z5_shownCount)), v5_3, v5_4, .int (zI (z5_ending)), .ref q_506, v5_7, v5_8, v5_9, v5_10])), (q_506, .inl (cA_506, 512, .inl f_2001))] := hD
    refine lv_aload_n hx hb dX5_show_27 rfl (lv_at hl 0 rfl) ?_
    refine lv_dup hx hb dX5_show_28 rfl ?_
    refine va_get (D := (dC, dI)) (ci := 5) (v := .int (zI (z5_shownCount))) (C := RX5) (T := TX5) (N := 11) hx hb hts mem_X5_show_0 hown hK hP 0 rfl rfl 2 (by decide) (ow (k := 0) rfl) (fun _ h9 => h9) rfl dX5_show_29 ?_
    refine lv_iconst (v := 1) hx hb dX5_show_32 (by decide) ?_
    refine lv_iadd hx hb dX5_show_33 ?_
    refine lv_topi (fun z ez => ?_)
    obtain rfl : z = zI (z5_shownCount + 1) := ez.trans (zI_add (z5_shownCount) (1))
    refine va_put (D := (dC, dI)) (ci := 5) (v := .int (zI (z5_shownCount + 1))) (ty := .int) (C := RX5) (T := TX5) (N := 11) hx hb hts mem_X5_show_0 tyX5 tyX5_ok nmX5 hown hK hP hD hS 0 rfl rfl 2 (by decide) (ow (k := 0) rfl) (fun _ h9 => h9) rfl (by decide +kernel) rfl rfl (Nat.le_of_ble_eq_true rfl) dX5_show_34 (fun H locs hP hD hS => ?_)
    have hP : va_P (dC, dI) vwP [(h0, .inr (5, [v5_0, v5_1, .int (zI (z5_shownCount + 1)), v5_3, v5_4, .int (zI (z5_ending)), .ref q_506, v5_7, v5_8, v5_9, v5_10])), (q_506, .inl (cA_506, 512, .inl f_2001))] H := hP
    have hD : va_D A [(h0, .inr (5, [v5_0, v5_1, .int (zI (z5_shownCount + 1)), v5_3, v5_4, .int (zI (z5_ending)), .ref q_506, v5_7, v5_8, v5_9, v5_10])), (q_506, .inl (cA_506, 512, .inl f_2001))] := hD
    obtain ⟨z_2002, ez_2002⟩ : ∃ z9 : Int, z9 = z5_shownCount + 1 := ⟨_, rfl⟩
    rw [← ez_2002] at hP hD
    have hP : va_P (dC, dI) vwP [(h0, .inr (5, [v5_0, v5_1, .int (zI (z_2002)), v5_3, v5_4, .int (zI (z5_ending)), .ref q_506, v5_7, v5_8, v5_9, v5_10])), (q_506, .inl (cA_506, 512, .inl f_2001))] H := hP
    have hD : va_D A [(h0, .inr (5, [v5_0, v5_1, .int (zI (z_2002)), v5_3, v5_4, .int (zI (z5_ending)), .ref q_506, v5_7, v5_8, v5_9, v5_10])), (q_506, .inl (cA_506, 512, .inl f_2001))] := hD
    refine lv_iconst (v := 1) hx hb dX5_show_37 (by decide) ?_
    subst hQ
    refine W.widen (k := 0) (n := 0) (Nat.le_of_ble_eq_true rfl) (Nat.le_of_ble_eq_true rfl) ?_
    exact W.zret (v := 1) hx hb hr (by decide) (fun t ht hW => ⟨⟨1, (1), rfl, ⟨rfl, (by omega)⟩, z_2002, z5_ending, f_2001, ⟨(by omega), (by omega), ⟨fun _ => by omega, fun _ => by omega⟩⟩, by rw [ht]; exact hP, va_K.moved hW.alike hK, hD⟩, hS.F ht⟩) hS.2.2 dX5_show_38
  · have yb7 : ¬ (z5_shownCount : Int) < (512 : Int) := fun q => b7 ((zI_lt (a := z5_shownCount) (b := 512) (by omega) (by omega) (by omega) (by omega)).mpr q)
    refine lv_aload_n hx hb dX5_show_10 rfl (lv_at hl 0 rfl) ?_
    refine lv_iconst (v := 5) hx hb dX5_show_11 (by decide) ?_
    refine va_put (D := (dC, dI)) (ci := 5) (v := .int 5) (ty := .int) (C := RX5) (T := TX5) (N := 11) hx hb hts mem_X5_show_0 tyX5 tyX5_ok nmX5 hown hK hP hD hS 0 rfl rfl 5 (by decide) (ow (k := 2) rfl) (fun _ h9 => h9) rfl (by decide +kernel) rfl rfl (Nat.le_of_ble_eq_true rfl) dX5_show_12 (fun H locs hP hD hS => ?_)
    have hP : va_P (dC, dI) vwP [(h0, .inr (5, [v5_0, v5_1, .int (zI (z5_shownCount)), v5_3, v5_4, .int 5, .ref q_506, v5_7, v5_8, v5_9, v5_10])), (q_506, .inl (cA_506, 512, .inl fa5_shownInts))] H := hP
    have hD : va_D A [(h0, .inr (5, [v5_0, v5_1, .int (zI (z5_shownCount)), v5_3, v5_4, .int 5, .ref q_506, v5_7, v5_8, v5_9, v5_10])), (q_506, .inl (cA_506, 512, .inl fa5_shownInts))] := hD
    refine lv_iconst (v := 0) hx hb dX5_show_15 (by decide) ?_
    subst hQ
    refine W.widen (k := 0) (n := 0) (Nat.le_of_ble_eq_true rfl) (Nat.le_of_ble_eq_true rfl) ?_
    exact W.zret (v := 0) hx hb hr (by decide) (fun t ht hW => ⟨⟨0, (0), rfl, ⟨rfl, (by omega)⟩, z5_shownCount, 5, fa5_shownInts, ⟨(by omega), (by omega), ⟨fun _ => by omega, fun _ => by omega⟩⟩, by rw [ht]; exact hP, va_K.moved hW.alike hK, hD⟩, hS.F ht⟩) hS.2.2 dX5_show_16
