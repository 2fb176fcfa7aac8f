def o_X1_kindOfL : List Cond := [.initialized RX11, .static yX11_isRegister, .fieldLink RX1 21 "SsaForge$Constants" "kinds" "[I", .static yX11_registerOf]
def v_X1_kindOfL : List Cond := .code yX1_kindOf cX1_kindOf 3 (some .int) :: (o_X1_kindOfL ++ (v_X11_isRegister ++ (wsX10 ++ (v_X11_registerOf ++ []))))
theorem mow_X1_kindOfL : ∀ w ∈ o_X1_kindOfL, w ∈ v_X1_kindOfL := fun _ h => List.mem_cons_of_mem _ (List.mem_append_left _ h)
theorem mem_X1_kindOfL_0 : ∀ w ∈ v_X11_isRegister, w ∈ v_X1_kindOfL := fun _ h => List.mem_cons_of_mem _ (List.mem_append_right _ (List.mem_append_left _ h))
theorem mem_X1_kindOfL_1 : ∀ w ∈ wsX10, w ∈ v_X1_kindOfL := fun _ h => List.mem_cons_of_mem _ (List.mem_append_right _ (List.mem_append_right _ (List.mem_append_left _ h)))
theorem mem_X1_kindOfL_2 : ∀ w ∈ v_X11_registerOf, w ∈ v_X1_kindOfL := fun _ h => List.mem_cons_of_mem _ (List.mem_append_right _ (List.mem_append_right _ (List.mem_append_right _ (List.mem_append_left _ h))))
set_option maxRecDepth 20000 in
theorem gw_X1_kindOfL : v_X1_kindOfL.all goodWord = true := by decide +kernel
set_option maxHeartbeats 4000000 in
set_option maxRecDepth 100000 in
theorem c_X1_kindOfL (l : Launch) (dC : Nat → ClassId) (dI : Nat → Nat → Nat) (h0 : Nat) (v1_0 : Value) (v1_1 : Value) (v1_2 : Value) (q_103 : Nat) (cA_103 : ClassId) (a1_kinds : Int → Int) (v1_4 : Value) (v1_5 : Value) (x : Int) (hR_a1_kinds : ∀ j : Int, 0 ≤ a1_kinds j ∧ a1_kinds j ≤ 2) (hNx : ((-2147483648 ≤ x ∧ x ≤ 4294968319) ∨ x = 1099511627776)) (sz : Nat) : Met l yX1_kindOf v_X1_kindOfL ({ frames := 1, cells := 0, slots := 0, locals := 21 }) (va_Pc [.ref h0, .long (lI (x))] (fun U => U.heap.size = sz ∧ va_P (dC, dI) vwP [(h0, .inr (1, [v1_0, v1_1, v1_2, .ref q_103, v1_4, v1_5])), (q_103, .inl (cA_103, 1024, .inl (fun j : Nat => zI (a1_kinds (j : Int)))))] U.heap ∧ va_K (dC, dI) vwP [(cA_103, .int)] U ∧ va_D (fun _ => True) [(h0, .inr (1, [v1_0, v1_1, v1_2, .ref q_103, v1_4, v1_5])), (q_103, .inl (cA_103, 1024, .inl (fun j : Nat => zI (a1_kinds (j : Int)))))] ∧ va_Nw (.methodLinkNest RX1 151 yX11_isRegister "SsaForge") U ∧ va_Nw (.methodLinkNest RX1 155 yX11_registerOf "SsaForge") U)) (va_Qi (fun (r : Int32) (_ : Unit) => ∃ z : Int, r = zI z ∧ ((0 ≤ z ∧ z ≤ 2) ∧ z = kdF a1_kinds (x))) (fun (_ : Unit) (t : State) => va_P (dC, dI) vwP [(h0, .inr (1, [v1_0, v1_1, v1_2, .ref q_103, v1_4, v1_5])), (q_103, .inl (cA_103, 1024, .inl (fun j : Nat => zI (a1_kinds (j : Int)))))] t.heap ∧ va_K (dC, dI) vwP [(cA_103, .int)] t ∧ va_D (va_A [(h0, .inr (1, [v1_0, v1_1, v1_2, .ref q_103, v1_4, v1_5])), (q_103, .inl (cA_103, 1024, .inl (fun j : Nat => zI (a1_kinds (j : Int)))))] sz) [(h0, .inr (1, [v1_0, v1_1, v1_2, .ref q_103, v1_4, v1_5])), (q_103, .inl (cA_103, 1024, .inl (fun j : Nat => zI (a1_kinds (j : Int)))))]) (va_A [(h0, .inr (1, [v1_0, v1_1, v1_2, .ref q_103, v1_4, v1_5])), (q_103, .inl (cA_103, 1024, .inl (fun j : Nat => zI (a1_kinds (j : Int)))))] sz)) 0 0 (va_A [(h0, .inr (1, [v1_0, v1_1, v1_2, .ref q_103, v1_4, v1_5])), (q_103, .inl (cA_103, 1024, .inl (fun j : Nat => zI (a1_kinds (j : Int)))))] sz) := by
  refine Met.ofW (cc := cX1_kindOf) (maxL := 3) (ret := (some .int)) (by decide) rfl ?_
  intro p e s m args below meth c s₁ B hml hv
  obtain ⟨rfl, hsz, hP, hK, hD0, hp0, hp1⟩ := hv
  have hx := B.exec
  have hb := B.bytes
  have hr := B.returns
  have hts := atoms_spec (ws := v_X1_kindOfL) B.pre
  have hown : s.vm.findClass RX1 = some m.cls := findClass_of_methodNamed B.named
  have hlocks := B.notSynchronized
  have ow : ∀ {k : Nat} {w : Cond}, o_X1_kindOfL[k]? = some w → w.before ([.ref h0, .long (lI (x))] : List Value).toArray s = true := fun h => hts _ (mow_X1_kindOfL _ (List.mem_of_getElem? h))
  subst hsz
  have hD := hD0.self (sz := s.heap.size)
  generalize hAe : va_A [(h0, .inr (1, [v1_0, v1_1, v1_2, .ref q_103, v1_4, v1_5])), (q_103, .inl (cA_103, 1024, .inl (fun j : Nat => zI (a1_kinds (j : Int)))))] s.heap.size = A at hD ⊢
  have hA : ∀ q : Nat, s.heap.size ≤ q → A q := fun q h => by rw [← hAe]; exact Or.inr h
  have hS : va_S A s.heap s.heap [] := va_S.rf
  have hP : va_P (dC, dI) vwP [(h0, .inr (1, [v1_0, v1_1, v1_2, .ref q_103, v1_4, v1_5])), (q_103, .inl (cA_103, 1024, .inl (fun j : Nat => zI (a1_kinds (j : Int)))))] s.heap := hP
  have hl := lv_entry ([.ref h0, .long (lI (x))]) (n := 3) (Nat.le_of_ble_eq_true rfl)
  rw [lg_entry_eq]
  generalize (lg_sl ([.ref h0, .long (lI (x))]) ++ List.replicate (3 - (lg_sl ([.ref h0, .long (lI (x))])).length) Slot.unset).toArray = ls at hl ⊢
  have hl : lv_has ls 3 [(0, .ref h0), (1, .long (lI (x)))] := hl
  obtain ⟨H, hH⟩ : ∃ H, H = s.heap := ⟨_, rfl⟩
  rw [← hH] at hP
  have hS : va_S A s.heap H [] := by rw [hH]; exact hS
  rw [← hH]
  refine zW_cap (fun Q hQ => ?_)
  refine lv_lload_n hx hb dX1_kindOf_0 rfl (lv_at hl 1 rfl) ?_
  have hPc := hP.sub (ws' := []) [] rfl
  have hDc := hD.sub (ws' := []) [] (by decide) rfl
  have hKc := hK.sub (tys' := []) [] rfl
  have hFc := va_free (wc := []) hD hS hA [] rfl
  refine va_calli (va_runSN (As := [.long (lI (x))]) (rest := []) ⟨hx, hb, hml, hown, hts⟩ (c_X11_isRegister l dC dI x (by omega) H.size) ⟨va_cnB 1 hts (goodIn_sub mem_X1_kindOfL_0 gw_X11_isRegister) rfl rfl rfl hp0 (ow (k := 0) rfl) (by decide +kernel) ⟨(Nat.le_of_ble_eq_true rfl), (Nat.le_of_ble_eq_true rfl)⟩, (ow (k := 1) rfl), trivial⟩ ⟨fun a U g mk q => by obtain ⟨q0, q1, qP, qK, qD⟩ := q; exact ⟨q0, q1, qP, va_K.moved (u := U) (U := U.calling g mk a) (Vm.Alike.refl U.vm) qK, qD⟩, fun U hU hW => ⟨rfl, by rw [hU], by rw [hU]; exact hPc, va_K.moved hW.alike hKc, hDc.weaken (fun _ _ _ _ => trivial)⟩⟩ rfl rfl hl.1 rfl (lv_room (Nat.le_of_ble_eq_true rfl)) dX1_kindOf_1 ⟨(Nat.le_of_ble_eq_true rfl), (Nat.le_of_ble_eq_true rfl)⟩) hS (fun q _ h => hFc q h) hFc (fun r_2001 u t H1 locs ht hvm hw hB hz1 hk1 hS => ?_)
  obtain ⟨hP1, hK1, hD1⟩ := hB
  rw [ht] at hP1
  have hK1 := va_K.moved hvm.symm hK1
  obtain ⟨hP, hD⟩ := va_join (wr := [(h0, .inr (1, [v1_0, v1_1, v1_2, .ref q_103, v1_4, v1_5])), (q_103, .inl (cA_103, 1024, .inl (fun j : Nat => zI (a1_kinds (j : Int)))))]) (w1 := []) hP hD [] [0, 1] rfl rfl (by decide) (by decide) hk1 hFc hP1 hD1
  have hK := (hK.sub (tys' := [(cA_103, .int)]) [0] rfl).app hK1
  generalize H1 = H at hP hS ⊢
  have hP : va_P (dC, dI) vwP [(h0, .inr (1, [v1_0, v1_1, v1_2, .ref q_103, v1_4, v1_5])), (q_103, .inl (cA_103, 1024, .inl (fun j : Nat => zI (a1_kinds (j : Int)))))] H := hP
  have hD : va_D A [(h0, .inr (1, [v1_0, v1_1, v1_2, .ref q_103, v1_4, v1_5])), (q_103, .inl (cA_103, 1024, .inl (fun j : Nat => zI (a1_kinds (j : Int)))))] := hD
  have hK : va_K (dC, dI) vwP [(cA_103, .int)] s := hK
  refine W.widen (k := 0) (n := 0) (Nat.le_of_ble_eq_true rfl) (Nat.le_of_ble_eq_true rfl) ?_
  obtain rfl : r_2001 = (zI (isR (x))) := hw
  have := isR_spec (x)
  refine lv_if_eq (tgt := 19) hx hb dX1_kindOf_4 (by decide) (fun b4 => ?_) (fun b4 => ?_)
  · have yb4 : (isR (x) : Int) = (0 : Int) := (zI_eq (a := isR (x)) (b := 0) (by omega) (by omega) (by omega) (by omega)).mp b4
    refine lv_iconst (v := 1) hx hb dX1_kindOf_19 (by decide) ?_
    subst hQ
    refine W.widen (k := 0) (n := 0) (Nat.le_of_ble_eq_true rfl) (Nat.le_of_ble_eq_true rfl) ?_
    exact W.iret (v := 1) hx hb hr (fun t ht hW => ⟨⟨1, (), rfl, ⟨1, rfl, ⟨by omega, by unfold kdF; rw [if_neg (by omega)]⟩⟩, by rw [ht]; exact hP, va_K.moved hW.alike hK, hD⟩, hS.F ht⟩) hS.2.2 dX1_kindOf_20
  · have yb4 : ¬ (isR (x) : Int) = (0 : Int) := fun q => b4 ((zI_eq (a := isR (x)) (b := 0) (by omega) (by omega) (by omega) (by omega)).mpr q)
    refine lv_aload_n hx hb dX1_kindOf_7 rfl (lv_at hl 0 rfl) ?_
    refine va_get (D := (dC, dI)) (ci := 1) (v := .ref q_103) (C := RX1) (T := TX1) (N := 6) hx hb hts mem_X1_kindOfL_1 hown hK hP 0 rfl rfl 3 (by decide) (ow (k := 2) rfl) (fun _ h9 => h9) rfl dX1_kindOf_8 ?_
    refine lv_lload_n hx hb dX1_kindOf_11 rfl (lv_at hl 1 rfl) ?_
    have hPc := hP.sub (ws' := []) [] rfl
    have hDc := hD.sub (ws' := []) [] (by decide) rfl
    have hKc := hK.sub (tys' := []) [] rfl
    have hFc := va_free (wc := []) hD hS hA [] rfl
    refine va_calli (va_runSN (As := [.long (lI (x))]) (rest := [.ref q_103]) ⟨hx, hb, hml, hown, hts⟩ (c_X11_registerOf l dC dI x (by omega) H.size) ⟨va_cnB 1 hts (goodIn_sub mem_X1_kindOfL_2 gw_X11_registerOf) rfl rfl rfl hp1 (ow (k := 0) rfl) (by decide +kernel) ⟨(Nat.le_of_ble_eq_true rfl), (Nat.le_of_ble_eq_true rfl)⟩, (ow (k := 3) rfl), trivial⟩ ⟨fun a U g mk q => by obtain ⟨q0, q1, qP, qK, qD⟩ := q; exact ⟨q0, q1, qP, va_K.moved (u := U) (U := U.calling g mk a) (Vm.Alike.refl U.vm) qK, qD⟩, fun U hU hW => ⟨rfl, by rw [hU], by rw [hU]; exact hPc, va_K.moved hW.alike hKc, hDc.weaken (fun _ _ _ _ => trivial)⟩⟩ rfl rfl hl.1 rfl (lv_room (Nat.le_of_ble_eq_true rfl)) dX1_kindOf_12 ⟨(Nat.le_of_ble_eq_true rfl), (Nat.le_of_ble_eq_true rfl)⟩) hS (fun q _ h => hFc q h) hFc (fun r_2002 u t H1 locs ht hvm hw hB hz1 hk1 hS => ?_)
    obtain ⟨hP1, hK1, hD1⟩ := hB
    rw [ht] at hP1
    have hK1 := va_K.moved hvm.symm hK1
    obtain ⟨hP, hD⟩ := va_join (wr := [(h0, .inr (1, [v1_0, v1_1, v1_2, .ref q_103, v1_4, v1_5])), (q_103, .inl (cA_103, 1024, .inl (fun j : Nat => zI (a1_kinds (j : Int)))))]) (w1 := []) hP hD [] [0, 1] rfl rfl (by decide) (by decide) hk1 hFc hP1 hD1
    have hK := (hK.sub (tys' := [(cA_103, .int)]) [0] rfl).app hK1
    generalize H1 = H at hP hS ⊢
    have hP : va_P (dC, dI) vwP [(h0, .inr (1, [v1_0, v1_1, v1_2, .ref q_103, v1_4, v1_5])), (q_103, .inl (cA_103, 1024, .inl (fun j : Nat => zI (a1_kinds (j : Int)))))] H := hP
    have hD : va_D A [(h0, .inr (1, [v1_0, v1_1, v1_2, .ref q_103, v1_4, v1_5])), (q_103, .inl (cA_103, 1024, .inl (fun j : Nat => zI (a1_kinds (j : Int)))))] := hD
    have hK : va_K (dC, dI) vwP [(cA_103, .int)] s := hK
    refine W.widen (k := 0) (n := 0) (Nat.le_of_ble_eq_true rfl) (Nat.le_of_ble_eq_true rfl) ?_
    obtain rfl : r_2002 = (zI (x - 4294967296)) := hw
    refine va_iald hx hb hK hP 1 0 rfl rfl (zI_in (a := x - 4294967296) (n := 1024) (by omega) (by omega) (by decide)) dX1_kindOf_15 ?_
    refine lv_topi (fun z ez => ?_)
    obtain rfl : z = zI (a1_kinds (x - 4294967296)) := ez.trans (zI_ld (a1_kinds) (by omega) (by omega))
    have k1 := hR_a1_kinds (x - 4294967296)
    refine lv_goto (tgt := 20) hx hb dX1_kindOf_16 (by decide) ?_
    subst hQ
    refine W.widen (k := 0) (n := 0) (Nat.le_of_ble_eq_true rfl) (Nat.le_of_ble_eq_true rfl) ?_
    exact W.iret (v := (zI (a1_kinds (x - 4294967296)))) hx hb hr (fun t ht hW => ⟨⟨(zI (a1_kinds (x - 4294967296))), (), rfl, ⟨a1_kinds (x - 4294967296), rfl, ⟨by omega, by unfold kdF; rw [if_pos (by omega)]⟩⟩, by rw [ht]; exact hP, va_K.moved hW.alike hK, hD⟩, hS.F ht⟩) hS.2.2 dX1_kindOf_20
def o_X1_numberOfL : List Cond := [.initialized RX11, .static yX11_isRegister, .fieldLink RX1 25 "SsaForge$Constants" "instead" "[J", .static yX11_registerOf]
def v_X1_numberOfL : List Cond := .code yX1_numberOf cX1_numberOf 3 (some .int) :: (o_X1_numberOfL ++ (v_X11_isRegister ++ (wsX10 ++ (v_X11_registerOf ++ []))))
theorem mow_X1_numberOfL : ∀ w ∈ o_X1_numberOfL, w ∈ v_X1_numberOfL := fun _ h => List.mem_cons_of_mem _ (List.mem_append_left _ h)
theorem mem_X1_numberOfL_0 : ∀ w ∈ v_X11_isRegister, w ∈ v_X1_numberOfL := fun _ h => List.mem_cons_of_mem _ (List.mem_append_right _ (List.mem_append_left _ h))
theorem mem_X1_numberOfL_1 : ∀ w ∈ wsX10, w ∈ v_X1_numberOfL := fun _ h => List.mem_cons_of_mem _ (List.mem_append_right _ (List.mem_append_right _ (List.mem_append_left _ h)))
theorem mem_X1_numberOfL_2 : ∀ w ∈ v_X11_registerOf, w ∈ v_X1_numberOfL := fun _ h => List.mem_cons_of_mem _ (List.mem_append_right _ (List.mem_append_right _ (List.mem_append_right _ (List.mem_append_left _ h))))
set_option maxRecDepth 20000 in
theorem gw_X1_numberOfL : v_X1_numberOfL.all goodWord = true := by decide +kernel
set_option maxHeartbeats 4000000 in
set_option maxRecDepth 100000 in
theorem c_X1_numberOfL (l : Launch) (dC : Nat → ClassId) (dI : Nat → Nat → Nat) (h0 : Nat) (v1_0 : Value) (v1_1 : Value) (v1_2 : Value) (v1_3 : Value) (q_104 : Nat) (cA_104 : ClassId) (a1_instead : Int → Int) (v1_5 : Value) (x : Int) (hR_a1_instead : ∀ j : Int, ((-2147483648 ≤ a1_instead j ∧ a1_instead j ≤ 4294968319) ∨ a1_instead j = 1099511627776)) (hNx : ((-2147483648 ≤ x ∧ x ≤ 4294968319) ∨ x = 1099511627776)) (sz : Nat) : Met l yX1_numberOf v_X1_numberOfL ({ frames := 1, cells := 0, slots := 0, locals := 21 }) (va_Pc [.ref h0, .long (lI (x))] (fun U => U.heap.size = sz ∧ va_P (dC, dI) vwP [(h0, .inr (1, [v1_0, v1_1, v1_2, v1_3, .ref q_104, v1_5])), (q_104, .inl (cA_104, 1024, .inr (.inl (fun j : Nat => lI (a1_instead (j : Int))))))] U.heap ∧ va_K (dC, dI) vwP [(cA_104, .long)] U ∧ va_D (fun _ => True) [(h0, .inr (1, [v1_0, v1_1, v1_2, v1_3, .ref q_104, v1_5])), (q_104, .inl (cA_104, 1024, .inr (.inl (fun j : Nat => lI (a1_instead (j : Int))))))] ∧ va_Nw (.methodLinkNest RX1 151 yX11_isRegister "SsaForge") U ∧ va_Nw (.methodLinkNest RX1 155 yX11_registerOf "SsaForge") U)) (va_Qi (fun (r : Int32) (_ : Unit) => ∃ z : Int, r = zI z ∧ ((-2147483648 ≤ z ∧ z ≤ 2147483647) ∧ (z - nvF a1_instead (x)) % 4294967296 = 0)) (fun (_ : Unit) (t : State) => va_P (dC, dI) vwP [(h0, .inr (1, [v1_0, v1_1, v1_2, v1_3, .ref q_104, v1_5])), (q_104, .inl (cA_104, 1024, .inr (.inl (fun j : Nat => lI (a1_instead (j : Int))))))] t.heap ∧ va_K (dC, dI) vwP [(cA_104, .long)] t ∧ va_D (va_A [(h0, .inr (1, [v1_0, v1_1, v1_2, v1_3, .ref q_104, v1_5])), (q_104, .inl (cA_104, 1024, .inr (.inl (fun j : Nat => lI (a1_instead (j : Int))))))] sz) [(h0, .inr (1, [v1_0, v1_1, v1_2, v1_3, .ref q_104, v1_5])), (q_104, .inl (cA_104, 1024, .inr (.inl (fun j : Nat => lI (a1_instead (j : Int))))))]) (va_A [(h0, .inr (1, [v1_0, v1_1, v1_2, v1_3, .ref q_104, v1_5])), (q_104, .inl (cA_104, 1024, .inr (.inl (fun j : Nat => lI (a1_instead (j : Int))))))] sz)) 0 0 (va_A [(h0, .inr (1, [v1_0, v1_1, v1_2, v1_3, .ref q_104, v1_5])), (q_104, .inl (cA_104, 1024, .inr (.inl (fun j : Nat => lI (a1_instead (j : Int))))))] sz) := by
  refine Met.ofW (cc := cX1_numberOf) (maxL := 3) (ret := (some .int)) (by decide) rfl ?_
  intro p e s m args below meth c s₁ B hml hv
  obtain ⟨rfl, hsz, hP, hK, hD0, hp0, hp1⟩ := hv
  have hx := B.exec
  have hb := B.bytes
  have hr := B.returns
  have hts := atoms_spec (ws := v_X1_numberOfL) B.pre
  have hown : s.vm.findClass RX1 = some m.cls := findClass_of_methodNamed B.named
  have hlocks := B.notSynchronized
  have ow : ∀ {k : Nat} {w : Cond}, o_X1_numberOfL[k]? = some w → w.before ([.ref h0, .long (lI (x))] : List Value).toArray s = true := fun h => hts _ (mow_X1_numberOfL _ (List.mem_of_getElem? h))
  subst hsz
  have hD := hD0.self (sz := s.heap.size)
  generalize hAe : va_A [(h0, .inr (1, [v1_0, v1_1, v1_2, v1_3, .ref q_104, v1_5])), (q_104, .inl (cA_104, 1024, .inr (.inl (fun j : Nat => lI (a1_instead (j : Int))))))] s.heap.size = A at hD ⊢
  have hA : ∀ q : Nat, s.heap.size ≤ q → A q := fun q h => by rw [← hAe]; exact Or.inr h
  have hS : va_S A s.heap s.heap [] := va_S.rf
  have hP : va_P (dC, dI) vwP [(h0, .inr (1, [v1_0, v1_1, v1_2, v1_3, .ref q_104, v1_5])), (q_104, .inl (cA_104, 1024, .inr (.inl (fun j : Nat => lI (a1_instead (j : Int))))))] s.heap := hP
  have hl := lv_entry ([.ref h0, .long (lI (x))]) (n := 3) (Nat.le_of_ble_eq_true rfl)
  rw [lg_entry_eq]
  generalize (lg_sl ([.ref h0, .long (lI (x))]) ++ List.replicate (3 - (lg_sl ([.ref h0, .long (lI (x))])).length) Slot.unset).toArray = ls at hl ⊢
  have hl : lv_has ls 3 [(0, .ref h0), (1, .long (lI (x)))] := hl
  obtain ⟨H, hH⟩ : ∃ H, H = s.heap := ⟨_, rfl⟩
  rw [← hH] at hP
  have hS : va_S A s.heap H [] := by rw [hH]; exact hS
  rw [← hH]
  refine zW_cap (fun Q hQ => ?_)
  refine lv_lload_n hx hb dX1_numberOf_0 rfl (lv_at hl 1 rfl) ?_
  have hPc := hP.sub (ws' := []) [] rfl
  have hDc := hD.sub (ws' := []) [] (by decide) rfl
  have hKc := hK.sub (tys' := []) [] rfl
  have hFc := va_free (wc := []) hD hS hA [] rfl
  refine va_calli (va_runSN (As := [.long (lI (x))]) (rest := []) ⟨hx, hb, hml, hown, hts⟩ (c_X11_isRegister l dC dI x (by omega) H.size) ⟨va_cnB 1 hts (goodIn_sub mem_X1_numberOfL_0 gw_X11_isRegister) rfl rfl rfl hp0 (ow (k := 0) rfl) (by decide +kernel) ⟨(Nat.le_of_ble_eq_true rfl), (Nat.le_of_ble_eq_true rfl)⟩, (ow (k := 1) rfl), trivial⟩ ⟨fun a U g mk q => by obtain ⟨q0, q1, qP, qK, qD⟩ := q; exact ⟨q0, q1, qP, va_K.moved (u := U) (U := U.calling g mk a) (Vm.Alike.refl U.vm) qK, qD⟩, fun U hU hW => ⟨rfl, by rw [hU], by rw [hU]; exact hPc, va_K.moved hW.alike hKc, hDc.weaken (fun _ _ _ _ => trivial)⟩⟩ rfl rfl hl.1 rfl (lv_room (Nat.le_of_ble_eq_true rfl)) dX1_numberOf_1 ⟨(Nat.le_of_ble_eq_true rfl), (Nat.le_of_ble_eq_true rfl)⟩) hS (fun q _ h => hFc q h) hFc (fun r_2001 u t H1 locs ht hvm hw hB hz1 hk1 hS => ?_)
  obtain ⟨hP1, hK1, hD1⟩ := hB
  rw [ht] at hP1
  have hK1 := va_K.moved hvm.symm hK1
  obtain ⟨hP, hD⟩ := va_join (wr := [(h0, .inr (1, [v1_0, v1_1, v1_2, v1_3, .ref q_104, v1_5])), (q_104, .inl (cA_104, 1024, .inr (.inl (fun j : Nat => lI (a1_instead (j : Int))))))]) (w1 := []) hP hD [] [0, 1] rfl rfl (by decide) (by decide) hk1 hFc hP1 hD1
  have hK := (hK.sub (tys' := [(cA_104, .long)]) [0] rfl).app hK1
  generalize H1 = H at hP hS ⊢
  have hP : va_P (dC, dI) vwP [(h0, .inr (1, [v1_0, v1_1, v1_2, v1_3, .ref q_104, v1_5])), (q_104, .inl (cA_104, 1024, .inr (.inl (fun j : Nat => lI (a1_instead (j : Int))))))] H := hP
  have hD : va_D A [(h0, .inr (1, [v1_0, v1_1, v1_2, v1_3, .ref q_104, v1_5])), (q_104, .inl (cA_104, 1024, .inr (.inl (fun j : Nat => lI (a1_instead (j : Int))))))] := hD
  have hK : va_K (dC, dI) vwP [(cA_104, .long)] s := hK
  refine W.widen (k := 0) (n := 0) (Nat.le_of_ble_eq_true rfl) (Nat.le_of_ble_eq_true rfl) ?_
  obtain rfl : r_2001 = (zI (isR (x))) := hw
  have := isR_spec (x)
  refine lv_if_eq (tgt := 19) hx hb dX1_numberOf_4 (by decide) (fun b4 => ?_) (fun b4 => ?_)
  · have yb4 : (isR (x) : Int) = (0 : Int) := (zI_eq (a := isR (x)) (b := 0) (by omega) (by omega) (by omega) (by omega)).mp b4
    refine lv_lload_n hx hb dX1_numberOf_19 rfl (lv_at hl 1 rfl) ?_
    refine lv_l2i (v := zI (x)) hx hb dX1_numberOf_20 (lI_i (x)) ?_
    subst hQ
    refine W.widen (k := 0) (n := 0) (Nat.le_of_ble_eq_true rfl) (Nat.le_of_ble_eq_true rfl) ?_
    exact W.iret (v := (zI (x))) hx hb hr (fun t ht hW => ⟨⟨(zI (x)), (), rfl, ⟨(zI (x)).toInt, zI_ti _, ⟨zI_tr _, by unfold nvF; rw [if_neg (by omega)]; exact zI_md _⟩⟩, by rw [ht]; exact hP, va_K.moved hW.alike hK, hD⟩, hS.F ht⟩) hS.2.2 dX1_numberOf_21
  · have yb4 : ¬ (isR (x) : Int) = (0 : Int) := fun q => b4 ((zI_eq (a := isR (x)) (b := 0) (by omega) (by omega) (by omega) (by omega)).mpr q)
    refine lv_aload_n hx hb dX1_numberOf_7 rfl (lv_at hl 0 rfl) ?_
    refine va_get (D := (dC, dI)) (ci := 1) (v := .ref q_104) (C := RX1) (T := TX1) (N := 6) hx hb hts mem_X1_numberOfL_1 hown hK hP 0 rfl rfl 4 (by decide) (ow (k := 2) rfl) (fun _ h9 => h9) rfl dX1_numberOf_8 ?_
    refine lv_lload_n hx hb dX1_numberOf_11 rfl (lv_at hl 1 rfl) ?_
    have hPc := hP.sub (ws' := []) [] rfl
    have hDc := hD.sub (ws' := []) [] (by decide) rfl
    have hKc := hK.sub (tys' := []) [] rfl
    have hFc := va_free (wc := []) hD hS hA [] rfl
    refine va_calli (va_runSN (As := [.long (lI (x))]) (rest := [.ref q_104]) ⟨hx, hb, hml, hown, hts⟩ (c_X11_registerOf l dC dI x (by omega) H.size) ⟨va_cnB 1 hts (goodIn_sub mem_X1_numberOfL_2 gw_X11_registerOf) rfl rfl rfl hp1 (ow (k := 0) rfl) (by decide +kernel) ⟨(Nat.le_of_ble_eq_true rfl), (Nat.le_of_ble_eq_true rfl)⟩, (ow (k := 3) rfl), trivial⟩ ⟨fun a U g mk q => by obtain ⟨q0, q1, qP, qK, qD⟩ := q; exact ⟨q0, q1, qP, va_K.moved (u := U) (U := U.calling g mk a) (Vm.Alike.refl U.vm) qK, qD⟩, fun U hU hW => ⟨rfl, by rw [hU], by rw [hU]; exact hPc, va_K.moved hW.alike hKc, hDc.weaken (fun _ _ _ _ => trivial)⟩⟩ rfl rfl hl.1 rfl (lv_room (Nat.le_of_ble_eq_true rfl)) dX1_numberOf_12 ⟨(Nat.le_of_ble_eq_true rfl), (Nat.le_of_ble_eq_true rfl)⟩) hS (fun q _ h => hFc q h) hFc (fun r_2002 u t H1 locs ht hvm hw hB hz1 hk1 hS => ?_)
    obtain ⟨hP1, hK1, hD1⟩ := hB
    rw [ht] at hP1
    have hK1 := va_K.moved hvm.symm hK1
    obtain ⟨hP, hD⟩ := va_join (wr := [(h0, .inr (1, [v1_0, v1_1, v1_2, v1_3, .ref q_104, v1_5])), (q_104, .inl (cA_104, 1024, .inr (.inl (fun j : Nat => lI (a1_instead (j : Int))))))]) (w1 := []) hP hD [] [0, 1] rfl rfl (by decide) (by decide) hk1 hFc hP1 hD1
    have hK := (hK.sub (tys' := [(cA_104, .long)]) [0] rfl).app hK1
    generalize H1 = H at hP hS ⊢
    have hP : va_P (dC, dI) vwP [(h0, .inr (1, [v1_0, v1_1, v1_2, v1_3, .ref q_104, v1_5])), (q_104, .inl (cA_104, 1024, .inr (.inl (fun j : Nat => lI (a1_instead (j : Int))))))] H := hP
    have hD : va_D A [(h0, .inr (1, [v1_0, v1_1, v1_2, v1_3, .ref q_104, v1_5])), (q_104, .inl (cA_104, 1024, .inr (.inl (fun j : Nat => lI (a1_instead (j : Int))))))] := hD
    have hK : va_K (dC, dI) vwP [(cA_104, .long)] s := hK
    refine W.widen (k := 0) (n := 0) (Nat.le_of_ble_eq_true rfl) (Nat.le_of_ble_eq_true rfl) ?_
    obtain rfl : r_2002 = (zI (x - 4294967296)) := hw
    refine va_lald hx hb hK hP 1 0 rfl rfl (zI_in (a := x - 4294967296) (n := 1024) (by omega) (by omega) (by decide)) dX1_numberOf_15 ?_
    refine lv_topl (fun z ez => ?_)
    obtain rfl : z = lI (a1_instead (x - 4294967296)) := ez.trans (lI_ld (a1_instead) (by omega) (by omega))
    have k1 := hR_a1_instead (x - 4294967296)
    refine lv_goto (tgt := 20) hx hb dX1_numberOf_16 (by decide) ?_
    refine lv_l2i (v := zI (a1_instead (x - 4294967296))) hx hb dX1_numberOf_20 (lI_i (a1_instead (x - 4294967296))) ?_
    subst hQ
    refine W.widen (k := 0) (n := 0) (Nat.le_of_ble_eq_true rfl) (Nat.le_of_ble_eq_true rfl) ?_
    exact W.iret (v := (zI (a1_instead (x - 4294967296)))) hx hb hr (fun t ht hW => ⟨⟨(zI (a1_instead (x - 4294967296))), (), rfl, ⟨(zI (a1_instead (x - 4294967296))).toInt, zI_ti _, ⟨zI_tr _, by unfold nvF; rw [if_pos (by omega)]; exact zI_md _⟩⟩, by rw [ht]; exact hP, va_K.moved hW.alike hK, hD⟩, hS.F ht⟩) hS.2.2 dX1_numberOf_21
def o_X1_tellL : List Cond := [.fieldLink RX1 21 "SsaForge$Constants" "kinds" "[I", .fieldLink RX1 25 "SsaForge$Constants" "instead" "[J", .constantLong RX1 59 (1099511627776), .fieldLink RX1 29 "SsaForge$Constants" "changed" "Z"]
def v_X1_tellL : List Cond := .code yX1_tell cX1_tell 4 none :: (o_X1_tellL ++ (wsX10 ++ []))
theorem mow_X1_tellL : ∀ w ∈ o_X1_tellL, w ∈ v_X1_tellL := fun _ h => List.mem_cons_of_mem _ (List.mem_append_left _ h)
theorem mem_X1_tellL_0 : ∀ w ∈ wsX10, w ∈ v_X1_tellL := fun _ h => List.mem_cons_of_mem _ (List.mem_append_right _ (List.mem_append_left _ h))
set_option maxRecDepth 20000 in
theorem gw_X1_tellL : v_X1_tellL.all goodWord = true := by decide +kernel
set_option maxHeartbeats 4000000 in
set_option maxRecDepth 100000 in
theorem c_X1_tellL (l : Launch) (dC : Nat → ClassId) (dI : Nat → Nat → Nat) (h0 : Nat) (v1_0 : Value) (v1_1 : Value) (v1_2 : Value) (q_103 : Nat) (cA_103 : ClassId) (a1_kinds : Int → Int) (q_104 : Nat) (cA_104 : ClassId) (a1_instead : Int → Int) (z1_changed : Int) (r0 : Int) (k0 : Int) (p0 : Int32) (hR_a1_kinds : ∀ j : Int, 0 ≤ a1_kinds j ∧ a1_kinds j ≤ 2) (hR_a1_instead : ∀ j : Int, ((-2147483648 ≤ a1_instead j ∧ a1_instead j ≤ 4294968319) ∨ a1_instead j = 1099511627776)) (hNz1_changed : 0 ≤ z1_changed ∧ z1_changed ≤ 1) (hNr : 0 ≤ r0 ∧ r0 ≤ 1023) (hNk : 0 ≤ k0 ∧ k0 ≤ 2) (sz : Nat) : Met l yX1_tell v_X1_tellL ({ frames := 0, cells := 0, slots := 0, locals := 0 }) (va_Pc [.ref h0, .int (zI (r0)), .int (zI (k0)), .int p0] (fun U => U.heap.size = sz ∧ va_P (dC, dI) vwP [(h0, .inr (1, [v1_0, v1_1, v1_2, .ref q_103, .ref q_104, .int (zI (z1_changed))])), (q_103, .inl (cA_103, 1024, .inl (fun j : Nat => zI (a1_kinds (j : Int))))), (q_104, .inl (cA_104, 1024, .inr (.inl (fun j : Nat => lI (a1_instead (j : Int))))))] U.heap ∧ va_K (dC, dI) vwP [(cA_103, .int), (cA_104, .long)] U ∧ va_D (fun _ => True) [(h0, .inr (1, [v1_0, v1_1, v1_2, .ref q_103, .ref q_104, .int (zI (z1_changed))])), (q_103, .inl (cA_103, 1024, .inl (fun j : Nat => zI (a1_kinds (j : Int))))), (q_104, .inl (cA_104, 1024, .inr (.inl (fun j : Nat => lI (a1_instead (j : Int))))))])) (va_Qv (fun _ : Unit => True) (fun (_ : Unit) (t : State) => ∃ (z0_9 : Int) (a1_9 : Int → Int) (a2_9 : Int → Int), ((0 ≤ z0_9 ∧ z0_9 ≤ 1) ∧ (∀ j : Int, 0 ≤ a1_9 j ∧ a1_9 j ≤ 2) ∧ (∀ j : Int, ((-2147483648 ≤ a2_9 j ∧ a2_9 j ≤ 4294968319) ∨ a2_9 j = 1099511627776)) ∧ (TEL a1_kinds a1_instead a1_9 a2_9 z1_changed z0_9 r0 k0)) ∧ va_P (dC, dI) vwP [(h0, .inr (1, [v1_0, v1_1, v1_2, .ref q_103, .ref q_104, .int (zI (z0_9))])), (q_103, .inl (cA_103, 1024, .inl (fun j : Nat => zI (a1_9 (j : Int))))), (q_104, .inl (cA_104, 1024, .inr (.inl (fun j : Nat => lI (a2_9 (j : Int))))))] t.heap ∧ va_K (dC, dI) vwP [(cA_103, .int), (cA_104, .long)] t ∧ va_D (va_A [(h0, .inr (1, [v1_0, v1_1, v1_2, .ref q_103, .ref q_104, .int (zI (z1_changed))])), (q_103, .inl (cA_103, 1024, .inl (fun j : Nat => zI (a1_kinds (j : Int))))), (q_104, .inl (cA_104, 1024, .inr (.inl (fun j : Nat => lI (a1_instead (j : Int))))))] sz) [(h0, .inr (1, [v1_0, v1_1, v1_2, .ref q_103, .ref q_104, .int (zI (z0_9))])), (q_103, .inl (cA_103, 1024, .inl (fun j : Nat => zI (a1_9 (j : Int))))), (q_104, .inl (cA_104, 1024, .inr (.inl (fun j : Nat => lI (a2_9 (j : Int))))))]) (va_A [(h0, .inr (1, [v1_0, v1_1, v1_2, .ref q_103, .ref q_104, .int (zI (z1_changed))])), (q_103, .inl (cA_103, 1024, .inl (fun j : Nat => zI (a1_kinds (j : Int))))), (q_104, .inl (cA_104, 1024, .inr (.inl (fun j : Nat => lI (a1_instead (j : Int))))))] sz)) 0 0 (va_A [(h0, .inr (1, [v1_0, v1_1, v1_2, .ref q_103, .ref q_104, .int (zI (z1_changed))])), (q_103, .inl (cA_103, 1024, .inl (fun j : Nat => zI (a1_kinds (j : Int))))), (q_104, .inl (cA_104, 1024, .inr (.inl (fun j : Nat => lI (a1_instead (j : Int))))))] sz) := by
  refine Met.ofW (cc := cX1_tell) (maxL := 4) (ret := none) (by decide) rfl ?_
  intro p e s m args below meth c s₁ B hml hv
  obtain ⟨rfl, hsz, hP, hK, hD0⟩ := hv
  have hx := B.exec
  have hb := B.bytes
  have hr := B.returns
  have hts := atoms_spec (ws := v_X1_tellL) B.pre
  have hown : s.vm.findClass RX1 = some m.cls := findClass_of_methodNamed B.named
  have hlocks := B.notSynchronized
  have ow : ∀ {k : Nat} {w : Cond}, o_X1_tellL[k]? = some w → w.before ([.ref h0, .int (zI (r0)), .int (zI (k0)), .int p0] : List Value).toArray s = true := fun h => hts _ (mow_X1_tellL _ (List.mem_of_getElem? h))
  subst hsz
  have hD := hD0.self (sz := s.heap.size)
  generalize hAe : va_A [(h0, .inr (1, [v1_0, v1_1, v1_2, .ref q_103, .ref q_104, .int (zI (z1_changed))])), (q_103, .inl (cA_103, 1024, .inl (fun j : Nat => zI (a1_kinds (j : Int))))), (q_104, .inl (cA_104, 1024, .inr (.inl (fun j : Nat => lI (a1_instead (j : Int))))))] s.heap.size = A at hD ⊢
  have hA : ∀ q : Nat, s.heap.size ≤ q → A q := fun q h => by rw [← hAe]; exact Or.inr h
  have hS : va_S A s.heap s.heap [] := va_S.rf
  have hP : va_P (dC, dI) vwP [(h0, .inr (1, [v1_0, v1_1, v1_2, .ref q_103, .ref q_104, .int (zI (z1_changed))])), (q_103, .inl (cA_103, 1024, .inl (fun j : Nat => zI (a1_kinds (j : Int))))), (q_104, .inl (cA_104, 1024, .inr (.inl (fun j : Nat => lI (a1_instead (j : Int))))))] s.heap := hP
  have hl := lv_entry ([.ref h0, .int (zI (r0)), .int (zI (k0)), .int p0]) (n := 4) (Nat.le_of_ble_eq_true rfl)
  rw [lg_entry_eq]
  generalize (lg_sl ([.ref h0, .int (zI (r0)), .int (zI (k0)), .int p0]) ++ List.replicate (4 - (lg_sl ([.ref h0, .int (zI (r0)), .int (zI (k0)), .int p0])).length) Slot.unset).toArray = ls at hl ⊢
  have hl : lv_has ls 4 [(0, .ref h0), (1, .int (zI (r0))), (2, .int (zI (k0))), (3, .int p0)] := hl
  obtain ⟨H, hH⟩ : ∃ H, H = s.heap := ⟨_, rfl⟩
  rw [← hH] at hP
  have hS : va_S A s.heap H [] := by rw [hH]; exact hS
  rw [← hH]
  refine zW_cap (fun Q hQ => ?_)
  refine lv_iload_n hx hb dX1_tell_0 rfl (lv_at hl 2 rfl) ?_
  refine lv_aload_n hx hb dX1_tell_1 rfl (lv_at hl 0 rfl) ?_
  refine va_get (D := (dC, dI)) (ci := 1) (v := .ref q_103) (C := RX1) (T := TX1) (N := 6) hx hb hts mem_X1_tellL_0 hown hK hP 0 rfl rfl 3 (by decide) (ow (k := 0) rfl) (fun _ h9 => h9) rfl dX1_tell_2 ?_
  refine lv_iload_n hx hb dX1_tell_5 rfl (lv_at hl 1 rfl) ?_
  refine va_iald hx hb hK hP 1 0 rfl rfl (zI_in (a := r0) (n := 1024) (by omega) (by omega) (by decide)) dX1_tell_6 ?_
  refine lv_topi (fun z ez => ?_)
  obtain rfl : z = zI (a1_kinds (r0)) := ez.trans (zI_ld (a1_kinds) (by omega) (by omega))
  have k1 := hR_a1_kinds (r0)
  refine lv_icmp_le (tgt := 41) hx hb dX1_tell_7 (by decide) (fun b7 => ?_) (fun b7 => ?_)
  · have yb7 : (k0 : Int) ≤ (a1_kinds (r0) : Int) := (zI_le (a := k0) (b := a1_kinds (r0)) (by omega) (by omega) (by omega) (by omega)).mp b7
    subst hQ
    refine W.widen (k := 0) (n := 0) (Nat.le_of_ble_eq_true rfl) (Nat.le_of_ble_eq_true rfl) ?_
    exact W.vret hx hb hr (fun t ht hW => ⟨⟨(), rfl, trivial, z1_changed, a1_kinds, a1_instead, ⟨(by omega), hR_a1_kinds, hR_a1_instead, (Or.inl ⟨by omega, rfl, rfl, rfl⟩)⟩, by rw [ht]; exact hP, va_K.moved hW.alike hK, hD⟩, hS.F ht⟩) hS.2.2 dX1_tell_41
  · have yb7 : ¬ (k0 : Int) ≤ (a1_kinds (r0) : Int) := fun q => b7 ((zI_le (a := k0) (b := a1_kinds (r0)) (by omega) (by omega) (by omega) (by omega)).mpr q)
    refine lv_aload_n hx hb dX1_tell_10 rfl (lv_at hl 0 rfl) ?_
    refine va_get (D := (dC, dI)) (ci := 1) (v := .ref q_103) (C := RX1) (T := TX1) (N := 6) hx hb hts mem_X1_tellL_0 hown hK hP 0 rfl rfl 3 (by decide) (ow (k := 0) rfl) (fun _ h9 => h9) rfl dX1_tell_11 ?_
    refine lv_iload_n hx hb dX1_tell_14 rfl (lv_at hl 1 rfl) ?_
    refine lv_iload_n hx hb dX1_tell_15 rfl (lv_at hl 2 rfl) ?_
    refine va_iast (i := zI (r0)) hx hb hK hP hD hS 1 0 rfl rfl (zI_in (a := r0) (n := 1024) (by omega) (by omega) (by decide)) dX1_tell_16 (fun H locs hP hD hS => ?_)
    have eQ : upd (fun j : Nat => zI (a1_kinds (j : Int))) (zI (r0)).toNatClampNeg (zI (k0)) = (fun j : Nat => zI (zup a1_kinds (r0) (k0) (j : Int))) := zI_st a1_kinds (e := r0) (v := k0) (by omega) (by omega)
    rw [eQ] at hP hD
    clear eQ
    have ra_2001 : ∀ j : Int, 0 ≤ zup a1_kinds (r0) (k0) j ∧ zup a1_kinds (r0) (k0) j ≤ 2 := zup_P (P := fun x9 => 0 ≤ x9 ∧ x9 ≤ 2) hR_a1_kinds (show 0 ≤ (k0) ∧ (k0) ≤ 2 by omega)
    obtain ⟨a_2001, ea_2001⟩ : ∃ a9 : Int → Int, a9 = zup a1_kinds (r0) (k0) := ⟨_, rfl⟩
    rw [← ea_2001] at hP hD ra_2001
    have hP : va_P (dC, dI) vwP [(h0, .inr (1, [v1_0, v1_1, v1_2, .ref q_103, .ref q_104, .int (zI (z1_changed))])), (q_103, .inl (cA_103, 1024, .inl (fun j : Nat => zI (a_2001 (j : Int))))), (q_104, .inl (cA_104, 1024, .inr (.inl (fun j : Nat => lI (a1_instead (j : Int))))))] H := hP
    have hD : va_D A [(h0, .inr (1, [v1_0, v1_1, v1_2, .ref q_103, .ref q_104, .int (zI (z1_changed))])), (q_103, .inl (cA_103, 1024, .inl (fun j : Nat => zI (a_2001 (j : Int))))), (q_104, .inl (cA_104, 1024, .inr (.inl (fun j : Nat => lI (a1_instead (j : Int))))))] := hD
    refine lv_aload_n hx hb dX1_tell_17 rfl (lv_at hl 0 rfl) ?_
    refine va_get (D := (dC, dI)) (ci := 1) (v := .ref q_104) (C := RX1) (T := TX1) (N := 6) hx hb hts mem_X1_tellL_0 hown hK hP 0 rfl rfl 4 (by decide) (ow (k := 1) rfl) (fun _ h9 => h9) rfl dX1_tell_18 ?_
    refine lv_iload_n hx hb dX1_tell_21 rfl (lv_at hl 1 rfl) ?_
    refine lv_iload_n hx hb dX1_tell_22 rfl (lv_at hl 2 rfl) ?_
    refine lv_iconst (v := 1) hx hb dX1_tell_23 (by decide) ?_
    refine lv_icmp_ne (tgt := 32) hx hb dX1_tell_24 (by decide) (fun b24 => ?_) (fun b24 => ?_)
    · have yb24 : ¬ (k0 : Int) = (1 : Int) := fun q => b24 ((zI_eq (a := k0) (b := 1) (by omega) (by omega) (by omega) (by omega)).mpr q)
      refine lv_ldc2 (v := 1099511627776) hx hb hown (ow (k := 2) rfl) dX1_tell_32 ?_
      refine lv_topl (fun z ez => ?_)
      obtain rfl : z = lI (1099511627776) := ez
      refine va_last (i := zI (r0)) hx hb hK hP hD hS 2 1 rfl rfl (zI_in (a := r0) (n := 1024) (by omega) (by omega) (by decide)) dX1_tell_35 (fun H locs hP hD hS => ?_)
      have eQ : vp_updL (fun j : Nat => lI (a1_instead (j : Int))) (zI (r0)).toNatClampNeg (lI (1099511627776)) = (fun j : Nat => lI (zup a1_instead (r0) (1099511627776) (j : Int))) := lI_st a1_instead (e := r0) (v := 1099511627776) (by omega) (by omega)
      rw [eQ] at hP hD
      clear eQ
      have ra_2002 : ∀ j : Int, ((-2147483648 ≤ zup a1_instead (r0) (1099511627776) j ∧ zup a1_instead (r0) (1099511627776) j ≤ 4294968319) ∨ zup a1_instead (r0) (1099511627776) j = 1099511627776) := zup_P (P := fun x9 => ((-2147483648 ≤ x9 ∧ x9 ≤ 4294968319) ∨ x9 = 1099511627776)) hR_a1_instead (show ((-2147483648 ≤ (1099511627776) ∧ (1099511627776) ≤ 4294968319) ∨ (1099511627776) = 1099511627776) by omega)
      obtain ⟨a_2002, ea_2002⟩ : ∃ a9 : Int → Int, a9 = zup a1_instead (r0) (1099511627776) := ⟨_, rfl⟩
      rw [← ea_2002] at hP hD ra_2002
      have hP : va_P (dC, dI) vwP [(h0, .inr (1, [v1_0, v1_1, v1_2, .ref q_103, .ref q_104, .int (zI (z1_changed))])), (q_103, .inl (cA_103, 1024, .inl (fun j : Nat => zI (a_2001 (j : Int))))), (q_104, .inl (cA_104, 1024, .inr (.inl (fun j : Nat => lI (a_2002 (j : Int))))))] H := hP
      have hD : va_D A [(h0, .inr (1, [v1_0, v1_1, v1_2, .ref q_103, .ref q_104, .int (zI (z1_changed))])), (q_103, .inl (cA_103, 1024, .inl (fun j : Nat => zI (a_2001 (j : Int))))), (q_104, .inl (cA_104, 1024, .inr (.inl (fun j : Nat => lI (a_2002 (j : Int))))))] := hD
      refine lv_aload_n hx hb dX1_tell_36 rfl (lv_at hl 0 rfl) ?_
      refine lv_iconst (v := 1) hx hb dX1_tell_37 (by decide) ?_
      refine va_put (D := (dC, dI)) (ci := 1) (v := .int 1) (ty := .boolean) (C := RX1) (T := TX1) (N := 6) hx hb hts mem_X1_tellL_0 tyX1 tyX1_ok nmX1 hown hK hP hD hS 0 rfl rfl 5 (by decide) (ow (k := 3) rfl) (fun _ h9 => h9) rfl (by decide +kernel) rfl rfl (Nat.le_of_ble_eq_true rfl) dX1_tell_38 (fun H locs hP hD hS => ?_)
      have hP : va_P (dC, dI) vwP [(h0, .inr (1, [v1_0, v1_1, v1_2, .ref q_103, .ref q_104, .int 1])), (q_103, .inl (cA_103, 1024, .inl (fun j : Nat => zI (a_2001 (j : Int))))), (q_104, .inl (cA_104, 1024, .inr (.inl (fun j : Nat => lI (a_2002 (j : Int))))))] H := hP
      have hD : va_D A [(h0, .inr (1, [v1_0, v1_1, v1_2, .ref q_103, .ref q_104, .int 1])), (q_103, .inl (cA_103, 1024, .inl (fun j : Nat => zI (a_2001 (j : Int))))), (q_104, .inl (cA_104, 1024, .inr (.inl (fun j : Nat => lI (a_2002 (j : Int))))))] := hD
      subst hQ
      refine W.widen (k := 0) (n := 0) (Nat.le_of_ble_eq_true rfl) (Nat.le_of_ble_eq_true rfl) ?_
      exact W.vret hx hb hr (fun t ht hW => ⟨⟨(), rfl, trivial, 1, a_2001, a_2002, ⟨(by omega), ra_2001, ra_2002, (Or.inr ⟨by omega, by omega, ea_2001, _, ea_2002, fun _ => by omega, fun _ => by omega⟩)⟩, by rw [ht]; exact hP, va_K.moved hW.alike hK, hD⟩, hS.F ht⟩) hS.2.2 dX1_tell_41
    · have yb24 : (k0 : Int) = (1 : Int) := (zI_eq (a := k0) (b := 1) (by omega) (by omega) (by omega) (by omega)).mp b24
      refine lv_iload_n hx hb dX1_tell_27 rfl (lv_at hl 3 rfl) ?_
      refine lv_i2l (v := lI (p0).toInt) hx hb dX1_tell_28 (xI_l _) ?_
      have kx_2003 := xI_rng (p0)
      refine lv_goto (tgt := 35) hx hb dX1_tell_29 (by decide) ?_
      refine va_last (i := zI (r0)) hx hb hK hP hD hS 2 1 rfl rfl (zI_in (a := r0) (n := 1024) (by omega) (by omega) (by decide)) dX1_tell_35 (fun H locs hP hD hS => ?_)
      have eQ : vp_updL (fun j : Nat => lI (a1_instead (j : Int))) (zI (r0)).toNatClampNeg (lI ((p0).toInt)) = (fun j : Nat => lI (zup a1_instead (r0) ((p0).toInt) (j : Int))) := lI_st a1_instead (e := r0) (v := (p0).toInt) (by omega) (by omega)
      rw [eQ] at hP hD
      clear eQ
      have ra_2004 : ∀ j : Int, ((-2147483648 ≤ zup a1_instead (r0) ((p0).toInt) j ∧ zup a1_instead (r0) ((p0).toInt) j ≤ 4294968319) ∨ zup a1_instead (r0) ((p0).toInt) j = 1099511627776) := zup_P (P := fun x9 => ((-2147483648 ≤ x9 ∧ x9 ≤ 4294968319) ∨ x9 = 1099511627776)) hR_a1_instead (show ((-2147483648 ≤ ((p0).toInt) ∧ ((p0).toInt) ≤ 4294968319) ∨ ((p0).toInt) = 1099511627776) by omega)
      obtain ⟨a_2004, ea_2004⟩ : ∃ a9 : Int → Int, a9 = zup a1_instead (r0) ((p0).toInt) := ⟨_, rfl⟩
      rw [← ea_2004] at hP hD ra_2004
      have hP : va_P (dC, dI) vwP [(h0, .inr (1, [v1_0, v1_1, v1_2, .ref q_103, .ref q_104, .int (zI (z1_changed))])), (q_103, .inl (cA_103, 1024, .inl (fun j : Nat => zI (a_2001 (j : Int))))), (q_104, .inl (cA_104, 1024, .inr (.inl (fun j : Nat => lI (a_2004 (j : Int))))))] H := hP
      have hD : va_D A [(h0, .inr (1, [v1_0, v1_1, v1_2, .ref q_103, .ref q_104, .int (zI (z1_changed))])), (q_103, .inl (cA_103, 1024, .inl (fun j : Nat => zI (a_2001 (j : Int))))), (q_104, .inl (cA_104, 1024, .inr (.inl (fun j : Nat => lI (a_2004 (j : Int))))))] := hD
      refine lv_aload_n hx hb dX1_tell_36 rfl (lv_at hl 0 rfl) ?_
      refine lv_iconst (v := 1) hx hb dX1_tell_37 (by decide) ?_
      refine va_put (D := (dC, dI)) (ci := 1) (v := .int 1) (ty := .boolean) (C := RX1) (T := TX1) (N := 6) hx hb hts mem_X1_tellL_0 tyX1 tyX1_ok nmX1 hown hK hP hD hS 0 rfl rfl 5 (by decide) (ow (k := 3) rfl) (fun _ h9 => h9) rfl (by decide +kernel) rfl rfl (Nat.le_of_ble_eq_true rfl) dX1_tell_38 (fun H locs hP hD hS => ?_)
      have hP : va_P (dC, dI) vwP [(h0, .inr (1, [v1_0, v1_1, v1_2, .ref q_103, .ref q_104, .int 1])), (q_103, .inl (cA_103, 1024, .inl (fun j : Nat => zI (a_2001 (j : Int))))), (q_104, .inl (cA_104, 1024, .inr (.inl (fun j : Nat => lI (a_2004 (j : Int))))))] H := hP
      have hD : va_D A [(h0, .inr (1, [v1_0, v1_1, v1_2, .ref q_103, .ref q_104, .int 1])), (q_103, .inl (cA_103, 1024, .inl (fun j : Nat => zI (a_2001 (j : Int))))), (q_104, .inl (cA_104, 1024, .inr (.inl (fun j : Nat => lI (a_2004 (j : Int))))))] := hD
      subst hQ
      refine W.widen (k := 0) (n := 0) (Nat.le_of_ble_eq_true rfl) (Nat.le_of_ble_eq_true rfl) ?_
      exact W.vret hx hb hr (fun t ht hW => ⟨⟨(), rfl, trivial, 1, a_2001, a_2004, ⟨(by omega), ra_2001, ra_2004, (Or.inr ⟨by omega, by omega, ea_2001, _, ea_2004, fun _ => by omega, fun _ => by omega⟩)⟩, by rw [ht]; exact hP, va_K.moved hW.alike hK, hD⟩, hS.F ht⟩) hS.2.2 dX1_tell_41
def o_X1_isOpenL : List Cond := [.fieldLink RX1 15 "SsaForge$Constants" "firstOpen" "[Z", .fieldLink RX1 18 "SsaForge$Constants" "secondOpen" "[Z", .fieldLink RX1 161 "SsaForge$Code" "goalTwo" "[I", .fieldLink RX1 158 "SsaForge$Code" "goalOne" "[I"]
def v_X1_isOpenL : List Cond := .code yX1_isOpen cX1_isOpen 4 (some .boolean) :: (o_X1_isOpenL ++ (wsX10 ++ (wsX00 ++ [])))
theorem mow_X1_isOpenL : ∀ w ∈ o_X1_isOpenL, w ∈ v_X1_isOpenL := fun _ h => List.mem_cons_of_mem _ (List.mem_append_left _ h)
theorem mem_X1_isOpenL_0 : ∀ w ∈ wsX10, w ∈ v_X1_isOpenL := fun _ h => List.mem_cons_of_mem _ (List.mem_append_right _ (List.mem_append_left _ h))
theorem mem_X1_isOpenL_1 : ∀ w ∈ wsX00, w ∈ v_X1_isOpenL := fun _ h => List.mem_cons_of_mem _ (List.mem_append_right _ (List.mem_append_right _ (List.mem_append_left _ h)))
set_option maxRecDepth 20000 in
theorem gw_X1_isOpenL : v_X1_isOpenL.all goodWord = true := by decide +kernel
set_option maxHeartbeats 4000000 in
set_option maxRecDepth 100000 in
theorem c_X1_isOpenL (l : Launch) (dC : Nat → ClassId) (dI : Nat → Nat → Nat) (h0 : Nat) (v1_0 : Value) (q_101 : Nat) (cA_101 : ClassId) (a1_firstOpen : Int → Int) (q_102 : Nat) (cA_102 : ClassId) (a1_secondOpen : Int → Int) (v1_3 : Value) (v1_4 : Value) (v1_5 : Value) (hc : Nat) (v_0 : Value) (v_1 : Value) (v_2 : Value) (v_3 : Value) (v_4 : Value) (v_5 : Value) (v_6 : Value) (v_7 : Value) (v_8 : Value) (v_9 : Value) (v_10 : Value) (q_711 : Nat) (cA_711 : ClassId) (a_11 : Int → Int) (q_712 : Nat) (cA_712 : ClassId) (a_12 : Int → Int) (v_13 : Value) (v_14 : Value) (v_15 : Value) (v_16 : Value) (v_17 : Value) (v_18 : Value) (b : Int) (d : Int) (hR_a1_firstOpen : ∀ j : Int, 0 ≤ a1_firstOpen j ∧ a1_firstOpen j ≤ 1) (hR_a1_secondOpen : ∀ j : Int, 0 ≤ a1_secondOpen j ∧ a1_secondOpen j ≤ 1) (hR_a_11 : ∀ j : Int, -1 ≤ a_11 j ∧ a_11 j ≤ 299) (hR_a_12 : ∀ j : Int, -1 ≤ a_12 j ∧ a_12 j ≤ 299) (hNb : 0 ≤ b ∧ b < 300) (hNd : 0 ≤ d ∧ d < 300) (sz : Nat) : Met l yX1_isOpen v_X1_isOpenL ({ frames := 0, cells := 0, slots := 0, locals := 0 }) (va_Pc [.ref h0, .ref hc, .int (zI (b)), .int (zI (d))] (fun U => U.heap.size = sz ∧ va_P (dC, dI) vwP [(h0, .inr (1, [v1_0, .ref q_101, .ref q_102, v1_3, v1_4, v1_5])), (q_101, .inl (cA_101, 300, .inl (fun j : Nat => zI (a1_firstOpen (j : Int))))), (q_102, .inl (cA_102, 300, .inl (fun j : Nat => zI (a1_secondOpen (j : Int))))), (hc, .inr (0, [v_0, v_1, v_2, v_3, v_4, v_5, v_6, v_7, v_8, v_9, v_10, .ref q_711, .ref q_712, v_13, v_14, v_15, v_16, v_17, v_18])), (q_711, .inl (cA_711, 300, .inl (fun j : Nat => zI (a_11 (j : Int))))), (q_712, .inl (cA_712, 300, .inl (fun j : Nat => zI (a_12 (j : Int)))))] U.heap ∧ va_K (dC, dI) vwP [(cA_101, .boolean), (cA_102, .boolean), (cA_711, .int), (cA_712, .int)] U ∧ va_D (fun _ => True) [(h0, .inr (1, [v1_0, .ref q_101, .ref q_102, v1_3, v1_4, v1_5])), (q_101, .inl (cA_101, 300, .inl (fun j : Nat => zI (a1_firstOpen (j : Int))))), (q_102, .inl (cA_102, 300, .inl (fun j : Nat => zI (a1_secondOpen (j : Int))))), (hc, .inr (0, [v_0, v_1, v_2, v_3, v_4, v_5, v_6, v_7, v_8, v_9, v_10, .ref q_711, .ref q_712, v_13, v_14, v_15, v_16, v_17, v_18])), (q_711, .inl (cA_711, 300, .inl (fun j : Nat => zI (a_11 (j : Int))))), (q_712, .inl (cA_712, 300, .inl (fun j : Nat => zI (a_12 (j : Int)))))])) (va_Qi (fun (r : Int32) (_ : Unit) => ∃ z : Int, r = zI z ∧ ((0 ≤ z ∧ z ≤ 1) ∧ (z = 1 ↔ OPN a_11 a_12 a1_firstOpen a1_secondOpen (b) (d)))) (fun (_ : Unit) (t : State) => va_P (dC, dI) vwP [(h0, .inr (1, [v1_0, .ref q_101, .ref q_102, v1_3, v1_4, v1_5])), (q_101, .inl (cA_101, 300, .inl (fun j : Nat => zI (a1_firstOpen (j : Int))))), (q_102, .inl (cA_102, 300, .inl (fun j : Nat => zI (a1_secondOpen (j : Int))))), (hc, .inr (0, [v_0, v_1, v_2, v_3, v_4, v_5, v_6, v_7, v_8, v_9, v_10, .ref q_711, .ref q_712, v_13, v_14, v_15, v_16, v_17, v_18])), (q_711, .inl (cA_711, 300, .inl (fun j : Nat => zI (a_11 (j : Int))))), (q_712, .inl (cA_712, 300, .inl (fun j : Nat => zI (a_12 (j : Int)))))] t.heap ∧ va_K (dC, dI) vwP [(cA_101, .boolean), (cA_102, .boolean), (cA_711, .int), (cA_712, .int)] t ∧ va_D (va_A [(h0, .inr (1, [v1_0, .ref q_101, .ref q_102, v1_3, v1_4, v1_5])), (q_101, .inl (cA_101, 300, .inl (fun j : Nat => zI (a1_firstOpen (j : Int))))), (q_102, .inl (cA_102, 300, .inl (fun j : Nat => zI (a1_secondOpen (j : Int))))), (hc, .inr (0, [v_0, v_1, v_2, v_3, v_4, v_5, v_6, v_7, v_8, v_9, v_10, .ref q_711, .ref q_712, v_13, v_14, v_15, v_16, v_17, v_18])), (q_711, .inl (cA_711, 300, .inl (fun j : Nat => zI (a_11 (j : Int))))), (q_712, .inl (cA_712, 300, .inl (fun j : Nat => zI (a_12 (j : Int)))))] sz) [(h0, .inr (1, [v1_0, .ref q_101, .ref q_102, v1_3, v1_4, v1_5])), (q_101, .inl (cA_101, 300, .inl (fun j : Nat => zI (a1_firstOpen (j : Int))))), (q_102, .inl (cA_102, 300, .inl (fun j : Nat => zI (a1_secondOpen (j : Int))))), (hc, .inr (0, [v_0, v_1, v_2, v_3, v_4, v_5, v_6, v_7, v_8, v_9, v_10, .ref q_711, .ref q_712, v_13, v_14, v_15, v_16, v_17, v_18])), (q_711, .inl (cA_711, 300, .inl (fun j : Nat => zI (a_11 (j : Int))))), (q_712, .inl (cA_712, 300, .inl (fun j : Nat => zI (a_12 (j : Int)))))]) (va_A [(h0, .inr (1, [v1_0, .ref q_101, .ref q_102, v1_3, v1_4, v1_5])), (q_101, .inl (cA_101, 300, .inl (fun j : Nat => zI (a1_firstOpen (j : Int))))), (q_102, .inl (cA_102, 300, .inl (fun j : Nat => zI (a1_secondOpen (j : Int))))), (hc, .inr (0, [v_0, v_1, v_2, v_3, v_4, v_5, v_6, v_7, v_8, v_9, v_10, .ref q_711, .ref q_712, v_13, v_14, v_15, v_16, v_17, v_18])), (q_711, .inl (cA_711, 300, .inl (fun j : Nat => zI (a_11 (j : Int))))), (q_712, .inl (cA_712, 300, .inl (fun j : Nat => zI (a_12 (j : Int)))))] sz)) 0 0 (va_A [(h0, .inr (1, [v1_0, .ref q_101, .ref q_102, v1_3, v1_4, v1_5])), (q_101, .inl (cA_101, 300, .inl (fun j : Nat => zI (a1_firstOpen (j : Int))))), (q_102, .inl (cA_102, 300, .inl (fun j : Nat => zI (a1_secondOpen (j : Int))))), (hc, .inr (0, [v_0, v_1, v_2, v_3, v_4, v_5, v_6, v_7, v_8, v_9, v_10, .ref q_711, .ref q_712, v_13, v_14, v_15, v_16, v_17, v_18])), (q_711, .inl (cA_711, 300, .inl (fun j : Nat => zI (a_11 (j : Int))))), (q_712, .inl (cA_712, 300, .inl (fun j : Nat => zI (a_12 (j : Int)))))] sz) := by
  refine Met.ofW (cc := cX1_isOpen) (maxL := 4) (ret := (some .boolean)) (by decide) rfl ?_
  intro p e s m args below meth c s₁ B hml hv
  obtain ⟨rfl, hsz, hP, hK, hD0⟩ := hv
  have hx := B.exec
  have hb := B.bytes
  have hr := B.returns
  have hts := atoms_spec (ws := v_X1_isOpenL) B.pre
  have hown : s.vm.findClass RX1 = some m.cls := findClass_of_methodNamed B.named
  have hlocks := B.notSynchronized
  have ow : ∀ {k : Nat} {w : Cond}, o_X1_isOpenL[k]? = some w → w.before ([.ref h0, .ref hc, .int (zI (b)), .int (zI (d))] : List Value).toArray s = true := fun h => hts _ (mow_X1_isOpenL _ (List.mem_of_getElem? h))
  subst hsz
  have hD := hD0.self (sz := s.heap.size)
  generalize hAe : va_A [(h0, .inr (1, [v1_0, .ref q_101, .ref q_102, v1_3, v1_4, v1_5])), (q_101, .inl (cA_101, 300, .inl (fun j : Nat => zI (a1_firstOpen (j : Int))))), (q_102, .inl (cA_102, 300, .inl (fun j : Nat => zI (a1_secondOpen (j : Int))))), (hc, .inr (0, [v_0, v_1, v_2, v_3, v_4, v_5, v_6, v_7, v_8, v_9, v_10, .ref q_711, .ref q_712, v_13, v_14, v_15, v_16, v_17, v_18])), (q_711, .inl (cA_711, 300, .inl (fun j : Nat => zI (a_11 (j : Int))))), (q_712, .inl (cA_712, 300, .inl (fun j : Nat => zI (a_12 (j : Int)))))] s.heap.size = A at hD ⊢
  have hA : ∀ q : Nat, s.heap.size ≤ q → A q := fun q h => by rw [← hAe]; exact Or.inr h
  have hS : va_S A s.heap s.heap [] := va_S.rf
  have hP : va_P (dC, dI) vwP [(h0, .inr (1, [v1_0, .ref q_101, .ref q_102, v1_3, v1_4, v1_5])), (q_101, .inl (cA_101, 300, .inl (fun j : Nat => zI (a1_firstOpen (j : Int))))), (q_102, .inl (cA_102, 300, .inl (fun j : Nat => zI (a1_secondOpen (j : Int))))), (hc, .inr (0, [v_0, v_1, v_2, v_3, v_4, v_5, v_6, v_7, v_8, v_9, v_10, .ref q_711, .ref q_712, v_13, v_14, v_15, v_16, v_17, v_18])), (q_711, .inl (cA_711, 300, .inl (fun j : Nat => zI (a_11 (j : Int))))), (q_712, .inl (cA_712, 300, .inl (fun j : Nat => zI (a_12 (j : Int)))))] s.heap := hP
  have hl := lv_entry ([.ref h0, .ref hc, .int (zI (b)), .int (zI (d))]) (n := 4) (Nat.le_of_ble_eq_true rfl)
  rw [lg_entry_eq]
  generalize (lg_sl ([.ref h0, .ref hc, .int (zI (b)), .int (zI (d))]) ++ List.replicate (4 - (lg_sl ([.ref h0, .ref hc, .int (zI (b)), .int (zI (d))])).length) Slot.unset).toArray = ls at hl ⊢
  have hl : lv_has ls 4 [(0, .ref h0), (1, .ref hc), (2, .int (zI (b))), (3, .int (zI (d)))] := hl
  obtain ⟨H, hH⟩ : ∃ H, H = s.heap := ⟨_, rfl⟩
  rw [← hH] at hP
  have hS : va_S A s.heap H [] := by rw [hH]; exact hS
  rw [← hH]
  refine zW_cap (fun Q hQ => ?_)
  have hy1 := hR_a1_firstOpen b
  have hy2 := hR_a1_secondOpen b
  refine lv_aload_n hx hb dX1_isOpen_0 rfl (lv_at hl 0 rfl) ?_
  refine va_get (D := (dC, dI)) (ci := 1) (v := .ref q_101) (C := RX1) (T := TX1) (N := 6) hx hb hts mem_X1_isOpenL_0 hown hK hP 0 rfl rfl 1 (by decide) (ow (k := 0) rfl) (fun _ h9 => h9) rfl dX1_isOpen_1 ?_
  refine lv_iload_n hx hb dX1_isOpen_4 rfl (lv_at hl 2 rfl) ?_
  refine va_zald hx hb hK hP 1 0 rfl rfl (zI_in (a := b) (n := 300) (by omega) (by omega) (by decide)) dX1_isOpen_5 ?_
  refine lv_topi (fun z ez => ?_)
  obtain rfl : z = zI (a1_firstOpen (b)) := ez.trans (zI_ld (a1_firstOpen) (by omega) (by omega))
  have k1 := hR_a1_firstOpen (b)
  refine lv_if_eq (tgt := 19) hx hb dX1_isOpen_6 (by decide) (fun b6 => ?_) (fun b6 => ?_)
  · have yb6 : (a1_firstOpen (b) : Int) = (0 : Int) := (zI_eq (a := a1_firstOpen (b)) (b := 0) (by omega) (by omega) (by omega) (by omega)).mp b6
    refine lv_aload_n hx hb dX1_isOpen_19 rfl (lv_at hl 0 rfl) ?_
    refine va_get (D := (dC, dI)) (ci := 1) (v := .ref q_102) (C := RX1) (T := TX1) (N := 6) hx hb hts mem_X1_isOpenL_0 hown hK hP 0 rfl rfl 2 (by decide) (ow (k := 1) rfl) (fun _ h9 => h9) rfl dX1_isOpen_20 ?_
    refine lv_iload_n hx hb dX1_isOpen_23 rfl (lv_at hl 2 rfl) ?_
    refine va_zald hx hb hK hP 2 1 rfl rfl (zI_in (a := b) (n := 300) (by omega) (by omega) (by decide)) dX1_isOpen_24 ?_
    refine lv_topi (fun z ez => ?_)
    obtain rfl : z = zI (a1_secondOpen (b)) := ez.trans (zI_ld (a1_secondOpen) (by omega) (by omega))
    have k2 := hR_a1_secondOpen (b)
    refine lv_if_eq (tgt := 42) hx hb dX1_isOpen_25 (by decide) (fun b25 => ?_) (fun b25 => ?_)
    · have yb25 : (a1_secondOpen (b) : Int) = (0 : Int) := (zI_eq (a := a1_secondOpen (b)) (b := 0) (by omega) (by omega) (by omega) (by omega)).mp b25
      refine lv_iconst (v := 0) hx hb dX1_isOpen_42 (by decide) ?_
      subst hQ
      refine W.widen (k := 0) (n := 0) (Nat.le_of_ble_eq_true rfl) (Nat.le_of_ble_eq_true rfl) ?_
      exact W.zret (v := 0) hx hb hr (by decide) (fun t ht hW => ⟨⟨0, (), rfl, ⟨0, rfl, ⟨by omega, by unfold OPN; omega⟩⟩, by rw [ht]; exact hP, va_K.moved hW.alike hK, hD⟩, hS.F ht⟩) hS.2.2 dX1_isOpen_43
    · have yb25 : ¬ (a1_secondOpen (b) : Int) = (0 : Int) := fun q => b25 ((zI_eq (a := a1_secondOpen (b)) (b := 0) (by omega) (by omega) (by omega) (by omega)).mpr q)
      refine lv_aload_n hx hb dX1_isOpen_28 rfl (lv_at hl 1 rfl) ?_
      refine va_get (D := (dC, dI)) (ci := 0) (v := .ref q_712) (C := RX0) (T := TX0) (N := 19) hx hb hts mem_X1_isOpenL_1 hown hK hP 3 rfl rfl 12 (by decide) (ow (k := 2) rfl) (fun _ h9 => h9) rfl dX1_isOpen_29 ?_
      refine lv_iload_n hx hb dX1_isOpen_32 rfl (lv_at hl 2 rfl) ?_
      refine va_iald hx hb hK hP 5 3 rfl rfl (zI_in (a := b) (n := 300) (by omega) (by omega) (by decide)) dX1_isOpen_33 ?_
      refine lv_topi (fun z ez => ?_)
      obtain rfl : z = zI (a_12 (b)) := ez.trans (zI_ld (a_12) (by omega) (by omega))
      have k3 := hR_a_12 (b)
      refine lv_iload_n hx hb dX1_isOpen_34 rfl (lv_at hl 3 rfl) ?_
      refine lv_icmp_ne (tgt := 42) hx hb dX1_isOpen_35 (by decide) (fun b35 => ?_) (fun b35 => ?_)
      · have yb35 : ¬ (a_12 (b) : Int) = (d : Int) := fun q => b35 ((zI_eq (a := a_12 (b)) (b := d) (by omega) (by omega) (by omega) (by omega)).mpr q)
        refine lv_iconst (v := 0) hx hb dX1_isOpen_42 (by decide) ?_
        subst hQ
        refine W.widen (k := 0) (n := 0) (Nat.le_of_ble_eq_true rfl) (Nat.le_of_ble_eq_true rfl) ?_
        exact W.zret (v := 0) hx hb hr (by decide) (fun t ht hW => ⟨⟨0, (), rfl, ⟨0, rfl, ⟨by omega, by unfold OPN; omega⟩⟩, by rw [ht]; exact hP, va_K.moved hW.alike hK, hD⟩, hS.F ht⟩) hS.2.2 dX1_isOpen_43
      · have yb35 : (a_12 (b) : Int) = (d : Int) := (zI_eq (a := a_12 (b)) (b := d) (by omega) (by omega) (by omega) (by omega)).mp b35
        refine lv_iconst (v := 1) hx hb dX1_isOpen_38 (by decide) ?_
        refine lv_goto (tgt := 43) hx hb dX1_isOpen_39 (by decide) ?_
        subst hQ
        refine W.widen (k := 0) (n := 0) (Nat.le_of_ble_eq_true rfl) (Nat.le_of_ble_eq_true rfl) ?_
        exact W.zret (v := 1) hx hb hr (by decide) (fun t ht hW => ⟨⟨1, (), rfl, ⟨1, rfl, ⟨by omega, by unfold OPN; omega⟩⟩, by rw [ht]; exact hP, va_K.moved hW.alike hK, hD⟩, hS.F ht⟩) hS.2.2 dX1_isOpen_43
  · have yb6 : ¬ (a1_firstOpen (b) : Int) = (0 : Int) := fun q => b6 ((zI_eq (a := a1_firstOpen (b)) (b := 0) (by omega) (by omega) (by omega) (by omega)).mpr q)
    refine lv_aload_n hx hb dX1_isOpen_9 rfl (lv_at hl 1 rfl) ?_
    refine va_get (D := (dC, dI)) (ci := 0) (v := .ref q_711) (C := RX0) (T := TX0) (N := 19) hx hb hts mem_X1_isOpenL_1 hown hK hP 3 rfl rfl 11 (by decide) (ow (k := 3) rfl) (fun _ h9 => h9) rfl dX1_isOpen_10 ?_
    refine lv_iload_n hx hb dX1_isOpen_13 rfl (lv_at hl 2 rfl) ?_
    refine va_iald hx hb hK hP 4 2 rfl rfl (zI_in (a := b) (n := 300) (by omega) (by omega) (by decide)) dX1_isOpen_14 ?_
    refine lv_topi (fun z ez => ?_)
    obtain rfl : z = zI (a_11 (b)) := ez.trans (zI_ld (a_11) (by omega) (by omega))
    have k4 := hR_a_11 (b)
    refine lv_iload_n hx hb dX1_isOpen_15 rfl (lv_at hl 3 rfl) ?_
    refine lv_icmp_eq (tgt := 38) hx hb dX1_isOpen_16 (by decide) (fun b16 => ?_) (fun b16 => ?_)
    · have yb16 : (a_11 (b) : Int) = (d : Int) := (zI_eq (a := a_11 (b)) (b := d) (by omega) (by omega) (by omega) (by omega)).mp b16
      refine lv_iconst (v := 1) hx hb dX1_isOpen_38 (by decide) ?_
      refine lv_goto (tgt := 43) hx hb dX1_isOpen_39 (by decide) ?_
      subst hQ
      refine W.widen (k := 0) (n := 0) (Nat.le_of_ble_eq_true rfl) (Nat.le_of_ble_eq_true rfl) ?_
      exact W.zret (v := 1) hx hb hr (by decide) (fun t ht hW => ⟨⟨1, (), rfl, ⟨1, rfl, ⟨by omega, by unfold OPN; omega⟩⟩, by rw [ht]; exact hP, va_K.moved hW.alike hK, hD⟩, hS.F ht⟩) hS.2.2 dX1_isOpen_43
    · have yb16 : ¬ (a_11 (b) : Int) = (d : Int) := fun q => b16 ((zI_eq (a := a_11 (b)) (b := d) (by omega) (by omega) (by omega) (by omega)).mpr q)
      refine lv_aload_n hx hb dX1_isOpen_19 rfl (lv_at hl 0 rfl) ?_
      refine va_get (D := (dC, dI)) (ci := 1) (v := .ref q_102) (C := RX1) (T := TX1) (N := 6) hx hb hts mem_X1_isOpenL_0 hown hK hP 0 rfl rfl 2 (by decide) (ow (k := 1) rfl) (fun _ h9 => h9) rfl dX1_isOpen_20 ?_
      refine lv_iload_n hx hb dX1_isOpen_23 rfl (lv_at hl 2 rfl) ?_
      refine va_zald hx hb hK hP 2 1 rfl rfl (zI_in (a := b) (n := 300) (by omega) (by omega) (by decide)) dX1_isOpen_24 ?_
      refine lv_topi (fun z ez => ?_)
      obtain rfl : z = zI (a1_secondOpen (b)) := ez.trans (zI_ld (a1_secondOpen) (by omega) (by omega))
      have k5 := hR_a1_secondOpen (b)
      refine lv_if_eq (tgt := 42) hx hb dX1_isOpen_25 (by decide) (fun b25 => ?_) (fun b25 => ?_)
      · have yb25 : (a1_secondOpen (b) : Int) = (0 : Int) := (zI_eq (a := a1_secondOpen (b)) (b := 0) (by omega) (by omega) (by omega) (by omega)).mp b25
        refine lv_iconst (v := 0) hx hb dX1_isOpen_42 (by decide) ?_
        subst hQ
        refine W.widen (k := 0) (n := 0) (Nat.le_of_ble_eq_true rfl) (Nat.le_of_ble_eq_true rfl) ?_
        exact W.zret (v := 0) hx hb hr (by decide) (fun t ht hW => ⟨⟨0, (), rfl, ⟨0, rfl, ⟨by omega, by unfold OPN; omega⟩⟩, by rw [ht]; exact hP, va_K.moved hW.alike hK, hD⟩, hS.F ht⟩) hS.2.2 dX1_isOpen_43
      · have yb25 : ¬ (a1_secondOpen (b) : Int) = (0 : Int) := fun q => b25 ((zI_eq (a := a1_secondOpen (b)) (b := 0) (by omega) (by omega) (by omega) (by omega)).mpr q)
        refine lv_aload_n hx hb dX1_isOpen_28 rfl (lv_at hl 1 rfl) ?_
        refine va_get (D := (dC, dI)) (ci := 0) (v := .ref q_712) (C := RX0) (T := TX0) (N := 19) hx hb hts mem_X1_isOpenL_1 hown hK hP 3 rfl rfl 12 (by decide) (ow (k := 2) rfl) (fun _ h9 => h9) rfl dX1_isOpen_29 ?_
        refine lv_iload_n hx hb dX1_isOpen_32 rfl (lv_at hl 2 rfl) ?_
        refine va_iald hx hb hK hP 5 3 rfl rfl (zI_in (a := b) (n := 300) (by omega) (by omega) (by decide)) dX1_isOpen_33 ?_
        refine lv_topi (fun z ez => ?_)
        obtain rfl : z = zI (a_12 (b)) := ez.trans (zI_ld (a_12) (by omega) (by omega))
        have k6 := hR_a_12 (b)
        refine lv_iload_n hx hb dX1_isOpen_34 rfl (lv_at hl 3 rfl) ?_
        refine lv_icmp_ne (tgt := 42) hx hb dX1_isOpen_35 (by decide) (fun b35 => ?_) (fun b35 => ?_)
        · have yb35 : ¬ (a_12 (b) : Int) = (d : Int) := fun q => b35 ((zI_eq (a := a_12 (b)) (b := d) (by omega) (by omega) (by omega) (by omega)).mpr q)
          refine lv_iconst (v := 0) hx hb dX1_isOpen_42 (by decide) ?_
          subst hQ
          refine W.widen (k := 0) (n := 0) (Nat.le_of_ble_eq_true rfl) (Nat.le_of_ble_eq_true rfl) ?_
          exact W.zret (v := 0) hx hb hr (by decide) (fun t ht hW => ⟨⟨0, (), rfl, ⟨0, rfl, ⟨by omega, by unfold OPN; omega⟩⟩, by rw [ht]; exact hP, va_K.moved hW.alike hK, hD⟩, hS.F ht⟩) hS.2.2 dX1_isOpen_43
        · have yb35 : (a_12 (b) : Int) = (d : Int) := (zI_eq (a := a_12 (b)) (b := d) (by omega) (by omega) (by omega) (by omega)).mp b35
          refine lv_iconst (v := 1) hx hb dX1_isOpen_38 (by decide) ?_
          refine lv_goto (tgt := 43) hx hb dX1_isOpen_39 (by decide) ?_
          subst hQ
          refine W.widen (k := 0) (n := 0) (Nat.le_of_ble_eq_true rfl) (Nat.le_of_ble_eq_true rfl) ?_
          exact W.zret (v := 1) hx hb hr (by decide) (fun t ht hW => ⟨⟨1, (), rfl, ⟨1, rfl, ⟨by omega, by unfold OPN; omega⟩⟩, by rw [ht]; exact hP, va_K.moved hW.alike hK, hD⟩, hS.F ht⟩) hS.2.2 dX1_isOpen_43
def o_X1_openL : List Cond := [.fieldLink RX1 18 "SsaForge$Constants" "secondOpen" "[Z", .fieldLink RX1 9 "SsaForge$Constants" "gone" "[Z", .fieldLink RX1 161 "SsaForge$Code" "goalTwo" "[I", .fieldLink RX1 29 "SsaForge$Constants" "changed" "Z", .fieldLink RX1 15 "SsaForge$Constants" "firstOpen" "[Z", .fieldLink RX1 158 "SsaForge$Code" "goalOne" "[I"]
def v_X1_openL : List Cond := .code yX1_open cX1_open 5 none :: (o_X1_openL ++ (wsX10 ++ (wsX00 ++ [])))
theorem mow_X1_openL : ∀ w ∈ o_X1_openL, w ∈ v_X1_openL := fun _ h => List.mem_cons_of_mem _ (List.mem_append_left _ h)
theorem mem_X1_openL_0 : ∀ w ∈ wsX10, w ∈ v_X1_openL := fun _ h => List.mem_cons_of_mem _ (List.mem_append_right _ (List.mem_append_left _ h))
theorem mem_X1_openL_1 : ∀ w ∈ wsX00, w ∈ v_X1_openL := fun _ h => List.mem_cons_of_mem _ (List.mem_append_right _ (List.mem_append_right _ (List.mem_append_left _ h)))
set_option maxRecDepth 20000 in
theorem gw_X1_openL : v_X1_openL.all goodWord = true := by decide +kernel
set_option maxHeartbeats 4000000 in
set_option maxRecDepth 100000 in
theorem c_X1_openL (l : Launch) (dC : Nat → ClassId) (dI : Nat → Nat → Nat) (h0 : Nat) (q_100 : Nat) (cA_100 : ClassId) (a1_gone : Int → Int) (q_101 : Nat) (cA_101 : ClassId) (a1_firstOpen : Int → Int) (q_102 : Nat) (cA_102 : ClassId) (a1_secondOpen : Int → Int) (v1_3 : Value) (v1_4 : Value) (z1_changed : Int) (hc : Nat) (v_0 : Value) (v_1 : Value) (v_2 : Value) (v_3 : Value) (v_4 : Value) (v_5 : Value) (v_6 : Value) (v_7 : Value) (v_8 : Value) (v_9 : Value) (v_10 : Value) (q_711 : Nat) (cA_711 : ClassId) (a_11 : Int → Int) (q_712 : Nat) (cA_712 : ClassId) (a_12 : Int → Int) (v_13 : Value) (v_14 : Value) (v_15 : Value) (v_16 : Value) (v_17 : Value) (v_18 : Value) (b : Int) (p1 : Int) (p2 : Int) (hR_a1_gone : ∀ j : Int, 0 ≤ a1_gone j ∧ a1_gone j ≤ 1) (hR_a1_firstOpen : ∀ j : Int, 0 ≤ a1_firstOpen j ∧ a1_firstOpen j ≤ 1) (hR_a1_secondOpen : ∀ j : Int, 0 ≤ a1_secondOpen j ∧ a1_secondOpen j ≤ 1) (hNz1_changed : 0 ≤ z1_changed ∧ z1_changed ≤ 1) (hR_a_11 : ∀ j : Int, -1 ≤ a_11 j ∧ a_11 j ≤ 299) (hR_a_12 : ∀ j : Int, -1 ≤ a_12 j ∧ a_12 j ≤ 299) (hNb : 0 ≤ b ∧ b < 300) (hNp : 0 ≤ p1 ∧ p1 ≤ 1 ∧ 0 ≤ p2 ∧ p2 ≤ 1) (hNg : 0 ≤ a_11 b ∧ 0 ≤ a_12 b) (sz : Nat) : Met l yX1_open v_X1_openL ({ frames := 0, cells := 0, slots := 0, locals := 0 }) (va_Pc [.ref h0, .ref hc, .int (zI (b)), .int (zI (p1)), .int (zI (p2))] (fun U => U.heap.size = sz ∧ va_P (dC, dI) vwP [(h0, .inr (1, [.ref q_100, .ref q_101, .ref q_102, v1_3, v1_4, .int (zI (z1_changed))])), (q_100, .inl (cA_100, 300, .inl (fun j : Nat => zI (a1_gone (j : Int))))), (q_101, .inl (cA_101, 300, .inl (fun j : Nat => zI (a1_firstOpen (j : Int))))), (q_102, .inl (cA_102, 300, .inl (fun j : Nat => zI (a1_secondOpen (j : Int))))), (hc, .inr (0, [v_0, v_1, v_2, v_3, v_4, v_5, v_6, v_7, v_8, v_9, v_10, .ref q_711, .ref q_712, v_13, v_14, v_15, v_16, v_17, v_18])), (q_711, .inl (cA_711, 300, .inl (fun j : Nat => zI (a_11 (j : Int))))), (q_712, .inl (cA_712, 300, .inl (fun j : Nat => zI (a_12 (j : Int)))))] U.heap ∧ va_K (dC, dI) vwP [(cA_100, .boolean), (cA_101, .boolean), (cA_102, .boolean), (cA_711, .int), (cA_712, .int)] U ∧ va_D (fun _ => True) [(h0, .inr (1, [.ref q_100, .ref q_101, .ref q_102, v1_3, v1_4, .int (zI (z1_changed))])), (q_100, .inl (cA_100, 300, .inl (fun j : Nat => zI (a1_gone (j : Int))))), (q_101, .inl (cA_101, 300, .inl (fun j : Nat => zI (a1_firstOpen (j : Int))))), (q_102, .inl (cA_102, 300, .inl (fun j : Nat => zI (a1_secondOpen (j : Int))))), (hc, .inr (0, [v_0, v_1, v_2, v_3, v_4, v_5, v_6, v_7, v_8, v_9, v_10, .ref q_711, .ref q_712, v_13, v_14, v_15, v_16, v_17, v_18])), (q_711, .inl (cA_711, 300, .inl (fun j : Nat => zI (a_11 (j : Int))))), (q_712, .inl (cA_712, 300, .inl (fun j : Nat => zI (a_12 (j : Int)))))])) (va_Qv (fun _ : Unit => True) (fun (_ : Unit) (t : State) => ∃ (z0_9 : Int) (a1_9 : Int → Int) (a2_9 : Int → Int) (a3_9 : Int → Int), ((0 ≤ z0_9 ∧ z0_9 ≤ 1) ∧ (∀ j : Int, 0 ≤ a1_9 j ∧ a1_9 j ≤ 1) ∧ (∀ j : Int, 0 ≤ a2_9 j ∧ a2_9 j ≤ 1) ∧ (∀ j : Int, 0 ≤ a3_9 j ∧ a3_9 j ≤ 1) ∧ (OPE a_11 a_12 a1_gone a1_firstOpen a1_secondOpen a1_9 a2_9 a3_9 z1_changed z0_9 b p1 p2)) ∧ va_P (dC, dI) vwP [(h0, .inr (1, [.ref q_100, .ref q_101, .ref q_102, v1_3, v1_4, .int (zI (z0_9))])), (q_100, .inl (cA_100, 300, .inl (fun j : Nat => zI (a1_9 (j : Int))))), (q_101, .inl (cA_101, 300, .inl (fun j : Nat => zI (a2_9 (j : Int))))), (q_102, .inl (cA_102, 300, .inl (fun j : Nat => zI (a3_9 (j : Int))))), (hc, .inr (0, [v_0, v_1, v_2, v_3, v_4, v_5, v_6, v_7, v_8, v_9, v_10, .ref q_711, .ref q_712, v_13, v_14, v_15, v_16, v_17, v_18])), (q_711, .inl (cA_711, 300, .inl (fun j : Nat => zI (a_11 (j : Int))))), (q_712, .inl (cA_712, 300, .inl (fun j : Nat => zI (a_12 (j : Int)))))] t.heap ∧ va_K (dC, dI) vwP [(cA_100, .boolean), (cA_101, .boolean), (cA_102, .boolean), (cA_711, .int), (cA_712, .int)] t ∧ va_D (va_A [(h0, .inr (1, [.ref q_100, .ref q_101, .ref q_102, v1_3, v1_4, .int (zI (z1_changed))])), (q_100, .inl (cA_100, 300, .inl (fun j : Nat => zI (a1_gone (j : Int))))), (q_101, .inl (cA_101, 300, .inl (fun j : Nat => zI (a1_firstOpen (j : Int))))), (q_102, .inl (cA_102, 300, .inl (fun j : Nat => zI (a1_secondOpen (j : Int))))), (hc, .inr (0, [v_0, v_1, v_2, v_3, v_4, v_5, v_6, v_7, v_8, v_9, v_10, .ref q_711, .ref q_712, v_13, v_14, v_15, v_16, v_17, v_18])), (q_711, .inl (cA_711, 300, .inl (fun j : Nat => zI (a_11 (j : Int))))), (q_712, .inl (cA_712, 300, .inl (fun j : Nat => zI (a_12 (j : Int)))))] sz) [(h0, .inr (1, [.ref q_100, .ref q_101, .ref q_102, v1_3, v1_4, .int (zI (z0_9))])), (q_100, .inl (cA_100, 300, .inl (fun j : Nat => zI (a1_9 (j : Int))))), (q_101, .inl (cA_101, 300, .inl (fun j : Nat => zI (a2_9 (j : Int))))), (q_102, .inl (cA_102, 300, .inl (fun j : Nat => zI (a3_9 (j : Int))))), (hc, .inr (0, [v_0, v_1, v_2, v_3, v_4, v_5, v_6, v_7, v_8, v_9, v_10, .ref q_711, .ref q_712, v_13, v_14, v_15, v_16, v_17, v_18])), (q_711, .inl (cA_711, 300, .inl (fun j : Nat => zI (a_11 (j : Int))))), (q_712, .inl (cA_712, 300, .inl (fun j : Nat => zI (a_12 (j : Int)))))]) (va_A [(h0, .inr (1, [.ref q_100, .ref q_101, .ref q_102, v1_3, v1_4, .int (zI (z1_changed))])), (q_100, .inl (cA_100, 300, .inl (fun j : Nat => zI (a1_gone (j : Int))))), (q_101, .inl (cA_101, 300, .inl (fun j : Nat => zI (a1_firstOpen (j : Int))))), (q_102, .inl (cA_102, 300, .inl (fun j : Nat => zI (a1_secondOpen (j : Int))))), (hc, .inr (0, [v_0, v_1, v_2, v_3, v_4, v_5, v_6, v_7, v_8, v_9, v_10, .ref q_711, .ref q_712, v_13, v_14, v_15, v_16, v_17, v_18])), (q_711, .inl (cA_711, 300, .inl (fun j : Nat => zI (a_11 (j : Int))))), (q_712, .inl (cA_712, 300, .inl (fun j : Nat => zI (a_12 (j : Int)))))] sz)) 0 0 (va_A [(h0, .inr (1, [.ref q_100, .ref q_101, .ref q_102, v1_3, v1_4, .int (zI (z1_changed))])), (q_100, .inl (cA_100, 300, .inl (fun j : Nat => zI (a1_gone (j : Int))))), (q_101, .inl (cA_101, 300, .inl (fun j : Nat => zI (a1_firstOpen (j : Int))))), (q_102, .inl (cA_102, 300, .inl (fun j : Nat => zI (a1_secondOpen (j : Int))))), (hc, .inr (0, [v_0, v_1, v_2, v_3, v_4, v_5, v_6, v_7, v_8, v_9, v_10, .ref q_711, .ref q_712, v_13, v_14, v_15, v_16, v_17, v_18])), (q_711, .inl (cA_711, 300, .inl (fun j : Nat => zI (a_11 (j : Int))))), (q_712, .inl (cA_712, 300, .inl (fun j : Nat => zI (a_12 (j : Int)))))] sz) := by
  refine Met.ofW (cc := cX1_open) (maxL := 5) (ret := none) (by decide) rfl ?_
  intro p e s m args below meth c s₁ B hml hv
  obtain ⟨rfl, hsz, hP, hK, hD0⟩ := hv
  have hx := B.exec
  have hb := B.bytes
  have hr := B.returns
  have hts := atoms_spec (ws := v_X1_openL) B.pre
  have hown : s.vm.findClass RX1 = some m.cls := findClass_of_methodNamed B.named
  have hlocks := B.notSynchronized
  have ow : ∀ {k : Nat} {w : Cond}, o_X1_openL[k]? = some w → w.before ([.ref h0, .ref hc, .int (zI (b)), .int (zI (p1)), .int (zI (p2))] : List Value).toArray s = true := fun h => hts _ (mow_X1_openL _ (List.mem_of_getElem? h))
  subst hsz
  have hD := hD0.self (sz := s.heap.size)
  generalize hAe : va_A [(h0, .inr (1, [.ref q_100, .ref q_101, .ref q_102, v1_3, v1_4, .int (zI (z1_changed))])), (q_100, .inl (cA_100, 300, .inl (fun j : Nat => zI (a1_gone (j : Int))))), (q_101, .inl (cA_101, 300, .inl (fun j : Nat => zI (a1_firstOpen (j : Int))))), (q_102, .inl (cA_102, 300, .inl (fun j : Nat => zI (a1_secondOpen (j : Int))))), (hc, .inr (0, [v_0, v_1, v_2, v_3, v_4, v_5, v_6, v_7, v_8, v_9, v_10, .ref q_711, .ref q_712, v_13, v_14, v_15, v_16, v_17, v_18])), (q_711, .inl (cA_711, 300, .inl (fun j : Nat => zI (a_11 (j : Int))))), (q_712, .inl (cA_712, 300, .inl (fun j : Nat => zI (a_12 (j : Int)))))] s.heap.size = A at hD ⊢
  have hA : ∀ q : Nat, s.heap.size ≤ q → A q := fun q h => by rw [← hAe]; exact Or.inr h
  have hS : va_S A s.heap s.heap [] := va_S.rf
  have hP : va_P (dC, dI) vwP [(h0, .inr (1, [.ref q_100, .ref q_101, .ref q_102, v1_3, v1_4, .int (zI (z1_changed))])), (q_100, .inl (cA_100, 300, .inl (fun j : Nat => zI (a1_gone (j : Int))))), (q_101, .inl (cA_101, 300, .inl (fun j : Nat => zI (a1_firstOpen (j : Int))))), (q_102, .inl (cA_102, 300, .inl (fun j : Nat => zI (a1_secondOpen (j : Int))))), (hc, .inr (0, [v_0, v_1, v_2, v_3, v_4, v_5, v_6, v_7, v_8, v_9, v_10, .ref q_711, .ref q_712, v_13, v_14, v_15, v_16, v_17, v_18])), (q_711, .inl (cA_711, 300, .inl (fun j : Nat => zI (a_11 (j : Int))))), (q_712, .inl (cA_712, 300, .inl (fun j : Nat => zI (a_12 (j : Int)))))] s.heap := hP
  have hl := lv_entry ([.ref h0, .ref hc, .int (zI (b)), .int (zI (p1)), .int (zI (p2))]) (n := 5) (Nat.le_of_ble_eq_true rfl)
  rw [lg_entry_eq]
  generalize (lg_sl ([.ref h0, .ref hc, .int (zI (b)), .int (zI (p1)), .int (zI (p2))]) ++ List.replicate (5 - (lg_sl ([.ref h0, .ref hc, .int (zI (b)), .int (zI (p1)), .int (zI (p2))])).length) Slot.unset).toArray = ls at hl ⊢
  have hl : lv_has ls 5 [(0, .ref h0), (1, .ref hc), (2, .int (zI (b))), (3, .int (zI (p1))), (4, .int (zI (p2)))] := hl
  obtain ⟨H, hH⟩ : ∃ H, H = s.heap := ⟨_, rfl⟩
  rw [← hH] at hP
  have hS : va_S A s.heap H [] := by rw [hH]; exact hS
  rw [← hH]
  refine zW_cap (fun Q hQ => ?_)
  have hy1 := hR_a1_firstOpen b
  have hy2 := hR_a1_secondOpen b
  refine lv_iload_n hx hb dX1_open_0 rfl (lv_at hl 3 rfl) ?_
  refine lv_if_eq (tgt := 37) hx hb dX1_open_1 (by decide) (fun b1 => ?_) (fun b1 => ?_)
  · have yb1 : (p1 : Int) = (0 : Int) := (zI_eq (a := p1) (b := 0) (by omega) (by omega) (by omega) (by omega)).mp b1
    refine lv_iload hx hb dX1_open_37 (lv_at hl 4 rfl) ?_
    refine lv_if_eq (tgt := 75) hx hb dX1_open_39 (by decide) (fun b39 => ?_) (fun b39 => ?_)
    · have yb39 : (p2 : Int) = (0 : Int) := (zI_eq (a := p2) (b := 0) (by omega) (by omega) (by omega) (by omega)).mp b39
      subst hQ
      refine W.widen (k := 0) (n := 0) (Nat.le_of_ble_eq_true rfl) (Nat.le_of_ble_eq_true rfl) ?_
      exact W.vret hx hb hr (fun t ht hW => ⟨⟨(), rfl, trivial, z1_changed, a1_gone, a1_firstOpen, a1_secondOpen, ⟨(by omega), hR_a1_gone, hR_a1_firstOpen, hR_a1_secondOpen, ⟨_, (Or.inr ⟨by omega, rfl, rfl⟩), (Or.inr ⟨by omega, rfl, rfl⟩), fun _ => by omega, fun _ => by omega⟩⟩, by rw [ht]; exact hP, va_K.moved hW.alike hK, hD⟩, hS.F ht⟩) hS.2.2 dX1_open_75
    · have yb39 : ¬ (p2 : Int) = (0 : Int) := fun q => b39 ((zI_eq (a := p2) (b := 0) (by omega) (by omega) (by omega) (by omega)).mpr q)
      refine lv_aload_n hx hb dX1_open_42 rfl (lv_at hl 0 rfl) ?_
      refine va_get (D := (dC, dI)) (ci := 1) (v := .ref q_102) (C := RX1) (T := TX1) (N := 6) hx hb hts mem_X1_openL_0 hown hK hP 0 rfl rfl 2 (by decide) (ow (k := 0) rfl) (fun _ h9 => h9) rfl dX1_open_43 ?_
      refine lv_iload_n hx hb dX1_open_46 rfl (lv_at hl 2 rfl) ?_
      refine va_zald hx hb hK hP 3 2 rfl rfl (zI_in (a := b) (n := 300) (by omega) (by omega) (by decide)) dX1_open_47 ?_
      refine lv_topi (fun z ez => ?_)
      obtain rfl : z = zI (a1_secondOpen (b)) := ez.trans (zI_ld (a1_secondOpen) (by omega) (by omega))
      have k1 := hR_a1_secondOpen (b)
      refine lv_if_ne (tgt := 75) hx hb dX1_open_48 (by decide) (fun b48 => ?_) (fun b48 => ?_)
      · have yb48 : ¬ (a1_secondOpen (b) : Int) = (0 : Int) := fun q => b48 ((zI_eq (a := a1_secondOpen (b)) (b := 0) (by omega) (by omega) (by omega) (by omega)).mpr q)
        subst hQ
        refine W.widen (k := 0) (n := 0) (Nat.le_of_ble_eq_true rfl) (Nat.le_of_ble_eq_true rfl) ?_
        exact W.vret hx hb hr (fun t ht hW => ⟨⟨(), rfl, trivial, z1_changed, a1_gone, a1_firstOpen, a1_secondOpen, ⟨(by omega), hR_a1_gone, hR_a1_firstOpen, hR_a1_secondOpen, ⟨_, (Or.inr ⟨by omega, rfl, rfl⟩), (Or.inr ⟨by omega, rfl, rfl⟩), fun _ => by omega, fun _ => by omega⟩⟩, by rw [ht]; exact hP, va_K.moved hW.alike hK, hD⟩, hS.F ht⟩) hS.2.2 dX1_open_75
      · have yb48 : (a1_secondOpen (b) : Int) = (0 : Int) := (zI_eq (a := a1_secondOpen (b)) (b := 0) (by omega) (by omega) (by omega) (by omega)).mp b48
        refine lv_aload_n hx hb dX1_open_51 rfl (lv_at hl 0 rfl) ?_
        refine va_get (D := (dC, dI)) (ci := 1) (v := .ref q_102) (C := RX1) (T := TX1) (N := 6) hx hb hts mem_X1_openL_0 hown hK hP 0 rfl rfl 2 (by decide) (ow (k := 0) rfl) (fun _ h9 => h9) rfl dX1_open_52 ?_
        refine lv_iload_n hx hb dX1_open_55 rfl (lv_at hl 2 rfl) ?_
        refine lv_iconst (v := 1) hx hb dX1_open_56 (by decide) ?_
        refine va_zast (i := zI (b)) hx hb hK hP hD hS 3 2 rfl rfl (zI_in (a := b) (n := 300) (by omega) (by omega) (by decide)) dX1_open_57 (fun H locs hP hD hS => ?_)
        rw [show vp_nar .boolean 1 = 1 from zI_nar (a := 1) (by omega) (by omega)] at hP hD
        have eQ : upd (fun j : Nat => zI (a1_secondOpen (j : Int))) (zI (b)).toNatClampNeg 1 = (fun j : Nat => zI (zup a1_secondOpen (b) (1) (j : Int))) := zI_st a1_secondOpen (e := b) (v := 1) (by omega) (by omega)
        rw [eQ] at hP hD
        clear eQ
        have ra_2001 : ∀ j : Int, 0 ≤ zup a1_secondOpen (b) (1) j ∧ zup a1_secondOpen (b) (1) j ≤ 1 := zup_P (P := fun x9 => 0 ≤ x9 ∧ x9 ≤ 1) hR_a1_secondOpen (show 0 ≤ (1) ∧ (1) ≤ 1 by omega)
        obtain ⟨a_2001, ea_2001⟩ : ∃ a9 : Int → Int, a9 = zup a1_secondOpen (b) (1) := ⟨_, rfl⟩
        rw [← ea_2001] at hP hD ra_2001
        have hP : va_P (dC, dI) vwP [(h0, .inr (1, [.ref q_100, .ref q_101, .ref q_102, v1_3, v1_4, .int (zI (z1_changed))])), (q_100, .inl (cA_100, 300, .inl (fun j : Nat => zI (a1_gone (j : Int))))), (q_101, .inl (cA_101, 300, .inl (fun j : Nat => zI (a1_firstOpen (j : Int))))), (q_102, .inl (cA_102, 300, .inl (fun j : Nat => zI (a_2001 (j : Int))))), (hc, .inr (0, [v_0, v_1, v_2, v_3, v_4, v_5, v_6, v_7, v_8, v_9, v_10, .ref q_711, .ref q_712, v_13, v_14, v_15, v_16, v_17, v_18])), (q_711, .inl (cA_711, 300, .inl (fun j : Nat => zI (a_11 (j : Int))))), (q_712, .inl (cA_712, 300, .inl (fun j : Nat => zI (a_12 (j : Int)))))] H := hP
        have hD : va_D A [(h0, .inr (1, [.ref q_100, .ref q_101, .ref q_102, v1_3, v1_4, .int (zI (z1_changed))])), (q_100, .inl (cA_100, 300, .inl (fun j : Nat => zI (a1_gone (j : Int))))), (q_101, .inl (cA_101, 300, .inl (fun j : Nat => zI (a1_firstOpen (j : Int))))), (q_102, .inl (cA_102, 300, .inl (fun j : Nat => zI (a_2001 (j : Int))))), (hc, .inr (0, [v_0, v_1, v_2, v_3, v_4, v_5, v_6, v_7, v_8, v_9, v_10, .ref q_711, .ref q_712, v_13, v_14, v_15, v_16, v_17, v_18])), (q_711, .inl (cA_711, 300, .inl (fun j : Nat => zI (a_11 (j : Int))))), (q_712, .inl (cA_712, 300, .inl (fun j : Nat => zI (a_12 (j : Int)))))] := hD
        refine lv_aload_n hx hb dX1_open_58 rfl (lv_at hl 0 rfl) ?_
        refine va_get (D := (dC, dI)) (ci := 1) (v := .ref q_100) (C := RX1) (T := TX1) (N := 6) hx hb hts mem_X1_openL_0 hown hK hP 0 rfl rfl 0 (by decide) (ow (k := 1) rfl) (fun _ h9 => h9) rfl dX1_open_59 ?_
        refine lv_aload_n hx hb dX1_open_62 rfl (lv_at hl 1 rfl) ?_
        refine va_get (D := (dC, dI)) (ci := 0) (v := .ref q_712) (C := RX0) (T := TX0) (N := 19) hx hb hts mem_X1_openL_1 hown hK hP 4 rfl rfl 12 (by decide) (ow (k := 2) rfl) (fun _ h9 => h9) rfl dX1_open_63 ?_
        refine lv_iload_n hx hb dX1_open_66 rfl (lv_at hl 2 rfl) ?_
        refine va_iald hx hb hK hP 6 4 rfl rfl (zI_in (a := b) (n := 300) (by omega) (by omega) (by decide)) dX1_open_67 ?_
        refine lv_topi (fun z ez => ?_)
        obtain rfl : z = zI (a_12 (b)) := ez.trans (zI_ld (a_12) (by omega) (by omega))
        have k2 := hR_a_12 (b)
        refine lv_iconst (v := 1) hx hb dX1_open_68 (by decide) ?_
        refine va_zast (i := zI (a_12 (b))) hx hb hK hP hD hS 1 0 rfl rfl (zI_in (a := a_12 (b)) (n := 300) (by omega) (by omega) (by decide)) dX1_open_69 (fun H locs hP hD hS => ?_)
        rw [show vp_nar .boolean 1 = 1 from zI_nar (a := 1) (by omega) (by omega)] at hP hD
        have eQ : upd (fun j : Nat => zI (a1_gone (j : Int))) (zI (a_12 (b))).toNatClampNeg 1 = (fun j : Nat => zI (zup a1_gone (a_12 (b)) (1) (j : Int))) := zI_st a1_gone (e := a_12 (b)) (v := 1) (by omega) (by omega)
        rw [eQ] at hP hD
        clear eQ
        have ra_2002 : ∀ j : Int, 0 ≤ zup a1_gone (a_12 (b)) (1) j ∧ zup a1_gone (a_12 (b)) (1) j ≤ 1 := zup_P (P := fun x9 => 0 ≤ x9 ∧ x9 ≤ 1) hR_a1_gone (show 0 ≤ (1) ∧ (1) ≤ 1 by omega)
        obtain ⟨a_2002, ea_2002⟩ : ∃ a9 : Int → Int, a9 = zup a1_gone (a_12 (b)) (1) := ⟨_, rfl⟩
        rw [← ea_2002] at hP hD ra_2002
        have hP : va_P (dC, dI) vwP [(h0, .inr (1, [.ref q_100, .ref q_101, .ref q_102, v1_3, v1_4, .int (zI (z1_changed))])), (q_100, .inl (cA_100, 300, .inl (fun j : Nat => zI (a_2002 (j : Int))))), (q_101, .inl (cA_101, 300, .inl (fun j : Nat => zI (a1_firstOpen (j : Int))))), (q_102, .inl (cA_102, 300, .inl (fun j : Nat => zI (a_2001 (j : Int))))), (hc, .inr (0, [v_0, v_1, v_2, v_3, v_4, v_5, v_6, v_7, v_8, v_9, v_10, .ref q_711, .ref q_712, v_13, v_14, v_15, v_16, v_17, v_18])), (q_711, .inl (cA_711, 300, .inl (fun j : Nat => zI (a_11 (j : Int))))), (q_712, .inl (cA_712, 300, .inl (fun j : Nat => zI (a_12 (j : Int)))))] H := hP
        have hD : va_D A [(h0, .inr (1, [.ref q_100, .ref q_101, .ref q_102, v1_3, v1_4, .int (zI (z1_changed))])), (q_100, .inl (cA_100, 300, .inl (fun j : Nat => zI (a_2002 (j : Int))))), (q_101, .inl (cA_101, 300, .inl (fun j : Nat => zI (a1_firstOpen (j : Int))))), (q_102, .inl (cA_102, 300, .inl (fun j : Nat => zI (a_2001 (j : Int))))), (hc, .inr (0, [v_0, v_1, v_2, v_3, v_4, v_5, v_6, v_7, v_8, v_9, v_10, .ref q_711, .ref q_712, v_13, v_14, v_15, v_16, v_17, v_18])), (q_711, .inl (cA_711, 300, .inl (fun j : Nat => zI (a_11 (j : Int))))), (q_712, .inl (cA_712, 300, .inl (fun j : Nat => zI (a_12 (j : Int)))))] := hD
        refine lv_aload_n hx hb dX1_open_70 rfl (lv_at hl 0 rfl) ?_
        refine lv_iconst (v := 1) hx hb dX1_open_71 (by decide) ?_
        refine va_put (D := (dC, dI)) (ci := 1) (v := .int 1) (ty := .boolean) (C := RX1) (T := TX1) (N := 6) hx hb hts mem_X1_openL_0 tyX1 tyX1_ok nmX1 hown hK hP hD hS 0 rfl rfl 5 (by decide) (ow (k := 3) rfl) (fun _ h9 => h9) rfl (by decide +kernel) rfl rfl (Nat.le_of_ble_eq_true rfl) dX1_open_72 (fun H locs hP hD hS => ?_)
        have hP : va_P (dC, dI) vwP [(h0, .inr (1, [.ref q_100, .ref q_101, .ref q_102, v1_3, v1_4, .int 1])), (q_100, .inl (cA_100, 300, .inl (fun j : Nat => zI (a_2002 (j : Int))))), (q_101, .inl (cA_101, 300, .inl (fun j : Nat => zI (a1_firstOpen (j : Int))))), (q_102, .inl (cA_102, 300, .inl (fun j : Nat => zI (a_2001 (j : Int))))), (hc, .inr (0, [v_0, v_1, v_2, v_3, v_4, v_5, v_6, v_7, v_8, v_9, v_10, .ref q_711, .ref q_712, v_13, v_14, v_15, v_16, v_17, v_18])), (q_711, .inl (cA_711, 300, .inl (fun j : Nat => zI (a_11 (j : Int))))), (q_712, .inl (cA_712, 300, .inl (fun j : Nat => zI (a_12 (j : Int)))))] H := hP
        have hD : va_D A [(h0, .inr (1, [.ref q_100, .ref q_101, .ref q_102, v1_3, v1_4, .int 1])), (q_100, .inl (cA_100, 300, .inl (fun j : Nat => zI (a_2002 (j : Int))))), (q_101, .inl (cA_101, 300, .inl (fun j : Nat => zI (a1_firstOpen (j : Int))))), (q_102, .inl (cA_102, 300, .inl (fun j : Nat => zI (a_2001 (j : Int))))), (hc, .inr (0, [v_0, v_1, v_2, v_3, v_4, v_5, v_6, v_7, v_8, v_9, v_10, .ref q_711, .ref q_712, v_13, v_14, v_15, v_16, v_17, v_18])), (q_711, .inl (cA_711, 300, .inl (fun j : Nat => zI (a_11 (j : Int))))), (q_712, .inl (cA_712, 300, .inl (fun j : Nat => zI (a_12 (j : Int)))))] := hD
        subst hQ
        refine W.widen (k := 0) (n := 0) (Nat.le_of_ble_eq_true rfl) (Nat.le_of_ble_eq_true rfl) ?_
        exact W.vret hx hb hr (fun t ht hW => ⟨⟨(), rfl, trivial, 1, a_2002, a1_firstOpen, a_2001, ⟨(by omega), ra_2002, hR_a1_firstOpen, ra_2001, ⟨_, (Or.inr ⟨by omega, rfl, rfl⟩), (Or.inl ⟨by omega, by omega, ea_2001, ea_2002⟩), fun _ => by omega, fun _ => by omega⟩⟩, by rw [ht]; exact hP, va_K.moved hW.alike hK, hD⟩, hS.F ht⟩) hS.2.2 dX1_open_75
  · have yb1 : ¬ (p1 : Int) = (0 : Int) := fun q => b1 ((zI_eq (a := p1) (b := 0) (by omega) (by omega) (by omega) (by omega)).mpr q)
    refine lv_aload_n hx hb dX1_open_4 rfl (lv_at hl 0 rfl) ?_
    refine va_get (D := (dC, dI)) (ci := 1) (v := .ref q_101) (C := RX1) (T := TX1) (N := 6) hx hb hts mem_X1_openL_0 hown hK hP 0 rfl rfl 1 (by decide) (ow (k := 4) rfl) (fun _ h9 => h9) rfl dX1_open_5 ?_
    refine lv_iload_n hx hb dX1_open_8 rfl (lv_at hl 2 rfl) ?_
    refine va_zald hx hb hK hP 2 1 rfl rfl (zI_in (a := b) (n := 300) (by omega) (by omega) (by decide)) dX1_open_9 ?_
    refine lv_topi (fun z ez => ?_)
    obtain rfl : z = zI (a1_firstOpen (b)) := ez.trans (zI_ld (a1_firstOpen) (by omega) (by omega))
    have k3 := hR_a1_firstOpen (b)
    refine lv_if_ne (tgt := 37) hx hb dX1_open_10 (by decide) (fun b10 => ?_) (fun b10 => ?_)
    · have yb10 : ¬ (a1_firstOpen (b) : Int) = (0 : Int) := fun q => b10 ((zI_eq (a := a1_firstOpen (b)) (b := 0) (by omega) (by omega) (by omega) (by omega)).mpr q)
      refine lv_iload hx hb dX1_open_37 (lv_at hl 4 rfl) ?_
      refine lv_if_eq (tgt := 75) hx hb dX1_open_39 (by decide) (fun b39 => ?_) (fun b39 => ?_)
      · have yb39 : (p2 : Int) = (0 : Int) := (zI_eq (a := p2) (b := 0) (by omega) (by omega) (by omega) (by omega)).mp b39
        subst hQ
        refine W.widen (k := 0) (n := 0) (Nat.le_of_ble_eq_true rfl) (Nat.le_of_ble_eq_true rfl) ?_
        exact W.vret hx hb hr (fun t ht hW => ⟨⟨(), rfl, trivial, z1_changed, a1_gone, a1_firstOpen, a1_secondOpen, ⟨(by omega), hR_a1_gone, hR_a1_firstOpen, hR_a1_secondOpen, ⟨_, (Or.inr ⟨by omega, rfl, rfl⟩), (Or.inr ⟨by omega, rfl, rfl⟩), fun _ => by omega, fun _ => by omega⟩⟩, by rw [ht]; exact hP, va_K.moved hW.alike hK, hD⟩, hS.F ht⟩) hS.2.2 dX1_open_75
      · have yb39 : ¬ (p2 : Int) = (0 : Int) := fun q => b39 ((zI_eq (a := p2) (b := 0) (by omega) (by omega) (by omega) (by omega)).mpr q)
        refine lv_aload_n hx hb dX1_open_42 rfl (lv_at hl 0 rfl) ?_
        refine va_get (D := (dC, dI)) (ci := 1) (v := .ref q_102) (C := RX1) (T := TX1) (N := 6) hx hb hts mem_X1_openL_0 hown hK hP 0 rfl rfl 2 (by decide) (ow (k := 0) rfl) (fun _ h9 => h9) rfl dX1_open_43 ?_
        refine lv_iload_n hx hb dX1_open_46 rfl (lv_at hl 2 rfl) ?_
        refine va_zald hx hb hK hP 3 2 rfl rfl (zI_in (a := b) (n := 300) (by omega) (by omega) (by decide)) dX1_open_47 ?_
        refine lv_topi (fun z ez => ?_)
        obtain rfl : z = zI (a1_secondOpen (b)) := ez.trans (zI_ld (a1_secondOpen) (by omega) (by omega))
        have k4 := hR_a1_secondOpen (b)
        refine lv_if_ne (tgt := 75) hx hb dX1_open_48 (by decide) (fun b48 => ?_) (fun b48 => ?_)
        · have yb48 : ¬ (a1_secondOpen (b) : Int) = (0 : Int) := fun q => b48 ((zI_eq (a := a1_secondOpen (b)) (b := 0) (by omega) (by omega) (by omega) (by omega)).mpr q)
          subst hQ
          refine W.widen (k := 0) (n := 0) (Nat.le_of_ble_eq_true rfl) (Nat.le_of_ble_eq_true rfl) ?_
          exact W.vret hx hb hr (fun t ht hW => ⟨⟨(), rfl, trivial, z1_changed, a1_gone, a1_firstOpen, a1_secondOpen, ⟨(by omega), hR_a1_gone, hR_a1_firstOpen, hR_a1_secondOpen, ⟨_, (Or.inr ⟨by omega, rfl, rfl⟩), (Or.inr ⟨by omega, rfl, rfl⟩), fun _ => by omega, fun _ => by omega⟩⟩, by rw [ht]; exact hP, va_K.moved hW.alike hK, hD⟩, hS.F ht⟩) hS.2.2 dX1_open_75
        · have yb48 : (a1_secondOpen (b) : Int) = (0 : Int) := (zI_eq (a := a1_secondOpen (b)) (b := 0) (by omega) (by omega) (by omega) (by omega)).mp b48
          refine lv_aload_n hx hb dX1_open_51 rfl (lv_at hl 0 rfl) ?_
          refine va_get (D := (dC, dI)) (ci := 1) (v := .ref q_102) (C := RX1) (T := TX1) (N := 6) hx hb hts mem_X1_openL_0 hown hK hP 0 rfl rfl 2 (by decide) (ow (k := 0) rfl) (fun _ h9 => h9) rfl dX1_open_52 ?_
          refine lv_iload_n hx hb dX1_open_55 rfl (lv_at hl 2 rfl) ?_
          refine lv_iconst (v := 1) hx hb dX1_open_56 (by decide) ?_
          refine va_zast (i := zI (b)) hx hb hK hP hD hS 3 2 rfl rfl (zI_in (a := b) (n := 300) (by omega) (by omega) (by decide)) dX1_open_57 (fun H locs hP hD hS => ?_)
          rw [show vp_nar .boolean 1 = 1 from zI_nar (a := 1) (by omega) (by omega)] at hP hD
          have eQ : upd (fun j : Nat => zI (a1_secondOpen (j : Int))) (zI (b)).toNatClampNeg 1 = (fun j : Nat => zI (zup a1_secondOpen (b) (1) (j : Int))) := zI_st a1_secondOpen (e := b) (v := 1) (by omega) (by omega)
          rw [eQ] at hP hD
          clear eQ
          have ra_2003 : ∀ j : Int, 0 ≤ zup a1_secondOpen (b) (1) j ∧ zup a1_secondOpen (b) (1) j ≤ 1 := zup_P (P := fun x9 => 0 ≤ x9 ∧ x9 ≤ 1) hR_a1_secondOpen (show 0 ≤ (1) ∧ (1) ≤ 1 by omega)
          obtain ⟨a_2003, ea_2003⟩ : ∃ a9 : Int → Int, a9 = zup a1_secondOpen (b) (1) := ⟨_, rfl⟩
          rw [← ea_2003] at hP hD ra_2003
          have hP : va_P (dC, dI) vwP [(h0, .inr (1, [.ref q_100, .ref q_101, .ref q_102, v1_3, v1_4, .int (zI (z1_changed))])), (q_100, .inl (cA_100, 300, .inl (fun j : Nat => zI (a1_gone (j : Int))))), (q_101, .inl (cA_101, 300, .inl (fun j : Nat => zI (a1_firstOpen (j : Int))))), (q_102, .inl (cA_102, 300, .inl (fun j : Nat => zI (a_2003 (j : Int))))), (hc, .inr (0, [v_0, v_1, v_2, v_3, v_4, v_5, v_6, v_7, v_8, v_9, v_10, .ref q_711, .ref q_712, v_13, v_14, v_15, v_16, v_17, v_18])), (q_711, .inl (cA_711, 300, .inl (fun j : Nat => zI (a_11 (j : Int))))), (q_712, .inl (cA_712, 300, .inl (fun j : Nat => zI (a_12 (j : Int)))))] H := hP
          have hD : va_D A [(h0, .inr (1, [.ref q_100, .ref q_101, .ref q_102, v1_3, v1_4, .int (zI (z1_changed))])), (q_100, .inl (cA_100, 300, .inl (fun j : Nat => zI (a1_gone (j : Int))))), (q_101, .inl (cA_101, 300, .inl (fun j : Nat => zI (a1_firstOpen (j : Int))))), (q_102, .inl (cA_102, 300, .inl (fun j : Nat => zI (a_2003 (j : Int))))), (hc, .inr (0, [v_0, v_1, v_2, v_3, v_4, v_5, v_6, v_7, v_8, v_9, v_10, .ref q_711, .ref q_712, v_13, v_14, v_15, v_16, v_17, v_18])), (q_711, .inl (cA_711, 300, .inl (fun j : Nat => zI (a_11 (j : Int))))), (q_712, .inl (cA_712, 300, .inl (fun j : Nat => zI (a_12 (j : Int)))))] := hD
          refine lv_aload_n hx hb dX1_open_58 rfl (lv_at hl 0 rfl) ?_
          refine va_get (D := (dC, dI)) (ci := 1) (v := .ref q_100) (C := RX1) (T := TX1) (N := 6) hx hb hts mem_X1_openL_0 hown hK hP 0 rfl rfl 0 (by decide) (ow (k := 1) rfl) (fun _ h9 => h9) rfl dX1_open_59 ?_
          refine lv_aload_n hx hb dX1_open_62 rfl (lv_at hl 1 rfl) ?_
          refine va_get (D := (dC, dI)) (ci := 0) (v := .ref q_712) (C := RX0) (T := TX0) (N := 19) hx hb hts mem_X1_openL_1 hown hK hP 4 rfl rfl 12 (by decide) (ow (k := 2) rfl) (fun _ h9 => h9) rfl dX1_open_63 ?_
          refine lv_iload_n hx hb dX1_open_66 rfl (lv_at hl 2 rfl) ?_
          refine va_iald hx hb hK hP 6 4 rfl rfl (zI_in (a := b) (n := 300) (by omega) (by omega) (by decide)) dX1_open_67 ?_
          refine lv_topi (fun z ez => ?_)
          obtain rfl : z = zI (a_12 (b)) := ez.trans (zI_ld (a_12) (by omega) (by omega))
          have k5 := hR_a_12 (b)
          refine lv_iconst (v := 1) hx hb dX1_open_68 (by decide) ?_
          refine va_zast (i := zI (a_12 (b))) hx hb hK hP hD hS 1 0 rfl rfl (zI_in (a := a_12 (b)) (n := 300) (by omega) (by omega) (by decide)) dX1_open_69 (fun H locs hP hD hS => ?_)
          rw [show vp_nar .boolean 1 = 1 from zI_nar (a := 1) (by omega) (by omega)] at hP hD
          have eQ : upd (fun j : Nat => zI (a1_gone (j : Int))) (zI (a_12 (b))).toNatClampNeg 1 = (fun j : Nat => zI (zup a1_gone (a_12 (b)) (1) (j : Int))) := zI_st a1_gone (e := a_12 (b)) (v := 1) (by omega) (by omega)
          rw [eQ] at hP hD
          clear eQ
          have ra_2004 : ∀ j : Int, 0 ≤ zup a1_gone (a_12 (b)) (1) j ∧ zup a1_gone (a_12 (b)) (1) j ≤ 1 := zup_P (P := fun x9 => 0 ≤ x9 ∧ x9 ≤ 1) hR_a1_gone (show 0 ≤ (1) ∧ (1) ≤ 1 by omega)
          obtain ⟨a_2004, ea_2004⟩ : ∃ a9 : Int → Int, a9 = zup a1_gone (a_12 (b)) (1) := ⟨_, rfl⟩
          rw [← ea_2004] at hP hD ra_2004
          have hP : va_P (dC, dI) vwP [(h0, .inr (1, [.ref q_100, .ref q_101, .ref q_102, v1_3, v1_4, .int (zI (z1_changed))])), (q_100, .inl (cA_100, 300, .inl (fun j : Nat => zI (a_2004 (j : Int))))), (q_101, .inl (cA_101, 300, .inl (fun j : Nat => zI (a1_firstOpen (j : Int))))), (q_102, .inl (cA_102, 300, .inl (fun j : Nat => zI (a_2003 (j : Int))))), (hc, .inr (0, [v_0, v_1, v_2, v_3, v_4, v_5, v_6, v_7, v_8, v_9, v_10, .ref q_711, .ref q_712, v_13, v_14, v_15, v_16, v_17, v_18])), (q_711, .inl (cA_711, 300, .inl (fun j : Nat => zI (a_11 (j : Int))))), (q_712, .inl (cA_712, 300, .inl (fun j : Nat => zI (a_12 (j : Int)))))] H := hP
          have hD : va_D A [(h0, .inr (1, [.ref q_100, .ref q_101, .ref q_102, v1_3, v1_4, .int (zI (z1_changed))])), (q_100, .inl (cA_100, 300, .inl (fun j : Nat => zI (a_2004 (j : Int))))), (q_101, .inl (cA_101, 300, .inl (fun j : Nat => zI (a1_firstOpen (j : Int))))), (q_102, .inl (cA_102, 300, .inl (fun j : Nat => zI (a_2003 (j : Int))))), (hc, .inr (0, [v_0, v_1, v_2, v_3, v_4, v_5, v_6, v_7, v_8, v_9, v_10, .ref q_711, .ref q_712, v_13, v_14, v_15, v_16, v_17, v_18])), (q_711, .inl (cA_711, 300, .inl (fun j : Nat => zI (a_11 (j : Int))))), (q_712, .inl (cA_712, 300, .inl (fun j : Nat => zI (a_12 (j : Int)))))] := hD
          refine lv_aload_n hx hb dX1_open_70 rfl (lv_at hl 0 rfl) ?_
          refine lv_iconst (v := 1) hx hb dX1_open_71 (by decide) ?_
          refine va_put (D := (dC, dI)) (ci := 1) (v := .int 1) (ty := .boolean) (C := RX1) (T := TX1) (N := 6) hx hb hts mem_X1_openL_0 tyX1 tyX1_ok nmX1 hown hK hP hD hS 0 rfl rfl 5 (by decide) (ow (k := 3) rfl) (fun _ h9 => h9) rfl (by decide +kernel) rfl rfl (Nat.le_of_ble_eq_true rfl) dX1_open_72 (fun H locs hP hD hS => ?_)
          have hP : va_P (dC, dI) vwP [(h0, .inr (1, [.ref q_100, .ref q_101, .ref q_102, v1_3, v1_4, .int 1])), (q_100, .inl (cA_100, 300, .inl (fun j : Nat => zI (a_2004 (j : Int))))), (q_101, .inl (cA_101, 300, .inl (fun j : Nat => zI (a1_firstOpen (j : Int))))), (q_102, .inl (cA_102, 300, .inl (fun j : Nat => zI (a_2003 (j : Int))))), (hc, .inr (0, [v_0, v_1, v_2, v_3, v_4, v_5, v_6, v_7, v_8, v_9, v_10, .ref q_711, .ref q_712, v_13, v_14, v_15, v_16, v_17, v_18])), (q_711, .inl (cA_711, 300, .inl (fun j : Nat => zI (a_11 (j : Int))))), (q_712, .inl (cA_712, 300, .inl (fun j : Nat => zI (a_12 (j : Int)))))] H := hP
          have hD : va_D A [(h0, .inr (1, [.ref q_100, .ref q_101, .ref q_102, v1_3, v1_4, .int 1])), (q_100, .inl (cA_100, 300, .inl (fun j : Nat => zI (a_2004 (j : Int))))), (q_101, .inl (cA_101, 300, .inl (fun j : Nat => zI (a1_firstOpen (j : Int))))), (q_102, .inl (cA_102, 300, .inl (fun j : Nat => zI (a_2003 (j : Int))))), (hc, .inr (0, [v_0, v_1, v_2, v_3, v_4, v_5, v_6, v_7, v_8, v_9, v_10, .ref q_711, .ref q_712, v_13, v_14, v_15, v_16, v_17, v_18])), (q_711, .inl (cA_711, 300, .inl (fun j : Nat => zI (a_11 (j : Int))))), (q_712, .inl (cA_712, 300, .inl (fun j : Nat => zI (a_12 (j : Int)))))] := hD
          subst hQ
          refine W.widen (k := 0) (n := 0) (Nat.le_of_ble_eq_true rfl) (Nat.le_of_ble_eq_true rfl) ?_
          exact W.vret hx hb hr (fun t ht hW => ⟨⟨(), rfl, trivial, 1, a_2004, a1_firstOpen, a_2003, ⟨(by omega), ra_2004, hR_a1_firstOpen, ra_2003, ⟨_, (Or.inr ⟨by omega, rfl, rfl⟩), (Or.inl ⟨by omega, by omega, ea_2003, ea_2004⟩), fun _ => by omega, fun _ => by omega⟩⟩, by rw [ht]; exact hP, va_K.moved hW.alike hK, hD⟩, hS.F ht⟩) hS.2.2 dX1_open_75
    · have yb10 : (a1_firstOpen (b) : Int) = (0 : Int) := (zI_eq (a := a1_firstOpen (b)) (b := 0) (by omega) (by omega) (by omega) (by omega)).mp b10
      refine lv_aload_n hx hb dX1_open_13 rfl (lv_at hl 0 rfl) ?_
      refine va_get (D := (dC, dI)) (ci := 1) (v := .ref q_101) (C := RX1) (T := TX1) (N := 6) hx hb hts mem_X1_openL_0 hown hK hP 0 rfl rfl 1 (by decide) (ow (k := 4) rfl) (fun _ h9 => h9) rfl dX1_open_14 ?_
      refine lv_iload_n hx hb dX1_open_17 rfl (lv_at hl 2 rfl) ?_
      refine lv_iconst (v := 1) hx hb dX1_open_18 (by decide) ?_
      refine va_zast (i := zI (b)) hx hb hK hP hD hS 2 1 rfl rfl (zI_in (a := b) (n := 300) (by omega) (by omega) (by decide)) dX1_open_19 (fun H locs hP hD hS => ?_)
      rw [show vp_nar .boolean 1 = 1 from zI_nar (a := 1) (by omega) (by omega)] at hP hD
      have eQ : upd (fun j : Nat => zI (a1_firstOpen (j : Int))) (zI (b)).toNatClampNeg 1 = (fun j : Nat => zI (zup a1_firstOpen (b) (1) (j : Int))) := zI_st a1_firstOpen (e := b) (v := 1) (by omega) (by omega)
      rw [eQ] at hP hD
      clear eQ
      have ra_2005 : ∀ j : Int, 0 ≤ zup a1_firstOpen (b) (1) j ∧ zup a1_firstOpen (b) (1) j ≤ 1 := zup_P (P := fun x9 => 0 ≤ x9 ∧ x9 ≤ 1) hR_a1_firstOpen (show 0 ≤ (1) ∧ (1) ≤ 1 by omega)
      obtain ⟨a_2005, ea_2005⟩ : ∃ a9 : Int → Int, a9 = zup a1_firstOpen (b) (1) := ⟨_, rfl⟩
      rw [← ea_2005] at hP hD ra_2005
      have hP : va_P (dC, dI) vwP [(h0, .inr (1, [.ref q_100, .ref q_101, .ref q_102, v1_3, v1_4, .int (zI (z1_changed))])), (q_100, .inl (cA_100, 300, .inl (fun j : Nat => zI (a1_gone (j : Int))))), (q_101, .inl (cA_101, 300, .inl (fun j : Nat => zI (a_2005 (j : Int))))), (q_102, .inl (cA_102, 300, .inl (fun j : Nat => zI (a1_secondOpen (j : Int))))), (hc, .inr (0, [v_0, v_1, v_2, v_3, v_4, v_5, v_6, v_7, v_8, v_9, v_10, .ref q_711, .ref q_712, v_13, v_14, v_15, v_16, v_17, v_18])), (q_711, .inl (cA_711, 300, .inl (fun j : Nat => zI (a_11 (j : Int))))), (q_712, .inl (cA_712, 300, .inl (fun j : Nat => zI (a_12 (j : Int)))))] H := hP
      have hD : va_D A [(h0, .inr (1, [.ref q_100, .ref q_101, .ref q_102, v1_3, v1_4, .int (zI (z1_changed))])), (q_100, .inl (cA_100, 300, .inl (fun j : Nat => zI (a1_gone (j : Int))))), (q_101, .inl (cA_101, 300, .inl (fun j : Nat => zI (a_2005 (j : Int))))), (q_102, .inl (cA_102, 300, .inl (fun j : Nat => zI (a1_secondOpen (j : Int))))), (hc, .inr (0, [v_0, v_1, v_2, v_3, v_4, v_5, v_6, v_7, v_8, v_9, v_10, .ref q_711, .ref q_712, v_13, v_14, v_15, v_16, v_17, v_18])), (q_711, .inl (cA_711, 300, .inl (fun j : Nat => zI (a_11 (j : Int))))), (q_712, .inl (cA_712, 300, .inl (fun j : Nat => zI (a_12 (j : Int)))))] := hD
      refine lv_aload_n hx hb dX1_open_20 rfl (lv_at hl 0 rfl) ?_
      refine va_get (D := (dC, dI)) (ci := 1) (v := .ref q_100) (C := RX1) (T := TX1) (N := 6) hx hb hts mem_X1_openL_0 hown hK hP 0 rfl rfl 0 (by decide) (ow (k := 1) rfl) (fun _ h9 => h9) rfl dX1_open_21 ?_
      refine lv_aload_n hx hb dX1_open_24 rfl (lv_at hl 1 rfl) ?_
      refine va_get (D := (dC, dI)) (ci := 0) (v := .ref q_711) (C := RX0) (T := TX0) (N := 19) hx hb hts mem_X1_openL_1 hown hK hP 4 rfl rfl 11 (by decide) (ow (k := 5) rfl) (fun _ h9 => h9) rfl dX1_open_25 ?_
      refine lv_iload_n hx hb dX1_open_28 rfl (lv_at hl 2 rfl) ?_
      refine va_iald hx hb hK hP 5 3 rfl rfl (zI_in (a := b) (n := 300) (by omega) (by omega) (by decide)) dX1_open_29 ?_
      refine lv_topi (fun z ez => ?_)
      obtain rfl : z = zI (a_11 (b)) := ez.trans (zI_ld (a_11) (by omega) (by omega))
      have k6 := hR_a_11 (b)
      refine lv_iconst (v := 1) hx hb dX1_open_30 (by decide) ?_
      refine va_zast (i := zI (a_11 (b))) hx hb hK hP hD hS 1 0 rfl rfl (zI_in (a := a_11 (b)) (n := 300) (by omega) (by omega) (by decide)) dX1_open_31 (fun H locs hP hD hS => ?_)
      rw [show vp_nar .boolean 1 = 1 from zI_nar (a := 1) (by omega) (by omega)] at hP hD
      have eQ : upd (fun j : Nat => zI (a1_gone (j : Int))) (zI (a_11 (b))).toNatClampNeg 1 = (fun j : Nat => zI (zup a1_gone (a_11 (b)) (1) (j : Int))) := zI_st a1_gone (e := a_11 (b)) (v := 1) (by omega) (by omega)
      rw [eQ] at hP hD
      clear eQ
      have ra_2006 : ∀ j : Int, 0 ≤ zup a1_gone (a_11 (b)) (1) j ∧ zup a1_gone (a_11 (b)) (1) j ≤ 1 := zup_P (P := fun x9 => 0 ≤ x9 ∧ x9 ≤ 1) hR_a1_gone (show 0 ≤ (1) ∧ (1) ≤ 1 by omega)
      obtain ⟨a_2006, ea_2006⟩ : ∃ a9 : Int → Int, a9 = zup a1_gone (a_11 (b)) (1) := ⟨_, rfl⟩
      rw [← ea_2006] at hP hD ra_2006
      have hP : va_P (dC, dI) vwP [(h0, .inr (1, [.ref q_100, .ref q_101, .ref q_102, v1_3, v1_4, .int (zI (z1_changed))])), (q_100, .inl (cA_100, 300, .inl (fun j : Nat => zI (a_2006 (j : Int))))), (q_101, .inl (cA_101, 300, .inl (fun j : Nat => zI (a_2005 (j : Int))))), (q_102, .inl (cA_102, 300, .inl (fun j : Nat => zI (a1_secondOpen (j : Int))))), (hc, .inr (0, [v_0, v_1, v_2, v_3, v_4, v_5, v_6, v_7, v_8, v_9, v_10, .ref q_711, .ref q_712, v_13, v_14, v_15, v_16, v_17, v_18])), (q_711, .inl (cA_711, 300, .inl (fun j : Nat => zI (a_11 (j : Int))))), (q_712, .inl (cA_712, 300, .inl (fun j : Nat => zI (a_12 (j : Int)))))] H := hP
      have hD : va_D A [(h0, .inr (1, [.ref q_100, .ref q_101, .ref q_102, v1_3, v1_4, .int (zI (z1_changed))])), (q_100, .inl (cA_100, 300, .inl (fun j : Nat => zI (a_2006 (j : Int))))), (q_101, .inl (cA_101, 300, .inl (fun j : Nat => zI (a_2005 (j : Int))))), (q_102, .inl (cA_102, 300, .inl (fun j : Nat => zI (a1_secondOpen (j : Int))))), (hc, .inr (0, [v_0, v_1, v_2, v_3, v_4, v_5, v_6, v_7, v_8, v_9, v_10, .ref q_711, .ref q_712, v_13, v_14, v_15, v_16, v_17, v_18])), (q_711, .inl (cA_711, 300, .inl (fun j : Nat => zI (a_11 (j : Int))))), (q_712, .inl (cA_712, 300, .inl (fun j : Nat => zI (a_12 (j : Int)))))] := hD
      refine lv_aload_n hx hb dX1_open_32 rfl (lv_at hl 0 rfl) ?_
      refine lv_iconst (v := 1) hx hb dX1_open_33 (by decide) ?_
      refine va_put (D := (dC, dI)) (ci := 1) (v := .int 1) (ty := .boolean) (C := RX1) (T := TX1) (N := 6) hx hb hts mem_X1_openL_0 tyX1 tyX1_ok nmX1 hown hK hP hD hS 0 rfl rfl 5 (by decide) (ow (k := 3) rfl) (fun _ h9 => h9) rfl (by decide +kernel) rfl rfl (Nat.le_of_ble_eq_true rfl) dX1_open_34 (fun H locs hP hD hS => ?_)
      have hP : va_P (dC, dI) vwP [(h0, .inr (1, [.ref q_100, .ref q_101, .ref q_102, v1_3, v1_4, .int 1])), (q_100, .inl (cA_100, 300, .inl (fun j : Nat => zI (a_2006 (j : Int))))), (q_101, .inl (cA_101, 300, .inl (fun j : Nat => zI (a_2005 (j : Int))))), (q_102, .inl (cA_102, 300, .inl (fun j : Nat => zI (a1_secondOpen (j : Int))))), (hc, .inr (0, [v_0, v_1, v_2, v_3, v_4, v_5, v_6, v_7, v_8, v_9, v_10, .ref q_711, .ref q_712, v_13, v_14, v_15, v_16, v_17, v_18])), (q_711, .inl (cA_711, 300, .inl (fun j : Nat => zI (a_11 (j : Int))))), (q_712, .inl (cA_712, 300, .inl (fun j : Nat => zI (a_12 (j : Int)))))] H := hP
      have hD : va_D A [(h0, .inr (1, [.ref q_100, .ref q_101, .ref q_102, v1_3, v1_4, .int 1])), (q_100, .inl (cA_100, 300, .inl (fun j : Nat => zI (a_2006 (j : Int))))), (q_101, .inl (cA_101, 300, .inl (fun j : Nat => zI (a_2005 (j : Int))))), (q_102, .inl (cA_102, 300, .inl (fun j : Nat => zI (a1_secondOpen (j : Int))))), (hc, .inr (0, [v_0, v_1, v_2, v_3, v_4, v_5, v_6, v_7, v_8, v_9, v_10, .ref q_711, .ref q_712, v_13, v_14, v_15, v_16, v_17, v_18])), (q_711, .inl (cA_711, 300, .inl (fun j : Nat => zI (a_11 (j : Int))))), (q_712, .inl (cA_712, 300, .inl (fun j : Nat => zI (a_12 (j : Int)))))] := hD
      refine lv_iload hx hb dX1_open_37 (lv_at hl 4 rfl) ?_
      refine lv_if_eq (tgt := 75) hx hb dX1_open_39 (by decide) (fun b39 => ?_) (fun b39 => ?_)
      · have yb39 : (p2 : Int) = (0 : Int) := (zI_eq (a := p2) (b := 0) (by omega) (by omega) (by omega) (by omega)).mp b39
        subst hQ
        refine W.widen (k := 0) (n := 0) (Nat.le_of_ble_eq_true rfl) (Nat.le_of_ble_eq_true rfl) ?_
        exact W.vret hx hb hr (fun t ht hW => ⟨⟨(), rfl, trivial, 1, a_2006, a_2005, a1_secondOpen, ⟨(by omega), ra_2006, ra_2005, hR_a1_secondOpen, ⟨_, (Or.inl ⟨by omega, by omega, ea_2005, ea_2006⟩), (Or.inr ⟨by omega, rfl, rfl⟩), fun _ => by omega, fun _ => by omega⟩⟩, by rw [ht]; exact hP, va_K.moved hW.alike hK, hD⟩, hS.F ht⟩) hS.2.2 dX1_open_75
      · have yb39 : ¬ (p2 : Int) = (0 : Int) := fun q => b39 ((zI_eq (a := p2) (b := 0) (by omega) (by omega) (by omega) (by omega)).mpr q)
        refine lv_aload_n hx hb dX1_open_42 rfl (lv_at hl 0 rfl) ?_
        refine va_get (D := (dC, dI)) (ci := 1) (v := .ref q_102) (C := RX1) (T := TX1) (N := 6) hx hb hts mem_X1_openL_0 hown hK hP 0 rfl rfl 2 (by decide) (ow (k := 0) rfl) (fun _ h9 => h9) rfl dX1_open_43 ?_
        refine lv_iload_n hx hb dX1_open_46 rfl (lv_at hl 2 rfl) ?_
        refine va_zald hx hb hK hP 3 2 rfl rfl (zI_in (a := b) (n := 300) (by omega) (by omega) (by decide)) dX1_open_47 ?_
        refine lv_topi (fun z ez => ?_)
        obtain rfl : z = zI (a1_secondOpen (b)) := ez.trans (zI_ld (a1_secondOpen) (by omega) (by omega))
        have k7 := hR_a1_secondOpen (b)
        refine lv_if_ne (tgt := 75) hx hb dX1_open_48 (by decide) (fun b48 => ?_) (fun b48 => ?_)
        · have yb48 : ¬ (a1_secondOpen (b) : Int) = (0 : Int) := fun q => b48 ((zI_eq (a := a1_secondOpen (b)) (b := 0) (by omega) (by omega) (by omega) (by omega)).mpr q)
          subst hQ
          refine W.widen (k := 0) (n := 0) (Nat.le_of_ble_eq_true rfl) (Nat.le_of_ble_eq_true rfl) ?_
          exact W.vret hx hb hr (fun t ht hW => ⟨⟨(), rfl, trivial, 1, a_2006, a_2005, a1_secondOpen, ⟨(by omega), ra_2006, ra_2005, hR_a1_secondOpen, ⟨_, (Or.inl ⟨by omega, by omega, ea_2005, ea_2006⟩), (Or.inr ⟨by omega, rfl, rfl⟩), fun _ => by omega, fun _ => by omega⟩⟩, by rw [ht]; exact hP, va_K.moved hW.alike hK, hD⟩, hS.F ht⟩) hS.2.2 dX1_open_75
        · have yb48 : (a1_secondOpen (b) : Int) = (0 : Int) := (zI_eq (a := a1_secondOpen (b)) (b := 0) (by omega) (by omega) (by omega) (by omega)).mp b48
          refine lv_aload_n hx hb dX1_open_51 rfl (lv_at hl 0 rfl) ?_
          refine va_get (D := (dC, dI)) (ci := 1) (v := .ref q_102) (C := RX1) (T := TX1) (N := 6) hx hb hts mem_X1_openL_0 hown hK hP 0 rfl rfl 2 (by decide) (ow (k := 0) rfl) (fun _ h9 => h9) rfl dX1_open_52 ?_
          refine lv_iload_n hx hb dX1_open_55 rfl (lv_at hl 2 rfl) ?_
          refine lv_iconst (v := 1) hx hb dX1_open_56 (by decide) ?_
          refine va_zast (i := zI (b)) hx hb hK hP hD hS 3 2 rfl rfl (zI_in (a := b) (n := 300) (by omega) (by omega) (by decide)) dX1_open_57 (fun H locs hP hD hS => ?_)
          rw [show vp_nar .boolean 1 = 1 from zI_nar (a := 1) (by omega) (by omega)] at hP hD
          have eQ : upd (fun j : Nat => zI (a1_secondOpen (j : Int))) (zI (b)).toNatClampNeg 1 = (fun j : Nat => zI (zup a1_secondOpen (b) (1) (j : Int))) := zI_st a1_secondOpen (e := b) (v := 1) (by omega) (by omega)
          rw [eQ] at hP hD
          clear eQ
          have ra_2007 : ∀ j : Int, 0 ≤ zup a1_secondOpen (b) (1) j ∧ zup a1_secondOpen (b) (1) j ≤ 1 := zup_P (P := fun x9 => 0 ≤ x9 ∧ x9 ≤ 1) hR_a1_secondOpen (show 0 ≤ (1) ∧ (1) ≤ 1 by omega)
          obtain ⟨a_2007, ea_2007⟩ : ∃ a9 : Int → Int, a9 = zup a1_secondOpen (b) (1) := ⟨_, rfl⟩
          rw [← ea_2007] at hP hD ra_2007
          have hP : va_P (dC, dI) vwP [(h0, .inr (1, [.ref q_100, .ref q_101, .ref q_102, v1_3, v1_4, .int 1])), (q_100, .inl (cA_100, 300, .inl (fun j : Nat => zI (a_2006 (j : Int))))), (q_101, .inl (cA_101, 300, .inl (fun j : Nat => zI (a_2005 (j : Int))))), (q_102, .inl (cA_102, 300, .inl (fun j : Nat => zI (a_2007 (j : Int))))), (hc, .inr (0, [v_0, v_1, v_2, v_3, v_4, v_5, v_6, v_7, v_8, v_9, v_10, .ref q_711, .ref q_712, v_13, v_14, v_15, v_16, v_17, v_18])), (q_711, .inl (cA_711, 300, .inl (fun j : Nat => zI (a_11 (j : Int))))), (q_712, .inl (cA_712, 300, .inl (fun j : Nat => zI (a_12 (j : Int)))))] H := hP
          have hD : va_D A [(h0, .inr (1, [.ref q_100, .ref q_101, .ref q_102, v1_3, v1_4, .int 1])), (q_100, .inl (cA_100, 300, .inl (fun j : Nat => zI (a_2006 (j : Int))))), (q_101, .inl (cA_101, 300, .inl (fun j : Nat => zI (a_2005 (j : Int))))), (q_102, .inl (cA_102, 300, .inl (fun j : Nat => zI (a_2007 (j : Int))))), (hc, .inr (0, [v_0, v_1, v_2, v_3, v_4, v_5, v_6, v_7, v_8, v_9, v_10, .ref q_711, .ref q_712, v_13, v_14, v_15, v_16, v_17, v_18])), (q_711, .inl (cA_711, 300, .inl (fun j : Nat => zI (a_11 (j : Int))))), (q_712, .inl (cA_712, 300, .inl (fun j : Nat => zI (a_12 (j : Int)))))] := hD
          refine lv_aload_n hx hb dX1_open_58 rfl (lv_at hl 0 rfl) ?_
          refine va_get (D := (dC, dI)) (ci := 1) (v := .ref q_100) (C := RX1) (T := TX1) (N := 6) hx hb hts mem_X1_openL_0 hown hK hP 0 rfl rfl 0 (by decide) (ow (k := 1) rfl) (fun _ h9 => h9) rfl dX1_open_59 ?_
          refine lv_aload_n hx hb dX1_open_62 rfl (lv_at hl 1 rfl) ?_
          refine va_get (D := (dC, dI)) (ci := 0) (v := .ref q_712) (C := RX0) (T := TX0) (N := 19) hx hb hts mem_X1_openL_1 hown hK hP 4 rfl rfl 12 (by decide) (ow (k := 2) rfl) (fun _ h9 => h9) rfl dX1_open_63 ?_
          refine lv_iload_n hx hb dX1_open_66 rfl (lv_at hl 2 rfl) ?_
          refine va_iald hx hb hK hP 6 4 rfl rfl (zI_in (a := b) (n := 300) (by omega) (by omega) (by decide)) dX1_open_67 ?_
          refine lv_topi (fun z ez => ?_)
          obtain rfl : z = zI (a_12 (b)) := ez.trans (zI_ld (a_12) (by omega) (by omega))
          have k8 := hR_a_12 (b)
          refine lv_iconst (v := 1) hx hb dX1_open_68 (by decide) ?_
          refine va_zast (i := zI (a_12 (b))) hx hb hK hP hD hS 1 0 rfl rfl (zI_in (a := a_12 (b)) (n := 300) (by omega) (by omega) (by decide)) dX1_open_69 (fun H locs hP hD hS => ?_)
          rw [show vp_nar .boolean 1 = 1 from zI_nar (a := 1) (by omega) (by omega)] at hP hD
          have eQ : upd (fun j : Nat => zI (a_2006 (j : Int))) (zI (a_12 (b))).toNatClampNeg 1 = (fun j : Nat => zI (zup a_2006 (a_12 (b)) (1) (j : Int))) := zI_st a_2006 (e := a_12 (b)) (v := 1) (by omega) (by omega)
          rw [eQ] at hP hD
          clear eQ
          have ra_2008 : ∀ j : Int, 0 ≤ zup a_2006 (a_12 (b)) (1) j ∧ zup a_2006 (a_12 (b)) (1) j ≤ 1 := zup_P (P := fun x9 => 0 ≤ x9 ∧ x9 ≤ 1) ra_2006 (show 0 ≤ (1) ∧ (1) ≤ 1 by omega)
          obtain ⟨a_2008, ea_2008⟩ : ∃ a9 : Int → Int, a9 = zup a_2006 (a_12 (b)) (1) := ⟨_, rfl⟩
          rw [← ea_2008] at hP hD ra_2008
          have hP : va_P (dC, dI) vwP [(h0, .inr (1, [.ref q_100, .ref q_101, .ref q_102, v1_3, v1_4, .int 1])), (q_100, .inl (cA_100, 300, .inl (fun j : Nat => zI (a_2008 (j : Int))))), (q_101, .inl (cA_101, 300, .inl (fun j : Nat => zI (a_2005 (j : Int))))), (q_102, .inl (cA_102, 300, .inl (fun j : Nat => zI (a_2007 (j : Int))))), (hc, .inr (0, [v_0, v_1, v_2, v_3, v_4, v_5, v_6, v_7, v_8, v_9, v_10, .ref q_711, .ref q_712, v_13, v_14, v_15, v_16, v_17, v_18])), (q_711, .inl (cA_711, 300, .inl (fun j : Nat => zI (a_11 (j : Int))))), (q_712, .inl (cA_712, 300, .inl (fun j : Nat => zI (a_12 (j : Int)))))] H := hP
          have hD : va_D A [(h0, .inr (1, [.ref q_100, .ref q_101, .ref q_102, v1_3, v1_4, .int 1])), (q_100, .inl (cA_100, 300, .inl (fun j : Nat => zI (a_2008 (j : Int))))), (q_101, .inl (cA_101, 300, .inl (fun j : Nat => zI (a_2005 (j : Int))))), (q_102, .inl (cA_102, 300, .inl (fun j : Nat => zI (a_2007 (j : Int))))), (hc, .inr (0, [v_0, v_1, v_2, v_3, v_4, v_5, v_6, v_7, v_8, v_9, v_10, .ref q_711, .ref q_712, v_13, v_14, v_15, v_16, v_17, v_18])), (q_711, .inl (cA_711, 300, .inl (fun j : Nat => zI (a_11 (j : Int))))), (q_712, .inl (cA_712, 300, .inl (fun j : Nat => zI (a_12 (j : Int)))))] := hD
          refine lv_aload_n hx hb dX1_open_70 rfl (lv_at hl 0 rfl) ?_
          refine lv_iconst (v := 1) hx hb dX1_open_71 (by decide) ?_
          refine va_put (D := (dC, dI)) (ci := 1) (v := .int 1) (ty := .boolean) (C := RX1) (T := TX1) (N := 6) hx hb hts mem_X1_openL_0 tyX1 tyX1_ok nmX1 hown hK hP hD hS 0 rfl rfl 5 (by decide) (ow (k := 3) rfl) (fun _ h9 => h9) rfl (by decide +kernel) rfl rfl (Nat.le_of_ble_eq_true rfl) dX1_open_72 (fun H locs hP hD hS => ?_)
          have hP : va_P (dC, dI) vwP [(h0, .inr (1, [.ref q_100, .ref q_101, .ref q_102, v1_3, v1_4, .int 1])), (q_100, .inl (cA_100, 300, .inl (fun j : Nat => zI (a_2008 (j : Int))))), (q_101, .inl (cA_101, 300, .inl (fun j : Nat => zI (a_2005 (j : Int))))), (q_102, .inl (cA_102, 300, .inl (fun j : Nat => zI (a_2007 (j : Int))))), (hc, .inr (0, [v_0, v_1, v_2, v_3, v_4, v_5, v_6, v_7, v_8, v_9, v_10, .ref q_711, .ref q_712, v_13, v_14, v_15, v_16, v_17, v_18])), (q_711, .inl (cA_711, 300, .inl (fun j : Nat => zI (a_11 (j : Int))))), (q_712, .inl (cA_712, 300, .inl (fun j : Nat => zI (a_12 (j : Int)))))] H := hP
          have hD : va_D A [(h0, .inr (1, [.ref q_100, .ref q_101, .ref q_102, v1_3, v1_4, .int 1])), (q_100, .inl (cA_100, 300, .inl (fun j : Nat => zI (a_2008 (j : Int))))), (q_101, .inl (cA_101, 300, .inl (fun j : Nat => zI (a_2005 (j : Int))))), (q_102, .inl (cA_102, 300, .inl (fun j : Nat => zI (a_2007 (j : Int))))), (hc, .inr (0, [v_0, v_1, v_2, v_3, v_4, v_5, v_6, v_7, v_8, v_9, v_10, .ref q_711, .ref q_712, v_13, v_14, v_15, v_16, v_17, v_18])), (q_711, .inl (cA_711, 300, .inl (fun j : Nat => zI (a_11 (j : Int))))), (q_712, .inl (cA_712, 300, .inl (fun j : Nat => zI (a_12 (j : Int)))))] := hD
          subst hQ
          refine W.widen (k := 0) (n := 0) (Nat.le_of_ble_eq_true rfl) (Nat.le_of_ble_eq_true rfl) ?_
          exact W.vret hx hb hr (fun t ht hW => ⟨⟨(), rfl, trivial, 1, a_2008, a_2005, a_2007, ⟨(by omega), ra_2008, ra_2005, ra_2007, ⟨_, (Or.inl ⟨by omega, by omega, ea_2005, ea_2006⟩), (Or.inl ⟨by omega, by omega, ea_2007, ea_2008⟩), fun _ => by omega, fun _ => by omega⟩⟩, by rw [ht]; exact hP, va_K.moved hW.alike hK, hD⟩, hS.F ht⟩) hS.2.2 dX1_open_75
