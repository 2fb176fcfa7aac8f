theorem dX4_addNow_0 : decode cX4_addNow 0 = .ok (.lload_n 1, 1) := by decide +kernel
theorem dX4_addNow_1 : decode cX4_addNow 1 = .ok (.invokestatic 90, 3) := by decide +kernel
theorem dX4_addNow_4 : decode cX4_addNow 4 = .ok (.ifCond .eq 18, 3) := by decide +kernel
theorem dX4_addNow_22 : decode cX4_addNow 22 = .ok (.iconst 0, 1) := by decide +kernel
theorem dX4_addNow_23 : decode cX4_addNow 23 = .ok (.ireturn, 1) := by decide +kernel
theorem dX4_addNow_7 : decode cX4_addNow 7 = .ok (.aload_n 0, 1) := by decide +kernel
theorem dX4_addNow_8 : decode cX4_addNow 8 = .ok (.getfield 34, 3) := by decide +kernel
theorem dX4_addNow_11 : decode cX4_addNow 11 = .ok (.iconst 0, 1) := by decide +kernel
theorem dX4_addNow_12 : decode cX4_addNow 12 = .ok (.lload_n 1, 1) := by decide +kernel
theorem dX4_addNow_13 : decode cX4_addNow 13 = .ok (.invokestatic 94, 3) := by decide +kernel
theorem dX4_addNow_16 : decode cX4_addNow 16 = .ok (.invokestatic 98, 3) := by decide +kernel
theorem dX4_addNow_19 : decode cX4_addNow 19 = .ok (.ifCond .eq 5, 3) := by decide +kernel
theorem dX4_addNow_24 : decode cX4_addNow 24 = .ok (.aload_n 0, 1) := by decide +kernel
theorem dX4_addNow_25 : decode cX4_addNow 25 = .ok (.getfield 34, 3) := by decide +kernel
theorem dX4_addNow_28 : decode cX4_addNow 28 = .ok (.iconst 0, 1) := by decide +kernel
theorem dX4_addNow_29 : decode cX4_addNow 29 = .ok (.lload_n 1, 1) := by decide +kernel
theorem dX4_addNow_30 : decode cX4_addNow 30 = .ok (.invokestatic 94, 3) := by decide +kernel
theorem dX4_addNow_33 : decode cX4_addNow 33 = .ok (.invokestatic 83, 3) := by decide +kernel
theorem dX4_addNow_36 : decode cX4_addNow 36 = .ok (.iconst 1, 1) := by decide +kernel
theorem dX4_addNow_37 : decode cX4_addNow 37 = .ok (.ireturn, 1) := by decide +kernel
def o_X4_addNow : List Cond := [.initialized RX11, .static yX11_isRegister, .fieldLink RX4 34 "SsaForge$Live" "now" "[J", .static yX11_registerOf, .static yX11_hasBit, .static yX11_putBit]
def v_X4_addNow : List Cond := .code yX4_addNow cX4_addNow 3 (some .int) :: (o_X4_addNow ++ (v_X11_isRegister ++ (wsX40 ++ (v_X11_registerOf ++ (v_X11_hasBit ++ (v_X11_putBit ++ []))))))
theorem mow_X4_addNow : ∀ w ∈ o_X4_addNow, w ∈ v_X4_addNow := fun _ h => List.mem_cons_of_mem _ (List.mem_append_left _ h)
theorem mem_X4_addNow_0 : ∀ w ∈ v_X11_isRegister, w ∈ v_X4_addNow := fun _ h => List.mem_cons_of_mem _ (List.mem_append_right _ (List.mem_append_left _ h))
theorem mem_X4_addNow_1 : ∀ w ∈ wsX40, w ∈ v_X4_addNow := fun _ h => List.mem_cons_of_mem _ (List.mem_append_right _ (List.mem_append_right _ (List.mem_append_left _ h)))
theorem mem_X4_addNow_2 : ∀ w ∈ v_X11_registerOf, w ∈ v_X4_addNow := fun _ h => List.mem_cons_of_mem _ (List.mem_append_right _ (List.mem_append_right _ (List.mem_append_right _ (List.mem_append_left _ h))))
theorem mem_X4_addNow_3 : ∀ w ∈ v_X11_hasBit, w ∈ v_X4_addNow := fun _ h => List.mem_cons_of_mem _ (List.mem_append_right _ (List.mem_append_right _ (List.mem_append_right _ (List.mem_append_right _ (List.mem_append_left _ h)))))
theorem mem_X4_addNow_4 : ∀ w ∈ v_X11_putBit, w ∈ v_X4_addNow := fun _ h => List.mem_cons_of_mem _ (List.mem_append_right _ (List.mem_append_right _ (List.mem_append_right _ (List.mem_append_right _ (List.mem_append_right _ (List.mem_append_left _ h))))))
set_option maxRecDepth 20000 in
theorem gw_X4_addNow : v_X4_addNow.all goodWord = true := by decide +kernel
set_option maxHeartbeats 4000000 in
set_option maxRecDepth 100000 in
theorem c_X4_addNow (l : Launch) (dC : Nat → ClassId) (dI : Nat → Nat → Nat) (h0 : Nat) (v4_0 : Value) (v4_1 : Value) (v4_2 : Value) (v4_3 : Value) (v4_4 : Value) (v4_5 : Value) (v4_6 : Value) (q_407 : Nat) (cA_407 : ClassId) (fa4_now : Nat → Int64) (x : Int) (hNx : ((-2147483648 ≤ x ∧ x ≤ 4294968319) ∨ x = 1099511627776)) (sz : Nat) : Met l yX4_addNow v_X4_addNow ({ frames := 1, cells := 0, slots := 0, locals := 22 }) (va_Pc [.ref h0, .long (lI (x))] (fun U => U.heap.size = sz ∧ va_P (dC, dI) vwP [(h0, .inr (4, [v4_0, v4_1, v4_2, v4_3, v4_4, v4_5, v4_6, .ref q_407])), (q_407, .inl (cA_407, 16, .inr (.inl fa4_now)))] U.heap ∧ va_K (dC, dI) vwP [(cA_407, .long)] U ∧ va_D (fun _ => True) [(h0, .inr (4, [v4_0, v4_1, v4_2, v4_3, v4_4, v4_5, v4_6, .ref q_407])), (q_407, .inl (cA_407, 16, .inr (.inl fa4_now)))] ∧ va_Nw (.methodLinkNest RX4 90 yX11_isRegister "SsaForge") U ∧ va_Nw (.methodLinkNest RX4 94 yX11_registerOf "SsaForge") U ∧ va_Nw (.methodLinkNest RX4 98 yX11_hasBit "SsaForge") U ∧ va_Nw (.methodLinkNest RX4 83 yX11_putBit "SsaForge") U)) (va_Qi (fun (r : Int32) (_ : Unit) => ∃ z : Int, r = zI z ∧ (0 ≤ z ∧ z ≤ 1)) (fun (_ : Unit) (t : State) => ∃ (g0_9 : Nat → Int64), va_P (dC, dI) vwP [(h0, .inr (4, [v4_0, v4_1, v4_2, v4_3, v4_4, v4_5, v4_6, .ref q_407])), (q_407, .inl (cA_407, 16, .inr (.inl g0_9)))] t.heap ∧ va_K (dC, dI) vwP [(cA_407, .long)] t ∧ va_D (va_A [(h0, .inr (4, [v4_0, v4_1, v4_2, v4_3, v4_4, v4_5, v4_6, .ref q_407])), (q_407, .inl (cA_407, 16, .inr (.inl fa4_now)))] sz) [(h0, .inr (4, [v4_0, v4_1, v4_2, v4_3, v4_4, v4_5, v4_6, .ref q_407])), (q_407, .inl (cA_407, 16, .inr (.inl g0_9)))]) (va_A [(h0, .inr (4, [v4_0, v4_1, v4_2, v4_3, v4_4, v4_5, v4_6, .ref q_407])), (q_407, .inl (cA_407, 16, .inr (.inl fa4_now)))] sz)) 0 0 (va_A [(h0, .inr (4, [v4_0, v4_1, v4_2, v4_3, v4_4, v4_5, v4_6, .ref q_407])), (q_407, .inl (cA_407, 16, .inr (.inl fa4_now)))] sz) := by
  refine Met.ofW (cc := cX4_addNow) (maxL := 3) (ret := (some .int)) (by decide) rfl ?_
  intro p e s m args below meth c s₁ B hml hv
  obtain ⟨rfl, hsz, hP, hK, hD0, hp0, hp1, hp2, hp3⟩ := hv
  have hx := B.exec
  have hb := B.bytes
  have hr := B.returns
  have hts := atoms_spec (ws := v_X4_addNow) B.pre
  have hown : s.vm.findClass RX4 = some m.cls := findClass_of_methodNamed B.named
  have hlocks := B.notSynchronized
  have ow : ∀ {k : Nat} {w : Cond}, o_X4_addNow[k]? = some w → w.before ([.ref h0, .long (lI (x))] : List Value).toArray s = true := fun h => hts _ (mow_X4_addNow _ (List.mem_of_getElem? h))
  subst hsz
  have hD := hD0.self (sz := s.heap.size)
  generalize hAe : va_A [(h0, .inr (4, [v4_0, v4_1, v4_2, v4_3, v4_4, v4_5, v4_6, .ref q_407])), (q_407, .inl (cA_407, 16, .inr (.inl fa4_now)))] s.heap.size = A at hD ⊢
  have hA : ∀ q : Nat, s.heap.size ≤ q → A q := fun q h => by rw [← hAe]; exact Or.inr h
  have hS : va_S A s.heap s.heap [] := va_S.rf
  have hP : va_P (dC, dI) vwP [(h0, .inr (4, [v4_0, v4_1, v4_2, v4_3, v4_4, v4_5, v4_6, .ref q_407])), (q_407, .inl (cA_407, 16, .inr (.inl fa4_now)))] s.heap := hP
  have hl := lv_entry ([.ref h0, .long (lI (x))]) (n := 3) (Nat.le_of_ble_eq_true rfl)
  rw [lg_entry_eq]
  generalize (lg_sl ([.ref h0, .long (lI (x))]) ++ List.replicate (3 - (lg_sl ([.ref h0, .long (lI (x))])).length) Slot.unset).toArray = ls at hl ⊢
  have hl : lv_has ls 3 [(0, .ref h0), (1, .long (lI (x)))] := hl
  obtain ⟨H, hH⟩ : ∃ H, H = s.heap := ⟨_, rfl⟩
  rw [← hH] at hP
  have hS : va_S A s.heap H [] := by rw [hH]; exact hS
  rw [← hH]
  refine zW_cap (fun Q hQ => ?_)
  refine lv_lload_n hx hb dX4_addNow_0 rfl (lv_at hl 1 rfl) ?_
  have hPc := hP.sub (ws' := []) [] rfl
  have hDc := hD.sub (ws' := []) [] (by decide) rfl
  have hKc := hK.sub (tys' := []) [] rfl
  have hFc := va_free (wc := []) hD hS hA [] rfl
  refine va_calli (va_runSN (As := [.long (lI (x))]) (rest := []) ⟨hx, hb, hml, hown, hts⟩ (c_X11_isRegister l dC dI x (by omega) H.size) ⟨va_cnB 1 hts (goodIn_sub mem_X4_addNow_0 gw_X11_isRegister) rfl rfl rfl hp0 (ow (k := 0) rfl) (by decide +kernel) ⟨(Nat.le_of_ble_eq_true rfl), (Nat.le_of_ble_eq_true rfl)⟩, (ow (k := 1) rfl), trivial⟩ ⟨fun a U g mk q => by obtain ⟨q0, q1, qP, qK, qD⟩ := q; exact ⟨q0, q1, qP, va_K.moved (u := U) (U := U.calling g mk a) (Vm.Alike.refl U.vm) qK, qD⟩, fun U hU hW => ⟨rfl, by rw [hU], by rw [hU]; exact hPc, va_K.moved hW.alike hKc, hDc.weaken (fun _ _ _ _ => trivial)⟩⟩ rfl rfl hl.1 rfl (lv_room (Nat.le_of_ble_eq_true rfl)) dX4_addNow_1 ⟨(Nat.le_of_ble_eq_true rfl), (Nat.le_of_ble_eq_true rfl)⟩) hS (fun q _ h => hFc q h) hFc (fun r_2001 u t H1 locs ht hvm hw hB hz1 hk1 hS => ?_)
  obtain ⟨hP1, hK1, hD1⟩ := hB
  rw [ht] at hP1
  have hK1 := va_K.moved hvm.symm hK1
  obtain ⟨hP, hD⟩ := va_join (wr := [(h0, .inr (4, [v4_0, v4_1, v4_2, v4_3, v4_4, v4_5, v4_6, .ref q_407])), (q_407, .inl (cA_407, 16, .inr (.inl fa4_now)))]) (w1 := []) hP hD [] [0, 1] rfl rfl (by decide) (by decide) hk1 hFc hP1 hD1
  have hK := (hK.sub (tys' := [(cA_407, .long)]) [0] rfl).app hK1
  generalize H1 = H at hP hS ⊢
  have hP : va_P (dC, dI) vwP [(h0, .inr (4, [v4_0, v4_1, v4_2, v4_3, v4_4, v4_5, v4_6, .ref q_407])), (q_407, .inl (cA_407, 16, .inr (.inl fa4_now)))] H := hP
  have hD : va_D A [(h0, .inr (4, [v4_0, v4_1, v4_2, v4_3, v4_4, v4_5, v4_6, .ref q_407])), (q_407, .inl (cA_407, 16, .inr (.inl fa4_now)))] := hD
  have hK : va_K (dC, dI) vwP [(cA_407, .long)] s := hK
  refine W.widen (k := 0) (n := 0) (Nat.le_of_ble_eq_true rfl) (Nat.le_of_ble_eq_true rfl) ?_
  obtain rfl : r_2001 = (zI (isR x)) := hw
  have := isR_spec (x)
  refine lv_if_eq (tgt := 22) hx hb dX4_addNow_4 (by decide) (fun b4 => ?_) (fun b4 => ?_)
  · have yb4 : (isR x : Int) = (0 : Int) := (zI_eq (a := isR x) (b := 0) (by omega) (by omega) (by omega) (by omega)).mp b4
    refine lv_iconst (v := 0) hx hb dX4_addNow_22 (by decide) ?_
    subst hQ
    refine W.widen (k := 0) (n := 0) (Nat.le_of_ble_eq_true rfl) (Nat.le_of_ble_eq_true rfl) ?_
    exact W.iret (v := 0) hx hb hr (fun t ht hW => ⟨⟨0, (), rfl, ⟨0, rfl, by omega⟩, fa4_now, by rw [ht]; exact hP, va_K.moved hW.alike hK, hD⟩, hS.F ht⟩) hS.2.2 dX4_addNow_23
  · have yb4 : ¬ (isR x : Int) = (0 : Int) := fun q => b4 ((zI_eq (a := isR x) (b := 0) (by omega) (by omega) (by omega) (by omega)).mpr q)
    refine lv_aload_n hx hb dX4_addNow_7 rfl (lv_at hl 0 rfl) ?_
    refine va_get (D := (dC, dI)) (ci := 4) (v := .ref q_407) (C := RX4) (T := TX4) (N := 8) hx hb hts mem_X4_addNow_1 hown hK hP 0 rfl rfl 7 (by decide) (ow (k := 2) rfl) (fun _ h9 => h9) rfl dX4_addNow_8 ?_
    refine lv_iconst (v := 0) hx hb dX4_addNow_11 (by decide) ?_
    refine lv_lload_n hx hb dX4_addNow_12 rfl (lv_at hl 1 rfl) ?_
    have hPc := hP.sub (ws' := []) [] rfl
    have hDc := hD.sub (ws' := []) [] (by decide) rfl
    have hKc := hK.sub (tys' := []) [] rfl
    have hFc := va_free (wc := []) hD hS hA [] rfl
    refine va_calli (va_runSN (As := [.long (lI (x))]) (rest := [.int 0, .ref q_407]) ⟨hx, hb, hml, hown, hts⟩ (c_X11_registerOf l dC dI x (by omega) H.size) ⟨va_cnB 1 hts (goodIn_sub mem_X4_addNow_2 gw_X11_registerOf) rfl rfl rfl hp1 (ow (k := 0) rfl) (by decide +kernel) ⟨(Nat.le_of_ble_eq_true rfl), (Nat.le_of_ble_eq_true rfl)⟩, (ow (k := 3) rfl), trivial⟩ ⟨fun a U g mk q => by obtain ⟨q0, q1, qP, qK, qD⟩ := q; exact ⟨q0, q1, qP, va_K.moved (u := U) (U := U.calling g mk a) (Vm.Alike.refl U.vm) qK, qD⟩, fun U hU hW => ⟨rfl, by rw [hU], by rw [hU]; exact hPc, va_K.moved hW.alike hKc, hDc.weaken (fun _ _ _ _ => trivial)⟩⟩ rfl rfl hl.1 rfl (lv_room (Nat.le_of_ble_eq_true rfl)) dX4_addNow_13 ⟨(Nat.le_of_ble_eq_true rfl), (Nat.le_of_ble_eq_true rfl)⟩) hS (fun q _ h => hFc q h) hFc (fun r_2002 u t H1 locs ht hvm hw hB hz1 hk1 hS => ?_)
    obtain ⟨hP1, hK1, hD1⟩ := hB
    rw [ht] at hP1
    have hK1 := va_K.moved hvm.symm hK1
    obtain ⟨hP, hD⟩ := va_join (wr := [(h0, .inr (4, [v4_0, v4_1, v4_2, v4_3, v4_4, v4_5, v4_6, .ref q_407])), (q_407, .inl (cA_407, 16, .inr (.inl fa4_now)))]) (w1 := []) hP hD [] [0, 1] rfl rfl (by decide) (by decide) hk1 hFc hP1 hD1
    have hK := (hK.sub (tys' := [(cA_407, .long)]) [0] rfl).app hK1
    generalize H1 = H at hP hS ⊢
    have hP : va_P (dC, dI) vwP [(h0, .inr (4, [v4_0, v4_1, v4_2, v4_3, v4_4, v4_5, v4_6, .ref q_407])), (q_407, .inl (cA_407, 16, .inr (.inl fa4_now)))] H := hP
    have hD : va_D A [(h0, .inr (4, [v4_0, v4_1, v4_2, v4_3, v4_4, v4_5, v4_6, .ref q_407])), (q_407, .inl (cA_407, 16, .inr (.inl fa4_now)))] := hD
    have hK : va_K (dC, dI) vwP [(cA_407, .long)] s := hK
    refine W.widen (k := 0) (n := 0) (Nat.le_of_ble_eq_true rfl) (Nat.le_of_ble_eq_true rfl) ?_
    obtain rfl : r_2002 = (zI (x - 4294967296)) := hw
    have hPc := hP.sub (ws' := [(q_407, .inl (cA_407, 16, .inr (.inl fa4_now)))]) [1] rfl
    have hDc := hD.sub (ws' := [(q_407, .inl (cA_407, 16, .inr (.inl fa4_now)))]) [1] (by decide) rfl
    have hKc := hK.sub (tys' := [(cA_407, .long)]) [0] rfl
    have hFc := va_free (wc := [(q_407, .inl (cA_407, 16, .inr (.inl fa4_now)))]) hD hS hA [1] rfl
    refine va_calli (va_runSN (As := [.ref q_407, .int 0, .int (zI (x - 4294967296))]) (rest := []) ⟨hx, hb, hml, hown, hts⟩ (c_X11_hasBit l dC dI q_407 cA_407 16 fa4_now 0 (x - 4294967296) (by omega) H.size) ⟨va_cnB 3 hts (goodIn_sub mem_X4_addNow_3 gw_X11_hasBit) rfl rfl rfl hp2 (ow (k := 0) rfl) (by decide +kernel) ⟨(Nat.le_of_ble_eq_true rfl), (Nat.le_of_ble_eq_true rfl)⟩, (ow (k := 4) rfl), trivial⟩ ⟨fun a U g mk q => by obtain ⟨q0, q1, qP, qK, qD⟩ := q; exact ⟨q0, q1, qP, va_K.moved (u := U) (U := U.calling g mk a) (Vm.Alike.refl U.vm) qK, qD⟩, fun U hU hW => ⟨rfl, by rw [hU], by rw [hU]; exact hPc, va_K.moved hW.alike hKc, hDc.weaken (fun _ _ _ _ => trivial)⟩⟩ rfl rfl hl.1 rfl (lv_room (Nat.le_of_ble_eq_true rfl)) dX4_addNow_16 ⟨(Nat.le_of_ble_eq_true rfl), (Nat.le_of_ble_eq_true rfl)⟩) hS (fun q _ h => hFc q h) hFc (fun r_2003 u t H1 locs ht hvm hw hB hz1 hk1 hS => ?_)
    obtain ⟨hP1, hK1, hD1⟩ := hB
    rw [ht] at hP1
    have hK1 := va_K.moved hvm.symm hK1
    obtain ⟨hP, hD⟩ := va_join (wr := [(h0, .inr (4, [v4_0, v4_1, v4_2, v4_3, v4_4, v4_5, v4_6, .ref q_407]))]) (w1 := [(q_407, .inl (cA_407, 16, .inr (.inl fa4_now)))]) hP hD [1] [0] rfl rfl (by decide) (by decide) hk1 hFc hP1 hD1
    have hK := (hK.sub (tys' := []) [] rfl).app hK1
    generalize H1 = H at hP hS ⊢
    have hP : va_P (dC, dI) vwP [(h0, .inr (4, [v4_0, v4_1, v4_2, v4_3, v4_4, v4_5, v4_6, .ref q_407])), (q_407, .inl (cA_407, 16, .inr (.inl fa4_now)))] H := hP
    have hD : va_D A [(h0, .inr (4, [v4_0, v4_1, v4_2, v4_3, v4_4, v4_5, v4_6, .ref q_407])), (q_407, .inl (cA_407, 16, .inr (.inl fa4_now)))] := hD
    have hK : va_K (dC, dI) vwP [(cA_407, .long)] s := hK
    refine W.widen (k := 0) (n := 0) (Nat.le_of_ble_eq_true rfl) (Nat.le_of_ble_eq_true rfl) ?_
    have hw_2004 := hw
    obtain ⟨z_2005, rfl, hzz_2005⟩ := hw_2004
    refine lv_if_eq (tgt := 24) hx hb dX4_addNow_19 (by decide) (fun b19 => ?_) (fun b19 => ?_)
    · have yb19 : (z_2005 : Int) = (0 : Int) := (zI_eq (a := z_2005) (b := 0) (by omega) (by omega) (by omega) (by omega)).mp b19
      refine lv_aload_n hx hb dX4_addNow_24 rfl (lv_at hl 0 rfl) ?_
      refine va_get (D := (dC, dI)) (ci := 4) (v := .ref q_407) (C := RX4) (T := TX4) (N := 8) hx hb hts mem_X4_addNow_1 hown hK hP 0 rfl rfl 7 (by decide) (ow (k := 2) rfl) (fun _ h9 => h9) rfl dX4_addNow_25 ?_
      refine lv_iconst (v := 0) hx hb dX4_addNow_28 (by decide) ?_
      refine lv_lload_n hx hb dX4_addNow_29 rfl (lv_at hl 1 rfl) ?_
      have hPc := hP.sub (ws' := []) [] rfl
      have hDc := hD.sub (ws' := []) [] (by decide) rfl
      have hKc := hK.sub (tys' := []) [] rfl
      have hFc := va_free (wc := []) hD hS hA [] rfl
      refine va_calli (va_runSN (As := [.long (lI (x))]) (rest := [.int 0, .ref q_407]) ⟨hx, hb, hml, hown, hts⟩ (c_X11_registerOf l dC dI x (by omega) H.size) ⟨va_cnB 1 hts (goodIn_sub mem_X4_addNow_2 gw_X11_registerOf) rfl rfl rfl hp1 (ow (k := 0) rfl) (by decide +kernel) ⟨(Nat.le_of_ble_eq_true rfl), (Nat.le_of_ble_eq_true rfl)⟩, (ow (k := 3) rfl), trivial⟩ ⟨fun a U g mk q => by obtain ⟨q0, q1, qP, qK, qD⟩ := q; exact ⟨q0, q1, qP, va_K.moved (u := U) (U := U.calling g mk a) (Vm.Alike.refl U.vm) qK, qD⟩, fun U hU hW => ⟨rfl, by rw [hU], by rw [hU]; exact hPc, va_K.moved hW.alike hKc, hDc.weaken (fun _ _ _ _ => trivial)⟩⟩ rfl rfl hl.1 rfl (lv_room (Nat.le_of_ble_eq_true rfl)) dX4_addNow_30 ⟨(Nat.le_of_ble_eq_true rfl), (Nat.le_of_ble_eq_true rfl)⟩) hS (fun q _ h => hFc q h) hFc (fun r_2006 u t H1 locs ht hvm hw hB hz1 hk1 hS => ?_)
      obtain ⟨hP1, hK1, hD1⟩ := hB
      rw [ht] at hP1
      have hK1 := va_K.moved hvm.symm hK1
      obtain ⟨hP, hD⟩ := va_join (wr := [(h0, .inr (4, [v4_0, v4_1, v4_2, v4_3, v4_4, v4_5, v4_6, .ref q_407])), (q_407, .inl (cA_407, 16, .inr (.inl fa4_now)))]) (w1 := []) hP hD [] [0, 1] rfl rfl (by decide) (by decide) hk1 hFc hP1 hD1
      have hK := (hK.sub (tys' := [(cA_407, .long)]) [0] rfl).app hK1
      generalize H1 = H at hP hS ⊢
      have hP : va_P (dC, dI) vwP [(h0, .inr (4, [v4_0, v4_1, v4_2, v4_3, v4_4, v4_5, v4_6, .ref q_407])), (q_407, .inl (cA_407, 16, .inr (.inl fa4_now)))] H := hP
      have hD : va_D A [(h0, .inr (4, [v4_0, v4_1, v4_2, v4_3, v4_4, v4_5, v4_6, .ref q_407])), (q_407, .inl (cA_407, 16, .inr (.inl fa4_now)))] := hD
      have hK : va_K (dC, dI) vwP [(cA_407, .long)] s := hK
      refine W.widen (k := 0) (n := 0) (Nat.le_of_ble_eq_true rfl) (Nat.le_of_ble_eq_true rfl) ?_
      obtain rfl : r_2006 = (zI (x - 4294967296)) := hw
      have hPc := hP.sub (ws' := [(q_407, .inl (cA_407, 16, .inr (.inl fa4_now)))]) [1] rfl
      have hDc := hD.sub (ws' := [(q_407, .inl (cA_407, 16, .inr (.inl fa4_now)))]) [1] (by decide) rfl
      have hKc := hK.sub (tys' := [(cA_407, .long)]) [0] rfl
      have hFc := va_free (wc := [(q_407, .inl (cA_407, 16, .inr (.inl fa4_now)))]) hD hS hA [1] rfl
      refine va_callv (va_runSN (As := [.ref q_407, .int 0, .int (zI (x - 4294967296))]) (rest := []) ⟨hx, hb, hml, hown, hts⟩ (c_X11_putBit l dC dI q_407 cA_407 16 fa4_now 0 (x - 4294967296) (by omega) H.size) ⟨va_cnB 3 hts (goodIn_sub mem_X4_addNow_4 gw_X11_putBit) rfl rfl rfl hp3 (ow (k := 0) rfl) (by decide +kernel) ⟨(Nat.le_of_ble_eq_true rfl), (Nat.le_of_ble_eq_true rfl)⟩, (ow (k := 5) rfl), trivial⟩ ⟨fun a U g mk q => by obtain ⟨q0, q1, qP, qK, qD⟩ := q; exact ⟨q0, q1, qP, va_K.moved (u := U) (U := U.calling g mk a) (Vm.Alike.refl U.vm) qK, qD⟩, fun U hU hW => ⟨rfl, by rw [hU], by rw [hU]; exact hPc, va_K.moved hW.alike hKc, hDc.weaken (fun _ _ _ _ => trivial)⟩⟩ rfl rfl hl.1 rfl (lv_room (Nat.le_of_ble_eq_true rfl)) dX4_addNow_33 ⟨(Nat.le_of_ble_eq_true rfl), (Nat.le_of_ble_eq_true rfl)⟩) hS (fun q _ h => hFc q h) hFc (fun  u t H1 locs ht hvm hw hB hz1 hk1 hS => ?_)
      obtain ⟨g0_2007, hP1, hK1, hD1⟩ := hB
      rw [ht] at hP1
      have hK1 := va_K.moved hvm.symm hK1
      obtain ⟨hP, hD⟩ := va_join (wr := [(h0, .inr (4, [v4_0, v4_1, v4_2, v4_3, v4_4, v4_5, v4_6, .ref q_407]))]) (w1 := [(q_407, .inl (cA_407, 16, .inr (.inl g0_2007)))]) hP hD [1] [0] rfl rfl (by decide) (by decide) hk1 hFc hP1 hD1
      have hK := (hK.sub (tys' := []) [] rfl).app hK1
      generalize H1 = H at hP hS ⊢
      have hP : va_P (dC, dI) vwP [(h0, .inr (4, [v4_0, v4_1, v4_2, v4_3, v4_4, v4_5, v4_6, .ref q_407])), (q_407, .inl (cA_407, 16, .inr (.inl g0_2007)))] H := hP
      have hD : va_D A [(h0, .inr (4, [v4_0, v4_1, v4_2, v4_3, v4_4, v4_5, v4_6, .ref q_407])), (q_407, .inl (cA_407, 16, .inr (.inl g0_2007)))] := hD
      have hK : va_K (dC, dI) vwP [(cA_407, .long)] s := hK
      refine W.widen (k := 0) (n := 0) (Nat.le_of_ble_eq_true rfl) (Nat.le_of_ble_eq_true rfl) ?_
      refine lv_iconst (v := 1) hx hb dX4_addNow_36 (by decide) ?_
      subst hQ
      refine W.widen (k := 0) (n := 0) (Nat.le_of_ble_eq_true rfl) (Nat.le_of_ble_eq_true rfl) ?_
      exact W.iret (v := 1) hx hb hr (fun t ht hW => ⟨⟨1, (), rfl, ⟨1, rfl, by omega⟩, g0_2007, by rw [ht]; exact hP, va_K.moved hW.alike hK, hD⟩, hS.F ht⟩) hS.2.2 dX4_addNow_37
    · have yb19 : ¬ (z_2005 : Int) = (0 : Int) := fun q => b19 ((zI_eq (a := z_2005) (b := 0) (by omega) (by omega) (by omega) (by omega)).mpr q)
      refine lv_iconst (v := 0) hx hb dX4_addNow_22 (by decide) ?_
      subst hQ
      refine W.widen (k := 0) (n := 0) (Nat.le_of_ble_eq_true rfl) (Nat.le_of_ble_eq_true rfl) ?_
      exact W.iret (v := 0) hx hb hr (fun t ht hW => ⟨⟨0, (), rfl, ⟨0, rfl, by omega⟩, fa4_now, by rw [ht]; exact hP, va_K.moved hW.alike hK, hD⟩, hS.F ht⟩) hS.2.2 dX4_addNow_23
