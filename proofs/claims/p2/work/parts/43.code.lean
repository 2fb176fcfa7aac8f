theorem dX0_greater_0 : decode cX0_greater 0 = .ok (.lload_n 2, 1) := by decide +kernel
theorem dX0_greater_1 : decode cX0_greater 1 = .ok (.lload_n 0, 1) := by decide +kernel
theorem dX0_greater_2 : decode cX0_greater 2 = .ok (.lcmp, 1) := by decide +kernel
theorem dX0_greater_3 : decode cX0_greater 3 = .ok (.ifCond .le 14, 3) := by decide +kernel
theorem dX0_greater_17 : decode cX0_greater 17 = .ok (.lload_n 0, 1) := by decide +kernel
theorem dX0_greater_18 : decode cX0_greater 18 = .ok (.lreturn, 1) := by decide +kernel
theorem dX0_greater_6 : decode cX0_greater 6 = .ok (.lload_n 2, 1) := by decide +kernel
theorem dX0_greater_7 : decode cX0_greater 7 = .ok (.invokestatic 111, 3) := by decide +kernel
theorem dX0_greater_10 : decode cX0_greater 10 = .ok (.ifCond .eq 7, 3) := by decide +kernel
theorem dX0_greater_13 : decode cX0_greater 13 = .ok (.lload_n 2, 1) := by decide +kernel
theorem dX0_greater_14 : decode cX0_greater 14 = .ok (.goto 4, 3) := by decide +kernel
def o_X0_greater : List Cond := [.initialized RX11, .static yX11_isRegister]
def v_X0_greater : List Cond := .code yX0_greater cX0_greater 4 (some .long) :: (o_X0_greater ++ (v_X11_isRegister ++ []))
theorem mow_X0_greater : ∀ w ∈ o_X0_greater, w ∈ v_X0_greater := fun _ h => List.mem_cons_of_mem _ (List.mem_append_left _ h)
theorem mem_X0_greater_0 : ∀ w ∈ v_X11_isRegister, w ∈ v_X0_greater := fun _ h => List.mem_cons_of_mem _ (List.mem_append_right _ (List.mem_append_left _ h))
set_option maxRecDepth 20000 in
theorem gw_X0_greater : v_X0_greater.all goodWord = true := by decide +kernel
set_option maxHeartbeats 4000000 in
set_option maxRecDepth 100000 in
theorem c_X0_greater (l : Launch) (dC : Nat → ClassId) (dI : Nat → Nat → Nat) (tt : Int) (x : Int) (hNt : 4294967295 ≤ tt ∧ tt ≤ 4294968319) (hNx : ((-2147483648 ≤ x ∧ x ≤ 4294968319) ∨ x = 1099511627776)) (sz : Nat) : Met l yX0_greater v_X0_greater ({ frames := 1, cells := 0, slots := 0, locals := 21 }) (va_Pc [.long (lI (tt)), .long (lI (x))] (fun U => U.heap.size = sz ∧ va_P (dC, dI) vwP [] U.heap ∧ va_K (dC, dI) vwP [] U ∧ va_D (fun _ => True) [] ∧ va_Nw (.methodLinkNest RX0 111 yX11_isRegister "SsaForge") U)) (va_Ql (fun (r : Int64) (_ : Unit) => ∃ z : Int, r = lI z ∧ (4294967295 ≤ z ∧ z ≤ 4294968319)) (fun (_ : Unit) (t : State) => va_P (dC, dI) vwP [] t.heap ∧ va_K (dC, dI) vwP [] t ∧ va_D (va_A [] sz) []) (va_A [] sz)) 0 0 (va_A [] sz) := by
  refine Met.ofW (cc := cX0_greater) (maxL := 4) (ret := (some .long)) (by decide) rfl ?_
  intro p e s m args below meth c s₁ B hml hv
  obtain ⟨rfl, hsz, hP, hK, hD0, hp0⟩ := hv
  have hx := B.exec
  have hb := B.bytes
  have hr := B.returns
  have hts := atoms_spec (ws := v_X0_greater) B.pre
  have hown : s.vm.findClass RX0 = some m.cls := findClass_of_methodNamed B.named
  have hlocks := B.notSynchronized
  have ow : ∀ {k : Nat} {w : Cond}, o_X0_greater[k]? = some w → w.before ([.long (lI (tt)), .long (lI (x))] : List Value).toArray s = true := fun h => hts _ (mow_X0_greater _ (List.mem_of_getElem? h))
  subst hsz
  have hD := hD0.self (sz := s.heap.size)
  generalize hAe : va_A [] s.heap.size = A at hD ⊢
  have hA : ∀ q : Nat, s.heap.size ≤ q → A q := fun q h => by rw [← hAe]; exact Or.inr h
  have hS : va_S A s.heap s.heap [] := va_S.rf
  have hP : va_P (dC, dI) vwP [] s.heap := hP
  have hl := lv_entry ([.long (lI (tt)), .long (lI (x))]) (n := 4) (Nat.le_of_ble_eq_true rfl)
  rw [lg_entry_eq]
  generalize (lg_sl ([.long (lI (tt)), .long (lI (x))]) ++ List.replicate (4 - (lg_sl ([.long (lI (tt)), .long (lI (x))])).length) Slot.unset).toArray = ls at hl ⊢
  have hl : lv_has ls 4 [(0, .long (lI (tt))), (2, .long (lI (x)))] := hl
  obtain ⟨H, hH⟩ : ∃ H, H = s.heap := ⟨_, rfl⟩
  rw [← hH] at hP
  have hS : va_S A s.heap H [] := by rw [hH]; exact hS
  rw [← hH]
  refine zW_cap (fun Q hQ => ?_)
  refine lv_lload_n hx hb dX0_greater_0 rfl (lv_at hl 1 rfl) ?_
  refine lv_lload_n hx hb dX0_greater_1 rfl (lv_at hl 0 rfl) ?_
  refine W.lcmp hx hb dX0_greater_2 ?_
  refine lv_if_le (tgt := 17) hx hb dX0_greater_3 (by decide) (fun b3 => ?_) (fun b3 => ?_)
  · have yb3 : (x : Int) ≤ tt := (lc_le (a := x) (b := tt) (by omega) (by omega) (by omega) (by omega)).mp b3
    refine lv_lload_n hx hb dX0_greater_17 rfl (lv_at hl 0 rfl) ?_
    subst hQ
    refine W.widen (k := 0) (n := 0) (Nat.le_of_ble_eq_true rfl) (Nat.le_of_ble_eq_true rfl) ?_
    exact W.lret (v := (lI (tt))) hx hb hr (fun t ht hW => ⟨⟨(lI (tt)), (), rfl, ⟨tt, rfl, by omega⟩, by rw [ht]; exact hP, va_K.moved hW.alike hK, hD⟩, hS.F ht⟩) hS.2.2 dX0_greater_18
  · have yb3 : ¬ (x : Int) ≤ tt := fun q => b3 ((lc_le (a := x) (b := tt) (by omega) (by omega) (by omega) (by omega)).mpr q)
    refine lv_lload_n hx hb dX0_greater_6 rfl (lv_at hl 1 rfl) ?_
    have hPc := hP.sub (ws' := []) [] rfl
    have hDc := hD.sub (ws' := []) [] (by decide) rfl
    have hKc := hK.sub (tys' := []) [] rfl
    have hFc := va_free (wc := []) hD hS hA [] rfl
    refine va_calli (va_runSN (As := [.long (lI (x))]) (rest := []) ⟨hx, hb, hml, hown, hts⟩ (c_X11_isRegister l dC dI x (by omega) H.size) ⟨va_cnB 1 hts (goodIn_sub mem_X0_greater_0 gw_X11_isRegister) rfl rfl rfl hp0 (ow (k := 0) rfl) (by decide +kernel) ⟨(Nat.le_of_ble_eq_true rfl), (Nat.le_of_ble_eq_true rfl)⟩, (ow (k := 1) rfl), trivial⟩ ⟨fun a U g mk q => by obtain ⟨q0, q1, qP, qK, qD⟩ := q; exact ⟨q0, q1, qP, va_K.moved (u := U) (U := U.calling g mk a) (Vm.Alike.refl U.vm) qK, qD⟩, fun U hU hW => ⟨rfl, by rw [hU], by rw [hU]; exact hPc, va_K.moved hW.alike hKc, hDc.weaken (fun _ _ _ _ => trivial)⟩⟩ rfl rfl hl.1 rfl (lv_room (Nat.le_of_ble_eq_true rfl)) dX0_greater_7 ⟨(Nat.le_of_ble_eq_true rfl), (Nat.le_of_ble_eq_true rfl)⟩) hS (fun q _ h => hFc q h) hFc (fun r_1 u t H1 locs ht hvm hw hB hz1 hk1 hS => ?_)
    obtain ⟨hP1, hK1, hD1⟩ := hB
    rw [ht] at hP1
    have hK1 := va_K.moved hvm.symm hK1
    obtain ⟨hP, hD⟩ := va_join (wr := []) (w1 := []) hP hD [] [] rfl rfl (by decide) (by decide) hk1 hFc hP1 hD1
    have hK := (hK.sub (tys' := []) [] rfl).app hK1
    generalize H1 = H at hP hS ⊢
    have hP : va_P (dC, dI) vwP [] H := hP
    have hD : va_D A [] := hD
    have hK : va_K (dC, dI) vwP [] s := hK
    refine W.widen (k := 0) (n := 0) (Nat.le_of_ble_eq_true rfl) (Nat.le_of_ble_eq_true rfl) ?_
    obtain rfl : r_1 = (zI (isR (x))) := hw
    have := isR_spec (x)
    refine lv_if_eq (tgt := 17) hx hb dX0_greater_10 (by decide) (fun b10 => ?_) (fun b10 => ?_)
    · have yb10 : (isR (x) : Int) = (0 : Int) := (zI_eq (a := isR (x)) (b := 0) (by omega) (by omega) (by omega) (by omega)).mp b10
      refine lv_lload_n hx hb dX0_greater_17 rfl (lv_at hl 0 rfl) ?_
      subst hQ
      refine W.widen (k := 0) (n := 0) (Nat.le_of_ble_eq_true rfl) (Nat.le_of_ble_eq_true rfl) ?_
      exact W.lret (v := (lI (tt))) hx hb hr (fun t ht hW => ⟨⟨(lI (tt)), (), rfl, ⟨tt, rfl, by omega⟩, by rw [ht]; exact hP, va_K.moved hW.alike hK, hD⟩, hS.F ht⟩) hS.2.2 dX0_greater_18
    · have yb10 : ¬ (isR (x) : Int) = (0 : Int) := fun q => b10 ((zI_eq (a := isR (x)) (b := 0) (by omega) (by omega) (by omega) (by omega)).mpr q)
      refine lv_lload_n hx hb dX0_greater_13 rfl (lv_at hl 1 rfl) ?_
      refine lv_goto (tgt := 18) hx hb dX0_greater_14 (by decide) ?_
      subst hQ
      refine W.widen (k := 0) (n := 0) (Nat.le_of_ble_eq_true rfl) (Nat.le_of_ble_eq_true rfl) ?_
      exact W.lret (v := (lI (x))) hx hb hr (fun t ht hW => ⟨⟨(lI (x)), (), rfl, ⟨x, rfl, by omega⟩, by rw [ht]; exact hP, va_K.moved hW.alike hK, hD⟩, hS.F ht⟩) hS.2.2 dX0_greater_18
theorem dX11_resolve_0 : decode cX11_resolve 0 = .ok (.lload_n 0, 1) := by decide +kernel
theorem dX11_resolve_1 : decode cX11_resolve 1 = .ok (.lstore_n 3, 1) := by decide +kernel
theorem dX11_resolve_2 : decode cX11_resolve 2 = .ok (.iconst 0, 1) := by decide +kernel
theorem dX11_resolve_3 : decode cX11_resolve 3 = .ok (.istore 5, 2) := by decide +kernel
theorem dX11_resolve_5 : decode cX11_resolve 5 = .ok (.iload 5, 2) := by decide +kernel
theorem dX11_resolve_7 : decode cX11_resolve 7 = .ok (.sipush 1000, 3) := by decide +kernel
theorem dX11_resolve_10 : decode cX11_resolve 10 = .ok (.if_icmp .ge 38, 3) := by decide +kernel
theorem dX11_resolve_48 : decode cX11_resolve 48 = .ok (.lload_n 3, 1) := by decide +kernel
theorem dX11_resolve_49 : decode cX11_resolve 49 = .ok (.lreturn, 1) := by decide +kernel
theorem dX11_resolve_13 : decode cX11_resolve 13 = .ok (.lload_n 3, 1) := by decide +kernel
theorem dX11_resolve_14 : decode cX11_resolve 14 = .ok (.invokestatic 326, 3) := by decide +kernel
theorem dX11_resolve_17 : decode cX11_resolve 17 = .ok (.ifCond .eq 31, 3) := by decide +kernel
theorem dX11_resolve_20 : decode cX11_resolve 20 = .ok (.aload_n 2, 1) := by decide +kernel
theorem dX11_resolve_21 : decode cX11_resolve 21 = .ok (.lload_n 3, 1) := by decide +kernel
theorem dX11_resolve_22 : decode cX11_resolve 22 = .ok (.invokestatic 338, 3) := by decide +kernel
theorem dX11_resolve_25 : decode cX11_resolve 25 = .ok (.laload, 1) := by decide +kernel
theorem dX11_resolve_26 : decode cX11_resolve 26 = .ok (.lstore 6, 2) := by decide +kernel
theorem dX11_resolve_28 : decode cX11_resolve 28 = .ok (.lload 6, 2) := by decide +kernel
theorem dX11_resolve_30 : decode cX11_resolve 30 = .ok (.ldc2_w 320, 3) := by decide +kernel
theorem dX11_resolve_33 : decode cX11_resolve 33 = .ok (.lcmp, 1) := by decide +kernel
theorem dX11_resolve_34 : decode cX11_resolve 34 = .ok (.ifCond .ne 5, 3) := by decide +kernel
theorem dX11_resolve_39 : decode cX11_resolve 39 = .ok (.lload 6, 2) := by decide +kernel
theorem dX11_resolve_41 : decode cX11_resolve 41 = .ok (.lstore_n 3, 1) := by decide +kernel
theorem dX11_resolve_42 : decode cX11_resolve 42 = .ok (.iinc 5 1, 3) := by decide +kernel
theorem dX11_resolve_45 : decode cX11_resolve 45 = .ok (.goto (-40), 3) := by decide +kernel
theorem dX11_resolve_37 : decode cX11_resolve 37 = .ok (.lload_n 3, 1) := by decide +kernel
theorem dX11_resolve_38 : decode cX11_resolve 38 = .ok (.lreturn, 1) := by decide +kernel
def o_X11_resolve : List Cond := [.methodLink RX11 326 yX11_isRegister, .static yX11_isRegister, .initialized RX11, .methodLink RX11 338 yX11_registerOf, .static yX11_registerOf, .constantLong RX11 320 (1099511627776)]
def v_X11_resolve : List Cond := .code yX11_resolve cX11_resolve 8 (some .long) :: (o_X11_resolve ++ (v_X11_isRegister ++ (v_X11_registerOf ++ [])))
theorem mow_X11_resolve : ∀ w ∈ o_X11_resolve, w ∈ v_X11_resolve := fun _ h => List.mem_cons_of_mem _ (List.mem_append_left _ h)
theorem mem_X11_resolve_0 : ∀ w ∈ v_X11_isRegister, w ∈ v_X11_resolve := fun _ h => List.mem_cons_of_mem _ (List.mem_append_right _ (List.mem_append_left _ h))
theorem mem_X11_resolve_1 : ∀ w ∈ v_X11_registerOf, w ∈ v_X11_resolve := fun _ h => List.mem_cons_of_mem _ (List.mem_append_right _ (List.mem_append_right _ (List.mem_append_left _ h)))
set_option maxRecDepth 20000 in
theorem gw_X11_resolve : v_X11_resolve.all goodWord = true := by decide +kernel
set_option maxRecDepth 20000 in
theorem g_X11_resolve_X11_isRegister : GoodIn v_X11_resolve (wsS RX11 326 yX11_isRegister v_X11_isRegister) := goodIn_app (goodIn_sub (fun w h => mow_X11_resolve w (by revert w h; decide +kernel)) (by decide +kernel)) (goodIn_sub mem_X11_resolve_0 gw_X11_isRegister)
set_option maxRecDepth 20000 in
theorem g_X11_resolve_X11_registerOf : GoodIn v_X11_resolve (wsS RX11 338 yX11_registerOf v_X11_registerOf) := goodIn_app (goodIn_sub (fun w h => mow_X11_resolve w (by revert w h; decide +kernel)) (by decide +kernel)) (goodIn_sub mem_X11_resolve_1 gw_X11_registerOf)
set_option maxHeartbeats 4000000 in
set_option maxRecDepth 100000 in
theorem c_X11_resolve (l : Launch) (dC : Nat → ClassId) (dI : Nat → Nat → Nat) (q_1 : Nat) (cA_1 : ClassId) (a_1 : Int → Int) (x : Int) (hR_a_1 : ∀ j : Int, ((-2147483648 ≤ a_1 j ∧ a_1 j ≤ 4294968319) ∨ a_1 j = 1099511627776)) (hNx : ((-2147483648 ≤ x ∧ x ≤ 4294968319) ∨ x = 1099511627776)) (sz : Nat) : Met l yX11_resolve v_X11_resolve ({ frames := 1, cells := 0, slots := 0, locals := 21 }) (va_Pc [.long (lI (x)), .ref q_1] (fun U => U.heap.size = sz ∧ va_P (dC, dI) vwP [(q_1, .inl (cA_1, 1024, .inr (.inl (fun j : Nat => lI (a_1 (j : Int))))))] U.heap ∧ va_K (dC, dI) vwP [(cA_1, .long)] U ∧ va_D (fun _ => True) [(q_1, .inl (cA_1, 1024, .inr (.inl (fun j : Nat => lI (a_1 (j : Int))))))])) (va_Ql (fun (r : Int64) (_ : Unit) => ∃ z : Int, r = lI z ∧ (((-2147483648 ≤ z ∧ z ≤ 4294968319) ∨ z = 1099511627776))) (fun (_ : Unit) (t : State) => va_P (dC, dI) vwP [(q_1, .inl (cA_1, 1024, .inr (.inl (fun j : Nat => lI (a_1 (j : Int))))))] t.heap ∧ va_K (dC, dI) vwP [(cA_1, .long)] t ∧ va_D (va_A [(q_1, .inl (cA_1, 1024, .inr (.inl (fun j : Nat => lI (a_1 (j : Int))))))] sz) [(q_1, .inl (cA_1, 1024, .inr (.inl (fun j : Nat => lI (a_1 (j : Int))))))]) (va_A [(q_1, .inl (cA_1, 1024, .inr (.inl (fun j : Nat => lI (a_1 (j : Int))))))] sz)) 0 0 (va_A [(q_1, .inl (cA_1, 1024, .inr (.inl (fun j : Nat => lI (a_1 (j : Int))))))] sz) := by
  refine Met.ofW (cc := cX11_resolve) (maxL := 8) (ret := (some .long)) (by decide) rfl ?_
  intro p e s m args below meth c s₁ B hml hv
  obtain ⟨rfl, hsz, hP, hK, hD0⟩ := hv
  have hx := B.exec
  have hb := B.bytes
  have hr := B.returns
  have hts := atoms_spec (ws := v_X11_resolve) B.pre
  have hown : s.vm.findClass RX11 = some m.cls := findClass_of_methodNamed B.named
  have hlocks := B.notSynchronized
  have ow : ∀ {k : Nat} {w : Cond}, o_X11_resolve[k]? = some w → w.before ([.long (lI (x)), .ref q_1] : List Value).toArray s = true := fun h => hts _ (mow_X11_resolve _ (List.mem_of_getElem? h))
  subst hsz
  have hD := hD0.self (sz := s.heap.size)
  generalize hAe : va_A [(q_1, .inl (cA_1, 1024, .inr (.inl (fun j : Nat => lI (a_1 (j : Int))))))] s.heap.size = A at hD ⊢
  have hA : ∀ q : Nat, s.heap.size ≤ q → A q := fun q h => by rw [← hAe]; exact Or.inr h
  have hS : va_S A s.heap s.heap [] := va_S.rf
  have hP : va_P (dC, dI) vwP [(q_1, .inl (cA_1, 1024, .inr (.inl (fun j : Nat => lI (a_1 (j : Int))))))] s.heap := hP
  have hl := lv_entry ([.long (lI (x)), .ref q_1]) (n := 8) (Nat.le_of_ble_eq_true rfl)
  rw [lg_entry_eq]
  generalize (lg_sl ([.long (lI (x)), .ref q_1]) ++ List.replicate (8 - (lg_sl ([.long (lI (x)), .ref q_1])).length) Slot.unset).toArray = ls at hl ⊢
  have hl : lv_has ls 8 [(0, .long (lI (x))), (2, .ref q_1)] := hl
  obtain ⟨H, hH⟩ : ∃ H, H = s.heap := ⟨_, rfl⟩
  rw [← hH] at hP
  have hS : va_S A s.heap H [] := by rw [hH]; exact hS
  rw [← hH]
  refine zW_cap (fun Q hQ => ?_)
  refine lv_lload_n hx hb dX11_resolve_0 rfl (lv_at hl 0 rfl) ?_
  refine lv_lstore_n (lv' := [(3, .long (lI (x))), (0, .long (lI (x))), (2, .ref q_1)]) hx hb dX11_resolve_1 rfl hl (by decide) rfl (fun ls hl => ?_)
  refine lv_iconst (v := 0) hx hb dX11_resolve_2 (by decide) ?_
  refine lv_istore (lv' := [(5, .int 0), (3, .long (lI (x))), (0, .long (lI (x))), (2, .ref q_1)]) hx hb dX11_resolve_3 hl (by decide) rfl (fun ls hl => ?_)
  have key5 : ∀ n5 : Nat, ∀ (d5_5 : Int) (d5_3 : Int) (ls : Array Slot) (H : Heap) (locs : List Loc), (0 ≤ d5_5 ∧ d5_5 ≤ 1000000000) → (((-2147483648 ≤ d5_3 ∧ d5_3 ≤ 4294968319) ∨ d5_3 = 1099511627776)) → (((1000) - (d5_5) : Int).toNat) < n5 → lv_has ls 8 [(0, .long (lI (x))), (2, .ref q_1), (3, .long (lI (d5_3))), (5, .int (zI (d5_5)))] → va_P (dC, dI) vwP [(q_1, .inl (cA_1, 1024, .inr (.inl (fun j : Nat => lI (a_1 (j : Int))))))] H → va_D A [(q_1, .inl (cA_1, 1024, .inr (.inl (fun j : Nat => lI (a_1 (j : Int))))))] → va_S A s.heap H locs → W p l e (headSpec v_X11_resolve ({ frames := 1, cells := 0, slots := 0, locals := 21 })).room s m ([.long (lI (x)), .ref q_1] : List Value).toArray below meth c H locs 0 0 Q (F0 m 5 ls []) := by
    intro n5
    induction n5 with
    | zero => intro d5_5 d5_3 ls H locs jd5_5 jd5_3 hm5; exact absurd hm5 (by omega)
    | succ n5 ih5 =>
      intro d5_5 d5_3 ls H locs jd5_5 jd5_3 hm5 hl hP hD hS
      refine lv_iload hx hb dX11_resolve_5 (lv_at hl 3 rfl) ?_
      refine lv_sipush (v := 1000) hx hb dX11_resolve_7 (by decide) ?_
      refine lv_icmp_ge (tgt := 48) hx hb dX11_resolve_10 (by decide) (fun b10 => ?_) (fun b10 => ?_)
      · have yb10 : (1000 : Int) ≤ (d5_5 : Int) := (zI_le (a := 1000) (b := d5_5) (by omega) (by omega) (by omega) (by omega)).mp b10
        refine lv_lload_n hx hb dX11_resolve_48 rfl (lv_at hl 2 rfl) ?_
        subst hQ
        refine W.widen (k := 0) (n := 0) (Nat.le_of_ble_eq_true rfl) (Nat.le_of_ble_eq_true rfl) ?_
        exact W.lret (v := (lI (d5_3))) hx hb hr (fun t ht hW => ⟨⟨(lI (d5_3)), (), rfl, ⟨d5_3, rfl, by omega⟩, by rw [ht]; exact hP, va_K.moved hW.alike hK, hD⟩, hS.F ht⟩) hS.2.2 dX11_resolve_49
      · have yb10 : ¬ (1000 : Int) ≤ (d5_5 : Int) := fun q => b10 ((zI_le (a := 1000) (b := d5_5) (by omega) (by omega) (by omega) (by omega)).mpr q)
        refine lv_lload_n hx hb dX11_resolve_13 rfl (lv_at hl 2 rfl) ?_
        have hPc := hP.sub (ws' := []) [] rfl
        have hDc := hD.sub (ws' := []) [] (by decide) rfl
        have hKc := hK.sub (tys' := []) [] rfl
        have hFc := va_free (wc := []) hD hS hA [] rfl
        refine va_calli (va_runS (As := [.long (lI (d5_3))]) (rest := []) ⟨hx, hb, hml, hown, hts⟩ (c_X11_isRegister l dC dI d5_3 (by omega) H.size) (cwS 1 hts g_X11_resolve_X11_isRegister rfl rfl rfl (by decide +kernel) ⟨(Nat.le_of_ble_eq_true rfl), (Nat.le_of_ble_eq_true rfl)⟩) ⟨fun a U g mk q => by obtain ⟨q0, q1, qP, qK, qD⟩ := q; exact ⟨q0, q1, qP, va_K.moved (u := U) (U := U.calling g mk a) (Vm.Alike.refl U.vm) qK, qD⟩, fun U hU hW => ⟨rfl, by rw [hU], by rw [hU]; exact hPc, va_K.moved hW.alike hKc, hDc.weaken (fun _ _ _ _ => trivial)⟩⟩ rfl rfl hl.1 rfl (lv_room (Nat.le_of_ble_eq_true rfl)) dX11_resolve_14 ⟨(Nat.le_of_ble_eq_true rfl), (Nat.le_of_ble_eq_true rfl)⟩) hS (fun q _ h => hFc q h) hFc (fun r_2001 u t H1 locs ht hvm hw hB hz1 hk1 hS => ?_)
        obtain ⟨hP1, hK1, hD1⟩ := hB
        rw [ht] at hP1
        have hK1 := va_K.moved hvm.symm hK1
        obtain ⟨hP, hD⟩ := va_join (wr := [(q_1, .inl (cA_1, 1024, .inr (.inl (fun j : Nat => lI (a_1 (j : Int))))))]) (w1 := []) hP hD [] [0] rfl rfl (by decide) (by decide) hk1 hFc hP1 hD1
        have hK := (hK.sub (tys' := [(cA_1, .long)]) [0] rfl).app hK1
        generalize H1 = H at hP hS ⊢
        have hP : va_P (dC, dI) vwP [(q_1, .inl (cA_1, 1024, .inr (.inl (fun j : Nat => lI (a_1 (j : Int))))))] H := hP
        have hD : va_D A [(q_1, .inl (cA_1, 1024, .inr (.inl (fun j : Nat => lI (a_1 (j : Int))))))] := hD
        have hK : va_K (dC, dI) vwP [(cA_1, .long)] s := hK
        refine W.widen (k := 0) (n := 0) (Nat.le_of_ble_eq_true rfl) (Nat.le_of_ble_eq_true rfl) ?_
        obtain rfl : r_2001 = (zI (isR (d5_3))) := hw
        have := isR_spec (d5_3)
        refine lv_if_eq (tgt := 48) hx hb dX11_resolve_17 (by decide) (fun b17 => ?_) (fun b17 => ?_)
        · have yb17 : (isR (d5_3) : Int) = (0 : Int) := (zI_eq (a := isR (d5_3)) (b := 0) (by omega) (by omega) (by omega) (by omega)).mp b17
          refine lv_lload_n hx hb dX11_resolve_48 rfl (lv_at hl 2 rfl) ?_
          subst hQ
          refine W.widen (k := 0) (n := 0) (Nat.le_of_ble_eq_true rfl) (Nat.le_of_ble_eq_true rfl) ?_
          exact W.lret (v := (lI (d5_3))) hx hb hr (fun t ht hW => ⟨⟨(lI (d5_3)), (), rfl, ⟨d5_3, rfl, by omega⟩, by rw [ht]; exact hP, va_K.moved hW.alike hK, hD⟩, hS.F ht⟩) hS.2.2 dX11_resolve_49
        · have yb17 : ¬ (isR (d5_3) : Int) = (0 : Int) := fun q => b17 ((zI_eq (a := isR (d5_3)) (b := 0) (by omega) (by omega) (by omega) (by omega)).mpr q)
          refine lv_aload_n hx hb dX11_resolve_20 rfl (lv_at hl 1 rfl) ?_
          refine lv_lload_n hx hb dX11_resolve_21 rfl (lv_at hl 2 rfl) ?_
          have hPc := hP.sub (ws' := []) [] rfl
          have hDc := hD.sub (ws' := []) [] (by decide) rfl
          have hKc := hK.sub (tys' := []) [] rfl
          have hFc := va_free (wc := []) hD hS hA [] rfl
          refine va_calli (va_runS (As := [.long (lI (d5_3))]) (rest := [.ref q_1]) ⟨hx, hb, hml, hown, hts⟩ (c_X11_registerOf l dC dI d5_3 (by omega) H.size) (cwS 1 hts g_X11_resolve_X11_registerOf rfl rfl rfl (by decide +kernel) ⟨(Nat.le_of_ble_eq_true rfl), (Nat.le_of_ble_eq_true rfl)⟩) ⟨fun a U g mk q => by obtain ⟨q0, q1, qP, qK, qD⟩ := q; exact ⟨q0, q1, qP, va_K.moved (u := U) (U := U.calling g mk a) (Vm.Alike.refl U.vm) qK, qD⟩, fun U hU hW => ⟨rfl, by rw [hU], by rw [hU]; exact hPc, va_K.moved hW.alike hKc, hDc.weaken (fun _ _ _ _ => trivial)⟩⟩ rfl rfl hl.1 rfl (lv_room (Nat.le_of_ble_eq_true rfl)) dX11_resolve_22 ⟨(Nat.le_of_ble_eq_true rfl), (Nat.le_of_ble_eq_true rfl)⟩) hS (fun q _ h => hFc q h) hFc (fun r_2002 u t H1 locs ht hvm hw hB hz1 hk1 hS => ?_)
          obtain ⟨hP1, hK1, hD1⟩ := hB
          rw [ht] at hP1
          have hK1 := va_K.moved hvm.symm hK1
          obtain ⟨hP, hD⟩ := va_join (wr := [(q_1, .inl (cA_1, 1024, .inr (.inl (fun j : Nat => lI (a_1 (j : Int))))))]) (w1 := []) hP hD [] [0] rfl rfl (by decide) (by decide) hk1 hFc hP1 hD1
          have hK := (hK.sub (tys' := [(cA_1, .long)]) [0] rfl).app hK1
          generalize H1 = H at hP hS ⊢
          have hP : va_P (dC, dI) vwP [(q_1, .inl (cA_1, 1024, .inr (.inl (fun j : Nat => lI (a_1 (j : Int))))))] H := hP
          have hD : va_D A [(q_1, .inl (cA_1, 1024, .inr (.inl (fun j : Nat => lI (a_1 (j : Int))))))] := hD
          have hK : va_K (dC, dI) vwP [(cA_1, .long)] s := hK
          refine W.widen (k := 0) (n := 0) (Nat.le_of_ble_eq_true rfl) (Nat.le_of_ble_eq_true rfl) ?_
          obtain rfl : r_2002 = (zI (d5_3 - 4294967296)) := hw
          refine va_lald hx hb hK hP 0 0 rfl rfl (zI_in (a := d5_3 - 4294967296) (n := 1024) (by omega) (by omega) (by decide)) dX11_resolve_25 ?_
          refine lv_topl (fun z ez => ?_)
          obtain rfl : z = lI (a_1 (d5_3 - 4294967296)) := ez.trans (lI_ld (a_1) (by omega) (by omega))
          have k1 := hR_a_1 (d5_3 - 4294967296)
          refine lv_lstore (lv' := [(6, .long (lI (a_1 (d5_3 - 4294967296)))), (0, .long (lI (x))), (2, .ref q_1), (3, .long (lI (d5_3))), (5, .int (zI (d5_5)))]) hx hb dX11_resolve_26 hl (by decide) rfl (fun ls hl => ?_)
          refine lv_lload hx hb dX11_resolve_28 (lv_at hl 0 rfl) ?_
          refine lv_ldc2 (v := 1099511627776) hx hb hown (ow (k := 5) rfl) dX11_resolve_30 ?_
          refine lv_topl (fun z ez => ?_)
          obtain rfl : z = lI (1099511627776) := ez
          refine W.lcmp hx hb dX11_resolve_33 ?_
          refine lv_if_ne (tgt := 39) hx hb dX11_resolve_34 (by decide) (fun b34 => ?_) (fun b34 => ?_)
          · have yb34 : ¬ (a_1 (d5_3 - 4294967296) : Int) = 1099511627776 := fun q => b34 ((lc_eq (a := a_1 (d5_3 - 4294967296)) (b := 1099511627776) (by omega) (by omega) (by omega) (by omega)).mpr q)
            refine lv_lload hx hb dX11_resolve_39 (lv_at hl 0 rfl) ?_
            refine lv_lstore_n (lv' := [(3, .long (lI (a_1 (d5_3 - 4294967296)))), (6, .long (lI (a_1 (d5_3 - 4294967296)))), (0, .long (lI (x))), (2, .ref q_1), (5, .int (zI (d5_5)))]) hx hb dX11_resolve_41 rfl hl (by decide) rfl (fun ls hl => ?_)
            refine lv_iinc (v := zI (d5_5 + 1)) (lv' := [(5, .int (zI (d5_5 + 1))), (3, .long (lI (a_1 (d5_3 - 4294967296)))), (6, .long (lI (a_1 (d5_3 - 4294967296)))), (0, .long (lI (x))), (2, .ref q_1)]) hx hb dX11_resolve_42 hl (k := 4) rfl (zI_add (d5_5) (1)) (by decide) rfl (fun ls hl => ?_)
            refine lv_goto (tgt := 5) hx hb dX11_resolve_45 (by decide) ?_
            exact ih5 (d5_5 + 1) (a_1 (d5_3 - 4294967296)) ls H _ (by omega) (by omega) (by omega) (lv_sub hl [3, 4, 1, 0] rfl) hP hD hS
          · have yb34 : (a_1 (d5_3 - 4294967296) : Int) = 1099511627776 := (lc_eq (a := a_1 (d5_3 - 4294967296)) (b := 1099511627776) (by omega) (by omega) (by omega) (by omega)).mp b34
            refine lv_lload_n hx hb dX11_resolve_37 rfl (lv_at hl 3 rfl) ?_
            subst hQ
            refine W.widen (k := 0) (n := 0) (Nat.le_of_ble_eq_true rfl) (Nat.le_of_ble_eq_true rfl) ?_
            exact W.lret (v := (lI (d5_3))) hx hb hr (fun t ht hW => ⟨⟨(lI (d5_3)), (), rfl, ⟨d5_3, rfl, by omega⟩, by rw [ht]; exact hP, va_K.moved hW.alike hK, hD⟩, hS.F ht⟩) hS.2.2 dX11_resolve_38
  exact key5 (((1000) - (0) : Int).toNat + 1) 0 x ls H _ (by omega) (by omega) (by omega) (lv_sub hl [2, 3, 1, 0] rfl) hP hD hS
theorem dX0_registerLimit_0 : decode cX0_registerLimit 0 = .ok (.ldc2_w 96, 3) := by decide +kernel
theorem dX0_registerLimit_3 : decode cX0_registerLimit 3 = .ok (.lstore_n 1, 1) := by decide +kernel
theorem dX0_registerLimit_4 : decode cX0_registerLimit 4 = .ok (.iconst 0, 1) := by decide +kernel
theorem dX0_registerLimit_5 : decode cX0_registerLimit 5 = .ok (.istore_n 3, 1) := by decide +kernel
theorem dX0_registerLimit_6 : decode cX0_registerLimit 6 = .ok (.iload_n 3, 1) := by decide +kernel
theorem dX0_registerLimit_7 : decode cX0_registerLimit 7 = .ok (.aload_n 0, 1) := by decide +kernel
theorem dX0_registerLimit_8 : decode cX0_registerLimit 8 = .ok (.getfield 15, 3) := by decide +kernel
theorem dX0_registerLimit_11 : decode cX0_registerLimit 11 = .ok (.if_icmp .ge 47, 3) := by decide +kernel
theorem dX0_registerLimit_58 : decode cX0_registerLimit 58 = .ok (.iconst 0, 1) := by decide +kernel
theorem dX0_registerLimit_59 : decode cX0_registerLimit 59 = .ok (.istore_n 3, 1) := by decide +kernel
theorem dX0_registerLimit_60 : decode cX0_registerLimit 60 = .ok (.iload_n 3, 1) := by decide +kernel
theorem dX0_registerLimit_61 : decode cX0_registerLimit 61 = .ok (.aload_n 0, 1) := by decide +kernel
theorem dX0_registerLimit_62 : decode cX0_registerLimit 62 = .ok (.getfield 9, 3) := by decide +kernel
theorem dX0_registerLimit_65 : decode cX0_registerLimit 65 = .ok (.if_icmp .ge 103, 3) := by decide +kernel
theorem dX0_registerLimit_168 : decode cX0_registerLimit 168 = .ok (.lload_n 1, 1) := by decide +kernel
theorem dX0_registerLimit_169 : decode cX0_registerLimit 169 = .ok (.invokestatic 107, 3) := by decide +kernel
theorem dX0_registerLimit_172 : decode cX0_registerLimit 172 = .ok (.iconst 1, 1) := by decide +kernel
theorem dX0_registerLimit_173 : decode cX0_registerLimit 173 = .ok (.iadd, 1) := by decide +kernel
theorem dX0_registerLimit_174 : decode cX0_registerLimit 174 = .ok (.ireturn, 1) := by decide +kernel
theorem dX0_registerLimit_68 : decode cX0_registerLimit 68 = .ok (.lload_n 1, 1) := by decide +kernel
theorem dX0_registerLimit_69 : decode cX0_registerLimit 69 = .ok (.aload_n 0, 1) := by decide +kernel
theorem dX0_registerLimit_70 : decode cX0_registerLimit 70 = .ok (.getfield 44, 3) := by decide +kernel
theorem dX0_registerLimit_73 : decode cX0_registerLimit 73 = .ok (.iload_n 3, 1) := by decide +kernel
theorem dX0_registerLimit_74 : decode cX0_registerLimit 74 = .ok (.laload, 1) := by decide +kernel
theorem dX0_registerLimit_75 : decode cX0_registerLimit 75 = .ok (.invokestatic 100, 3) := by decide +kernel
theorem dX0_registerLimit_78 : decode cX0_registerLimit 78 = .ok (.lstore_n 1, 1) := by decide +kernel
theorem dX0_registerLimit_79 : decode cX0_registerLimit 79 = .ok (.aload_n 0, 1) := by decide +kernel
theorem dX0_registerLimit_80 : decode cX0_registerLimit 80 = .ok (.getfield 59, 3) := by decide +kernel
theorem dX0_registerLimit_83 : decode cX0_registerLimit 83 = .ok (.iload_n 3, 1) := by decide +kernel
theorem dX0_registerLimit_84 : decode cX0_registerLimit 84 = .ok (.iaload, 1) := by decide +kernel
theorem dX0_registerLimit_85 : decode cX0_registerLimit 85 = .ok (.istore 4, 2) := by decide +kernel
theorem dX0_registerLimit_87 : decode cX0_registerLimit 87 = .ok (.iload 4, 2) := by decide +kernel
theorem dX0_registerLimit_89 : decode cX0_registerLimit 89 = .ok (.aload_n 0, 1) := by decide +kernel
theorem dX0_registerLimit_90 : decode cX0_registerLimit 90 = .ok (.getfield 59, 3) := by decide +kernel
theorem dX0_registerLimit_93 : decode cX0_registerLimit 93 = .ok (.iload_n 3, 1) := by decide +kernel
theorem dX0_registerLimit_94 : decode cX0_registerLimit 94 = .ok (.iconst 1, 1) := by decide +kernel
theorem dX0_registerLimit_95 : decode cX0_registerLimit 95 = .ok (.iadd, 1) := by decide +kernel
theorem dX0_registerLimit_96 : decode cX0_registerLimit 96 = .ok (.iaload, 1) := by decide +kernel
theorem dX0_registerLimit_97 : decode cX0_registerLimit 97 = .ok (.if_icmp .ge 65, 3) := by decide +kernel
theorem dX0_registerLimit_162 : decode cX0_registerLimit 162 = .ok (.iinc 3 1, 3) := by decide +kernel
theorem dX0_registerLimit_165 : decode cX0_registerLimit 165 = .ok (.goto (-105), 3) := by decide +kernel
theorem dX0_registerLimit_100 : decode cX0_registerLimit 100 = .ok (.lload_n 1, 1) := by decide +kernel
theorem dX0_registerLimit_101 : decode cX0_registerLimit 101 = .ok (.ldc2_w 98, 3) := by decide +kernel
theorem dX0_registerLimit_104 : decode cX0_registerLimit 104 = .ok (.aload_n 0, 1) := by decide +kernel
theorem dX0_registerLimit_105 : decode cX0_registerLimit 105 = .ok (.getfield 62, 3) := by decide +kernel
theorem dX0_registerLimit_108 : decode cX0_registerLimit 108 = .ok (.iload 4, 2) := by decide +kernel
theorem dX0_registerLimit_110 : decode cX0_registerLimit 110 = .ok (.iaload, 1) := by decide +kernel
theorem dX0_registerLimit_111 : decode cX0_registerLimit 111 = .ok (.i2l, 1) := by decide +kernel
theorem dX0_registerLimit_112 : decode cX0_registerLimit 112 = .ok (.ladd, 1) := by decide +kernel
theorem dX0_registerLimit_113 : decode cX0_registerLimit 113 = .ok (.invokestatic 100, 3) := by decide +kernel
theorem dX0_registerLimit_116 : decode cX0_registerLimit 116 = .ok (.lstore_n 1, 1) := by decide +kernel
theorem dX0_registerLimit_117 : decode cX0_registerLimit 117 = .ok (.iconst 0, 1) := by decide +kernel
theorem dX0_registerLimit_118 : decode cX0_registerLimit 118 = .ok (.istore 5, 2) := by decide +kernel
theorem dX0_registerLimit_120 : decode cX0_registerLimit 120 = .ok (.iload 5, 2) := by decide +kernel
theorem dX0_registerLimit_122 : decode cX0_registerLimit 122 = .ok (.aload_n 0, 1) := by decide +kernel
theorem dX0_registerLimit_123 : decode cX0_registerLimit 123 = .ok (.iload_n 3, 1) := by decide +kernel
theorem dX0_registerLimit_124 : decode cX0_registerLimit 124 = .ok (.invokevirtual 104, 3) := by decide +kernel
theorem dX0_registerLimit_127 : decode cX0_registerLimit 127 = .ok (.if_icmp .ge 29, 3) := by decide +kernel
theorem dX0_registerLimit_156 : decode cX0_registerLimit 156 = .ok (.iinc 4 1, 3) := by decide +kernel
theorem dX0_registerLimit_159 : decode cX0_registerLimit 159 = .ok (.goto (-72), 3) := by decide +kernel
theorem dX0_registerLimit_130 : decode cX0_registerLimit 130 = .ok (.lload_n 1, 1) := by decide +kernel
theorem dX0_registerLimit_131 : decode cX0_registerLimit 131 = .ok (.aload_n 0, 1) := by decide +kernel
theorem dX0_registerLimit_132 : decode cX0_registerLimit 132 = .ok (.getfield 68, 3) := by decide +kernel
theorem dX0_registerLimit_135 : decode cX0_registerLimit 135 = .ok (.aload_n 0, 1) := by decide +kernel
theorem dX0_registerLimit_136 : decode cX0_registerLimit 136 = .ok (.getfield 65, 3) := by decide +kernel
theorem dX0_registerLimit_139 : decode cX0_registerLimit 139 = .ok (.iload 4, 2) := by decide +kernel
theorem dX0_registerLimit_141 : decode cX0_registerLimit 141 = .ok (.iaload, 1) := by decide +kernel
theorem dX0_registerLimit_142 : decode cX0_registerLimit 142 = .ok (.iload 5, 2) := by decide +kernel
theorem dX0_registerLimit_144 : decode cX0_registerLimit 144 = .ok (.iadd, 1) := by decide +kernel
theorem dX0_registerLimit_145 : decode cX0_registerLimit 145 = .ok (.laload, 1) := by decide +kernel
theorem dX0_registerLimit_146 : decode cX0_registerLimit 146 = .ok (.invokestatic 100, 3) := by decide +kernel
theorem dX0_registerLimit_149 : decode cX0_registerLimit 149 = .ok (.lstore_n 1, 1) := by decide +kernel
theorem dX0_registerLimit_150 : decode cX0_registerLimit 150 = .ok (.iinc 5 1, 3) := by decide +kernel
theorem dX0_registerLimit_153 : decode cX0_registerLimit 153 = .ok (.goto (-33), 3) := by decide +kernel
theorem dX0_registerLimit_14 : decode cX0_registerLimit 14 = .ok (.lload_n 1, 1) := by decide +kernel
theorem dX0_registerLimit_15 : decode cX0_registerLimit 15 = .ok (.ldc2_w 98, 3) := by decide +kernel
theorem dX0_registerLimit_18 : decode cX0_registerLimit 18 = .ok (.aload_n 0, 1) := by decide +kernel
theorem dX0_registerLimit_19 : decode cX0_registerLimit 19 = .ok (.getfield 31, 3) := by decide +kernel
theorem dX0_registerLimit_22 : decode cX0_registerLimit 22 = .ok (.iload_n 3, 1) := by decide +kernel
theorem dX0_registerLimit_23 : decode cX0_registerLimit 23 = .ok (.iaload, 1) := by decide +kernel
theorem dX0_registerLimit_24 : decode cX0_registerLimit 24 = .ok (.i2l, 1) := by decide +kernel
theorem dX0_registerLimit_25 : decode cX0_registerLimit 25 = .ok (.ladd, 1) := by decide +kernel
theorem dX0_registerLimit_26 : decode cX0_registerLimit 26 = .ok (.invokestatic 100, 3) := by decide +kernel
theorem dX0_registerLimit_29 : decode cX0_registerLimit 29 = .ok (.lstore_n 1, 1) := by decide +kernel
theorem dX0_registerLimit_30 : decode cX0_registerLimit 30 = .ok (.lload_n 1, 1) := by decide +kernel
theorem dX0_registerLimit_31 : decode cX0_registerLimit 31 = .ok (.aload_n 0, 1) := by decide +kernel
theorem dX0_registerLimit_32 : decode cX0_registerLimit 32 = .ok (.getfield 34, 3) := by decide +kernel
theorem dX0_registerLimit_35 : decode cX0_registerLimit 35 = .ok (.iload_n 3, 1) := by decide +kernel
theorem dX0_registerLimit_36 : decode cX0_registerLimit 36 = .ok (.laload, 1) := by decide +kernel
theorem dX0_registerLimit_37 : decode cX0_registerLimit 37 = .ok (.invokestatic 100, 3) := by decide +kernel
theorem dX0_registerLimit_40 : decode cX0_registerLimit 40 = .ok (.lstore_n 1, 1) := by decide +kernel
theorem dX0_registerLimit_41 : decode cX0_registerLimit 41 = .ok (.lload_n 1, 1) := by decide +kernel
theorem dX0_registerLimit_42 : decode cX0_registerLimit 42 = .ok (.aload_n 0, 1) := by decide +kernel
theorem dX0_registerLimit_43 : decode cX0_registerLimit 43 = .ok (.getfield 38, 3) := by decide +kernel
theorem dX0_registerLimit_46 : decode cX0_registerLimit 46 = .ok (.iload_n 3, 1) := by decide +kernel
theorem dX0_registerLimit_47 : decode cX0_registerLimit 47 = .ok (.laload, 1) := by decide +kernel
theorem dX0_registerLimit_48 : decode cX0_registerLimit 48 = .ok (.invokestatic 100, 3) := by decide +kernel
theorem dX0_registerLimit_51 : decode cX0_registerLimit 51 = .ok (.lstore_n 1, 1) := by decide +kernel
theorem dX0_registerLimit_52 : decode cX0_registerLimit 52 = .ok (.iinc 3 1, 3) := by decide +kernel
theorem dX0_registerLimit_55 : decode cX0_registerLimit 55 = .ok (.goto (-49), 3) := by decide +kernel
def o_X0_registerLimit : List Cond := [.constantLong RX0 96 (4294967295), .fieldLink RX0 15 "SsaForge$Code" "rows" "I", .fieldLink RX0 9 "SsaForge$Code" "blocks" "I", .initialized RX11, .static yX11_registerOf, .fieldLink RX0 44 "SsaForge$Code" "endUse" "[J", .methodLink RX0 100 yX0_greater, .static yX0_greater, .initialized RX0, .fieldLink RX0 59 "SsaForge$Code" "phiStart" "[I", .constantLong RX0 98 (4294967296), .fieldLink RX0 62 "SsaForge$Code" "phiTarget" "[I", .methodLink RX0 104 yX0_predCount, .instanceMethod yX0_predCount, .selects RX0 yX0_predCount yX0_predCount, .fieldLink RX0 68 "SsaForge$Code" "args" "[J", .fieldLink RX0 65 "SsaForge$Code" "argStart" "[I", .fieldLink RX0 31 "SsaForge$Code" "target" "[I", .fieldLink RX0 34 "SsaForge$Code" "left" "[J", .fieldLink RX0 38 "SsaForge$Code" "right" "[J"]
def v_X0_registerLimit : List Cond := .code yX0_registerLimit cX0_registerLimit 6 (some .int) :: (o_X0_registerLimit ++ (wsX00 ++ (v_X11_registerOf ++ (v_X0_greater ++ (v_X0_predCount ++ [])))))
theorem mow_X0_registerLimit : ∀ w ∈ o_X0_registerLimit, w ∈ v_X0_registerLimit := fun _ h => List.mem_cons_of_mem _ (List.mem_append_left _ h)
theorem mem_X0_registerLimit_0 : ∀ w ∈ wsX00, w ∈ v_X0_registerLimit := fun _ h => List.mem_cons_of_mem _ (List.mem_append_right _ (List.mem_append_left _ h))
theorem mem_X0_registerLimit_1 : ∀ w ∈ v_X11_registerOf, w ∈ v_X0_registerLimit := fun _ h => List.mem_cons_of_mem _ (List.mem_append_right _ (List.mem_append_right _ (List.mem_append_left _ h)))
theorem mem_X0_registerLimit_2 : ∀ w ∈ v_X0_greater, w ∈ v_X0_registerLimit := fun _ h => List.mem_cons_of_mem _ (List.mem_append_right _ (List.mem_append_right _ (List.mem_append_right _ (List.mem_append_left _ h))))
theorem mem_X0_registerLimit_3 : ∀ w ∈ v_X0_predCount, w ∈ v_X0_registerLimit := fun _ h => List.mem_cons_of_mem _ (List.mem_append_right _ (List.mem_append_right _ (List.mem_append_right _ (List.mem_append_right _ (List.mem_append_left _ h)))))
set_option maxRecDepth 20000 in
theorem gw_X0_registerLimit : v_X0_registerLimit.all goodWord = true := by decide +kernel
set_option maxRecDepth 20000 in
theorem g_X0_registerLimit_X0_greater : GoodIn v_X0_registerLimit (wsS RX0 100 yX0_greater v_X0_greater) := goodIn_app (goodIn_sub (fun w h => mow_X0_registerLimit w (by revert w h; decide +kernel)) (by decide +kernel)) (goodIn_sub mem_X0_registerLimit_2 gw_X0_greater)
set_option maxRecDepth 20000 in
theorem g_X0_registerLimit_X0_predCount : GoodIn v_X0_registerLimit (wsV RX0 104 RX0 yX0_predCount v_X0_predCount) := goodIn_app (goodIn_sub (fun w h => mow_X0_registerLimit w (by revert w h; decide +kernel)) (by decide +kernel)) (goodIn_sub mem_X0_registerLimit_3 gw_X0_predCount)
set_option maxHeartbeats 4000000 in
set_option maxRecDepth 100000 in
theorem c_X0_registerLimit (l : Launch) (dC : Nat → ClassId) (dI : Nat → Nat → Nat) (h0 : Nat) (B1 : Int) (R1 : Int) (v_2 : Value) (v_3 : Value) (v_4 : Value) (v_5 : Value) (q_706 : Nat) (cA_706 : ClassId) (a_6 : Int → Int) (q_707 : Nat) (cA_707 : ClassId) (a_7 : Int → Int) (q_708 : Nat) (cA_708 : ClassId) (a_8 : Int → Int) (v_9 : Value) (q_710 : Nat) (cA_710 : ClassId) (a_10 : Int → Int) (v_11 : Value) (v_12 : Value) (q_713 : Nat) (cA_713 : ClassId) (a_13 : Int → Int) (v_14 : Value) (q_715 : Nat) (cA_715 : ClassId) (a_15 : Int → Int) (q_716 : Nat) (cA_716 : ClassId) (a_16 : Int → Int) (q_717 : Nat) (cA_717 : ClassId) (a_17 : Int → Int) (q_718 : Nat) (cA_718 : ClassId) (na1 : Nat) (a_18 : Int → Int) (hNB1 : 0 ≤ B1 ∧ B1 ≤ 300) (hNR1 : 0 ≤ R1 ∧ R1 ≤ 2000) (hR_a_6 : ∀ j : Int, -1 ≤ a_6 j ∧ a_6 j ≤ 1023) (hR_a_7 : ∀ j : Int, ((-2147483648 ≤ a_7 j ∧ a_7 j ≤ 4294968319) ∨ a_7 j = 1099511627776)) (hR_a_8 : ∀ j : Int, ((-2147483648 ≤ a_8 j ∧ a_8 j ≤ 4294968319) ∨ a_8 j = 1099511627776)) (hR_a_10 : ∀ j : Int, ((-2147483648 ≤ a_10 j ∧ a_10 j ≤ 4294968319) ∨ a_10 j = 1099511627776)) (hR_a_13 : ∀ j : Int, 0 ≤ a_13 j ∧ a_13 j ≤ 600) (hR_a_15 : ∀ j : Int, 0 ≤ a_15 j ∧ a_15 j ≤ 1000) (hR_a_16 : ∀ j : Int, -1 ≤ a_16 j ∧ a_16 j ≤ 1023) (hR_a_17 : ∀ j : Int, 0 ≤ a_17 j ∧ a_17 j ≤ 60000) (hNna1 : na1 ≤ 60000) (hR_a_18 : ∀ j : Int, ((-2147483648 ≤ a_18 j ∧ a_18 j ≤ 4294968319) ∨ a_18 j = 1099511627776)) (hX_A : ∀ b i : Int, 0 ≤ b → b < B1 → a_15 b ≤ i → i < a_15 (b + 1) → a_17 i + (a_13 (b + 1) - a_13 b) ≤ na1) (sz : Nat) : Met l yX0_registerLimit v_X0_registerLimit ({ frames := 2, cells := 0, slots := 0, locals := 44 }) (va_Pc [.ref h0] (fun U => U.heap.size = sz ∧ va_P (dC, dI) vwP [(h0, .inr (0, [.int (zI (B1)), .int (zI (R1)), v_2, v_3, v_4, v_5, .ref q_706, .ref q_707, .ref q_708, v_9, .ref q_710, v_11, v_12, .ref q_713, v_14, .ref q_715, .ref q_716, .ref q_717, .ref q_718])), (q_706, .inl (cA_706, 2000, .inl (fun j : Nat => zI (a_6 (j : Int))))), (q_707, .inl (cA_707, 2000, .inr (.inl (fun j : Nat => lI (a_7 (j : Int)))))), (q_708, .inl (cA_708, 2000, .inr (.inl (fun j : Nat => lI (a_8 (j : Int)))))), (q_710, .inl (cA_710, 300, .inr (.inl (fun j : Nat => lI (a_10 (j : Int)))))), (q_713, .inl (cA_713, 301, .inl (fun j : Nat => zI (a_13 (j : Int))))), (q_715, .inl (cA_715, 301, .inl (fun j : Nat => zI (a_15 (j : Int))))), (q_716, .inl (cA_716, 1000, .inl (fun j : Nat => zI (a_16 (j : Int))))), (q_717, .inl (cA_717, 1000, .inl (fun j : Nat => zI (a_17 (j : Int))))), (q_718, .inl (cA_718, na1, .inr (.inl (fun j : Nat => lI (a_18 (j : Int))))))] U.heap ∧ va_K (dC, dI) vwP [(cA_706, .int), (cA_707, .long), (cA_708, .long), (cA_710, .long), (cA_713, .int), (cA_715, .int), (cA_716, .int), (cA_717, .int), (cA_718, .long)] U ∧ va_D (fun _ => True) [(h0, .inr (0, [.int (zI (B1)), .int (zI (R1)), v_2, v_3, v_4, v_5, .ref q_706, .ref q_707, .ref q_708, v_9, .ref q_710, v_11, v_12, .ref q_713, v_14, .ref q_715, .ref q_716, .ref q_717, .ref q_718])), (q_706, .inl (cA_706, 2000, .inl (fun j : Nat => zI (a_6 (j : Int))))), (q_707, .inl (cA_707, 2000, .inr (.inl (fun j : Nat => lI (a_7 (j : Int)))))), (q_708, .inl (cA_708, 2000, .inr (.inl (fun j : Nat => lI (a_8 (j : Int)))))), (q_710, .inl (cA_710, 300, .inr (.inl (fun j : Nat => lI (a_10 (j : Int)))))), (q_713, .inl (cA_713, 301, .inl (fun j : Nat => zI (a_13 (j : Int))))), (q_715, .inl (cA_715, 301, .inl (fun j : Nat => zI (a_15 (j : Int))))), (q_716, .inl (cA_716, 1000, .inl (fun j : Nat => zI (a_16 (j : Int))))), (q_717, .inl (cA_717, 1000, .inl (fun j : Nat => zI (a_17 (j : Int))))), (q_718, .inl (cA_718, na1, .inr (.inl (fun j : Nat => lI (a_18 (j : Int))))))] ∧ va_Nw (.methodLinkNest RX0 107 yX11_registerOf "SsaForge") U ∧ va_Nw (.methodLinkNest RX0 111 yX11_isRegister "SsaForge") U)) (va_Qi (fun (r : Int32) (_ : Unit) => ∃ z : Int, r = zI z ∧ (0 ≤ z ∧ z ≤ 1024)) (fun (_ : Unit) (t : State) => va_P (dC, dI) vwP [(h0, .inr (0, [.int (zI (B1)), .int (zI (R1)), v_2, v_3, v_4, v_5, .ref q_706, .ref q_707, .ref q_708, v_9, .ref q_710, v_11, v_12, .ref q_713, v_14, .ref q_715, .ref q_716, .ref q_717, .ref q_718])), (q_706, .inl (cA_706, 2000, .inl (fun j : Nat => zI (a_6 (j : Int))))), (q_707, .inl (cA_707, 2000, .inr (.inl (fun j : Nat => lI (a_7 (j : Int)))))), (q_708, .inl (cA_708, 2000, .inr (.inl (fun j : Nat => lI (a_8 (j : Int)))))), (q_710, .inl (cA_710, 300, .inr (.inl (fun j : Nat => lI (a_10 (j : Int)))))), (q_713, .inl (cA_713, 301, .inl (fun j : Nat => zI (a_13 (j : Int))))), (q_715, .inl (cA_715, 301, .inl (fun j : Nat => zI (a_15 (j : Int))))), (q_716, .inl (cA_716, 1000, .inl (fun j : Nat => zI (a_16 (j : Int))))), (q_717, .inl (cA_717, 1000, .inl (fun j : Nat => zI (a_17 (j : Int))))), (q_718, .inl (cA_718, na1, .inr (.inl (fun j : Nat => lI (a_18 (j : Int))))))] t.heap ∧ va_K (dC, dI) vwP [(cA_706, .int), (cA_707, .long), (cA_708, .long), (cA_710, .long), (cA_713, .int), (cA_715, .int), (cA_716, .int), (cA_717, .int), (cA_718, .long)] t ∧ va_D (va_A [(h0, .inr (0, [.int (zI (B1)), .int (zI (R1)), v_2, v_3, v_4, v_5, .ref q_706, .ref q_707, .ref q_708, v_9, .ref q_710, v_11, v_12, .ref q_713, v_14, .ref q_715, .ref q_716, .ref q_717, .ref q_718])), (q_706, .inl (cA_706, 2000, .inl (fun j : Nat => zI (a_6 (j : Int))))), (q_707, .inl (cA_707, 2000, .inr (.inl (fun j : Nat => lI (a_7 (j : Int)))))), (q_708, .inl (cA_708, 2000, .inr (.inl (fun j : Nat => lI (a_8 (j : Int)))))), (q_710, .inl (cA_710, 300, .inr (.inl (fun j : Nat => lI (a_10 (j : Int)))))), (q_713, .inl (cA_713, 301, .inl (fun j : Nat => zI (a_13 (j : Int))))), (q_715, .inl (cA_715, 301, .inl (fun j : Nat => zI (a_15 (j : Int))))), (q_716, .inl (cA_716, 1000, .inl (fun j : Nat => zI (a_16 (j : Int))))), (q_717, .inl (cA_717, 1000, .inl (fun j : Nat => zI (a_17 (j : Int))))), (q_718, .inl (cA_718, na1, .inr (.inl (fun j : Nat => lI (a_18 (j : Int))))))] sz) [(h0, .inr (0, [.int (zI (B1)), .int (zI (R1)), v_2, v_3, v_4, v_5, .ref q_706, .ref q_707, .ref q_708, v_9, .ref q_710, v_11, v_12, .ref q_713, v_14, .ref q_715, .ref q_716, .ref q_717, .ref q_718])), (q_706, .inl (cA_706, 2000, .inl (fun j : Nat => zI (a_6 (j : Int))))), (q_707, .inl (cA_707, 2000, .inr (.inl (fun j : Nat => lI (a_7 (j : Int)))))), (q_708, .inl (cA_708, 2000, .inr (.inl (fun j : Nat => lI (a_8 (j : Int)))))), (q_710, .inl (cA_710, 300, .inr (.inl (fun j : Nat => lI (a_10 (j : Int)))))), (q_713, .inl (cA_713, 301, .inl (fun j : Nat => zI (a_13 (j : Int))))), (q_715, .inl (cA_715, 301, .inl (fun j : Nat => zI (a_15 (j : Int))))), (q_716, .inl (cA_716, 1000, .inl (fun j : Nat => zI (a_16 (j : Int))))), (q_717, .inl (cA_717, 1000, .inl (fun j : Nat => zI (a_17 (j : Int))))), (q_718, .inl (cA_718, na1, .inr (.inl (fun j : Nat => lI (a_18 (j : Int))))))]) (va_A [(h0, .inr (0, [.int (zI (B1)), .int (zI (R1)), v_2, v_3, v_4, v_5, .ref q_706, .ref q_707, .ref q_708, v_9, .ref q_710, v_11, v_12, .ref q_713, v_14, .ref q_715, .ref q_716, .ref q_717, .ref q_718])), (q_706, .inl (cA_706, 2000, .inl (fun j : Nat => zI (a_6 (j : Int))))), (q_707, .inl (cA_707, 2000, .inr (.inl (fun j : Nat => lI (a_7 (j : Int)))))), (q_708, .inl (cA_708, 2000, .inr (.inl (fun j : Nat => lI (a_8 (j : Int)))))), (q_710, .inl (cA_710, 300, .inr (.inl (fun j : Nat => lI (a_10 (j : Int)))))), (q_713, .inl (cA_713, 301, .inl (fun j : Nat => zI (a_13 (j : Int))))), (q_715, .inl (cA_715, 301, .inl (fun j : Nat => zI (a_15 (j : Int))))), (q_716, .inl (cA_716, 1000, .inl (fun j : Nat => zI (a_16 (j : Int))))), (q_717, .inl (cA_717, 1000, .inl (fun j : Nat => zI (a_17 (j : Int))))), (q_718, .inl (cA_718, na1, .inr (.inl (fun j : Nat => lI (a_18 (j : Int))))))] sz)) 0 0 (va_A [(h0, .inr (0, [.int (zI (B1)), .int (zI (R1)), v_2, v_3, v_4, v_5, .ref q_706, .ref q_707, .ref q_708, v_9, .ref q_710, v_11, v_12, .ref q_713, v_14, .ref q_715, .ref q_716, .ref q_717, .ref q_718])), (q_706, .inl (cA_706, 2000, .inl (fun j : Nat => zI (a_6 (j : Int))))), (q_707, .inl (cA_707, 2000, .inr (.inl (fun j : Nat => lI (a_7 (j : Int)))))), (q_708, .inl (cA_708, 2000, .inr (.inl (fun j : Nat => lI (a_8 (j : Int)))))), (q_710, .inl (cA_710, 300, .inr (.inl (fun j : Nat => lI (a_10 (j : Int)))))), (q_713, .inl (cA_713, 301, .inl (fun j : Nat => zI (a_13 (j : Int))))), (q_715, .inl (cA_715, 301, .inl (fun j : Nat => zI (a_15 (j : Int))))), (q_716, .inl (cA_716, 1000, .inl (fun j : Nat => zI (a_16 (j : Int))))), (q_717, .inl (cA_717, 1000, .inl (fun j : Nat => zI (a_17 (j : Int))))), (q_718, .inl (cA_718, na1, .inr (.inl (fun j : Nat => lI (a_18 (j : Int))))))] sz) := by
  refine Met.ofW (cc := cX0_registerLimit) (maxL := 6) (ret := (some .int)) (by decide) rfl ?_
  intro p e s m args below meth c s₁ B hml hv
  obtain ⟨rfl, hsz, hP, hK, hD0, hp0, hp1⟩ := hv
  have hx := B.exec
  have hb := B.bytes
  have hr := B.returns
  have hts := atoms_spec (ws := v_X0_registerLimit) B.pre
  have hown : s.vm.findClass RX0 = some m.cls := findClass_of_methodNamed B.named
  have hlocks := B.notSynchronized
  have ow : ∀ {k : Nat} {w : Cond}, o_X0_registerLimit[k]? = some w → w.before ([.ref h0] : List Value).toArray s = true := fun h => hts _ (mow_X0_registerLimit _ (List.mem_of_getElem? h))
  subst hsz
  have hD := hD0.self (sz := s.heap.size)
  generalize hAe : va_A [(h0, .inr (0, [.int (zI (B1)), .int (zI (R1)), v_2, v_3, v_4, v_5, .ref q_706, .ref q_707, .ref q_708, v_9, .ref q_710, v_11, v_12, .ref q_713, v_14, .ref q_715, .ref q_716, .ref q_717, .ref q_718])), (q_706, .inl (cA_706, 2000, .inl (fun j : Nat => zI (a_6 (j : Int))))), (q_707, .inl (cA_707, 2000, .inr (.inl (fun j : Nat => lI (a_7 (j : Int)))))), (q_708, .inl (cA_708, 2000, .inr (.inl (fun j : Nat => lI (a_8 (j : Int)))))), (q_710, .inl (cA_710, 300, .inr (.inl (fun j : Nat => lI (a_10 (j : Int)))))), (q_713, .inl (cA_713, 301, .inl (fun j : Nat => zI (a_13 (j : Int))))), (q_715, .inl (cA_715, 301, .inl (fun j : Nat => zI (a_15 (j : Int))))), (q_716, .inl (cA_716, 1000, .inl (fun j : Nat => zI (a_16 (j : Int))))), (q_717, .inl (cA_717, 1000, .inl (fun j : Nat => zI (a_17 (j : Int))))), (q_718, .inl (cA_718, na1, .inr (.inl (fun j : Nat => lI (a_18 (j : Int))))))] s.heap.size = A at hD ⊢
  have hA : ∀ q : Nat, s.heap.size ≤ q → A q := fun q h => by rw [← hAe]; exact Or.inr h
  have hS : va_S A s.heap s.heap [] := va_S.rf
  have hP : va_P (dC, dI) vwP [(h0, .inr (0, [.int (zI (B1)), .int (zI (R1)), v_2, v_3, v_4, v_5, .ref q_706, .ref q_707, .ref q_708, v_9, .ref q_710, v_11, v_12, .ref q_713, v_14, .ref q_715, .ref q_716, .ref q_717, .ref q_718])), (q_706, .inl (cA_706, 2000, .inl (fun j : Nat => zI (a_6 (j : Int))))), (q_707, .inl (cA_707, 2000, .inr (.inl (fun j : Nat => lI (a_7 (j : Int)))))), (q_708, .inl (cA_708, 2000, .inr (.inl (fun j : Nat => lI (a_8 (j : Int)))))), (q_710, .inl (cA_710, 300, .inr (.inl (fun j : Nat => lI (a_10 (j : Int)))))), (q_713, .inl (cA_713, 301, .inl (fun j : Nat => zI (a_13 (j : Int))))), (q_715, .inl (cA_715, 301, .inl (fun j : Nat => zI (a_15 (j : Int))))), (q_716, .inl (cA_716, 1000, .inl (fun j : Nat => zI (a_16 (j : Int))))), (q_717, .inl (cA_717, 1000, .inl (fun j : Nat => zI (a_17 (j : Int))))), (q_718, .inl (cA_718, na1, .inr (.inl (fun j : Nat => lI (a_18 (j : Int))))))] s.heap := hP
  have hl := lv_entry ([.ref h0]) (n := 6) (Nat.le_of_ble_eq_true rfl)
  rw [lg_entry_eq]
  generalize (lg_sl ([.ref h0]) ++ List.replicate (6 - (lg_sl ([.ref h0])).length) Slot.unset).toArray = ls at hl ⊢
  have hl : lv_has ls 6 [(0, .ref h0)] := hl
  obtain ⟨H, hH⟩ : ∃ H, H = s.heap := ⟨_, rfl⟩
  rw [← hH] at hP
  have hS : va_S A s.heap H [] := by rw [hH]; exact hS
  rw [← hH]
  refine zW_cap (fun Q hQ => ?_)
  refine lv_ldc2 (v := 4294967295) hx hb hown (ow (k := 0) rfl) dX0_registerLimit_0 ?_
  refine lv_topl (fun z ez => ?_)
  obtain rfl : z = lI (4294967295) := ez
  refine lv_lstore_n (lv' := [(1, .long (lI (4294967295))), (0, .ref h0)]) hx hb dX0_registerLimit_3 rfl hl (by decide) rfl (fun ls hl => ?_)
  refine lv_iconst (v := 0) hx hb dX0_registerLimit_4 (by decide) ?_
  refine lv_istore_n (lv' := [(3, .int 0), (1, .long (lI (4294967295))), (0, .ref h0)]) hx hb dX0_registerLimit_5 rfl hl (by decide) rfl (fun ls hl => ?_)
  have key6 : ∀ n6 : Nat, ∀ (d6_3 : Int) (d6_1 : Int) (ls : Array Slot) (H : Heap) (locs : List Loc), (0 ≤ d6_3 ∧ d6_3 ≤ 1000000000) → (4294967295 ≤ d6_1 ∧ d6_1 ≤ 4294968319) → (((R1) - (d6_3) : Int).toNat) < n6 → lv_has ls 6 [(0, .ref h0), (1, .long (lI (d6_1))), (3, .int (zI (d6_3)))] → va_P (dC, dI) vwP [(h0, .inr (0, [.int (zI (B1)), .int (zI (R1)), v_2, v_3, v_4, v_5, .ref q_706, .ref q_707, .ref q_708, v_9, .ref q_710, v_11, v_12, .ref q_713, v_14, .ref q_715, .ref q_716, .ref q_717, .ref q_718])), (q_706, .inl (cA_706, 2000, .inl (fun j : Nat => zI (a_6 (j : Int))))), (q_707, .inl (cA_707, 2000, .inr (.inl (fun j : Nat => lI (a_7 (j : Int)))))), (q_708, .inl (cA_708, 2000, .inr (.inl (fun j : Nat => lI (a_8 (j : Int)))))), (q_710, .inl (cA_710, 300, .inr (.inl (fun j : Nat => lI (a_10 (j : Int)))))), (q_713, .inl (cA_713, 301, .inl (fun j : Nat => zI (a_13 (j : Int))))), (q_715, .inl (cA_715, 301, .inl (fun j : Nat => zI (a_15 (j : Int))))), (q_716, .inl (cA_716, 1000, .inl (fun j : Nat => zI (a_16 (j : Int))))), (q_717, .inl (cA_717, 1000, .inl (fun j : Nat => zI (a_17 (j : Int))))), (q_718, .inl (cA_718, na1, .inr (.inl (fun j : Nat => lI (a_18 (j : Int))))))] H → va_D A [(h0, .inr (0, [.int (zI (B1)), .int (zI (R1)), v_2, v_3, v_4, v_5, .ref q_706, .ref q_707, .ref q_708, v_9, .ref q_710, v_11, v_12, .ref q_713, v_14, .ref q_715, .ref q_716, .ref q_717, .ref q_718])), (q_706, .inl (cA_706, 2000, .inl (fun j : Nat => zI (a_6 (j : Int))))), (q_707, .inl (cA_707, 2000, .inr (.inl (fun j : Nat => lI (a_7 (j : Int)))))), (q_708, .inl (cA_708, 2000, .inr (.inl (fun j : Nat => lI (a_8 (j : Int)))))), (q_710, .inl (cA_710, 300, .inr (.inl (fun j : Nat => lI (a_10 (j : Int)))))), (q_713, .inl (cA_713, 301, .inl (fun j : Nat => zI (a_13 (j : Int))))), (q_715, .inl (cA_715, 301, .inl (fun j : Nat => zI (a_15 (j : Int))))), (q_716, .inl (cA_716, 1000, .inl (fun j : Nat => zI (a_16 (j : Int))))), (q_717, .inl (cA_717, 1000, .inl (fun j : Nat => zI (a_17 (j : Int))))), (q_718, .inl (cA_718, na1, .inr (.inl (fun j : Nat => lI (a_18 (j : Int))))))] → va_S A s.heap H locs → W p l e (headSpec v_X0_registerLimit ({ frames := 2, cells := 0, slots := 0, locals := 44 })).room s m ([.ref h0] : List Value).toArray below meth c H locs 0 0 Q (F0 m 6 ls []) := by
    intro n6
    induction n6 with
    | zero => intro d6_3 d6_1 ls H locs jd6_3 jd6_1 hm6; exact absurd hm6 (by omega)
    | succ n6 ih6 =>
      intro d6_3 d6_1 ls H locs jd6_3 jd6_1 hm6 hl hP hD hS
      refine lv_iload_n hx hb dX0_registerLimit_6 rfl (lv_at hl 2 rfl) ?_
      refine lv_aload_n hx hb dX0_registerLimit_7 rfl (lv_at hl 0 rfl) ?_
      refine va_get (D := (dC, dI)) (ci := 0) (v := .int (zI (R1))) (C := RX0) (T := TX0) (N := 19) hx hb hts mem_X0_registerLimit_0 hown hK hP 0 rfl rfl 1 (by decide) (ow (k := 1) rfl) (fun _ h9 => h9) rfl dX0_registerLimit_8 ?_
      refine lv_icmp_ge (tgt := 58) hx hb dX0_registerLimit_11 (by decide) (fun b11 => ?_) (fun b11 => ?_)
      · have yb11 : (R1 : Int) ≤ (d6_3 : Int) := (zI_le (a := R1) (b := d6_3) (by omega) (by omega) (by omega) (by omega)).mp b11
        refine lv_iconst (v := 0) hx hb dX0_registerLimit_58 (by decide) ?_
        refine lv_istore_n (lv' := [(3, .int 0), (0, .ref h0), (1, .long (lI (d6_1)))]) hx hb dX0_registerLimit_59 rfl hl (by decide) rfl (fun ls hl => ?_)
        have key60 : ∀ n60 : Nat, ∀ (d60_3 : Int) (d60_1 : Int) (ls : Array Slot) (H : Heap) (locs : List Loc), (0 ≤ d60_3 ∧ d60_3 ≤ 1000000000) → (4294967295 ≤ d60_1 ∧ d60_1 ≤ 4294968319) → (((B1) - (d60_3) : Int).toNat) < n60 → lv_has ls 6 [(0, .ref h0), (1, .long (lI (d60_1))), (3, .int (zI (d60_3)))] → va_P (dC, dI) vwP [(h0, .inr (0, [.int (zI (B1)), .int (zI (R1)), v_2, v_3, v_4, v_5, .ref q_706, .ref q_707, .ref q_708, v_9, .ref q_710, v_11, v_12, .ref q_713, v_14, .ref q_715, .ref q_716, .ref q_717, .ref q_718])), (q_706, .inl (cA_706, 2000, .inl (fun j : Nat => zI (a_6 (j : Int))))), (q_707, .inl (cA_707, 2000, .inr (.inl (fun j : Nat => lI (a_7 (j : Int)))))), (q_708, .inl (cA_708, 2000, .inr (.inl (fun j : Nat => lI (a_8 (j : Int)))))), (q_710, .inl (cA_710, 300, .inr (.inl (fun j : Nat => lI (a_10 (j : Int)))))), (q_713, .inl (cA_713, 301, .inl (fun j : Nat => zI (a_13 (j : Int))))), (q_715, .inl (cA_715, 301, .inl (fun j : Nat => zI (a_15 (j : Int))))), (q_716, .inl (cA_716, 1000, .inl (fun j : Nat => zI (a_16 (j : Int))))), (q_717, .inl (cA_717, 1000, .inl (fun j : Nat => zI (a_17 (j : Int))))), (q_718, .inl (cA_718, na1, .inr (.inl (fun j : Nat => lI (a_18 (j : Int))))))] H → va_D A [(h0, .inr (0, [.int (zI (B1)), .int (zI (R1)), v_2, v_3, v_4, v_5, .ref q_706, .ref q_707, .ref q_708, v_9, .ref q_710, v_11, v_12, .ref q_713, v_14, .ref q_715, .ref q_716, .ref q_717, .ref q_718])), (q_706, .inl (cA_706, 2000, .inl (fun j : Nat => zI (a_6 (j : Int))))), (q_707, .inl (cA_707, 2000, .inr (.inl (fun j : Nat => lI (a_7 (j : Int)))))), (q_708, .inl (cA_708, 2000, .inr (.inl (fun j : Nat => lI (a_8 (j : Int)))))), (q_710, .inl (cA_710, 300, .inr (.inl (fun j : Nat => lI (a_10 (j : Int)))))), (q_713, .inl (cA_713, 301, .inl (fun j : Nat => zI (a_13 (j : Int))))), (q_715, .inl (cA_715, 301, .inl (fun j : Nat => zI (a_15 (j : Int))))), (q_716, .inl (cA_716, 1000, .inl (fun j : Nat => zI (a_16 (j : Int))))), (q_717, .inl (cA_717, 1000, .inl (fun j : Nat => zI (a_17 (j : Int))))), (q_718, .inl (cA_718, na1, .inr (.inl (fun j : Nat => lI (a_18 (j : Int))))))] → va_S A s.heap H locs → W p l e (headSpec v_X0_registerLimit ({ frames := 2, cells := 0, slots := 0, locals := 44 })).room s m ([.ref h0] : List Value).toArray below meth c H locs 0 0 Q (F0 m 60 ls []) := by
          intro n60
          induction n60 with
          | zero => intro d60_3 d60_1 ls H locs jd60_3 jd60_1 hm60; exact absurd hm60 (by omega)
          | succ n60 ih60 =>
            intro d60_3 d60_1 ls H locs jd60_3 jd60_1 hm60 hl hP hD hS
            refine lv_iload_n hx hb dX0_registerLimit_60 rfl (lv_at hl 2 rfl) ?_
            refine lv_aload_n hx hb dX0_registerLimit_61 rfl (lv_at hl 0 rfl) ?_
            refine va_get (D := (dC, dI)) (ci := 0) (v := .int (zI (B1))) (C := RX0) (T := TX0) (N := 19) hx hb hts mem_X0_registerLimit_0 hown hK hP 0 rfl rfl 0 (by decide) (ow (k := 2) rfl) (fun _ h9 => h9) rfl dX0_registerLimit_62 ?_
            refine lv_icmp_ge (tgt := 168) hx hb dX0_registerLimit_65 (by decide) (fun b65 => ?_) (fun b65 => ?_)
            · have yb65 : (B1 : Int) ≤ (d60_3 : Int) := (zI_le (a := B1) (b := d60_3) (by omega) (by omega) (by omega) (by omega)).mp b65
              refine lv_lload_n hx hb dX0_registerLimit_168 rfl (lv_at hl 1 rfl) ?_
              have hPc := hP.sub (ws' := []) [] rfl
              have hDc := hD.sub (ws' := []) [] (by decide) rfl
              have hKc := hK.sub (tys' := []) [] rfl
              have hFc := va_free (wc := []) hD hS hA [] rfl
              refine va_calli (va_runSN (As := [.long (lI (d60_1))]) (rest := []) ⟨hx, hb, hml, hown, hts⟩ (c_X11_registerOf l dC dI d60_1 (by omega) H.size) ⟨va_cnB 1 hts (goodIn_sub mem_X0_registerLimit_1 gw_X11_registerOf) rfl rfl rfl hp0 (ow (k := 3) rfl) (by decide +kernel) ⟨(Nat.le_of_ble_eq_true rfl), (Nat.le_of_ble_eq_true rfl)⟩, (ow (k := 4) rfl), trivial⟩ ⟨fun a U g mk q => by obtain ⟨q0, q1, qP, qK, qD⟩ := q; exact ⟨q0, q1, qP, va_K.moved (u := U) (U := U.calling g mk a) (Vm.Alike.refl U.vm) qK, qD⟩, fun U hU hW => ⟨rfl, by rw [hU], by rw [hU]; exact hPc, va_K.moved hW.alike hKc, hDc.weaken (fun _ _ _ _ => trivial)⟩⟩ rfl rfl hl.1 rfl (lv_room (Nat.le_of_ble_eq_true rfl)) dX0_registerLimit_169 ⟨(Nat.le_of_ble_eq_true rfl), (Nat.le_of_ble_eq_true rfl)⟩) hS (fun q _ h => hFc q h) hFc (fun r_2001 u t H1 locs ht hvm hw hB hz1 hk1 hS => ?_)
              obtain ⟨hP1, hK1, hD1⟩ := hB
              rw [ht] at hP1
              have hK1 := va_K.moved hvm.symm hK1
              obtain ⟨hP, hD⟩ := va_join (wr := [(h0, .inr (0, [.int (zI (B1)), .int (zI (R1)), v_2, v_3, v_4, v_5, .ref q_706, .ref q_707, .ref q_708, v_9, .ref q_710, v_11, v_12, .ref q_713, v_14, .ref q_715, .ref q_716, .ref q_717, .ref q_718])), (q_706, .inl (cA_706, 2000, .inl (fun j : Nat => zI (a_6 (j : Int))))), (q_707, .inl (cA_707, 2000, .inr (.inl (fun j : Nat => lI (a_7 (j : Int)))))), (q_708, .inl (cA_708, 2000, .inr (.inl (fun j : Nat => lI (a_8 (j : Int)))))), (q_710, .inl (cA_710, 300, .inr (.inl (fun j : Nat => lI (a_10 (j : Int)))))), (q_713, .inl (cA_713, 301, .inl (fun j : Nat => zI (a_13 (j : Int))))), (q_715, .inl (cA_715, 301, .inl (fun j : Nat => zI (a_15 (j : Int))))), (q_716, .inl (cA_716, 1000, .inl (fun j : Nat => zI (a_16 (j : Int))))), (q_717, .inl (cA_717, 1000, .inl (fun j : Nat => zI (a_17 (j : Int))))), (q_718, .inl (cA_718, na1, .inr (.inl (fun j : Nat => lI (a_18 (j : Int))))))]) (w1 := []) hP hD [] [0, 1, 2, 3, 4, 5, 6, 7, 8, 9] rfl rfl (by decide) (by decide) hk1 hFc hP1 hD1
              have hK := (hK.sub (tys' := [(cA_706, .int), (cA_707, .long), (cA_708, .long), (cA_710, .long), (cA_713, .int), (cA_715, .int), (cA_716, .int), (cA_717, .int), (cA_718, .long)]) [0, 1, 2, 3, 4, 5, 6, 7, 8] rfl).app hK1
              generalize H1 = H at hP hS ⊢
              have hP : va_P (dC, dI) vwP [(h0, .inr (0, [.int (zI (B1)), .int (zI (R1)), v_2, v_3, v_4, v_5, .ref q_706, .ref q_707, .ref q_708, v_9, .ref q_710, v_11, v_12, .ref q_713, v_14, .ref q_715, .ref q_716, .ref q_717, .ref q_718])), (q_706, .inl (cA_706, 2000, .inl (fun j : Nat => zI (a_6 (j : Int))))), (q_707, .inl (cA_707, 2000, .inr (.inl (fun j : Nat => lI (a_7 (j : Int)))))), (q_708, .inl (cA_708, 2000, .inr (.inl (fun j : Nat => lI (a_8 (j : Int)))))), (q_710, .inl (cA_710, 300, .inr (.inl (fun j : Nat => lI (a_10 (j : Int)))))), (q_713, .inl (cA_713, 301, .inl (fun j : Nat => zI (a_13 (j : Int))))), (q_715, .inl (cA_715, 301, .inl (fun j : Nat => zI (a_15 (j : Int))))), (q_716, .inl (cA_716, 1000, .inl (fun j : Nat => zI (a_16 (j : Int))))), (q_717, .inl (cA_717, 1000, .inl (fun j : Nat => zI (a_17 (j : Int))))), (q_718, .inl (cA_718, na1, .inr (.inl (fun j : Nat => lI (a_18 (j : Int))))))] H := hP
              have hD : va_D A [(h0, .inr (0, [.int (zI (B1)), .int (zI (R1)), v_2, v_3, v_4, v_5, .ref q_706, .ref q_707, .ref q_708, v_9, .ref q_710, v_11, v_12, .ref q_713, v_14, .ref q_715, .ref q_716, .ref q_717, .ref q_718])), (q_706, .inl (cA_706, 2000, .inl (fun j : Nat => zI (a_6 (j : Int))))), (q_707, .inl (cA_707, 2000, .inr (.inl (fun j : Nat => lI (a_7 (j : Int)))))), (q_708, .inl (cA_708, 2000, .inr (.inl (fun j : Nat => lI (a_8 (j : Int)))))), (q_710, .inl (cA_710, 300, .inr (.inl (fun j : Nat => lI (a_10 (j : Int)))))), (q_713, .inl (cA_713, 301, .inl (fun j : Nat => zI (a_13 (j : Int))))), (q_715, .inl (cA_715, 301, .inl (fun j : Nat => zI (a_15 (j : Int))))), (q_716, .inl (cA_716, 1000, .inl (fun j : Nat => zI (a_16 (j : Int))))), (q_717, .inl (cA_717, 1000, .inl (fun j : Nat => zI (a_17 (j : Int))))), (q_718, .inl (cA_718, na1, .inr (.inl (fun j : Nat => lI (a_18 (j : Int))))))] := hD
              have hK : va_K (dC, dI) vwP [(cA_706, .int), (cA_707, .long), (cA_708, .long), (cA_710, .long), (cA_713, .int), (cA_715, .int), (cA_716, .int), (cA_717, .int), (cA_718, .long)] s := hK
              refine W.widen (k := 0) (n := 0) (Nat.le_of_ble_eq_true rfl) (Nat.le_of_ble_eq_true rfl) ?_
              obtain rfl : r_2001 = (zI (d60_1 - 4294967296)) := hw
              refine lv_iconst (v := 1) hx hb dX0_registerLimit_172 (by decide) ?_
              refine lv_iadd hx hb dX0_registerLimit_173 ?_
              refine lv_topi (fun z ez => ?_)
              obtain rfl : z = zI ((d60_1 - 4294967296) + 1) := ez.trans (zI_add (d60_1 - 4294967296) (1))
              subst hQ
              refine W.widen (k := 0) (n := 0) (Nat.le_of_ble_eq_true rfl) (Nat.le_of_ble_eq_true rfl) ?_
              exact W.iret (v := (zI ((d60_1 - 4294967296) + 1))) hx hb hr (fun t ht hW => ⟨⟨(zI ((d60_1 - 4294967296) + 1)), (), rfl, ⟨(d60_1 - 4294967296) + 1, rfl, by omega⟩, by rw [ht]; exact hP, va_K.moved hW.alike hK, hD⟩, hS.F ht⟩) hS.2.2 dX0_registerLimit_174
            · have yb65 : ¬ (B1 : Int) ≤ (d60_3 : Int) := fun q => b65 ((zI_le (a := B1) (b := d60_3) (by omega) (by omega) (by omega) (by omega)).mpr q)
              refine lv_lload_n hx hb dX0_registerLimit_68 rfl (lv_at hl 1 rfl) ?_
              refine lv_aload_n hx hb dX0_registerLimit_69 rfl (lv_at hl 0 rfl) ?_
              refine va_get (D := (dC, dI)) (ci := 0) (v := .ref q_710) (C := RX0) (T := TX0) (N := 19) hx hb hts mem_X0_registerLimit_0 hown hK hP 0 rfl rfl 10 (by decide) (ow (k := 5) rfl) (fun _ h9 => h9) rfl dX0_registerLimit_70 ?_
              refine lv_iload_n hx hb dX0_registerLimit_73 rfl (lv_at hl 2 rfl) ?_
              refine va_lald hx hb hK hP 4 3 rfl rfl (zI_in (a := d60_3) (n := 300) (by omega) (by omega) (by decide)) dX0_registerLimit_74 ?_
              refine lv_topl (fun z ez => ?_)
              obtain rfl : z = lI (a_10 (d60_3)) := ez.trans (lI_ld (a_10) (by omega) (by omega))
              have k1 := hR_a_10 (d60_3)
              have hPc := hP.sub (ws' := []) [] rfl
              have hDc := hD.sub (ws' := []) [] (by decide) rfl
              have hKc := hK.sub (tys' := []) [] rfl
              have hFc := va_free (wc := []) hD hS hA [] rfl
              refine va_calll (va_runS (As := [.long (lI (d60_1)), .long (lI (a_10 (d60_3)))]) (rest := []) ⟨hx, hb, hml, hown, hts⟩ (c_X0_greater l dC dI d60_1 (a_10 (d60_3)) (by omega) (by omega) H.size) (cwS 2 hts g_X0_registerLimit_X0_greater rfl rfl rfl (by decide +kernel) ⟨(Nat.le_of_ble_eq_true rfl), (Nat.le_of_ble_eq_true rfl)⟩) ⟨fun a U g mk q => by obtain ⟨q0, q1, qP, qK, qD, e0⟩ := q; exact ⟨q0, q1, qP, va_K.moved (u := U) (U := U.calling g mk a) (Vm.Alike.refl U.vm) qK, qD, va_Nw.same rfl (u := U) (U := U.calling g mk a) rfl e0⟩, fun U hU hW => ⟨rfl, by rw [hU], by rw [hU]; exact hPc, va_K.moved hW.alike hKc, hDc.weaken (fun _ _ _ _ => trivial), va_Nw.warmM hW hp1⟩⟩ rfl rfl hl.1 rfl (lv_room (Nat.le_of_ble_eq_true rfl)) dX0_registerLimit_75 ⟨(Nat.le_of_ble_eq_true rfl), (Nat.le_of_ble_eq_true rfl)⟩) hS (fun q _ h => hFc q h) hFc (fun r_2002 u t H1 locs ht hvm hw hB hz1 hk1 hS => ?_)
              obtain ⟨hP1, hK1, hD1⟩ := hB
              rw [ht] at hP1
              have hK1 := va_K.moved hvm.symm hK1
              obtain ⟨hP, hD⟩ := va_join (wr := [(h0, .inr (0, [.int (zI (B1)), .int (zI (R1)), v_2, v_3, v_4, v_5, .ref q_706, .ref q_707, .ref q_708, v_9, .ref q_710, v_11, v_12, .ref q_713, v_14, .ref q_715, .ref q_716, .ref q_717, .ref q_718])), (q_706, .inl (cA_706, 2000, .inl (fun j : Nat => zI (a_6 (j : Int))))), (q_707, .inl (cA_707, 2000, .inr (.inl (fun j : Nat => lI (a_7 (j : Int)))))), (q_708, .inl (cA_708, 2000, .inr (.inl (fun j : Nat => lI (a_8 (j : Int)))))), (q_710, .inl (cA_710, 300, .inr (.inl (fun j : Nat => lI (a_10 (j : Int)))))), (q_713, .inl (cA_713, 301, .inl (fun j : Nat => zI (a_13 (j : Int))))), (q_715, .inl (cA_715, 301, .inl (fun j : Nat => zI (a_15 (j : Int))))), (q_716, .inl (cA_716, 1000, .inl (fun j : Nat => zI (a_16 (j : Int))))), (q_717, .inl (cA_717, 1000, .inl (fun j : Nat => zI (a_17 (j : Int))))), (q_718, .inl (cA_718, na1, .inr (.inl (fun j : Nat => lI (a_18 (j : Int))))))]) (w1 := []) hP hD [] [0, 1, 2, 3, 4, 5, 6, 7, 8, 9] rfl rfl (by decide) (by decide) hk1 hFc hP1 hD1
              have hK := (hK.sub (tys' := [(cA_706, .int), (cA_707, .long), (cA_708, .long), (cA_710, .long), (cA_713, .int), (cA_715, .int), (cA_716, .int), (cA_717, .int), (cA_718, .long)]) [0, 1, 2, 3, 4, 5, 6, 7, 8] rfl).app hK1
              generalize H1 = H at hP hS ⊢
              have hP : va_P (dC, dI) vwP [(h0, .inr (0, [.int (zI (B1)), .int (zI (R1)), v_2, v_3, v_4, v_5, .ref q_706, .ref q_707, .ref q_708, v_9, .ref q_710, v_11, v_12, .ref q_713, v_14, .ref q_715, .ref q_716, .ref q_717, .ref q_718])), (q_706, .inl (cA_706, 2000, .inl (fun j : Nat => zI (a_6 (j : Int))))), (q_707, .inl (cA_707, 2000, .inr (.inl (fun j : Nat => lI (a_7 (j : Int)))))), (q_708, .inl (cA_708, 2000, .inr (.inl (fun j : Nat => lI (a_8 (j : Int)))))), (q_710, .inl (cA_710, 300, .inr (.inl (fun j : Nat => lI (a_10 (j : Int)))))), (q_713, .inl (cA_713, 301, .inl (fun j : Nat => zI (a_13 (j : Int))))), (q_715, .inl (cA_715, 301, .inl (fun j : Nat => zI (a_15 (j : Int))))), (q_716, .inl (cA_716, 1000, .inl (fun j : Nat => zI (a_16 (j : Int))))), (q_717, .inl (cA_717, 1000, .inl (fun j : Nat => zI (a_17 (j : Int))))), (q_718, .inl (cA_718, na1, .inr (.inl (fun j : Nat => lI (a_18 (j : Int))))))] H := hP
              have hD : va_D A [(h0, .inr (0, [.int (zI (B1)), .int (zI (R1)), v_2, v_3, v_4, v_5, .ref q_706, .ref q_707, .ref q_708, v_9, .ref q_710, v_11, v_12, .ref q_713, v_14, .ref q_715, .ref q_716, .ref q_717, .ref q_718])), (q_706, .inl (cA_706, 2000, .inl (fun j : Nat => zI (a_6 (j : Int))))), (q_707, .inl (cA_707, 2000, .inr (.inl (fun j : Nat => lI (a_7 (j : Int)))))), (q_708, .inl (cA_708, 2000, .inr (.inl (fun j : Nat => lI (a_8 (j : Int)))))), (q_710, .inl (cA_710, 300, .inr (.inl (fun j : Nat => lI (a_10 (j : Int)))))), (q_713, .inl (cA_713, 301, .inl (fun j : Nat => zI (a_13 (j : Int))))), (q_715, .inl (cA_715, 301, .inl (fun j : Nat => zI (a_15 (j : Int))))), (q_716, .inl (cA_716, 1000, .inl (fun j : Nat => zI (a_16 (j : Int))))), (q_717, .inl (cA_717, 1000, .inl (fun j : Nat => zI (a_17 (j : Int))))), (q_718, .inl (cA_718, na1, .inr (.inl (fun j : Nat => lI (a_18 (j : Int))))))] := hD
              have hK : va_K (dC, dI) vwP [(cA_706, .int), (cA_707, .long), (cA_708, .long), (cA_710, .long), (cA_713, .int), (cA_715, .int), (cA_716, .int), (cA_717, .int), (cA_718, .long)] s := hK
              refine W.widen (k := 0) (n := 0) (Nat.le_of_ble_eq_true rfl) (Nat.le_of_ble_eq_true rfl) ?_
              have hw_2003 := hw
              obtain ⟨z_2004, rfl, hzz_2004⟩ := hw_2003
              refine lv_lstore_n (lv' := [(1, .long (lI (z_2004))), (0, .ref h0), (3, .int (zI (d60_3)))]) hx hb dX0_registerLimit_78 rfl hl (by decide) rfl (fun ls hl => ?_)
              refine lv_aload_n hx hb dX0_registerLimit_79 rfl (lv_at hl 1 rfl) ?_
              refine va_get (D := (dC, dI)) (ci := 0) (v := .ref q_715) (C := RX0) (T := TX0) (N := 19) hx hb hts mem_X0_registerLimit_0 hown hK hP 0 rfl rfl 15 (by decide) (ow (k := 9) rfl) (fun _ h9 => h9) rfl dX0_registerLimit_80 ?_
              refine lv_iload_n hx hb dX0_registerLimit_83 rfl (lv_at hl 2 rfl) ?_
              refine va_iald hx hb hK hP 6 5 rfl rfl (zI_in (a := d60_3) (n := 301) (by omega) (by omega) (by decide)) dX0_registerLimit_84 ?_
              refine lv_topi (fun z ez => ?_)
              obtain rfl : z = zI (a_15 (d60_3)) := ez.trans (zI_ld (a_15) (by omega) (by omega))
              have k2 := hR_a_15 (d60_3)
              refine lv_istore (lv' := [(4, .int (zI (a_15 (d60_3)))), (1, .long (lI (z_2004))), (0, .ref h0), (3, .int (zI (d60_3)))]) hx hb dX0_registerLimit_85 hl (by decide) rfl (fun ls hl => ?_)
              have key87 : ∀ n87 : Nat, ∀ (d87_4 : Int) (d87_1 : Int) (ls : Array Slot) (H : Heap) (locs : List Loc), (a_15 (d60_3) ≤ d87_4 ∧ d87_4 ≤ 1000000000) → (4294967295 ≤ d87_1 ∧ d87_1 ≤ 4294968319) → (((a_15 (d60_3 + 1)) - (d87_4) : Int).toNat) < n87 → lv_has ls 6 [(0, .ref h0), (1, .long (lI (d87_1))), (3, .int (zI (d60_3))), (4, .int (zI (d87_4)))] → va_P (dC, dI) vwP [(h0, .inr (0, [.int (zI (B1)), .int (zI (R1)), v_2, v_3, v_4, v_5, .ref q_706, .ref q_707, .ref q_708, v_9, .ref q_710, v_11, v_12, .ref q_713, v_14, .ref q_715, .ref q_716, .ref q_717, .ref q_718])), (q_706, .inl (cA_706, 2000, .inl (fun j : Nat => zI (a_6 (j : Int))))), (q_707, .inl (cA_707, 2000, .inr (.inl (fun j : Nat => lI (a_7 (j : Int)))))), (q_708, .inl (cA_708, 2000, .inr (.inl (fun j : Nat => lI (a_8 (j : Int)))))), (q_710, .inl (cA_710, 300, .inr (.inl (fun j : Nat => lI (a_10 (j : Int)))))), (q_713, .inl (cA_713, 301, .inl (fun j : Nat => zI (a_13 (j : Int))))), (q_715, .inl (cA_715, 301, .inl (fun j : Nat => zI (a_15 (j : Int))))), (q_716, .inl (cA_716, 1000, .inl (fun j : Nat => zI (a_16 (j : Int))))), (q_717, .inl (cA_717, 1000, .inl (fun j : Nat => zI (a_17 (j : Int))))), (q_718, .inl (cA_718, na1, .inr (.inl (fun j : Nat => lI (a_18 (j : Int))))))] H → va_D A [(h0, .inr (0, [.int (zI (B1)), .int (zI (R1)), v_2, v_3, v_4, v_5, .ref q_706, .ref q_707, .ref q_708, v_9, .ref q_710, v_11, v_12, .ref q_713, v_14, .ref q_715, .ref q_716, .ref q_717, .ref q_718])), (q_706, .inl (cA_706, 2000, .inl (fun j : Nat => zI (a_6 (j : Int))))), (q_707, .inl (cA_707, 2000, .inr (.inl (fun j : Nat => lI (a_7 (j : Int)))))), (q_708, .inl (cA_708, 2000, .inr (.inl (fun j : Nat => lI (a_8 (j : Int)))))), (q_710, .inl (cA_710, 300, .inr (.inl (fun j : Nat => lI (a_10 (j : Int)))))), (q_713, .inl (cA_713, 301, .inl (fun j : Nat => zI (a_13 (j : Int))))), (q_715, .inl (cA_715, 301, .inl (fun j : Nat => zI (a_15 (j : Int))))), (q_716, .inl (cA_716, 1000, .inl (fun j : Nat => zI (a_16 (j : Int))))), (q_717, .inl (cA_717, 1000, .inl (fun j : Nat => zI (a_17 (j : Int))))), (q_718, .inl (cA_718, na1, .inr (.inl (fun j : Nat => lI (a_18 (j : Int))))))] → va_S A s.heap H locs → W p l e (headSpec v_X0_registerLimit ({ frames := 2, cells := 0, slots := 0, locals := 44 })).room s m ([.ref h0] : List Value).toArray below meth c H locs 0 0 Q (F0 m 87 ls []) := by
                intro n87
                induction n87 with
                | zero => intro d87_4 d87_1 ls H locs jd87_4 jd87_1 hm87; exact absurd hm87 (by omega)
                | succ n87 ih87 =>
                  intro d87_4 d87_1 ls H locs jd87_4 jd87_1 hm87 hl hP hD hS
                  refine lv_iload hx hb dX0_registerLimit_87 (lv_at hl 3 rfl) ?_
                  refine lv_aload_n hx hb dX0_registerLimit_89 rfl (lv_at hl 0 rfl) ?_
                  refine va_get (D := (dC, dI)) (ci := 0) (v := .ref q_715) (C := RX0) (T := TX0) (N := 19) hx hb hts mem_X0_registerLimit_0 hown hK hP 0 rfl rfl 15 (by decide) (ow (k := 9) rfl) (fun _ h9 => h9) rfl dX0_registerLimit_90 ?_
                  refine lv_iload_n hx hb dX0_registerLimit_93 rfl (lv_at hl 2 rfl) ?_
                  refine lv_iconst (v := 1) hx hb dX0_registerLimit_94 (by decide) ?_
                  refine lv_iadd hx hb dX0_registerLimit_95 ?_
                  refine lv_topi (fun z ez => ?_)
                  obtain rfl : z = zI (d60_3 + 1) := ez.trans (zI_add (d60_3) (1))
                  refine va_iald hx hb hK hP 6 5 rfl rfl (zI_in (a := d60_3 + 1) (n := 301) (by omega) (by omega) (by decide)) dX0_registerLimit_96 ?_
                  refine lv_topi (fun z ez => ?_)
                  obtain rfl : z = zI (a_15 (d60_3 + 1)) := ez.trans (zI_ld (a_15) (by omega) (by omega))
                  have k3 := hR_a_15 (d60_3 + 1)
                  refine lv_icmp_ge (tgt := 162) hx hb dX0_registerLimit_97 (by decide) (fun b97 => ?_) (fun b97 => ?_)
                  · have yb97 : (a_15 (d60_3 + 1) : Int) ≤ (d87_4 : Int) := (zI_le (a := a_15 (d60_3 + 1)) (b := d87_4) (by omega) (by omega) (by omega) (by omega)).mp b97
                    refine lv_iinc (v := zI (d60_3 + 1)) (lv' := [(3, .int (zI (d60_3 + 1))), (0, .ref h0), (1, .long (lI (d87_1))), (4, .int (zI (d87_4)))]) hx hb dX0_registerLimit_162 hl (k := 2) rfl (zI_add (d60_3) (1)) (by decide) rfl (fun ls hl => ?_)
                    refine lv_goto (tgt := 60) hx hb dX0_registerLimit_165 (by decide) ?_
                    exact ih60 (d60_3 + 1) d87_1 ls H _ (by omega) (by omega) (by omega) (lv_sub hl [1, 2, 0] rfl) hP hD hS
                  · have yb97 : ¬ (a_15 (d60_3 + 1) : Int) ≤ (d87_4 : Int) := fun q => b97 ((zI_le (a := a_15 (d60_3 + 1)) (b := d87_4) (by omega) (by omega) (by omega) (by omega)).mpr q)
                    refine lv_lload_n hx hb dX0_registerLimit_100 rfl (lv_at hl 1 rfl) ?_
                    refine lv_ldc2 (v := 4294967296) hx hb hown (ow (k := 10) rfl) dX0_registerLimit_101 ?_
                    refine lv_topl (fun z ez => ?_)
                    obtain rfl : z = lI (4294967296) := ez
                    refine lv_aload_n hx hb dX0_registerLimit_104 rfl (lv_at hl 0 rfl) ?_
                    refine va_get (D := (dC, dI)) (ci := 0) (v := .ref q_716) (C := RX0) (T := TX0) (N := 19) hx hb hts mem_X0_registerLimit_0 hown hK hP 0 rfl rfl 16 (by decide) (ow (k := 11) rfl) (fun _ h9 => h9) rfl dX0_registerLimit_105 ?_
                    refine lv_iload hx hb dX0_registerLimit_108 (lv_at hl 3 rfl) ?_
                    refine va_iald hx hb hK hP 7 6 rfl rfl (zI_in (a := d87_4) (n := 1000) (by omega) (by omega) (by decide)) dX0_registerLimit_110 ?_
                    refine lv_topi (fun z ez => ?_)
                    obtain rfl : z = zI (a_16 (d87_4)) := ez.trans (zI_ld (a_16) (by omega) (by omega))
                    have k4 := hR_a_16 (d87_4)
                    refine lv_i2l (v := lI (a_16 (d87_4))) hx hb dX0_registerLimit_111 (zI_l (a := a_16 (d87_4)) (by omega) (by omega)) ?_
                    refine lv_ladd hx hb dX0_registerLimit_112 ?_
                    refine lv_topl (fun z ez => ?_)
                    obtain rfl : z = lI (4294967296 + (a_16 (d87_4))) := ez.trans (lI_add (4294967296) (a_16 (d87_4)))
                    have hPc := hP.sub (ws' := []) [] rfl
                    have hDc := hD.sub (ws' := []) [] (by decide) rfl
                    have hKc := hK.sub (tys' := []) [] rfl
                    have hFc := va_free (wc := []) hD hS hA [] rfl
                    refine va_calll (va_runS (As := [.long (lI (d87_1)), .long (lI (4294967296 + (a_16 (d87_4))))]) (rest := []) ⟨hx, hb, hml, hown, hts⟩ (c_X0_greater l dC dI d87_1 (4294967296 + (a_16 (d87_4))) (by omega) (by omega) H.size) (cwS 2 hts g_X0_registerLimit_X0_greater rfl rfl rfl (by decide +kernel) ⟨(Nat.le_of_ble_eq_true rfl), (Nat.le_of_ble_eq_true rfl)⟩) ⟨fun a U g mk q => by obtain ⟨q0, q1, qP, qK, qD, e0⟩ := q; exact ⟨q0, q1, qP, va_K.moved (u := U) (U := U.calling g mk a) (Vm.Alike.refl U.vm) qK, qD, va_Nw.same rfl (u := U) (U := U.calling g mk a) rfl e0⟩, fun U hU hW => ⟨rfl, by rw [hU], by rw [hU]; exact hPc, va_K.moved hW.alike hKc, hDc.weaken (fun _ _ _ _ => trivial), va_Nw.warmM hW hp1⟩⟩ rfl rfl hl.1 rfl (lv_room (Nat.le_of_ble_eq_true rfl)) dX0_registerLimit_113 ⟨(Nat.le_of_ble_eq_true rfl), (Nat.le_of_ble_eq_true rfl)⟩) hS (fun q _ h => hFc q h) hFc (fun r_2005 u t H1 locs ht hvm hw hB hz1 hk1 hS => ?_)
                    obtain ⟨hP1, hK1, hD1⟩ := hB
                    rw [ht] at hP1
                    have hK1 := va_K.moved hvm.symm hK1
                    obtain ⟨hP, hD⟩ := va_join (wr := [(h0, .inr (0, [.int (zI (B1)), .int (zI (R1)), v_2, v_3, v_4, v_5, .ref q_706, .ref q_707, .ref q_708, v_9, .ref q_710, v_11, v_12, .ref q_713, v_14, .ref q_715, .ref q_716, .ref q_717, .ref q_718])), (q_706, .inl (cA_706, 2000, .inl (fun j : Nat => zI (a_6 (j : Int))))), (q_707, .inl (cA_707, 2000, .inr (.inl (fun j : Nat => lI (a_7 (j : Int)))))), (q_708, .inl (cA_708, 2000, .inr (.inl (fun j : Nat => lI (a_8 (j : Int)))))), (q_710, .inl (cA_710, 300, .inr (.inl (fun j : Nat => lI (a_10 (j : Int)))))), (q_713, .inl (cA_713, 301, .inl (fun j : Nat => zI (a_13 (j : Int))))), (q_715, .inl (cA_715, 301, .inl (fun j : Nat => zI (a_15 (j : Int))))), (q_716, .inl (cA_716, 1000, .inl (fun j : Nat => zI (a_16 (j : Int))))), (q_717, .inl (cA_717, 1000, .inl (fun j : Nat => zI (a_17 (j : Int))))), (q_718, .inl (cA_718, na1, .inr (.inl (fun j : Nat => lI (a_18 (j : Int))))))]) (w1 := []) hP hD [] [0, 1, 2, 3, 4, 5, 6, 7, 8, 9] rfl rfl (by decide) (by decide) hk1 hFc hP1 hD1
                    have hK := (hK.sub (tys' := [(cA_706, .int), (cA_707, .long), (cA_708, .long), (cA_710, .long), (cA_713, .int), (cA_715, .int), (cA_716, .int), (cA_717, .int), (cA_718, .long)]) [0, 1, 2, 3, 4, 5, 6, 7, 8] rfl).app hK1
                    generalize H1 = H at hP hS ⊢
                    have hP : va_P (dC, dI) vwP [(h0, .inr (0, [.int (zI (B1)), .int (zI (R1)), v_2, v_3, v_4, v_5, .ref q_706, .ref q_707, .ref q_708, v_9, .ref q_710, v_11, v_12, .ref q_713, v_14, .ref q_715, .ref q_716, .ref q_717, .ref q_718])), (q_706, .inl (cA_706, 2000, .inl (fun j : Nat => zI (a_6 (j : Int))))), (q_707, .inl (cA_707, 2000, .inr (.inl (fun j : Nat => lI (a_7 (j : Int)))))), (q_708, .inl (cA_708, 2000, .inr (.inl (fun j : Nat => lI (a_8 (j : Int)))))), (q_710, .inl (cA_710, 300, .inr (.inl (fun j : Nat => lI (a_10 (j : Int)))))), (q_713, .inl (cA_713, 301, .inl (fun j : Nat => zI (a_13 (j : Int))))), (q_715, .inl (cA_715, 301, .inl (fun j : Nat => zI (a_15 (j : Int))))), (q_716, .inl (cA_716, 1000, .inl (fun j : Nat => zI (a_16 (j : Int))))), (q_717, .inl (cA_717, 1000, .inl (fun j : Nat => zI (a_17 (j : Int))))), (q_718, .inl (cA_718, na1, .inr (.inl (fun j : Nat => lI (a_18 (j : Int))))))] H := hP
                    have hD : va_D A [(h0, .inr (0, [.int (zI (B1)), .int (zI (R1)), v_2, v_3, v_4, v_5, .ref q_706, .ref q_707, .ref q_708, v_9, .ref q_710, v_11, v_12, .ref q_713, v_14, .ref q_715, .ref q_716, .ref q_717, .ref q_718])), (q_706, .inl (cA_706, 2000, .inl (fun j : Nat => zI (a_6 (j : Int))))), (q_707, .inl (cA_707, 2000, .inr (.inl (fun j : Nat => lI (a_7 (j : Int)))))), (q_708, .inl (cA_708, 2000, .inr (.inl (fun j : Nat => lI (a_8 (j : Int)))))), (q_710, .inl (cA_710, 300, .inr (.inl (fun j : Nat => lI (a_10 (j : Int)))))), (q_713, .inl (cA_713, 301, .inl (fun j : Nat => zI (a_13 (j : Int))))), (q_715, .inl (cA_715, 301, .inl (fun j : Nat => zI (a_15 (j : Int))))), (q_716, .inl (cA_716, 1000, .inl (fun j : Nat => zI (a_16 (j : Int))))), (q_717, .inl (cA_717, 1000, .inl (fun j : Nat => zI (a_17 (j : Int))))), (q_718, .inl (cA_718, na1, .inr (.inl (fun j : Nat => lI (a_18 (j : Int))))))] := hD
                    have hK : va_K (dC, dI) vwP [(cA_706, .int), (cA_707, .long), (cA_708, .long), (cA_710, .long), (cA_713, .int), (cA_715, .int), (cA_716, .int), (cA_717, .int), (cA_718, .long)] s := hK
                    refine W.widen (k := 0) (n := 0) (Nat.le_of_ble_eq_true rfl) (Nat.le_of_ble_eq_true rfl) ?_
                    have hw_2006 := hw
                    obtain ⟨z_2007, rfl, hzz_2007⟩ := hw_2006
                    refine lv_lstore_n (lv' := [(1, .long (lI (z_2007))), (0, .ref h0), (3, .int (zI (d60_3))), (4, .int (zI (d87_4)))]) hx hb dX0_registerLimit_116 rfl hl (by decide) rfl (fun ls hl => ?_)
                    refine lv_iconst (v := 0) hx hb dX0_registerLimit_117 (by decide) ?_
                    refine lv_istore (lv' := [(5, .int 0), (1, .long (lI (z_2007))), (0, .ref h0), (3, .int (zI (d60_3))), (4, .int (zI (d87_4)))]) hx hb dX0_registerLimit_118 hl (by decide) rfl (fun ls hl => ?_)
                    have key120 : ∀ n120 : Nat, ∀ (d120_5 : Int) (d120_1 : Int) (ls : Array Slot) (H : Heap) (locs : List Loc), (0 ≤ d120_5 ∧ d120_5 ≤ 1000000000) → (4294967295 ≤ d120_1 ∧ d120_1 ≤ 4294968319) → (((a_13 (d60_3 + 1) - a_13 (d60_3)) - (d120_5) : Int).toNat) < n120 → lv_has ls 6 [(0, .ref h0), (1, .long (lI (d120_1))), (3, .int (zI (d60_3))), (4, .int (zI (d87_4))), (5, .int (zI (d120_5)))] → va_P (dC, dI) vwP [(h0, .inr (0, [.int (zI (B1)), .int (zI (R1)), v_2, v_3, v_4, v_5, .ref q_706, .ref q_707, .ref q_708, v_9, .ref q_710, v_11, v_12, .ref q_713, v_14, .ref q_715, .ref q_716, .ref q_717, .ref q_718])), (q_706, .inl (cA_706, 2000, .inl (fun j : Nat => zI (a_6 (j : Int))))), (q_707, .inl (cA_707, 2000, .inr (.inl (fun j : Nat => lI (a_7 (j : Int)))))), (q_708, .inl (cA_708, 2000, .inr (.inl (fun j : Nat => lI (a_8 (j : Int)))))), (q_710, .inl (cA_710, 300, .inr (.inl (fun j : Nat => lI (a_10 (j : Int)))))), (q_713, .inl (cA_713, 301, .inl (fun j : Nat => zI (a_13 (j : Int))))), (q_715, .inl (cA_715, 301, .inl (fun j : Nat => zI (a_15 (j : Int))))), (q_716, .inl (cA_716, 1000, .inl (fun j : Nat => zI (a_16 (j : Int))))), (q_717, .inl (cA_717, 1000, .inl (fun j : Nat => zI (a_17 (j : Int))))), (q_718, .inl (cA_718, na1, .inr (.inl (fun j : Nat => lI (a_18 (j : Int))))))] H → va_D A [(h0, .inr (0, [.int (zI (B1)), .int (zI (R1)), v_2, v_3, v_4, v_5, .ref q_706, .ref q_707, .ref q_708, v_9, .ref q_710, v_11, v_12, .ref q_713, v_14, .ref q_715, .ref q_716, .ref q_717, .ref q_718])), (q_706, .inl (cA_706, 2000, .inl (fun j : Nat => zI (a_6 (j : Int))))), (q_707, .inl (cA_707, 2000, .inr (.inl (fun j : Nat => lI (a_7 (j : Int)))))), (q_708, .inl (cA_708, 2000, .inr (.inl (fun j : Nat => lI (a_8 (j : Int)))))), (q_710, .inl (cA_710, 300, .inr (.inl (fun j : Nat => lI (a_10 (j : Int)))))), (q_713, .inl (cA_713, 301, .inl (fun j : Nat => zI (a_13 (j : Int))))), (q_715, .inl (cA_715, 301, .inl (fun j : Nat => zI (a_15 (j : Int))))), (q_716, .inl (cA_716, 1000, .inl (fun j : Nat => zI (a_16 (j : Int))))), (q_717, .inl (cA_717, 1000, .inl (fun j : Nat => zI (a_17 (j : Int))))), (q_718, .inl (cA_718, na1, .inr (.inl (fun j : Nat => lI (a_18 (j : Int))))))] → va_S A s.heap H locs → W p l e (headSpec v_X0_registerLimit ({ frames := 2, cells := 0, slots := 0, locals := 44 })).room s m ([.ref h0] : List Value).toArray below meth c H locs 0 0 Q (F0 m 120 ls []) := by
                      intro n120
                      induction n120 with
                      | zero => intro d120_5 d120_1 ls H locs jd120_5 jd120_1 hm120; exact absurd hm120 (by omega)
                      | succ n120 ih120 =>
                        intro d120_5 d120_1 ls H locs jd120_5 jd120_1 hm120 hl hP hD hS
                        refine lv_iload hx hb dX0_registerLimit_120 (lv_at hl 4 rfl) ?_
                        refine lv_aload_n hx hb dX0_registerLimit_122 rfl (lv_at hl 0 rfl) ?_
                        refine lv_iload_n hx hb dX0_registerLimit_123 rfl (lv_at hl 2 rfl) ?_
                        have hPc := hP.sub (ws' := [(h0, .inr (0, [.int (zI (B1)), .int (zI (R1)), v_2, v_3, v_4, v_5, .ref q_706, .ref q_707, .ref q_708, v_9, .ref q_710, v_11, v_12, .ref q_713, v_14, .ref q_715, .ref q_716, .ref q_717, .ref q_718])), (q_713, .inl (cA_713, 301, .inl (fun j : Nat => zI (a_13 (j : Int)))))]) [0, 5] rfl
                        have hDc := hD.sub (ws' := [(h0, .inr (0, [.int (zI (B1)), .int (zI (R1)), v_2, v_3, v_4, v_5, .ref q_706, .ref q_707, .ref q_708, v_9, .ref q_710, v_11, v_12, .ref q_713, v_14, .ref q_715, .ref q_716, .ref q_717, .ref q_718])), (q_713, .inl (cA_713, 301, .inl (fun j : Nat => zI (a_13 (j : Int)))))]) [0, 5] (by decide) rfl
                        have hKc := hK.sub (tys' := [(cA_713, .int)]) [4] rfl
                        have hFc := va_free (wc := [(h0, .inr (0, [.int (zI (B1)), .int (zI (R1)), v_2, v_3, v_4, v_5, .ref q_706, .ref q_707, .ref q_708, v_9, .ref q_710, v_11, v_12, .ref q_713, v_14, .ref q_715, .ref q_716, .ref q_717, .ref q_718])), (q_713, .inl (cA_713, 301, .inl (fun j : Nat => zI (a_13 (j : Int)))))]) hD hS hA [0, 5] rfl
                        refine va_calli (va_runV (As := [.int (zI (d60_3))]) (rest := [.int (zI (d120_5))]) ⟨hx, hb, hml, hown, hts⟩ (c_X0_predCount l dC dI h0 (.int (zI (B1))) (.int (zI (R1))) v_2 v_3 v_4 v_5 (.ref q_706) (.ref q_707) (.ref q_708) v_9 (.ref q_710) v_11 v_12 q_713 cA_713 a_13 v_14 (.ref q_715) (.ref q_716) (.ref q_717) (.ref q_718) d60_3 hR_a_13 (by omega) H.size) (cwV 1 hts g_X0_registerLimit_X0_predCount rfl rfl rfl (by decide +kernel) ⟨(Nat.le_of_ble_eq_true rfl), (Nat.le_of_ble_eq_true rfl)⟩) ⟨fun a U g mk q => by obtain ⟨q0, q1, qP, qK, qD⟩ := q; exact ⟨q0, q1, qP, va_K.moved (u := U) (U := U.calling g mk a) (Vm.Alike.refl U.vm) qK, qD⟩, va_recv hKc hPc (ci := 0) (q0 := 0) rfl rfl, fun U hU hW => ⟨rfl, by rw [hU], by rw [hU]; exact hPc, va_K.moved hW.alike hKc, hDc.weaken (fun _ _ _ _ => trivial)⟩⟩ rfl rfl hl.1 rfl (lv_room (Nat.le_of_ble_eq_true rfl)) dX0_registerLimit_124 ⟨(Nat.le_of_ble_eq_true rfl), (Nat.le_of_ble_eq_true rfl)⟩) hS (fun q _ h => hFc q h) hFc (fun r_2008 u t H1 locs ht hvm hw hB hz1 hk1 hS => ?_)
                        obtain ⟨hP1, hK1, hD1⟩ := hB
                        rw [ht] at hP1
                        have hK1 := va_K.moved hvm.symm hK1
                        obtain ⟨hP, hD⟩ := va_join (wr := [(q_706, .inl (cA_706, 2000, .inl (fun j : Nat => zI (a_6 (j : Int))))), (q_707, .inl (cA_707, 2000, .inr (.inl (fun j : Nat => lI (a_7 (j : Int)))))), (q_708, .inl (cA_708, 2000, .inr (.inl (fun j : Nat => lI (a_8 (j : Int)))))), (q_710, .inl (cA_710, 300, .inr (.inl (fun j : Nat => lI (a_10 (j : Int)))))), (q_715, .inl (cA_715, 301, .inl (fun j : Nat => zI (a_15 (j : Int))))), (q_716, .inl (cA_716, 1000, .inl (fun j : Nat => zI (a_16 (j : Int))))), (q_717, .inl (cA_717, 1000, .inl (fun j : Nat => zI (a_17 (j : Int))))), (q_718, .inl (cA_718, na1, .inr (.inl (fun j : Nat => lI (a_18 (j : Int))))))]) (w1 := [(h0, .inr (0, [.int (zI (B1)), .int (zI (R1)), v_2, v_3, v_4, v_5, .ref q_706, .ref q_707, .ref q_708, v_9, .ref q_710, v_11, v_12, .ref q_713, v_14, .ref q_715, .ref q_716, .ref q_717, .ref q_718])), (q_713, .inl (cA_713, 301, .inl (fun j : Nat => zI (a_13 (j : Int)))))]) hP hD [0, 5] [1, 2, 3, 4, 6, 7, 8, 9] rfl rfl (by decide) (by decide) hk1 hFc hP1 hD1
                        have hK := (hK.sub (tys' := [(cA_706, .int), (cA_707, .long), (cA_708, .long), (cA_710, .long), (cA_715, .int), (cA_716, .int), (cA_717, .int), (cA_718, .long)]) [0, 1, 2, 3, 5, 6, 7, 8] rfl).app hK1
                        generalize H1 = H at hP hS ⊢
                        have hP : va_P (dC, dI) vwP [(q_706, .inl (cA_706, 2000, .inl (fun j : Nat => zI (a_6 (j : Int))))), (q_707, .inl (cA_707, 2000, .inr (.inl (fun j : Nat => lI (a_7 (j : Int)))))), (q_708, .inl (cA_708, 2000, .inr (.inl (fun j : Nat => lI (a_8 (j : Int)))))), (q_710, .inl (cA_710, 300, .inr (.inl (fun j : Nat => lI (a_10 (j : Int)))))), (q_715, .inl (cA_715, 301, .inl (fun j : Nat => zI (a_15 (j : Int))))), (q_716, .inl (cA_716, 1000, .inl (fun j : Nat => zI (a_16 (j : Int))))), (q_717, .inl (cA_717, 1000, .inl (fun j : Nat => zI (a_17 (j : Int))))), (q_718, .inl (cA_718, na1, .inr (.inl (fun j : Nat => lI (a_18 (j : Int)))))), (h0, .inr (0, [.int (zI (B1)), .int (zI (R1)), v_2, v_3, v_4, v_5, .ref q_706, .ref q_707, .ref q_708, v_9, .ref q_710, v_11, v_12, .ref q_713, v_14, .ref q_715, .ref q_716, .ref q_717, .ref q_718])), (q_713, .inl (cA_713, 301, .inl (fun j : Nat => zI (a_13 (j : Int)))))] H := hP
                        have hD : va_D A [(q_706, .inl (cA_706, 2000, .inl (fun j : Nat => zI (a_6 (j : Int))))), (q_707, .inl (cA_707, 2000, .inr (.inl (fun j : Nat => lI (a_7 (j : Int)))))), (q_708, .inl (cA_708, 2000, .inr (.inl (fun j : Nat => lI (a_8 (j : Int)))))), (q_710, .inl (cA_710, 300, .inr (.inl (fun j : Nat => lI (a_10 (j : Int)))))), (q_715, .inl (cA_715, 301, .inl (fun j : Nat => zI (a_15 (j : Int))))), (q_716, .inl (cA_716, 1000, .inl (fun j : Nat => zI (a_16 (j : Int))))), (q_717, .inl (cA_717, 1000, .inl (fun j : Nat => zI (a_17 (j : Int))))), (q_718, .inl (cA_718, na1, .inr (.inl (fun j : Nat => lI (a_18 (j : Int)))))), (h0, .inr (0, [.int (zI (B1)), .int (zI (R1)), v_2, v_3, v_4, v_5, .ref q_706, .ref q_707, .ref q_708, v_9, .ref q_710, v_11, v_12, .ref q_713, v_14, .ref q_715, .ref q_716, .ref q_717, .ref q_718])), (q_713, .inl (cA_713, 301, .inl (fun j : Nat => zI (a_13 (j : Int)))))] := hD
                        have hK : va_K (dC, dI) vwP [(cA_706, .int), (cA_707, .long), (cA_708, .long), (cA_710, .long), (cA_715, .int), (cA_716, .int), (cA_717, .int), (cA_718, .long), (cA_713, .int)] s := hK
                        refine W.widen (k := 0) (n := 0) (Nat.le_of_ble_eq_true rfl) (Nat.le_of_ble_eq_true rfl) ?_
                        obtain rfl : r_2008 = (zI (a_13 (d60_3 + 1) - a_13 (d60_3))) := hw
                        have k5 := hR_a_13 (d60_3 + 1)
                        have k6 := hR_a_13 (d60_3)
                        refine lv_icmp_ge (tgt := 156) hx hb dX0_registerLimit_127 (by decide) (fun b127 => ?_) (fun b127 => ?_)
                        · have yb127 : (a_13 (d60_3 + 1) - a_13 (d60_3) : Int) ≤ (d120_5 : Int) := (zI_le (a := a_13 (d60_3 + 1) - a_13 (d60_3)) (b := d120_5) (by omega) (by omega) (by omega) (by omega)).mp b127
                          refine lv_iinc (v := zI (d87_4 + 1)) (lv' := [(4, .int (zI (d87_4 + 1))), (0, .ref h0), (1, .long (lI (d120_1))), (3, .int (zI (d60_3))), (5, .int (zI (d120_5)))]) hx hb dX0_registerLimit_156 hl (k := 3) rfl (zI_add (d87_4) (1)) (by decide) rfl (fun ls hl => ?_)
                          refine lv_goto (tgt := 87) hx hb dX0_registerLimit_159 (by decide) ?_
                          have hP := hP.sub (ws' := [(h0, .inr (0, [.int (zI (B1)), .int (zI (R1)), v_2, v_3, v_4, v_5, .ref q_706, .ref q_707, .ref q_708, v_9, .ref q_710, v_11, v_12, .ref q_713, v_14, .ref q_715, .ref q_716, .ref q_717, .ref q_718])), (q_706, .inl (cA_706, 2000, .inl (fun j : Nat => zI (a_6 (j : Int))))), (q_707, .inl (cA_707, 2000, .inr (.inl (fun j : Nat => lI (a_7 (j : Int)))))), (q_708, .inl (cA_708, 2000, .inr (.inl (fun j : Nat => lI (a_8 (j : Int)))))), (q_710, .inl (cA_710, 300, .inr (.inl (fun j : Nat => lI (a_10 (j : Int)))))), (q_713, .inl (cA_713, 301, .inl (fun j : Nat => zI (a_13 (j : Int))))), (q_715, .inl (cA_715, 301, .inl (fun j : Nat => zI (a_15 (j : Int))))), (q_716, .inl (cA_716, 1000, .inl (fun j : Nat => zI (a_16 (j : Int))))), (q_717, .inl (cA_717, 1000, .inl (fun j : Nat => zI (a_17 (j : Int))))), (q_718, .inl (cA_718, na1, .inr (.inl (fun j : Nat => lI (a_18 (j : Int))))))]) [8, 0, 1, 2, 3, 9, 4, 5, 6, 7] rfl
                          have hD := hD.sub (ws' := [(h0, .inr (0, [.int (zI (B1)), .int (zI (R1)), v_2, v_3, v_4, v_5, .ref q_706, .ref q_707, .ref q_708, v_9, .ref q_710, v_11, v_12, .ref q_713, v_14, .ref q_715, .ref q_716, .ref q_717, .ref q_718])), (q_706, .inl (cA_706, 2000, .inl (fun j : Nat => zI (a_6 (j : Int))))), (q_707, .inl (cA_707, 2000, .inr (.inl (fun j : Nat => lI (a_7 (j : Int)))))), (q_708, .inl (cA_708, 2000, .inr (.inl (fun j : Nat => lI (a_8 (j : Int)))))), (q_710, .inl (cA_710, 300, .inr (.inl (fun j : Nat => lI (a_10 (j : Int)))))), (q_713, .inl (cA_713, 301, .inl (fun j : Nat => zI (a_13 (j : Int))))), (q_715, .inl (cA_715, 301, .inl (fun j : Nat => zI (a_15 (j : Int))))), (q_716, .inl (cA_716, 1000, .inl (fun j : Nat => zI (a_16 (j : Int))))), (q_717, .inl (cA_717, 1000, .inl (fun j : Nat => zI (a_17 (j : Int))))), (q_718, .inl (cA_718, na1, .inr (.inl (fun j : Nat => lI (a_18 (j : Int))))))]) [8, 0, 1, 2, 3, 9, 4, 5, 6, 7] (by decide) rfl
                          exact ih87 (d87_4 + 1) d120_1 ls H _ (by omega) (by omega) (by omega) (lv_sub hl [1, 2, 3, 0] rfl) hP hD hS
                        · have yb127 : ¬ (a_13 (d60_3 + 1) - a_13 (d60_3) : Int) ≤ (d120_5 : Int) := fun q => b127 ((zI_le (a := a_13 (d60_3 + 1) - a_13 (d60_3)) (b := d120_5) (by omega) (by omega) (by omega) (by omega)).mpr q)
                          refine lv_lload_n hx hb dX0_registerLimit_130 rfl (lv_at hl 1 rfl) ?_
                          refine lv_aload_n hx hb dX0_registerLimit_131 rfl (lv_at hl 0 rfl) ?_
                          refine va_get (D := (dC, dI)) (ci := 0) (v := .ref q_718) (C := RX0) (T := TX0) (N := 19) hx hb hts mem_X0_registerLimit_0 hown hK hP 8 rfl rfl 18 (by decide) (ow (k := 15) rfl) (fun _ h9 => h9) rfl dX0_registerLimit_132 ?_
                          refine lv_aload_n hx hb dX0_registerLimit_135 rfl (lv_at hl 0 rfl) ?_
                          refine va_get (D := (dC, dI)) (ci := 0) (v := .ref q_717) (C := RX0) (T := TX0) (N := 19) hx hb hts mem_X0_registerLimit_0 hown hK hP 8 rfl rfl 17 (by decide) (ow (k := 16) rfl) (fun _ h9 => h9) rfl dX0_registerLimit_136 ?_
                          refine lv_iload hx hb dX0_registerLimit_139 (lv_at hl 3 rfl) ?_
                          refine va_iald hx hb hK hP 6 6 rfl rfl (zI_in (a := d87_4) (n := 1000) (by omega) (by omega) (by decide)) dX0_registerLimit_141 ?_
                          refine lv_topi (fun z ez => ?_)
                          obtain rfl : z = zI (a_17 (d87_4)) := ez.trans (zI_ld (a_17) (by omega) (by omega))
                          have k7 := hR_a_17 (d87_4)
                          refine lv_iload hx hb dX0_registerLimit_142 (lv_at hl 4 rfl) ?_
                          refine lv_iadd hx hb dX0_registerLimit_144 ?_
                          refine lv_topi (fun z ez => ?_)
                          obtain rfl : z = zI ((a_17 (d87_4)) + d120_5) := ez.trans (zI_add (a_17 (d87_4)) (d120_5))
                          have hq := hX_A (d60_3) (d87_4) (by omega) (by omega) (by omega) (by omega)
                          refine va_lald hx hb hK hP 7 7 rfl rfl (zI_in (a := (a_17 (d87_4)) + d120_5) (n := na1) (by omega) (by omega) (by omega)) dX0_registerLimit_145 ?_
                          refine lv_topl (fun z ez => ?_)
                          obtain rfl : z = lI (a_18 ((a_17 (d87_4)) + d120_5)) := ez.trans (lI_ld (a_18) (by omega) (by omega))
                          have k8 := hR_a_18 ((a_17 (d87_4)) + d120_5)
                          have hPc := hP.sub (ws' := []) [] rfl
                          have hDc := hD.sub (ws' := []) [] (by decide) rfl
                          have hKc := hK.sub (tys' := []) [] rfl
                          have hFc := va_free (wc := []) hD hS hA [] rfl
                          refine va_calll (va_runS (As := [.long (lI (d120_1)), .long (lI (a_18 ((a_17 (d87_4)) + d120_5)))]) (rest := []) ⟨hx, hb, hml, hown, hts⟩ (c_X0_greater l dC dI d120_1 (a_18 ((a_17 (d87_4)) + d120_5)) (by omega) (by omega) H.size) (cwS 2 hts g_X0_registerLimit_X0_greater rfl rfl rfl (by decide +kernel) ⟨(Nat.le_of_ble_eq_true rfl), (Nat.le_of_ble_eq_true rfl)⟩) ⟨fun a U g mk q => by obtain ⟨q0, q1, qP, qK, qD, e0⟩ := q; exact ⟨q0, q1, qP, va_K.moved (u := U) (U := U.calling g mk a) (Vm.Alike.refl U.vm) qK, qD, va_Nw.same rfl (u := U) (U := U.calling g mk a) rfl e0⟩, fun U hU hW => ⟨rfl, by rw [hU], by rw [hU]; exact hPc, va_K.moved hW.alike hKc, hDc.weaken (fun _ _ _ _ => trivial), va_Nw.warmM hW hp1⟩⟩ rfl rfl hl.1 rfl (lv_room (Nat.le_of_ble_eq_true rfl)) dX0_registerLimit_146 ⟨(Nat.le_of_ble_eq_true rfl), (Nat.le_of_ble_eq_true rfl)⟩) hS (fun q _ h => hFc q h) hFc (fun r_2009 u t H1 locs ht hvm hw hB hz1 hk1 hS => ?_)
                          obtain ⟨hP1, hK1, hD1⟩ := hB
                          rw [ht] at hP1
                          have hK1 := va_K.moved hvm.symm hK1
                          obtain ⟨hP, hD⟩ := va_join (wr := [(q_706, .inl (cA_706, 2000, .inl (fun j : Nat => zI (a_6 (j : Int))))), (q_707, .inl (cA_707, 2000, .inr (.inl (fun j : Nat => lI (a_7 (j : Int)))))), (q_708, .inl (cA_708, 2000, .inr (.inl (fun j : Nat => lI (a_8 (j : Int)))))), (q_710, .inl (cA_710, 300, .inr (.inl (fun j : Nat => lI (a_10 (j : Int)))))), (q_715, .inl (cA_715, 301, .inl (fun j : Nat => zI (a_15 (j : Int))))), (q_716, .inl (cA_716, 1000, .inl (fun j : Nat => zI (a_16 (j : Int))))), (q_717, .inl (cA_717, 1000, .inl (fun j : Nat => zI (a_17 (j : Int))))), (q_718, .inl (cA_718, na1, .inr (.inl (fun j : Nat => lI (a_18 (j : Int)))))), (h0, .inr (0, [.int (zI (B1)), .int (zI (R1)), v_2, v_3, v_4, v_5, .ref q_706, .ref q_707, .ref q_708, v_9, .ref q_710, v_11, v_12, .ref q_713, v_14, .ref q_715, .ref q_716, .ref q_717, .ref q_718])), (q_713, .inl (cA_713, 301, .inl (fun j : Nat => zI (a_13 (j : Int)))))]) (w1 := []) hP hD [] [0, 1, 2, 3, 4, 5, 6, 7, 8, 9] rfl rfl (by decide) (by decide) hk1 hFc hP1 hD1
                          have hK := (hK.sub (tys' := [(cA_706, .int), (cA_707, .long), (cA_708, .long), (cA_710, .long), (cA_715, .int), (cA_716, .int), (cA_717, .int), (cA_718, .long), (cA_713, .int)]) [0, 1, 2, 3, 4, 5, 6, 7, 8] rfl).app hK1
                          generalize H1 = H at hP hS ⊢
                          have hP : va_P (dC, dI) vwP [(q_706, .inl (cA_706, 2000, .inl (fun j : Nat => zI (a_6 (j : Int))))), (q_707, .inl (cA_707, 2000, .inr (.inl (fun j : Nat => lI (a_7 (j : Int)))))), (q_708, .inl (cA_708, 2000, .inr (.inl (fun j : Nat => lI (a_8 (j : Int)))))), (q_710, .inl (cA_710, 300, .inr (.inl (fun j : Nat => lI (a_10 (j : Int)))))), (q_715, .inl (cA_715, 301, .inl (fun j : Nat => zI (a_15 (j : Int))))), (q_716, .inl (cA_716, 1000, .inl (fun j : Nat => zI (a_16 (j : Int))))), (q_717, .inl (cA_717, 1000, .inl (fun j : Nat => zI (a_17 (j : Int))))), (q_718, .inl (cA_718, na1, .inr (.inl (fun j : Nat => lI (a_18 (j : Int)))))), (h0, .inr (0, [.int (zI (B1)), .int (zI (R1)), v_2, v_3, v_4, v_5, .ref q_706, .ref q_707, .ref q_708, v_9, .ref q_710, v_11, v_12, .ref q_713, v_14, .ref q_715, .ref q_716, .ref q_717, .ref q_718])), (q_713, .inl (cA_713, 301, .inl (fun j : Nat => zI (a_13 (j : Int)))))] H := hP
                          have hD : va_D A [(q_706, .inl (cA_706, 2000, .inl (fun j : Nat => zI (a_6 (j : Int))))), (q_707, .inl (cA_707, 2000, .inr (.inl (fun j : Nat => lI (a_7 (j : Int)))))), (q_708, .inl (cA_708, 2000, .inr (.inl (fun j : Nat => lI (a_8 (j : Int)))))), (q_710, .inl (cA_710, 300, .inr (.inl (fun j : Nat => lI (a_10 (j : Int)))))), (q_715, .inl (cA_715, 301, .inl (fun j : Nat => zI (a_15 (j : Int))))), (q_716, .inl (cA_716, 1000, .inl (fun j : Nat => zI (a_16 (j : Int))))), (q_717, .inl (cA_717, 1000, .inl (fun j : Nat => zI (a_17 (j : Int))))), (q_718, .inl (cA_718, na1, .inr (.inl (fun j : Nat => lI (a_18 (j : Int)))))), (h0, .inr (0, [.int (zI (B1)), .int (zI (R1)), v_2, v_3, v_4, v_5, .ref q_706, .ref q_707, .ref q_708, v_9, .ref q_710, v_11, v_12, .ref q_713, v_14, .ref q_715, .ref q_716, .ref q_717, .ref q_718])), (q_713, .inl (cA_713, 301, .inl (fun j : Nat => zI (a_13 (j : Int)))))] := hD
                          have hK : va_K (dC, dI) vwP [(cA_706, .int), (cA_707, .long), (cA_708, .long), (cA_710, .long), (cA_715, .int), (cA_716, .int), (cA_717, .int), (cA_718, .long), (cA_713, .int)] s := hK
                          refine W.widen (k := 0) (n := 0) (Nat.le_of_ble_eq_true rfl) (Nat.le_of_ble_eq_true rfl) ?_
                          have hw_2010 := hw
                          obtain ⟨z_2011, rfl, hzz_2011⟩ := hw_2010
                          refine lv_lstore_n (lv' := [(1, .long (lI (z_2011))), (0, .ref h0), (3, .int (zI (d60_3))), (4, .int (zI (d87_4))), (5, .int (zI (d120_5)))]) hx hb dX0_registerLimit_149 rfl hl (by decide) rfl (fun ls hl => ?_)
                          refine lv_iinc (v := zI (d120_5 + 1)) (lv' := [(5, .int (zI (d120_5 + 1))), (1, .long (lI (z_2011))), (0, .ref h0), (3, .int (zI (d60_3))), (4, .int (zI (d87_4)))]) hx hb dX0_registerLimit_150 hl (k := 4) rfl (zI_add (d120_5) (1)) (by decide) rfl (fun ls hl => ?_)
                          refine lv_goto (tgt := 120) hx hb dX0_registerLimit_153 (by decide) ?_
                          have hP := hP.sub (ws' := [(h0, .inr (0, [.int (zI (B1)), .int (zI (R1)), v_2, v_3, v_4, v_5, .ref q_706, .ref q_707, .ref q_708, v_9, .ref q_710, v_11, v_12, .ref q_713, v_14, .ref q_715, .ref q_716, .ref q_717, .ref q_718])), (q_706, .inl (cA_706, 2000, .inl (fun j : Nat => zI (a_6 (j : Int))))), (q_707, .inl (cA_707, 2000, .inr (.inl (fun j : Nat => lI (a_7 (j : Int)))))), (q_708, .inl (cA_708, 2000, .inr (.inl (fun j : Nat => lI (a_8 (j : Int)))))), (q_710, .inl (cA_710, 300, .inr (.inl (fun j : Nat => lI (a_10 (j : Int)))))), (q_713, .inl (cA_713, 301, .inl (fun j : Nat => zI (a_13 (j : Int))))), (q_715, .inl (cA_715, 301, .inl (fun j : Nat => zI (a_15 (j : Int))))), (q_716, .inl (cA_716, 1000, .inl (fun j : Nat => zI (a_16 (j : Int))))), (q_717, .inl (cA_717, 1000, .inl (fun j : Nat => zI (a_17 (j : Int))))), (q_718, .inl (cA_718, na1, .inr (.inl (fun j : Nat => lI (a_18 (j : Int))))))]) [8, 0, 1, 2, 3, 9, 4, 5, 6, 7] rfl
                          have hD := hD.sub (ws' := [(h0, .inr (0, [.int (zI (B1)), .int (zI (R1)), v_2, v_3, v_4, v_5, .ref q_706, .ref q_707, .ref q_708, v_9, .ref q_710, v_11, v_12, .ref q_713, v_14, .ref q_715, .ref q_716, .ref q_717, .ref q_718])), (q_706, .inl (cA_706, 2000, .inl (fun j : Nat => zI (a_6 (j : Int))))), (q_707, .inl (cA_707, 2000, .inr (.inl (fun j : Nat => lI (a_7 (j : Int)))))), (q_708, .inl (cA_708, 2000, .inr (.inl (fun j : Nat => lI (a_8 (j : Int)))))), (q_710, .inl (cA_710, 300, .inr (.inl (fun j : Nat => lI (a_10 (j : Int)))))), (q_713, .inl (cA_713, 301, .inl (fun j : Nat => zI (a_13 (j : Int))))), (q_715, .inl (cA_715, 301, .inl (fun j : Nat => zI (a_15 (j : Int))))), (q_716, .inl (cA_716, 1000, .inl (fun j : Nat => zI (a_16 (j : Int))))), (q_717, .inl (cA_717, 1000, .inl (fun j : Nat => zI (a_17 (j : Int))))), (q_718, .inl (cA_718, na1, .inr (.inl (fun j : Nat => lI (a_18 (j : Int))))))]) [8, 0, 1, 2, 3, 9, 4, 5, 6, 7] (by decide) rfl
                          exact ih120 (d120_5 + 1) z_2011 ls H _ (by omega) (by omega) (by omega) (lv_sub hl [2, 1, 3, 4, 0] rfl) hP hD hS
                    exact key120 (((a_13 (d60_3 + 1) - a_13 (d60_3)) - (0) : Int).toNat + 1) 0 z_2007 ls H _ (by omega) (by omega) (by omega) (lv_sub hl [2, 1, 3, 4, 0] rfl) hP hD hS
              exact key87 (((a_15 (d60_3 + 1)) - (a_15 (d60_3)) : Int).toNat + 1) (a_15 (d60_3)) z_2004 ls H _ (by omega) (by omega) (by omega) (lv_sub hl [2, 1, 3, 0] rfl) hP hD hS
        exact key60 (((B1) - (0) : Int).toNat + 1) 0 d6_1 ls H _ (by omega) (by omega) (by omega) (lv_sub hl [1, 2, 0] rfl) hP hD hS
      · have yb11 : ¬ (R1 : Int) ≤ (d6_3 : Int) := fun q => b11 ((zI_le (a := R1) (b := d6_3) (by omega) (by omega) (by omega) (by omega)).mpr q)
        refine lv_lload_n hx hb dX0_registerLimit_14 rfl (lv_at hl 1 rfl) ?_
        refine lv_ldc2 (v := 4294967296) hx hb hown (ow (k := 10) rfl) dX0_registerLimit_15 ?_
        refine lv_topl (fun z ez => ?_)
        obtain rfl : z = lI (4294967296) := ez
        refine lv_aload_n hx hb dX0_registerLimit_18 rfl (lv_at hl 0 rfl) ?_
        refine va_get (D := (dC, dI)) (ci := 0) (v := .ref q_706) (C := RX0) (T := TX0) (N := 19) hx hb hts mem_X0_registerLimit_0 hown hK hP 0 rfl rfl 6 (by decide) (ow (k := 17) rfl) (fun _ h9 => h9) rfl dX0_registerLimit_19 ?_
        refine lv_iload_n hx hb dX0_registerLimit_22 rfl (lv_at hl 2 rfl) ?_
        refine va_iald hx hb hK hP 1 0 rfl rfl (zI_in (a := d6_3) (n := 2000) (by omega) (by omega) (by decide)) dX0_registerLimit_23 ?_
        refine lv_topi (fun z ez => ?_)
        obtain rfl : z = zI (a_6 (d6_3)) := ez.trans (zI_ld (a_6) (by omega) (by omega))
        have k9 := hR_a_6 (d6_3)
        refine lv_i2l (v := lI (a_6 (d6_3))) hx hb dX0_registerLimit_24 (zI_l (a := a_6 (d6_3)) (by omega) (by omega)) ?_
        refine lv_ladd hx hb dX0_registerLimit_25 ?_
        refine lv_topl (fun z ez => ?_)
        obtain rfl : z = lI (4294967296 + (a_6 (d6_3))) := ez.trans (lI_add (4294967296) (a_6 (d6_3)))
        have hPc := hP.sub (ws' := []) [] rfl
        have hDc := hD.sub (ws' := []) [] (by decide) rfl
        have hKc := hK.sub (tys' := []) [] rfl
        have hFc := va_free (wc := []) hD hS hA [] rfl
        refine va_calll (va_runS (As := [.long (lI (d6_1)), .long (lI (4294967296 + (a_6 (d6_3))))]) (rest := []) ⟨hx, hb, hml, hown, hts⟩ (c_X0_greater l dC dI d6_1 (4294967296 + (a_6 (d6_3))) (by omega) (by omega) H.size) (cwS 2 hts g_X0_registerLimit_X0_greater rfl rfl rfl (by decide +kernel) ⟨(Nat.le_of_ble_eq_true rfl), (Nat.le_of_ble_eq_true rfl)⟩) ⟨fun a U g mk q => by obtain ⟨q0, q1, qP, qK, qD, e0⟩ := q; exact ⟨q0, q1, qP, va_K.moved (u := U) (U := U.calling g mk a) (Vm.Alike.refl U.vm) qK, qD, va_Nw.same rfl (u := U) (U := U.calling g mk a) rfl e0⟩, fun U hU hW => ⟨rfl, by rw [hU], by rw [hU]; exact hPc, va_K.moved hW.alike hKc, hDc.weaken (fun _ _ _ _ => trivial), va_Nw.warmM hW hp1⟩⟩ rfl rfl hl.1 rfl (lv_room (Nat.le_of_ble_eq_true rfl)) dX0_registerLimit_26 ⟨(Nat.le_of_ble_eq_true rfl), (Nat.le_of_ble_eq_true rfl)⟩) hS (fun q _ h => hFc q h) hFc (fun r_2012 u t H1 locs ht hvm hw hB hz1 hk1 hS => ?_)
        obtain ⟨hP1, hK1, hD1⟩ := hB
        rw [ht] at hP1
        have hK1 := va_K.moved hvm.symm hK1
        obtain ⟨hP, hD⟩ := va_join (wr := [(h0, .inr (0, [.int (zI (B1)), .int (zI (R1)), v_2, v_3, v_4, v_5, .ref q_706, .ref q_707, .ref q_708, v_9, .ref q_710, v_11, v_12, .ref q_713, v_14, .ref q_715, .ref q_716, .ref q_717, .ref q_718])), (q_706, .inl (cA_706, 2000, .inl (fun j : Nat => zI (a_6 (j : Int))))), (q_707, .inl (cA_707, 2000, .inr (.inl (fun j : Nat => lI (a_7 (j : Int)))))), (q_708, .inl (cA_708, 2000, .inr (.inl (fun j : Nat => lI (a_8 (j : Int)))))), (q_710, .inl (cA_710, 300, .inr (.inl (fun j : Nat => lI (a_10 (j : Int)))))), (q_713, .inl (cA_713, 301, .inl (fun j : Nat => zI (a_13 (j : Int))))), (q_715, .inl (cA_715, 301, .inl (fun j : Nat => zI (a_15 (j : Int))))), (q_716, .inl (cA_716, 1000, .inl (fun j : Nat => zI (a_16 (j : Int))))), (q_717, .inl (cA_717, 1000, .inl (fun j : Nat => zI (a_17 (j : Int))))), (q_718, .inl (cA_718, na1, .inr (.inl (fun j : Nat => lI (a_18 (j : Int))))))]) (w1 := []) hP hD [] [0, 1, 2, 3, 4, 5, 6, 7, 8, 9] rfl rfl (by decide) (by decide) hk1 hFc hP1 hD1
        have hK := (hK.sub (tys' := [(cA_706, .int), (cA_707, .long), (cA_708, .long), (cA_710, .long), (cA_713, .int), (cA_715, .int), (cA_716, .int), (cA_717, .int), (cA_718, .long)]) [0, 1, 2, 3, 4, 5, 6, 7, 8] rfl).app hK1
        generalize H1 = H at hP hS ⊢
        have hP : va_P (dC, dI) vwP [(h0, .inr (0, [.int (zI (B1)), .int (zI (R1)), v_2, v_3, v_4, v_5, .ref q_706, .ref q_707, .ref q_708, v_9, .ref q_710, v_11, v_12, .ref q_713, v_14, .ref q_715, .ref q_716, .ref q_717, .ref q_718])), (q_706, .inl (cA_706, 2000, .inl (fun j : Nat => zI (a_6 (j : Int))))), (q_707, .inl (cA_707, 2000, .inr (.inl (fun j : Nat => lI (a_7 (j : Int)))))), (q_708, .inl (cA_708, 2000, .inr (.inl (fun j : Nat => lI (a_8 (j : Int)))))), (q_710, .inl (cA_710, 300, .inr (.inl (fun j : Nat => lI (a_10 (j : Int)))))), (q_713, .inl (cA_713, 301, .inl (fun j : Nat => zI (a_13 (j : Int))))), (q_715, .inl (cA_715, 301, .inl (fun j : Nat => zI (a_15 (j : Int))))), (q_716, .inl (cA_716, 1000, .inl (fun j : Nat => zI (a_16 (j : Int))))), (q_717, .inl (cA_717, 1000, .inl (fun j : Nat => zI (a_17 (j : Int))))), (q_718, .inl (cA_718, na1, .inr (.inl (fun j : Nat => lI (a_18 (j : Int))))))] H := hP
        have hD : va_D A [(h0, .inr (0, [.int (zI (B1)), .int (zI (R1)), v_2, v_3, v_4, v_5, .ref q_706, .ref q_707, .ref q_708, v_9, .ref q_710, v_11, v_12, .ref q_713, v_14, .ref q_715, .ref q_716, .ref q_717, .ref q_718])), (q_706, .inl (cA_706, 2000, .inl (fun j : Nat => zI (a_6 (j : Int))))), (q_707, .inl (cA_707, 2000, .inr (.inl (fun j : Nat => lI (a_7 (j : Int)))))), (q_708, .inl (cA_708, 2000, .inr (.inl (fun j : Nat => lI (a_8 (j : Int)))))), (q_710, .inl (cA_710, 300, .inr (.inl (fun j : Nat => lI (a_10 (j : Int)))))), (q_713, .inl (cA_713, 301, .inl (fun j : Nat => zI (a_13 (j : Int))))), (q_715, .inl (cA_715, 301, .inl (fun j : Nat => zI (a_15 (j : Int))))), (q_716, .inl (cA_716, 1000, .inl (fun j : Nat => zI (a_16 (j : Int))))), (q_717, .inl (cA_717, 1000, .inl (fun j : Nat => zI (a_17 (j : Int))))), (q_718, .inl (cA_718, na1, .inr (.inl (fun j : Nat => lI (a_18 (j : Int))))))] := hD
        have hK : va_K (dC, dI) vwP [(cA_706, .int), (cA_707, .long), (cA_708, .long), (cA_710, .long), (cA_713, .int), (cA_715, .int), (cA_716, .int), (cA_717, .int), (cA_718, .long)] s := hK
        refine W.widen (k := 0) (n := 0) (Nat.le_of_ble_eq_true rfl) (Nat.le_of_ble_eq_true rfl) ?_
        have hw_2013 := hw
        obtain ⟨z_2014, rfl, hzz_2014⟩ := hw_2013
        refine lv_lstore_n (lv' := [(1, .long (lI (z_2014))), (0, .ref h0), (3, .int (zI (d6_3)))]) hx hb dX0_registerLimit_29 rfl hl (by decide) rfl (fun ls hl => ?_)
        refine lv_lload_n hx hb dX0_registerLimit_30 rfl (lv_at hl 0 rfl) ?_
        refine lv_aload_n hx hb dX0_registerLimit_31 rfl (lv_at hl 1 rfl) ?_
        refine va_get (D := (dC, dI)) (ci := 0) (v := .ref q_707) (C := RX0) (T := TX0) (N := 19) hx hb hts mem_X0_registerLimit_0 hown hK hP 0 rfl rfl 7 (by decide) (ow (k := 18) rfl) (fun _ h9 => h9) rfl dX0_registerLimit_32 ?_
        refine lv_iload_n hx hb dX0_registerLimit_35 rfl (lv_at hl 2 rfl) ?_
        refine va_lald hx hb hK hP 2 1 rfl rfl (zI_in (a := d6_3) (n := 2000) (by omega) (by omega) (by decide)) dX0_registerLimit_36 ?_
        refine lv_topl (fun z ez => ?_)
        obtain rfl : z = lI (a_7 (d6_3)) := ez.trans (lI_ld (a_7) (by omega) (by omega))
        have k10 := hR_a_7 (d6_3)
        have hPc := hP.sub (ws' := []) [] rfl
        have hDc := hD.sub (ws' := []) [] (by decide) rfl
        have hKc := hK.sub (tys' := []) [] rfl
        have hFc := va_free (wc := []) hD hS hA [] rfl
        refine va_calll (va_runS (As := [.long (lI (z_2014)), .long (lI (a_7 (d6_3)))]) (rest := []) ⟨hx, hb, hml, hown, hts⟩ (c_X0_greater l dC dI z_2014 (a_7 (d6_3)) (by omega) (by omega) H.size) (cwS 2 hts g_X0_registerLimit_X0_greater rfl rfl rfl (by decide +kernel) ⟨(Nat.le_of_ble_eq_true rfl), (Nat.le_of_ble_eq_true rfl)⟩) ⟨fun a U g mk q => by obtain ⟨q0, q1, qP, qK, qD, e0⟩ := q; exact ⟨q0, q1, qP, va_K.moved (u := U) (U := U.calling g mk a) (Vm.Alike.refl U.vm) qK, qD, va_Nw.same rfl (u := U) (U := U.calling g mk a) rfl e0⟩, fun U hU hW => ⟨rfl, by rw [hU], by rw [hU]; exact hPc, va_K.moved hW.alike hKc, hDc.weaken (fun _ _ _ _ => trivial), va_Nw.warmM hW hp1⟩⟩ rfl rfl hl.1 rfl (lv_room (Nat.le_of_ble_eq_true rfl)) dX0_registerLimit_37 ⟨(Nat.le_of_ble_eq_true rfl), (Nat.le_of_ble_eq_true rfl)⟩) hS (fun q _ h => hFc q h) hFc (fun r_2015 u t H1 locs ht hvm hw hB hz1 hk1 hS => ?_)
        obtain ⟨hP1, hK1, hD1⟩ := hB
        rw [ht] at hP1
        have hK1 := va_K.moved hvm.symm hK1
        obtain ⟨hP, hD⟩ := va_join (wr := [(h0, .inr (0, [.int (zI (B1)), .int (zI (R1)), v_2, v_3, v_4, v_5, .ref q_706, .ref q_707, .ref q_708, v_9, .ref q_710, v_11, v_12, .ref q_713, v_14, .ref q_715, .ref q_716, .ref q_717, .ref q_718])), (q_706, .inl (cA_706, 2000, .inl (fun j : Nat => zI (a_6 (j : Int))))), (q_707, .inl (cA_707, 2000, .inr (.inl (fun j : Nat => lI (a_7 (j : Int)))))), (q_708, .inl (cA_708, 2000, .inr (.inl (fun j : Nat => lI (a_8 (j : Int)))))), (q_710, .inl (cA_710, 300, .inr (.inl (fun j : Nat => lI (a_10 (j : Int)))))), (q_713, .inl (cA_713, 301, .inl (fun j : Nat => zI (a_13 (j : Int))))), (q_715, .inl (cA_715, 301, .inl (fun j : Nat => zI (a_15 (j : Int))))), (q_716, .inl (cA_716, 1000, .inl (fun j : Nat => zI (a_16 (j : Int))))), (q_717, .inl (cA_717, 1000, .inl (fun j : Nat => zI (a_17 (j : Int))))), (q_718, .inl (cA_718, na1, .inr (.inl (fun j : Nat => lI (a_18 (j : Int))))))]) (w1 := []) hP hD [] [0, 1, 2, 3, 4, 5, 6, 7, 8, 9] rfl rfl (by decide) (by decide) hk1 hFc hP1 hD1
        have hK := (hK.sub (tys' := [(cA_706, .int), (cA_707, .long), (cA_708, .long), (cA_710, .long), (cA_713, .int), (cA_715, .int), (cA_716, .int), (cA_717, .int), (cA_718, .long)]) [0, 1, 2, 3, 4, 5, 6, 7, 8] rfl).app hK1
        generalize H1 = H at hP hS ⊢
        have hP : va_P (dC, dI) vwP [(h0, .inr (0, [.int (zI (B1)), .int (zI (R1)), v_2, v_3, v_4, v_5, .ref q_706, .ref q_707, .ref q_708, v_9, .ref q_710, v_11, v_12, .ref q_713, v_14, .ref q_715, .ref q_716, .ref q_717, .ref q_718])), (q_706, .inl (cA_706, 2000, .inl (fun j : Nat => zI (a_6 (j : Int))))), (q_707, .inl (cA_707, 2000, .inr (.inl (fun j : Nat => lI (a_7 (j : Int)))))), (q_708, .inl (cA_708, 2000, .inr (.inl (fun j : Nat => lI (a_8 (j : Int)))))), (q_710, .inl (cA_710, 300, .inr (.inl (fun j : Nat => lI (a_10 (j : Int)))))), (q_713, .inl (cA_713, 301, .inl (fun j : Nat => zI (a_13 (j : Int))))), (q_715, .inl (cA_715, 301, .inl (fun j : Nat => zI (a_15 (j : Int))))), (q_716, .inl (cA_716, 1000, .inl (fun j : Nat => zI (a_16 (j : Int))))), (q_717, .inl (cA_717, 1000, .inl (fun j : Nat => zI (a_17 (j : Int))))), (q_718, .inl (cA_718, na1, .inr (.inl (fun j : Nat => lI (a_18 (j : Int))))))] H := hP
        have hD : va_D A [(h0, .inr (0, [.int (zI (B1)), .int (zI (R1)), v_2, v_3, v_4, v_5, .ref q_706, .ref q_707, .ref q_708, v_9, .ref q_710, v_11, v_12, .ref q_713, v_14, .ref q_715, .ref q_716, .ref q_717, .ref q_718])), (q_706, .inl (cA_706, 2000, .inl (fun j : Nat => zI (a_6 (j : Int))))), (q_707, .inl (cA_707, 2000, .inr (.inl (fun j : Nat => lI (a_7 (j : Int)))))), (q_708, .inl (cA_708, 2000, .inr (.inl (fun j : Nat => lI (a_8 (j : Int)))))), (q_710, .inl (cA_710, 300, .inr (.inl (fun j : Nat => lI (a_10 (j : Int)))))), (q_713, .inl (cA_713, 301, .inl (fun j : Nat => zI (a_13 (j : Int))))), (q_715, .inl (cA_715, 301, .inl (fun j : Nat => zI (a_15 (j : Int))))), (q_716, .inl (cA_716, 1000, .inl (fun j : Nat => zI (a_16 (j : Int))))), (q_717, .inl (cA_717, 1000, .inl (fun j : Nat => zI (a_17 (j : Int))))), (q_718, .inl (cA_718, na1, .inr (.inl (fun j : Nat => lI (a_18 (j : Int))))))] := hD
        have hK : va_K (dC, dI) vwP [(cA_706, .int), (cA_707, .long), (cA_708, .long), (cA_710, .long), (cA_713, .int), (cA_715, .int), (cA_716, .int), (cA_717, .int), (cA_718, .long)] s := hK
        refine W.widen (k := 0) (n := 0) (Nat.le_of_ble_eq_true rfl) (Nat.le_of_ble_eq_true rfl) ?_
        have hw_2016 := hw
        obtain ⟨z_2017, rfl, hzz_2017⟩ := hw_2016
        refine lv_lstore_n (lv' := [(1, .long (lI (z_2017))), (0, .ref h0), (3, .int (zI (d6_3)))]) hx hb dX0_registerLimit_40 rfl hl (by decide) rfl (fun ls hl => ?_)
        refine lv_lload_n hx hb dX0_registerLimit_41 rfl (lv_at hl 0 rfl) ?_
        refine lv_aload_n hx hb dX0_registerLimit_42 rfl (lv_at hl 1 rfl) ?_
        refine va_get (D := (dC, dI)) (ci := 0) (v := .ref q_708) (C := RX0) (T := TX0) (N := 19) hx hb hts mem_X0_registerLimit_0 hown hK hP 0 rfl rfl 8 (by decide) (ow (k := 19) rfl) (fun _ h9 => h9) rfl dX0_registerLimit_43 ?_
        refine lv_iload_n hx hb dX0_registerLimit_46 rfl (lv_at hl 2 rfl) ?_
        refine va_lald hx hb hK hP 3 2 rfl rfl (zI_in (a := d6_3) (n := 2000) (by omega) (by omega) (by decide)) dX0_registerLimit_47 ?_
        refine lv_topl (fun z ez => ?_)
        obtain rfl : z = lI (a_8 (d6_3)) := ez.trans (lI_ld (a_8) (by omega) (by omega))
        have k11 := hR_a_8 (d6_3)
        have hPc := hP.sub (ws' := []) [] rfl
        have hDc := hD.sub (ws' := []) [] (by decide) rfl
        have hKc := hK.sub (tys' := []) [] rfl
        have hFc := va_free (wc := []) hD hS hA [] rfl
        refine va_calll (va_runS (As := [.long (lI (z_2017)), .long (lI (a_8 (d6_3)))]) (rest := []) ⟨hx, hb, hml, hown, hts⟩ (c_X0_greater l dC dI z_2017 (a_8 (d6_3)) (by omega) (by omega) H.size) (cwS 2 hts g_X0_registerLimit_X0_greater rfl rfl rfl (by decide +kernel) ⟨(Nat.le_of_ble_eq_true rfl), (Nat.le_of_ble_eq_true rfl)⟩) ⟨fun a U g mk q => by obtain ⟨q0, q1, qP, qK, qD, e0⟩ := q; exact ⟨q0, q1, qP, va_K.moved (u := U) (U := U.calling g mk a) (Vm.Alike.refl U.vm) qK, qD, va_Nw.same rfl (u := U) (U := U.calling g mk a) rfl e0⟩, fun U hU hW => ⟨rfl, by rw [hU], by rw [hU]; exact hPc, va_K.moved hW.alike hKc, hDc.weaken (fun _ _ _ _ => trivial), va_Nw.warmM hW hp1⟩⟩ rfl rfl hl.1 rfl (lv_room (Nat.le_of_ble_eq_true rfl)) dX0_registerLimit_48 ⟨(Nat.le_of_ble_eq_true rfl), (Nat.le_of_ble_eq_true rfl)⟩) hS (fun q _ h => hFc q h) hFc (fun r_2018 u t H1 locs ht hvm hw hB hz1 hk1 hS => ?_)
        obtain ⟨hP1, hK1, hD1⟩ := hB
        rw [ht] at hP1
        have hK1 := va_K.moved hvm.symm hK1
        obtain ⟨hP, hD⟩ := va_join (wr := [(h0, .inr (0, [.int (zI (B1)), .int (zI (R1)), v_2, v_3, v_4, v_5, .ref q_706, .ref q_707, .ref q_708, v_9, .ref q_710, v_11, v_12, .ref q_713, v_14, .ref q_715, .ref q_716, .ref q_717, .ref q_718])), (q_706, .inl (cA_706, 2000, .inl (fun j : Nat => zI (a_6 (j : Int))))), (q_707, .inl (cA_707, 2000, .inr (.inl (fun j : Nat => lI (a_7 (j : Int)))))), (q_708, .inl (cA_708, 2000, .inr (.inl (fun j : Nat => lI (a_8 (j : Int)))))), (q_710, .inl (cA_710, 300, .inr (.inl (fun j : Nat => lI (a_10 (j : Int)))))), (q_713, .inl (cA_713, 301, .inl (fun j : Nat => zI (a_13 (j : Int))))), (q_715, .inl (cA_715, 301, .inl (fun j : Nat => zI (a_15 (j : Int))))), (q_716, .inl (cA_716, 1000, .inl (fun j : Nat => zI (a_16 (j : Int))))), (q_717, .inl (cA_717, 1000, .inl (fun j : Nat => zI (a_17 (j : Int))))), (q_718, .inl (cA_718, na1, .inr (.inl (fun j : Nat => lI (a_18 (j : Int))))))]) (w1 := []) hP hD [] [0, 1, 2, 3, 4, 5, 6, 7, 8, 9] rfl rfl (by decide) (by decide) hk1 hFc hP1 hD1
        have hK := (hK.sub (tys' := [(cA_706, .int), (cA_707, .long), (cA_708, .long), (cA_710, .long), (cA_713, .int), (cA_715, .int), (cA_716, .int), (cA_717, .int), (cA_718, .long)]) [0, 1, 2, 3, 4, 5, 6, 7, 8] rfl).app hK1
        generalize H1 = H at hP hS ⊢
        have hP : va_P (dC, dI) vwP [(h0, .inr (0, [.int (zI (B1)), .int (zI (R1)), v_2, v_3, v_4, v_5, .ref q_706, .ref q_707, .ref q_708, v_9, .ref q_710, v_11, v_12, .ref q_713, v_14, .ref q_715, .ref q_716, .ref q_717, .ref q_718])), (q_706, .inl (cA_706, 2000, .inl (fun j : Nat => zI (a_6 (j : Int))))), (q_707, .inl (cA_707, 2000, .inr (.inl (fun j : Nat => lI (a_7 (j : Int)))))), (q_708, .inl (cA_708, 2000, .inr (.inl (fun j : Nat => lI (a_8 (j : Int)))))), (q_710, .inl (cA_710, 300, .inr (.inl (fun j : Nat => lI (a_10 (j : Int)))))), (q_713, .inl (cA_713, 301, .inl (fun j : Nat => zI (a_13 (j : Int))))), (q_715, .inl (cA_715, 301, .inl (fun j : Nat => zI (a_15 (j : Int))))), (q_716, .inl (cA_716, 1000, .inl (fun j : Nat => zI (a_16 (j : Int))))), (q_717, .inl (cA_717, 1000, .inl (fun j : Nat => zI (a_17 (j : Int))))), (q_718, .inl (cA_718, na1, .inr (.inl (fun j : Nat => lI (a_18 (j : Int))))))] H := hP
        have hD : va_D A [(h0, .inr (0, [.int (zI (B1)), .int (zI (R1)), v_2, v_3, v_4, v_5, .ref q_706, .ref q_707, .ref q_708, v_9, .ref q_710, v_11, v_12, .ref q_713, v_14, .ref q_715, .ref q_716, .ref q_717, .ref q_718])), (q_706, .inl (cA_706, 2000, .inl (fun j : Nat => zI (a_6 (j : Int))))), (q_707, .inl (cA_707, 2000, .inr (.inl (fun j : Nat => lI (a_7 (j : Int)))))), (q_708, .inl (cA_708, 2000, .inr (.inl (fun j : Nat => lI (a_8 (j : Int)))))), (q_710, .inl (cA_710, 300, .inr (.inl (fun j : Nat => lI (a_10 (j : Int)))))), (q_713, .inl (cA_713, 301, .inl (fun j : Nat => zI (a_13 (j : Int))))), (q_715, .inl (cA_715, 301, .inl (fun j : Nat => zI (a_15 (j : Int))))), (q_716, .inl (cA_716, 1000, .inl (fun j : Nat => zI (a_16 (j : Int))))), (q_717, .inl (cA_717, 1000, .inl (fun j : Nat => zI (a_17 (j : Int))))), (q_718, .inl (cA_718, na1, .inr (.inl (fun j : Nat => lI (a_18 (j : Int))))))] := hD
        have hK : va_K (dC, dI) vwP [(cA_706, .int), (cA_707, .long), (cA_708, .long), (cA_710, .long), (cA_713, .int), (cA_715, .int), (cA_716, .int), (cA_717, .int), (cA_718, .long)] s := hK
        refine W.widen (k := 0) (n := 0) (Nat.le_of_ble_eq_true rfl) (Nat.le_of_ble_eq_true rfl) ?_
        have hw_2019 := hw
        obtain ⟨z_2020, rfl, hzz_2020⟩ := hw_2019
        refine lv_lstore_n (lv' := [(1, .long (lI (z_2020))), (0, .ref h0), (3, .int (zI (d6_3)))]) hx hb dX0_registerLimit_51 rfl hl (by decide) rfl (fun ls hl => ?_)
        refine lv_iinc (v := zI (d6_3 + 1)) (lv' := [(3, .int (zI (d6_3 + 1))), (1, .long (lI (z_2020))), (0, .ref h0)]) hx hb dX0_registerLimit_52 hl (k := 2) rfl (zI_add (d6_3) (1)) (by decide) rfl (fun ls hl => ?_)
        refine lv_goto (tgt := 6) hx hb dX0_registerLimit_55 (by decide) ?_
        exact ih6 (d6_3 + 1) z_2020 ls H _ (by omega) (by omega) (by omega) (lv_sub hl [2, 1, 0] rfl) hP hD hS
  exact key6 (((R1) - (0) : Int).toNat + 1) 0 4294967295 ls H _ (by omega) (by omega) (by omega) (lv_sub hl [2, 1, 0] rfl) hP hD hS
theorem dX0_substituteInPhis_0 : decode cX0_substituteInPhis 0 = .ok (.iconst 0, 1) := by decide +kernel
theorem dX0_substituteInPhis_1 : decode cX0_substituteInPhis 1 = .ok (.istore_n 2, 1) := by decide +kernel
theorem dX0_substituteInPhis_2 : decode cX0_substituteInPhis 2 = .ok (.iload_n 2, 1) := by decide +kernel
theorem dX0_substituteInPhis_3 : decode cX0_substituteInPhis 3 = .ok (.aload_n 0, 1) := by decide +kernel
theorem dX0_substituteInPhis_4 : decode cX0_substituteInPhis 4 = .ok (.getfield 9, 3) := by decide +kernel
theorem dX0_substituteInPhis_7 : decode cX0_substituteInPhis 7 = .ok (.if_icmp .ge 83, 3) := by decide +kernel
theorem dX0_substituteInPhis_90 : decode cX0_substituteInPhis 90 = .ok (.return_, 1) := by decide +kernel
theorem dX0_substituteInPhis_10 : decode cX0_substituteInPhis 10 = .ok (.aload_n 0, 1) := by decide +kernel
theorem dX0_substituteInPhis_11 : decode cX0_substituteInPhis 11 = .ok (.getfield 59, 3) := by decide +kernel
theorem dX0_substituteInPhis_14 : decode cX0_substituteInPhis 14 = .ok (.iload_n 2, 1) := by decide +kernel
theorem dX0_substituteInPhis_15 : decode cX0_substituteInPhis 15 = .ok (.iaload, 1) := by decide +kernel
theorem dX0_substituteInPhis_16 : decode cX0_substituteInPhis 16 = .ok (.istore_n 3, 1) := by decide +kernel
theorem dX0_substituteInPhis_17 : decode cX0_substituteInPhis 17 = .ok (.iload_n 3, 1) := by decide +kernel
theorem dX0_substituteInPhis_18 : decode cX0_substituteInPhis 18 = .ok (.aload_n 0, 1) := by decide +kernel
theorem dX0_substituteInPhis_19 : decode cX0_substituteInPhis 19 = .ok (.getfield 59, 3) := by decide +kernel
theorem dX0_substituteInPhis_22 : decode cX0_substituteInPhis 22 = .ok (.iload_n 2, 1) := by decide +kernel
theorem dX0_substituteInPhis_23 : decode cX0_substituteInPhis 23 = .ok (.iconst 1, 1) := by decide +kernel
theorem dX0_substituteInPhis_24 : decode cX0_substituteInPhis 24 = .ok (.iadd, 1) := by decide +kernel
theorem dX0_substituteInPhis_25 : decode cX0_substituteInPhis 25 = .ok (.iaload, 1) := by decide +kernel
theorem dX0_substituteInPhis_26 : decode cX0_substituteInPhis 26 = .ok (.if_icmp .ge 58, 3) := by decide +kernel
theorem dX0_substituteInPhis_84 : decode cX0_substituteInPhis 84 = .ok (.iinc 2 1, 3) := by decide +kernel
theorem dX0_substituteInPhis_87 : decode cX0_substituteInPhis 87 = .ok (.goto (-85), 3) := by decide +kernel
theorem dX0_substituteInPhis_29 : decode cX0_substituteInPhis 29 = .ok (.aload_n 0, 1) := by decide +kernel
theorem dX0_substituteInPhis_30 : decode cX0_substituteInPhis 30 = .ok (.getfield 65, 3) := by decide +kernel
theorem dX0_substituteInPhis_33 : decode cX0_substituteInPhis 33 = .ok (.iload_n 3, 1) := by decide +kernel
theorem dX0_substituteInPhis_34 : decode cX0_substituteInPhis 34 = .ok (.iaload, 1) := by decide +kernel
theorem dX0_substituteInPhis_35 : decode cX0_substituteInPhis 35 = .ok (.istore 4, 2) := by decide +kernel
theorem dX0_substituteInPhis_37 : decode cX0_substituteInPhis 37 = .ok (.iload 4, 2) := by decide +kernel
theorem dX0_substituteInPhis_39 : decode cX0_substituteInPhis 39 = .ok (.aload_n 0, 1) := by decide +kernel
theorem dX0_substituteInPhis_40 : decode cX0_substituteInPhis 40 = .ok (.getfield 65, 3) := by decide +kernel
theorem dX0_substituteInPhis_43 : decode cX0_substituteInPhis 43 = .ok (.iload_n 3, 1) := by decide +kernel
theorem dX0_substituteInPhis_44 : decode cX0_substituteInPhis 44 = .ok (.iaload, 1) := by decide +kernel
theorem dX0_substituteInPhis_45 : decode cX0_substituteInPhis 45 = .ok (.aload_n 0, 1) := by decide +kernel
theorem dX0_substituteInPhis_46 : decode cX0_substituteInPhis 46 = .ok (.iload_n 2, 1) := by decide +kernel
theorem dX0_substituteInPhis_47 : decode cX0_substituteInPhis 47 = .ok (.invokevirtual 104, 3) := by decide +kernel
theorem dX0_substituteInPhis_50 : decode cX0_substituteInPhis 50 = .ok (.iadd, 1) := by decide +kernel
theorem dX0_substituteInPhis_51 : decode cX0_substituteInPhis 51 = .ok (.if_icmp .ge 27, 3) := by decide +kernel
theorem dX0_substituteInPhis_78 : decode cX0_substituteInPhis 78 = .ok (.iinc 3 1, 3) := by decide +kernel
theorem dX0_substituteInPhis_81 : decode cX0_substituteInPhis 81 = .ok (.goto (-64), 3) := by decide +kernel
theorem dX0_substituteInPhis_54 : decode cX0_substituteInPhis 54 = .ok (.aload_n 0, 1) := by decide +kernel
theorem dX0_substituteInPhis_55 : decode cX0_substituteInPhis 55 = .ok (.getfield 68, 3) := by decide +kernel
theorem dX0_substituteInPhis_58 : decode cX0_substituteInPhis 58 = .ok (.iload 4, 2) := by decide +kernel
theorem dX0_substituteInPhis_60 : decode cX0_substituteInPhis 60 = .ok (.aload_n 0, 1) := by decide +kernel
theorem dX0_substituteInPhis_61 : decode cX0_substituteInPhis 61 = .ok (.getfield 68, 3) := by decide +kernel
theorem dX0_substituteInPhis_64 : decode cX0_substituteInPhis 64 = .ok (.iload 4, 2) := by decide +kernel
theorem dX0_substituteInPhis_66 : decode cX0_substituteInPhis 66 = .ok (.laload, 1) := by decide +kernel
theorem dX0_substituteInPhis_67 : decode cX0_substituteInPhis 67 = .ok (.aload_n 1, 1) := by decide +kernel
theorem dX0_substituteInPhis_68 : decode cX0_substituteInPhis 68 = .ok (.invokestatic 115, 3) := by decide +kernel
theorem dX0_substituteInPhis_71 : decode cX0_substituteInPhis 71 = .ok (.lastore, 1) := by decide +kernel
theorem dX0_substituteInPhis_72 : decode cX0_substituteInPhis 72 = .ok (.iinc 4 1, 3) := by decide +kernel
theorem dX0_substituteInPhis_75 : decode cX0_substituteInPhis 75 = .ok (.goto (-38), 3) := by decide +kernel
def o_X0_substituteInPhis : List Cond := [.fieldLink RX0 9 "SsaForge$Code" "blocks" "I", .fieldLink RX0 59 "SsaForge$Code" "phiStart" "[I", .fieldLink RX0 65 "SsaForge$Code" "argStart" "[I", .methodLink RX0 104 yX0_predCount, .instanceMethod yX0_predCount, .selects RX0 yX0_predCount yX0_predCount, .initialized RX0, .fieldLink RX0 68 "SsaForge$Code" "args" "[J", .initialized RX11, .static yX11_resolve]
def v_X0_substituteInPhis : List Cond := .code yX0_substituteInPhis cX0_substituteInPhis 5 none :: (o_X0_substituteInPhis ++ (wsX00 ++ (v_X0_predCount ++ (v_X11_resolve ++ []))))
theorem mow_X0_substituteInPhis : ∀ w ∈ o_X0_substituteInPhis, w ∈ v_X0_substituteInPhis := fun _ h => List.mem_cons_of_mem _ (List.mem_append_left _ h)
theorem mem_X0_substituteInPhis_0 : ∀ w ∈ wsX00, w ∈ v_X0_substituteInPhis := fun _ h => List.mem_cons_of_mem _ (List.mem_append_right _ (List.mem_append_left _ h))
theorem mem_X0_substituteInPhis_1 : ∀ w ∈ v_X0_predCount, w ∈ v_X0_substituteInPhis := fun _ h => List.mem_cons_of_mem _ (List.mem_append_right _ (List.mem_append_right _ (List.mem_append_left _ h)))
theorem mem_X0_substituteInPhis_2 : ∀ w ∈ v_X11_resolve, w ∈ v_X0_substituteInPhis := fun _ h => List.mem_cons_of_mem _ (List.mem_append_right _ (List.mem_append_right _ (List.mem_append_right _ (List.mem_append_left _ h))))
set_option maxRecDepth 20000 in
theorem gw_X0_substituteInPhis : v_X0_substituteInPhis.all goodWord = true := by decide +kernel
set_option maxRecDepth 20000 in
theorem g_X0_substituteInPhis_X0_predCount : GoodIn v_X0_substituteInPhis (wsV RX0 104 RX0 yX0_predCount v_X0_predCount) := goodIn_app (goodIn_sub (fun w h => mow_X0_substituteInPhis w (by revert w h; decide +kernel)) (by decide +kernel)) (goodIn_sub mem_X0_substituteInPhis_1 gw_X0_predCount)
set_option maxHeartbeats 4000000 in
set_option maxRecDepth 100000 in
theorem c_X0_substituteInPhis (l : Launch) (dC : Nat → ClassId) (dI : Nat → Nat → Nat) (h0 : Nat) (B1 : Int) (v_1 : Value) (v_2 : Value) (v_3 : Value) (v_4 : Value) (v_5 : Value) (v_6 : Value) (v_7 : Value) (v_8 : Value) (v_9 : Value) (v_10 : Value) (v_11 : Value) (v_12 : Value) (q_713 : Nat) (cA_713 : ClassId) (a_13 : Int → Int) (v_14 : Value) (q_715 : Nat) (cA_715 : ClassId) (a_15 : Int → Int) (v_16 : Value) (q_717 : Nat) (cA_717 : ClassId) (a_17 : Int → Int) (q_718 : Nat) (cA_718 : ClassId) (na1 : Nat) (a_18 : Int → Int) (q_1 : Nat) (cA_1 : ClassId) (a_1 : Int → Int) (hNB1 : 0 ≤ B1 ∧ B1 ≤ 300) (hR_a_13 : ∀ j : Int, 0 ≤ a_13 j ∧ a_13 j ≤ 600) (hR_a_15 : ∀ j : Int, 0 ≤ a_15 j ∧ a_15 j ≤ 1000) (hR_a_17 : ∀ j : Int, 0 ≤ a_17 j ∧ a_17 j ≤ 60000) (hNna1 : na1 ≤ 60000) (hR_a_18 : ∀ j : Int, ((-2147483648 ≤ a_18 j ∧ a_18 j ≤ 4294968319) ∨ a_18 j = 1099511627776)) (hR_a_1 : ∀ j : Int, ((-2147483648 ≤ a_1 j ∧ a_1 j ≤ 4294968319) ∨ a_1 j = 1099511627776)) (hX_A : ∀ b i : Int, 0 ≤ b → b < B1 → a_15 b ≤ i → i < a_15 (b + 1) → a_17 i + (a_13 (b + 1) - a_13 b) ≤ na1) (sz : Nat) : Met l yX0_substituteInPhis v_X0_substituteInPhis ({ frames := 2, cells := 0, slots := 0, locals := 48 }) (va_Pc [.ref h0, .ref q_1] (fun U => U.heap.size = sz ∧ va_P (dC, dI) vwP [(h0, .inr (0, [.int (zI (B1)), v_1, v_2, v_3, v_4, v_5, v_6, v_7, v_8, v_9, v_10, v_11, v_12, .ref q_713, v_14, .ref q_715, v_16, .ref q_717, .ref q_718])), (q_713, .inl (cA_713, 301, .inl (fun j : Nat => zI (a_13 (j : Int))))), (q_715, .inl (cA_715, 301, .inl (fun j : Nat => zI (a_15 (j : Int))))), (q_717, .inl (cA_717, 1000, .inl (fun j : Nat => zI (a_17 (j : Int))))), (q_718, .inl (cA_718, na1, .inr (.inl (fun j : Nat => lI (a_18 (j : Int)))))), (q_1, .inl (cA_1, 1024, .inr (.inl (fun j : Nat => lI (a_1 (j : Int))))))] U.heap ∧ va_K (dC, dI) vwP [(cA_713, .int), (cA_715, .int), (cA_717, .int), (cA_718, .long), (cA_1, .long)] U ∧ va_D (fun _ => True) [(h0, .inr (0, [.int (zI (B1)), v_1, v_2, v_3, v_4, v_5, v_6, v_7, v_8, v_9, v_10, v_11, v_12, .ref q_713, v_14, .ref q_715, v_16, .ref q_717, .ref q_718])), (q_713, .inl (cA_713, 301, .inl (fun j : Nat => zI (a_13 (j : Int))))), (q_715, .inl (cA_715, 301, .inl (fun j : Nat => zI (a_15 (j : Int))))), (q_717, .inl (cA_717, 1000, .inl (fun j : Nat => zI (a_17 (j : Int))))), (q_718, .inl (cA_718, na1, .inr (.inl (fun j : Nat => lI (a_18 (j : Int)))))), (q_1, .inl (cA_1, 1024, .inr (.inl (fun j : Nat => lI (a_1 (j : Int))))))] ∧ va_Nw (.methodLinkNest RX0 115 yX11_resolve "SsaForge") U)) (va_Qv (fun _ : Unit => True) (fun (_ : Unit) (t : State) => ∃ (a0_9 : Int → Int), ((∀ j : Int, ((-2147483648 ≤ a0_9 j ∧ a0_9 j ≤ 4294968319) ∨ a0_9 j = 1099511627776))) ∧ va_P (dC, dI) vwP [(h0, .inr (0, [.int (zI (B1)), v_1, v_2, v_3, v_4, v_5, v_6, v_7, v_8, v_9, v_10, v_11, v_12, .ref q_713, v_14, .ref q_715, v_16, .ref q_717, .ref q_718])), (q_713, .inl (cA_713, 301, .inl (fun j : Nat => zI (a_13 (j : Int))))), (q_715, .inl (cA_715, 301, .inl (fun j : Nat => zI (a_15 (j : Int))))), (q_717, .inl (cA_717, 1000, .inl (fun j : Nat => zI (a_17 (j : Int))))), (q_718, .inl (cA_718, na1, .inr (.inl (fun j : Nat => lI (a0_9 (j : Int)))))), (q_1, .inl (cA_1, 1024, .inr (.inl (fun j : Nat => lI (a_1 (j : Int))))))] t.heap ∧ va_K (dC, dI) vwP [(cA_713, .int), (cA_715, .int), (cA_717, .int), (cA_718, .long), (cA_1, .long)] t ∧ va_D (va_A [(h0, .inr (0, [.int (zI (B1)), v_1, v_2, v_3, v_4, v_5, v_6, v_7, v_8, v_9, v_10, v_11, v_12, .ref q_713, v_14, .ref q_715, v_16, .ref q_717, .ref q_718])), (q_713, .inl (cA_713, 301, .inl (fun j : Nat => zI (a_13 (j : Int))))), (q_715, .inl (cA_715, 301, .inl (fun j : Nat => zI (a_15 (j : Int))))), (q_717, .inl (cA_717, 1000, .inl (fun j : Nat => zI (a_17 (j : Int))))), (q_718, .inl (cA_718, na1, .inr (.inl (fun j : Nat => lI (a_18 (j : Int)))))), (q_1, .inl (cA_1, 1024, .inr (.inl (fun j : Nat => lI (a_1 (j : Int))))))] sz) [(h0, .inr (0, [.int (zI (B1)), v_1, v_2, v_3, v_4, v_5, v_6, v_7, v_8, v_9, v_10, v_11, v_12, .ref q_713, v_14, .ref q_715, v_16, .ref q_717, .ref q_718])), (q_713, .inl (cA_713, 301, .inl (fun j : Nat => zI (a_13 (j : Int))))), (q_715, .inl (cA_715, 301, .inl (fun j : Nat => zI (a_15 (j : Int))))), (q_717, .inl (cA_717, 1000, .inl (fun j : Nat => zI (a_17 (j : Int))))), (q_718, .inl (cA_718, na1, .inr (.inl (fun j : Nat => lI (a0_9 (j : Int)))))), (q_1, .inl (cA_1, 1024, .inr (.inl (fun j : Nat => lI (a_1 (j : Int))))))]) (va_A [(h0, .inr (0, [.int (zI (B1)), v_1, v_2, v_3, v_4, v_5, v_6, v_7, v_8, v_9, v_10, v_11, v_12, .ref q_713, v_14, .ref q_715, v_16, .ref q_717, .ref q_718])), (q_713, .inl (cA_713, 301, .inl (fun j : Nat => zI (a_13 (j : Int))))), (q_715, .inl (cA_715, 301, .inl (fun j : Nat => zI (a_15 (j : Int))))), (q_717, .inl (cA_717, 1000, .inl (fun j : Nat => zI (a_17 (j : Int))))), (q_718, .inl (cA_718, na1, .inr (.inl (fun j : Nat => lI (a_18 (j : Int)))))), (q_1, .inl (cA_1, 1024, .inr (.inl (fun j : Nat => lI (a_1 (j : Int))))))] sz)) 0 0 (va_A [(h0, .inr (0, [.int (zI (B1)), v_1, v_2, v_3, v_4, v_5, v_6, v_7, v_8, v_9, v_10, v_11, v_12, .ref q_713, v_14, .ref q_715, v_16, .ref q_717, .ref q_718])), (q_713, .inl (cA_713, 301, .inl (fun j : Nat => zI (a_13 (j : Int))))), (q_715, .inl (cA_715, 301, .inl (fun j : Nat => zI (a_15 (j : Int))))), (q_717, .inl (cA_717, 1000, .inl (fun j : Nat => zI (a_17 (j : Int))))), (q_718, .inl (cA_718, na1, .inr (.inl (fun j : Nat => lI (a_18 (j : Int)))))), (q_1, .inl (cA_1, 1024, .inr (.inl (fun j : Nat => lI (a_1 (j : Int))))))] sz) := by
  refine Met.ofW (cc := cX0_substituteInPhis) (maxL := 5) (ret := none) (by decide) rfl ?_
  intro p e s m args below meth c s₁ B hml hv
  obtain ⟨rfl, hsz, hP, hK, hD0, hp0⟩ := hv
  have hx := B.exec
  have hb := B.bytes
  have hr := B.returns
  have hts := atoms_spec (ws := v_X0_substituteInPhis) B.pre
  have hown : s.vm.findClass RX0 = some m.cls := findClass_of_methodNamed B.named
  have hlocks := B.notSynchronized
  have ow : ∀ {k : Nat} {w : Cond}, o_X0_substituteInPhis[k]? = some w → w.before ([.ref h0, .ref q_1] : List Value).toArray s = true := fun h => hts _ (mow_X0_substituteInPhis _ (List.mem_of_getElem? h))
  subst hsz
  have hD := hD0.self (sz := s.heap.size)
  generalize hAe : va_A [(h0, .inr (0, [.int (zI (B1)), v_1, v_2, v_3, v_4, v_5, v_6, v_7, v_8, v_9, v_10, v_11, v_12, .ref q_713, v_14, .ref q_715, v_16, .ref q_717, .ref q_718])), (q_713, .inl (cA_713, 301, .inl (fun j : Nat => zI (a_13 (j : Int))))), (q_715, .inl (cA_715, 301, .inl (fun j : Nat => zI (a_15 (j : Int))))), (q_717, .inl (cA_717, 1000, .inl (fun j : Nat => zI (a_17 (j : Int))))), (q_718, .inl (cA_718, na1, .inr (.inl (fun j : Nat => lI (a_18 (j : Int)))))), (q_1, .inl (cA_1, 1024, .inr (.inl (fun j : Nat => lI (a_1 (j : Int))))))] s.heap.size = A at hD ⊢
  have hA : ∀ q : Nat, s.heap.size ≤ q → A q := fun q h => by rw [← hAe]; exact Or.inr h
  have hS : va_S A s.heap s.heap [] := va_S.rf
  have hP : va_P (dC, dI) vwP [(h0, .inr (0, [.int (zI (B1)), v_1, v_2, v_3, v_4, v_5, v_6, v_7, v_8, v_9, v_10, v_11, v_12, .ref q_713, v_14, .ref q_715, v_16, .ref q_717, .ref q_718])), (q_713, .inl (cA_713, 301, .inl (fun j : Nat => zI (a_13 (j : Int))))), (q_715, .inl (cA_715, 301, .inl (fun j : Nat => zI (a_15 (j : Int))))), (q_717, .inl (cA_717, 1000, .inl (fun j : Nat => zI (a_17 (j : Int))))), (q_718, .inl (cA_718, na1, .inr (.inl (fun j : Nat => lI (a_18 (j : Int)))))), (q_1, .inl (cA_1, 1024, .inr (.inl (fun j : Nat => lI (a_1 (j : Int))))))] s.heap := hP
  have hl := lv_entry ([.ref h0, .ref q_1]) (n := 5) (Nat.le_of_ble_eq_true rfl)
  rw [lg_entry_eq]
  generalize (lg_sl ([.ref h0, .ref q_1]) ++ List.replicate (5 - (lg_sl ([.ref h0, .ref q_1])).length) Slot.unset).toArray = ls at hl ⊢
  have hl : lv_has ls 5 [(0, .ref h0), (1, .ref q_1)] := hl
  obtain ⟨H, hH⟩ : ∃ H, H = s.heap := ⟨_, rfl⟩
  rw [← hH] at hP
  have hS : va_S A s.heap H [] := by rw [hH]; exact hS
  rw [← hH]
  refine zW_cap (fun Q hQ => ?_)
  refine lv_iconst (v := 0) hx hb dX0_substituteInPhis_0 (by decide) ?_
  refine lv_istore_n (lv' := [(2, .int 0), (0, .ref h0), (1, .ref q_1)]) hx hb dX0_substituteInPhis_1 rfl hl (by decide) rfl (fun ls hl => ?_)
  have key2 : ∀ n2 : Nat, ∀ (d2_2 : Int) (w2_718 : Int → Int) (ls : Array Slot) (H : Heap) (locs : List Loc), (0 ≤ d2_2 ∧ d2_2 ≤ 1000000000) → (∀ j : Int, ((-2147483648 ≤ w2_718 j ∧ w2_718 j ≤ 4294968319) ∨ w2_718 j = 1099511627776)) → (((B1) - (d2_2) : Int).toNat) < n2 → lv_has ls 5 [(0, .ref h0), (1, .ref q_1), (2, .int (zI (d2_2)))] → va_P (dC, dI) vwP [(h0, .inr (0, [.int (zI (B1)), v_1, v_2, v_3, v_4, v_5, v_6, v_7, v_8, v_9, v_10, v_11, v_12, .ref q_713, v_14, .ref q_715, v_16, .ref q_717, .ref q_718])), (q_713, .inl (cA_713, 301, .inl (fun j : Nat => zI (a_13 (j : Int))))), (q_715, .inl (cA_715, 301, .inl (fun j : Nat => zI (a_15 (j : Int))))), (q_717, .inl (cA_717, 1000, .inl (fun j : Nat => zI (a_17 (j : Int))))), (q_718, .inl (cA_718, na1, .inr (.inl (fun j : Nat => lI (w2_718 (j : Int)))))), (q_1, .inl (cA_1, 1024, .inr (.inl (fun j : Nat => lI (a_1 (j : Int))))))] H → va_D A [(h0, .inr (0, [.int (zI (B1)), v_1, v_2, v_3, v_4, v_5, v_6, v_7, v_8, v_9, v_10, v_11, v_12, .ref q_713, v_14, .ref q_715, v_16, .ref q_717, .ref q_718])), (q_713, .inl (cA_713, 301, .inl (fun j : Nat => zI (a_13 (j : Int))))), (q_715, .inl (cA_715, 301, .inl (fun j : Nat => zI (a_15 (j : Int))))), (q_717, .inl (cA_717, 1000, .inl (fun j : Nat => zI (a_17 (j : Int))))), (q_718, .inl (cA_718, na1, .inr (.inl (fun j : Nat => lI (w2_718 (j : Int)))))), (q_1, .inl (cA_1, 1024, .inr (.inl (fun j : Nat => lI (a_1 (j : Int))))))] → va_S A s.heap H locs → W p l e (headSpec v_X0_substituteInPhis ({ frames := 2, cells := 0, slots := 0, locals := 48 })).room s m ([.ref h0, .ref q_1] : List Value).toArray below meth c H locs 0 0 Q (F0 m 2 ls []) := by
    intro n2
    induction n2 with
    | zero => intro d2_2 w2_718 ls H locs jd2_2 jw2_718 hm2; exact absurd hm2 (by omega)
    | succ n2 ih2 =>
      intro d2_2 w2_718 ls H locs jd2_2 jw2_718 hm2 hl hP hD hS
      refine lv_iload_n hx hb dX0_substituteInPhis_2 rfl (lv_at hl 2 rfl) ?_
      refine lv_aload_n hx hb dX0_substituteInPhis_3 rfl (lv_at hl 0 rfl) ?_
      refine va_get (D := (dC, dI)) (ci := 0) (v := .int (zI (B1))) (C := RX0) (T := TX0) (N := 19) hx hb hts mem_X0_substituteInPhis_0 hown hK hP 0 rfl rfl 0 (by decide) (ow (k := 0) rfl) (fun _ h9 => h9) rfl dX0_substituteInPhis_4 ?_
      refine lv_icmp_ge (tgt := 90) hx hb dX0_substituteInPhis_7 (by decide) (fun b7 => ?_) (fun b7 => ?_)
      · have yb7 : (B1 : Int) ≤ (d2_2 : Int) := (zI_le (a := B1) (b := d2_2) (by omega) (by omega) (by omega) (by omega)).mp b7
        subst hQ
        refine W.widen (k := 0) (n := 0) (Nat.le_of_ble_eq_true rfl) (Nat.le_of_ble_eq_true rfl) ?_
        exact W.vret hx hb hr (fun t ht hW => ⟨⟨(), rfl, trivial, w2_718, jw2_718, by rw [ht]; exact hP, va_K.moved hW.alike hK, hD⟩, hS.F ht⟩) hS.2.2 dX0_substituteInPhis_90
      · have yb7 : ¬ (B1 : Int) ≤ (d2_2 : Int) := fun q => b7 ((zI_le (a := B1) (b := d2_2) (by omega) (by omega) (by omega) (by omega)).mpr q)
        refine lv_aload_n hx hb dX0_substituteInPhis_10 rfl (lv_at hl 0 rfl) ?_
        refine va_get (D := (dC, dI)) (ci := 0) (v := .ref q_715) (C := RX0) (T := TX0) (N := 19) hx hb hts mem_X0_substituteInPhis_0 hown hK hP 0 rfl rfl 15 (by decide) (ow (k := 1) rfl) (fun _ h9 => h9) rfl dX0_substituteInPhis_11 ?_
        refine lv_iload_n hx hb dX0_substituteInPhis_14 rfl (lv_at hl 2 rfl) ?_
        refine va_iald hx hb hK hP 2 1 rfl rfl (zI_in (a := d2_2) (n := 301) (by omega) (by omega) (by decide)) dX0_substituteInPhis_15 ?_
        refine lv_topi (fun z ez => ?_)
        obtain rfl : z = zI (a_15 (d2_2)) := ez.trans (zI_ld (a_15) (by omega) (by omega))
        have k1 := hR_a_15 (d2_2)
        refine lv_istore_n (lv' := [(3, .int (zI (a_15 (d2_2)))), (0, .ref h0), (1, .ref q_1), (2, .int (zI (d2_2)))]) hx hb dX0_substituteInPhis_16 rfl hl (by decide) rfl (fun ls hl => ?_)
        have key17 : ∀ n17 : Nat, ∀ (d17_3 : Int) (w17_718 : Int → Int) (ls : Array Slot) (H : Heap) (locs : List Loc), (a_15 (d2_2) ≤ d17_3 ∧ d17_3 ≤ 1000000000) → (∀ j : Int, ((-2147483648 ≤ w17_718 j ∧ w17_718 j ≤ 4294968319) ∨ w17_718 j = 1099511627776)) → (((a_15 (d2_2 + 1)) - (d17_3) : Int).toNat) < n17 → lv_has ls 5 [(0, .ref h0), (1, .ref q_1), (2, .int (zI (d2_2))), (3, .int (zI (d17_3)))] → va_P (dC, dI) vwP [(h0, .inr (0, [.int (zI (B1)), v_1, v_2, v_3, v_4, v_5, v_6, v_7, v_8, v_9, v_10, v_11, v_12, .ref q_713, v_14, .ref q_715, v_16, .ref q_717, .ref q_718])), (q_713, .inl (cA_713, 301, .inl (fun j : Nat => zI (a_13 (j : Int))))), (q_715, .inl (cA_715, 301, .inl (fun j : Nat => zI (a_15 (j : Int))))), (q_717, .inl (cA_717, 1000, .inl (fun j : Nat => zI (a_17 (j : Int))))), (q_718, .inl (cA_718, na1, .inr (.inl (fun j : Nat => lI (w17_718 (j : Int)))))), (q_1, .inl (cA_1, 1024, .inr (.inl (fun j : Nat => lI (a_1 (j : Int))))))] H → va_D A [(h0, .inr (0, [.int (zI (B1)), v_1, v_2, v_3, v_4, v_5, v_6, v_7, v_8, v_9, v_10, v_11, v_12, .ref q_713, v_14, .ref q_715, v_16, .ref q_717, .ref q_718])), (q_713, .inl (cA_713, 301, .inl (fun j : Nat => zI (a_13 (j : Int))))), (q_715, .inl (cA_715, 301, .inl (fun j : Nat => zI (a_15 (j : Int))))), (q_717, .inl (cA_717, 1000, .inl (fun j : Nat => zI (a_17 (j : Int))))), (q_718, .inl (cA_718, na1, .inr (.inl (fun j : Nat => lI (w17_718 (j : Int)))))), (q_1, .inl (cA_1, 1024, .inr (.inl (fun j : Nat => lI (a_1 (j : Int))))))] → va_S A s.heap H locs → W p l e (headSpec v_X0_substituteInPhis ({ frames := 2, cells := 0, slots := 0, locals := 48 })).room s m ([.ref h0, .ref q_1] : List Value).toArray below meth c H locs 0 0 Q (F0 m 17 ls []) := by
          intro n17
          induction n17 with
          | zero => intro d17_3 w17_718 ls H locs jd17_3 jw17_718 hm17; exact absurd hm17 (by omega)
          | succ n17 ih17 =>
            intro d17_3 w17_718 ls H locs jd17_3 jw17_718 hm17 hl hP hD hS
            refine lv_iload_n hx hb dX0_substituteInPhis_17 rfl (lv_at hl 3 rfl) ?_
            refine lv_aload_n hx hb dX0_substituteInPhis_18 rfl (lv_at hl 0 rfl) ?_
            refine va_get (D := (dC, dI)) (ci := 0) (v := .ref q_715) (C := RX0) (T := TX0) (N := 19) hx hb hts mem_X0_substituteInPhis_0 hown hK hP 0 rfl rfl 15 (by decide) (ow (k := 1) rfl) (fun _ h9 => h9) rfl dX0_substituteInPhis_19 ?_
            refine lv_iload_n hx hb dX0_substituteInPhis_22 rfl (lv_at hl 2 rfl) ?_
            refine lv_iconst (v := 1) hx hb dX0_substituteInPhis_23 (by decide) ?_
            refine lv_iadd hx hb dX0_substituteInPhis_24 ?_
            refine lv_topi (fun z ez => ?_)
            obtain rfl : z = zI (d2_2 + 1) := ez.trans (zI_add (d2_2) (1))
            refine va_iald hx hb hK hP 2 1 rfl rfl (zI_in (a := d2_2 + 1) (n := 301) (by omega) (by omega) (by decide)) dX0_substituteInPhis_25 ?_
            refine lv_topi (fun z ez => ?_)
            obtain rfl : z = zI (a_15 (d2_2 + 1)) := ez.trans (zI_ld (a_15) (by omega) (by omega))
            have k2 := hR_a_15 (d2_2 + 1)
            refine lv_icmp_ge (tgt := 84) hx hb dX0_substituteInPhis_26 (by decide) (fun b26 => ?_) (fun b26 => ?_)
            · have yb26 : (a_15 (d2_2 + 1) : Int) ≤ (d17_3 : Int) := (zI_le (a := a_15 (d2_2 + 1)) (b := d17_3) (by omega) (by omega) (by omega) (by omega)).mp b26
              refine lv_iinc (v := zI (d2_2 + 1)) (lv' := [(2, .int (zI (d2_2 + 1))), (0, .ref h0), (1, .ref q_1), (3, .int (zI (d17_3)))]) hx hb dX0_substituteInPhis_84 hl (k := 2) rfl (zI_add (d2_2) (1)) (by decide) rfl (fun ls hl => ?_)
              refine lv_goto (tgt := 2) hx hb dX0_substituteInPhis_87 (by decide) ?_
              exact ih2 (d2_2 + 1) w17_718 ls H _ (by omega) jw17_718 (by omega) (lv_sub hl [1, 2, 0] rfl) hP hD hS
            · have yb26 : ¬ (a_15 (d2_2 + 1) : Int) ≤ (d17_3 : Int) := fun q => b26 ((zI_le (a := a_15 (d2_2 + 1)) (b := d17_3) (by omega) (by omega) (by omega) (by omega)).mpr q)
              refine lv_aload_n hx hb dX0_substituteInPhis_29 rfl (lv_at hl 0 rfl) ?_
              refine va_get (D := (dC, dI)) (ci := 0) (v := .ref q_717) (C := RX0) (T := TX0) (N := 19) hx hb hts mem_X0_substituteInPhis_0 hown hK hP 0 rfl rfl 17 (by decide) (ow (k := 2) rfl) (fun _ h9 => h9) rfl dX0_substituteInPhis_30 ?_
              refine lv_iload_n hx hb dX0_substituteInPhis_33 rfl (lv_at hl 3 rfl) ?_
              refine va_iald hx hb hK hP 3 2 rfl rfl (zI_in (a := d17_3) (n := 1000) (by omega) (by omega) (by decide)) dX0_substituteInPhis_34 ?_
              refine lv_topi (fun z ez => ?_)
              obtain rfl : z = zI (a_17 (d17_3)) := ez.trans (zI_ld (a_17) (by omega) (by omega))
              have k3 := hR_a_17 (d17_3)
              refine lv_istore (lv' := [(4, .int (zI (a_17 (d17_3)))), (0, .ref h0), (1, .ref q_1), (2, .int (zI (d2_2))), (3, .int (zI (d17_3)))]) hx hb dX0_substituteInPhis_35 hl (by decide) rfl (fun ls hl => ?_)
              have key37 : ∀ n37 : Nat, ∀ (d37_4 : Int) (w37_718 : Int → Int) (ls : Array Slot) (H : Heap) (locs : List Loc), (a_17 (d17_3) ≤ d37_4 ∧ d37_4 ≤ 1000000000) → (∀ j : Int, ((-2147483648 ≤ w37_718 j ∧ w37_718 j ≤ 4294968319) ∨ w37_718 j = 1099511627776)) → ((((a_17 (d17_3)) + (a_13 (d2_2 + 1) - a_13 (d2_2))) - (d37_4) : Int).toNat) < n37 → lv_has ls 5 [(0, .ref h0), (1, .ref q_1), (2, .int (zI (d2_2))), (3, .int (zI (d17_3))), (4, .int (zI (d37_4)))] → va_P (dC, dI) vwP [(h0, .inr (0, [.int (zI (B1)), v_1, v_2, v_3, v_4, v_5, v_6, v_7, v_8, v_9, v_10, v_11, v_12, .ref q_713, v_14, .ref q_715, v_16, .ref q_717, .ref q_718])), (q_713, .inl (cA_713, 301, .inl (fun j : Nat => zI (a_13 (j : Int))))), (q_715, .inl (cA_715, 301, .inl (fun j : Nat => zI (a_15 (j : Int))))), (q_717, .inl (cA_717, 1000, .inl (fun j : Nat => zI (a_17 (j : Int))))), (q_718, .inl (cA_718, na1, .inr (.inl (fun j : Nat => lI (w37_718 (j : Int)))))), (q_1, .inl (cA_1, 1024, .inr (.inl (fun j : Nat => lI (a_1 (j : Int))))))] H → va_D A [(h0, .inr (0, [.int (zI (B1)), v_1, v_2, v_3, v_4, v_5, v_6, v_7, v_8, v_9, v_10, v_11, v_12, .ref q_713, v_14, .ref q_715, v_16, .ref q_717, .ref q_718])), (q_713, .inl (cA_713, 301, .inl (fun j : Nat => zI (a_13 (j : Int))))), (q_715, .inl (cA_715, 301, .inl (fun j : Nat => zI (a_15 (j : Int))))), (q_717, .inl (cA_717, 1000, .inl (fun j : Nat => zI (a_17 (j : Int))))), (q_718, .inl (cA_718, na1, .inr (.inl (fun j : Nat => lI (w37_718 (j : Int)))))), (q_1, .inl (cA_1, 1024, .inr (.inl (fun j : Nat => lI (a_1 (j : Int))))))] → va_S A s.heap H locs → W p l e (headSpec v_X0_substituteInPhis ({ frames := 2, cells := 0, slots := 0, locals := 48 })).room s m ([.ref h0, .ref q_1] : List Value).toArray below meth c H locs 0 0 Q (F0 m 37 ls []) := by
                intro n37
                induction n37 with
                | zero => intro d37_4 w37_718 ls H locs jd37_4 jw37_718 hm37; exact absurd hm37 (by omega)
                | succ n37 ih37 =>
                  intro d37_4 w37_718 ls H locs jd37_4 jw37_718 hm37 hl hP hD hS
                  refine lv_iload hx hb dX0_substituteInPhis_37 (lv_at hl 4 rfl) ?_
                  refine lv_aload_n hx hb dX0_substituteInPhis_39 rfl (lv_at hl 0 rfl) ?_
                  refine va_get (D := (dC, dI)) (ci := 0) (v := .ref q_717) (C := RX0) (T := TX0) (N := 19) hx hb hts mem_X0_substituteInPhis_0 hown hK hP 0 rfl rfl 17 (by decide) (ow (k := 2) rfl) (fun _ h9 => h9) rfl dX0_substituteInPhis_40 ?_
                  refine lv_iload_n hx hb dX0_substituteInPhis_43 rfl (lv_at hl 3 rfl) ?_
                  refine va_iald hx hb hK hP 3 2 rfl rfl (zI_in (a := d17_3) (n := 1000) (by omega) (by omega) (by decide)) dX0_substituteInPhis_44 ?_
                  refine lv_topi (fun z ez => ?_)
                  obtain rfl : z = zI (a_17 (d17_3)) := ez.trans (zI_ld (a_17) (by omega) (by omega))
                  have k4 := hR_a_17 (d17_3)
                  refine lv_aload_n hx hb dX0_substituteInPhis_45 rfl (lv_at hl 0 rfl) ?_
                  refine lv_iload_n hx hb dX0_substituteInPhis_46 rfl (lv_at hl 2 rfl) ?_
                  have hPc := hP.sub (ws' := [(h0, .inr (0, [.int (zI (B1)), v_1, v_2, v_3, v_4, v_5, v_6, v_7, v_8, v_9, v_10, v_11, v_12, .ref q_713, v_14, .ref q_715, v_16, .ref q_717, .ref q_718])), (q_713, .inl (cA_713, 301, .inl (fun j : Nat => zI (a_13 (j : Int)))))]) [0, 1] rfl
                  have hDc := hD.sub (ws' := [(h0, .inr (0, [.int (zI (B1)), v_1, v_2, v_3, v_4, v_5, v_6, v_7, v_8, v_9, v_10, v_11, v_12, .ref q_713, v_14, .ref q_715, v_16, .ref q_717, .ref q_718])), (q_713, .inl (cA_713, 301, .inl (fun j : Nat => zI (a_13 (j : Int)))))]) [0, 1] (by decide) rfl
                  have hKc := hK.sub (tys' := [(cA_713, .int)]) [0] rfl
                  have hFc := va_free (wc := [(h0, .inr (0, [.int (zI (B1)), v_1, v_2, v_3, v_4, v_5, v_6, v_7, v_8, v_9, v_10, v_11, v_12, .ref q_713, v_14, .ref q_715, v_16, .ref q_717, .ref q_718])), (q_713, .inl (cA_713, 301, .inl (fun j : Nat => zI (a_13 (j : Int)))))]) hD hS hA [0, 1] rfl
                  refine va_calli (va_runV (As := [.int (zI (d2_2))]) (rest := [.int (zI (a_17 (d17_3))), .int (zI (d37_4))]) ⟨hx, hb, hml, hown, hts⟩ (c_X0_predCount l dC dI h0 (.int (zI (B1))) v_1 v_2 v_3 v_4 v_5 v_6 v_7 v_8 v_9 v_10 v_11 v_12 q_713 cA_713 a_13 v_14 (.ref q_715) v_16 (.ref q_717) (.ref q_718) d2_2 hR_a_13 (by omega) H.size) (cwV 1 hts g_X0_substituteInPhis_X0_predCount rfl rfl rfl (by decide +kernel) ⟨(Nat.le_of_ble_eq_true rfl), (Nat.le_of_ble_eq_true rfl)⟩) ⟨fun a U g mk q => by obtain ⟨q0, q1, qP, qK, qD⟩ := q; exact ⟨q0, q1, qP, va_K.moved (u := U) (U := U.calling g mk a) (Vm.Alike.refl U.vm) qK, qD⟩, va_recv hKc hPc (ci := 0) (q0 := 0) rfl rfl, fun U hU hW => ⟨rfl, by rw [hU], by rw [hU]; exact hPc, va_K.moved hW.alike hKc, hDc.weaken (fun _ _ _ _ => trivial)⟩⟩ rfl rfl hl.1 rfl (lv_room (Nat.le_of_ble_eq_true rfl)) dX0_substituteInPhis_47 ⟨(Nat.le_of_ble_eq_true rfl), (Nat.le_of_ble_eq_true rfl)⟩) hS (fun q _ h => hFc q h) hFc (fun r_2001 u t H1 locs ht hvm hw hB hz1 hk1 hS => ?_)
                  obtain ⟨hP1, hK1, hD1⟩ := hB
                  rw [ht] at hP1
                  have hK1 := va_K.moved hvm.symm hK1
                  obtain ⟨hP, hD⟩ := va_join (wr := [(q_715, .inl (cA_715, 301, .inl (fun j : Nat => zI (a_15 (j : Int))))), (q_717, .inl (cA_717, 1000, .inl (fun j : Nat => zI (a_17 (j : Int))))), (q_718, .inl (cA_718, na1, .inr (.inl (fun j : Nat => lI (w37_718 (j : Int)))))), (q_1, .inl (cA_1, 1024, .inr (.inl (fun j : Nat => lI (a_1 (j : Int))))))]) (w1 := [(h0, .inr (0, [.int (zI (B1)), v_1, v_2, v_3, v_4, v_5, v_6, v_7, v_8, v_9, v_10, v_11, v_12, .ref q_713, v_14, .ref q_715, v_16, .ref q_717, .ref q_718])), (q_713, .inl (cA_713, 301, .inl (fun j : Nat => zI (a_13 (j : Int)))))]) hP hD [0, 1] [2, 3, 4, 5] rfl rfl (by decide) (by decide) hk1 hFc hP1 hD1
                  have hK := (hK.sub (tys' := [(cA_715, .int), (cA_717, .int), (cA_718, .long), (cA_1, .long)]) [1, 2, 3, 4] rfl).app hK1
                  generalize H1 = H at hP hS ⊢
                  have hP : va_P (dC, dI) vwP [(q_715, .inl (cA_715, 301, .inl (fun j : Nat => zI (a_15 (j : Int))))), (q_717, .inl (cA_717, 1000, .inl (fun j : Nat => zI (a_17 (j : Int))))), (q_718, .inl (cA_718, na1, .inr (.inl (fun j : Nat => lI (w37_718 (j : Int)))))), (q_1, .inl (cA_1, 1024, .inr (.inl (fun j : Nat => lI (a_1 (j : Int)))))), (h0, .inr (0, [.int (zI (B1)), v_1, v_2, v_3, v_4, v_5, v_6, v_7, v_8, v_9, v_10, v_11, v_12, .ref q_713, v_14, .ref q_715, v_16, .ref q_717, .ref q_718])), (q_713, .inl (cA_713, 301, .inl (fun j : Nat => zI (a_13 (j : Int)))))] H := hP
                  have hD : va_D A [(q_715, .inl (cA_715, 301, .inl (fun j : Nat => zI (a_15 (j : Int))))), (q_717, .inl (cA_717, 1000, .inl (fun j : Nat => zI (a_17 (j : Int))))), (q_718, .inl (cA_718, na1, .inr (.inl (fun j : Nat => lI (w37_718 (j : Int)))))), (q_1, .inl (cA_1, 1024, .inr (.inl (fun j : Nat => lI (a_1 (j : Int)))))), (h0, .inr (0, [.int (zI (B1)), v_1, v_2, v_3, v_4, v_5, v_6, v_7, v_8, v_9, v_10, v_11, v_12, .ref q_713, v_14, .ref q_715, v_16, .ref q_717, .ref q_718])), (q_713, .inl (cA_713, 301, .inl (fun j : Nat => zI (a_13 (j : Int)))))] := hD
                  have hK : va_K (dC, dI) vwP [(cA_715, .int), (cA_717, .int), (cA_718, .long), (cA_1, .long), (cA_713, .int)] s := hK
                  refine W.widen (k := 0) (n := 0) (Nat.le_of_ble_eq_true rfl) (Nat.le_of_ble_eq_true rfl) ?_
                  obtain rfl : r_2001 = (zI (a_13 (d2_2 + 1) - a_13 (d2_2))) := hw
                  have k5 := hR_a_13 (d2_2 + 1)
                  have k6 := hR_a_13 (d2_2)
                  refine lv_iadd hx hb dX0_substituteInPhis_50 ?_
                  refine lv_topi (fun z ez => ?_)
                  obtain rfl : z = zI ((a_17 (d17_3)) + (a_13 (d2_2 + 1) - a_13 (d2_2))) := ez.trans (zI_add (a_17 (d17_3)) (a_13 (d2_2 + 1) - a_13 (d2_2)))
                  refine lv_icmp_ge (tgt := 78) hx hb dX0_substituteInPhis_51 (by decide) (fun b51 => ?_) (fun b51 => ?_)
                  · have yb51 : ((a_17 (d17_3)) + (a_13 (d2_2 + 1) - a_13 (d2_2)) : Int) ≤ (d37_4 : Int) := (zI_le (a := (a_17 (d17_3)) + (a_13 (d2_2 + 1) - a_13 (d2_2))) (b := d37_4) (by omega) (by omega) (by omega) (by omega)).mp b51
                    refine lv_iinc (v := zI (d17_3 + 1)) (lv' := [(3, .int (zI (d17_3 + 1))), (0, .ref h0), (1, .ref q_1), (2, .int (zI (d2_2))), (4, .int (zI (d37_4)))]) hx hb dX0_substituteInPhis_78 hl (k := 3) rfl (zI_add (d17_3) (1)) (by decide) rfl (fun ls hl => ?_)
                    refine lv_goto (tgt := 17) hx hb dX0_substituteInPhis_81 (by decide) ?_
                    have hP := hP.sub (ws' := [(h0, .inr (0, [.int (zI (B1)), v_1, v_2, v_3, v_4, v_5, v_6, v_7, v_8, v_9, v_10, v_11, v_12, .ref q_713, v_14, .ref q_715, v_16, .ref q_717, .ref q_718])), (q_713, .inl (cA_713, 301, .inl (fun j : Nat => zI (a_13 (j : Int))))), (q_715, .inl (cA_715, 301, .inl (fun j : Nat => zI (a_15 (j : Int))))), (q_717, .inl (cA_717, 1000, .inl (fun j : Nat => zI (a_17 (j : Int))))), (q_718, .inl (cA_718, na1, .inr (.inl (fun j : Nat => lI (w37_718 (j : Int)))))), (q_1, .inl (cA_1, 1024, .inr (.inl (fun j : Nat => lI (a_1 (j : Int))))))]) [4, 5, 0, 1, 2, 3] rfl
                    have hD := hD.sub (ws' := [(h0, .inr (0, [.int (zI (B1)), v_1, v_2, v_3, v_4, v_5, v_6, v_7, v_8, v_9, v_10, v_11, v_12, .ref q_713, v_14, .ref q_715, v_16, .ref q_717, .ref q_718])), (q_713, .inl (cA_713, 301, .inl (fun j : Nat => zI (a_13 (j : Int))))), (q_715, .inl (cA_715, 301, .inl (fun j : Nat => zI (a_15 (j : Int))))), (q_717, .inl (cA_717, 1000, .inl (fun j : Nat => zI (a_17 (j : Int))))), (q_718, .inl (cA_718, na1, .inr (.inl (fun j : Nat => lI (w37_718 (j : Int)))))), (q_1, .inl (cA_1, 1024, .inr (.inl (fun j : Nat => lI (a_1 (j : Int))))))]) [4, 5, 0, 1, 2, 3] (by decide) rfl
                    exact ih17 (d17_3 + 1) w37_718 ls H _ (by omega) jw37_718 (by omega) (lv_sub hl [1, 2, 3, 0] rfl) hP hD hS
                  · have yb51 : ¬ ((a_17 (d17_3)) + (a_13 (d2_2 + 1) - a_13 (d2_2)) : Int) ≤ (d37_4 : Int) := fun q => b51 ((zI_le (a := (a_17 (d17_3)) + (a_13 (d2_2 + 1) - a_13 (d2_2))) (b := d37_4) (by omega) (by omega) (by omega) (by omega)).mpr q)
                    have hq := hX_A (d2_2) (d17_3) (by omega) (by omega) (by omega) (by omega)
                    refine lv_aload_n hx hb dX0_substituteInPhis_54 rfl (lv_at hl 0 rfl) ?_
                    refine va_get (D := (dC, dI)) (ci := 0) (v := .ref q_718) (C := RX0) (T := TX0) (N := 19) hx hb hts mem_X0_substituteInPhis_0 hown hK hP 4 rfl rfl 18 (by decide) (ow (k := 7) rfl) (fun _ h9 => h9) rfl dX0_substituteInPhis_55 ?_
                    refine lv_iload hx hb dX0_substituteInPhis_58 (lv_at hl 4 rfl) ?_
                    refine lv_aload_n hx hb dX0_substituteInPhis_60 rfl (lv_at hl 0 rfl) ?_
                    refine va_get (D := (dC, dI)) (ci := 0) (v := .ref q_718) (C := RX0) (T := TX0) (N := 19) hx hb hts mem_X0_substituteInPhis_0 hown hK hP 4 rfl rfl 18 (by decide) (ow (k := 7) rfl) (fun _ h9 => h9) rfl dX0_substituteInPhis_61 ?_
                    refine lv_iload hx hb dX0_substituteInPhis_64 (lv_at hl 4 rfl) ?_
                    refine va_lald hx hb hK hP 2 2 rfl rfl (zI_in (a := d37_4) (n := na1) (by omega) (by omega) (by omega)) dX0_substituteInPhis_66 ?_
                    refine lv_topl (fun z ez => ?_)
                    obtain rfl : z = lI (w37_718 (d37_4)) := ez.trans (lI_ld (w37_718) (by omega) (by omega))
                    have k7 := jw37_718 (d37_4)
                    refine lv_aload_n hx hb dX0_substituteInPhis_67 rfl (lv_at hl 1 rfl) ?_
                    have hPc := hP.sub (ws' := [(q_1, .inl (cA_1, 1024, .inr (.inl (fun j : Nat => lI (a_1 (j : Int))))))]) [3] rfl
                    have hDc := hD.sub (ws' := [(q_1, .inl (cA_1, 1024, .inr (.inl (fun j : Nat => lI (a_1 (j : Int))))))]) [3] (by decide) rfl
                    have hKc := hK.sub (tys' := [(cA_1, .long)]) [3] rfl
                    have hFc := va_free (wc := [(q_1, .inl (cA_1, 1024, .inr (.inl (fun j : Nat => lI (a_1 (j : Int))))))]) hD hS hA [3] rfl
                    refine va_calll (va_runSN (As := [.long (lI (w37_718 (d37_4))), .ref q_1]) (rest := [.int (zI (d37_4)), .ref q_718]) ⟨hx, hb, hml, hown, hts⟩ (c_X11_resolve l dC dI q_1 cA_1 a_1 (w37_718 (d37_4)) hR_a_1 (by omega) H.size) ⟨va_cnB 2 hts (goodIn_sub mem_X0_substituteInPhis_2 gw_X11_resolve) rfl rfl rfl hp0 (ow (k := 8) rfl) (by decide +kernel) ⟨(Nat.le_of_ble_eq_true rfl), (Nat.le_of_ble_eq_true rfl)⟩, (ow (k := 9) rfl), trivial⟩ ⟨fun a U g mk q => by obtain ⟨q0, q1, qP, qK, qD⟩ := q; exact ⟨q0, q1, qP, va_K.moved (u := U) (U := U.calling g mk a) (Vm.Alike.refl U.vm) qK, qD⟩, fun U hU hW => ⟨rfl, by rw [hU], by rw [hU]; exact hPc, va_K.moved hW.alike hKc, hDc.weaken (fun _ _ _ _ => trivial)⟩⟩ rfl rfl hl.1 rfl (lv_room (Nat.le_of_ble_eq_true rfl)) dX0_substituteInPhis_68 ⟨(Nat.le_of_ble_eq_true rfl), (Nat.le_of_ble_eq_true rfl)⟩) hS (fun q _ h => hFc q h) hFc (fun r_2002 u t H1 locs ht hvm hw hB hz1 hk1 hS => ?_)
                    obtain ⟨hP1, hK1, hD1⟩ := hB
                    rw [ht] at hP1
                    have hK1 := va_K.moved hvm.symm hK1
                    obtain ⟨hP, hD⟩ := va_join (wr := [(q_715, .inl (cA_715, 301, .inl (fun j : Nat => zI (a_15 (j : Int))))), (q_717, .inl (cA_717, 1000, .inl (fun j : Nat => zI (a_17 (j : Int))))), (q_718, .inl (cA_718, na1, .inr (.inl (fun j : Nat => lI (w37_718 (j : Int)))))), (h0, .inr (0, [.int (zI (B1)), v_1, v_2, v_3, v_4, v_5, v_6, v_7, v_8, v_9, v_10, v_11, v_12, .ref q_713, v_14, .ref q_715, v_16, .ref q_717, .ref q_718])), (q_713, .inl (cA_713, 301, .inl (fun j : Nat => zI (a_13 (j : Int)))))]) (w1 := [(q_1, .inl (cA_1, 1024, .inr (.inl (fun j : Nat => lI (a_1 (j : Int))))))]) hP hD [3] [0, 1, 2, 4, 5] rfl rfl (by decide) (by decide) hk1 hFc hP1 hD1
                    have hK := (hK.sub (tys' := [(cA_715, .int), (cA_717, .int), (cA_718, .long), (cA_713, .int)]) [0, 1, 2, 4] rfl).app hK1
                    generalize H1 = H at hP hS ⊢
                    have hP : va_P (dC, dI) vwP [(q_715, .inl (cA_715, 301, .inl (fun j : Nat => zI (a_15 (j : Int))))), (q_717, .inl (cA_717, 1000, .inl (fun j : Nat => zI (a_17 (j : Int))))), (q_718, .inl (cA_718, na1, .inr (.inl (fun j : Nat => lI (w37_718 (j : Int)))))), (h0, .inr (0, [.int (zI (B1)), v_1, v_2, v_3, v_4, v_5, v_6, v_7, v_8, v_9, v_10, v_11, v_12, .ref q_713, v_14, .ref q_715, v_16, .ref q_717, .ref q_718])), (q_713, .inl (cA_713, 301, .inl (fun j : Nat => zI (a_13 (j : Int))))), (q_1, .inl (cA_1, 1024, .inr (.inl (fun j : Nat => lI (a_1 (j : Int))))))] H := hP
                    have hD : va_D A [(q_715, .inl (cA_715, 301, .inl (fun j : Nat => zI (a_15 (j : Int))))), (q_717, .inl (cA_717, 1000, .inl (fun j : Nat => zI (a_17 (j : Int))))), (q_718, .inl (cA_718, na1, .inr (.inl (fun j : Nat => lI (w37_718 (j : Int)))))), (h0, .inr (0, [.int (zI (B1)), v_1, v_2, v_3, v_4, v_5, v_6, v_7, v_8, v_9, v_10, v_11, v_12, .ref q_713, v_14, .ref q_715, v_16, .ref q_717, .ref q_718])), (q_713, .inl (cA_713, 301, .inl (fun j : Nat => zI (a_13 (j : Int))))), (q_1, .inl (cA_1, 1024, .inr (.inl (fun j : Nat => lI (a_1 (j : Int))))))] := hD
                    have hK : va_K (dC, dI) vwP [(cA_715, .int), (cA_717, .int), (cA_718, .long), (cA_713, .int), (cA_1, .long)] s := hK
                    refine W.widen (k := 0) (n := 0) (Nat.le_of_ble_eq_true rfl) (Nat.le_of_ble_eq_true rfl) ?_
                    have hw_2003 := hw
                    obtain ⟨z_2004, rfl, hzz_2004⟩ := hw_2003
                    refine va_last (i := zI (d37_4)) hx hb hK hP hD hS 2 2 rfl rfl (zI_in (a := d37_4) (n := na1) (by omega) (by omega) (by omega)) dX0_substituteInPhis_71 (fun H locs hP hD hS => ?_)
                    have eQ : vp_updL (fun j : Nat => lI (w37_718 (j : Int))) (zI (d37_4)).toNatClampNeg (lI (z_2004)) = (fun j : Nat => lI (zup w37_718 (d37_4) (z_2004) (j : Int))) := lI_st w37_718 (e := d37_4) (v := z_2004) (by omega) (by omega)
                    rw [eQ] at hP hD
                    clear eQ
                    have ra_2005 : ∀ j : Int, ((-2147483648 ≤ zup w37_718 (d37_4) (z_2004) j ∧ zup w37_718 (d37_4) (z_2004) j ≤ 4294968319) ∨ zup w37_718 (d37_4) (z_2004) j = 1099511627776) := zup_P (P := fun x9 => ((-2147483648 ≤ x9 ∧ x9 ≤ 4294968319) ∨ x9 = 1099511627776)) jw37_718 (show ((-2147483648 ≤ (z_2004) ∧ (z_2004) ≤ 4294968319) ∨ (z_2004) = 1099511627776) by omega)
                    generalize zup w37_718 (d37_4) (z_2004) = a_2005 at hP hD ra_2005
                    have hP : va_P (dC, dI) vwP [(q_715, .inl (cA_715, 301, .inl (fun j : Nat => zI (a_15 (j : Int))))), (q_717, .inl (cA_717, 1000, .inl (fun j : Nat => zI (a_17 (j : Int))))), (q_718, .inl (cA_718, na1, .inr (.inl (fun j : Nat => lI (a_2005 (j : Int)))))), (h0, .inr (0, [.int (zI (B1)), v_1, v_2, v_3, v_4, v_5, v_6, v_7, v_8, v_9, v_10, v_11, v_12, .ref q_713, v_14, .ref q_715, v_16, .ref q_717, .ref q_718])), (q_713, .inl (cA_713, 301, .inl (fun j : Nat => zI (a_13 (j : Int))))), (q_1, .inl (cA_1, 1024, .inr (.inl (fun j : Nat => lI (a_1 (j : Int))))))] H := hP
                    have hD : va_D A [(q_715, .inl (cA_715, 301, .inl (fun j : Nat => zI (a_15 (j : Int))))), (q_717, .inl (cA_717, 1000, .inl (fun j : Nat => zI (a_17 (j : Int))))), (q_718, .inl (cA_718, na1, .inr (.inl (fun j : Nat => lI (a_2005 (j : Int)))))), (h0, .inr (0, [.int (zI (B1)), v_1, v_2, v_3, v_4, v_5, v_6, v_7, v_8, v_9, v_10, v_11, v_12, .ref q_713, v_14, .ref q_715, v_16, .ref q_717, .ref q_718])), (q_713, .inl (cA_713, 301, .inl (fun j : Nat => zI (a_13 (j : Int))))), (q_1, .inl (cA_1, 1024, .inr (.inl (fun j : Nat => lI (a_1 (j : Int))))))] := hD
                    refine lv_iinc (v := zI (d37_4 + 1)) (lv' := [(4, .int (zI (d37_4 + 1))), (0, .ref h0), (1, .ref q_1), (2, .int (zI (d2_2))), (3, .int (zI (d17_3)))]) hx hb dX0_substituteInPhis_72 hl (k := 4) rfl (zI_add (d37_4) (1)) (by decide) rfl (fun ls hl => ?_)
                    refine lv_goto (tgt := 37) hx hb dX0_substituteInPhis_75 (by decide) ?_
                    have hP := hP.sub (ws' := [(h0, .inr (0, [.int (zI (B1)), v_1, v_2, v_3, v_4, v_5, v_6, v_7, v_8, v_9, v_10, v_11, v_12, .ref q_713, v_14, .ref q_715, v_16, .ref q_717, .ref q_718])), (q_713, .inl (cA_713, 301, .inl (fun j : Nat => zI (a_13 (j : Int))))), (q_715, .inl (cA_715, 301, .inl (fun j : Nat => zI (a_15 (j : Int))))), (q_717, .inl (cA_717, 1000, .inl (fun j : Nat => zI (a_17 (j : Int))))), (q_718, .inl (cA_718, na1, .inr (.inl (fun j : Nat => lI (a_2005 (j : Int)))))), (q_1, .inl (cA_1, 1024, .inr (.inl (fun j : Nat => lI (a_1 (j : Int))))))]) [3, 4, 0, 1, 2, 5] rfl
                    have hD := hD.sub (ws' := [(h0, .inr (0, [.int (zI (B1)), v_1, v_2, v_3, v_4, v_5, v_6, v_7, v_8, v_9, v_10, v_11, v_12, .ref q_713, v_14, .ref q_715, v_16, .ref q_717, .ref q_718])), (q_713, .inl (cA_713, 301, .inl (fun j : Nat => zI (a_13 (j : Int))))), (q_715, .inl (cA_715, 301, .inl (fun j : Nat => zI (a_15 (j : Int))))), (q_717, .inl (cA_717, 1000, .inl (fun j : Nat => zI (a_17 (j : Int))))), (q_718, .inl (cA_718, na1, .inr (.inl (fun j : Nat => lI (a_2005 (j : Int)))))), (q_1, .inl (cA_1, 1024, .inr (.inl (fun j : Nat => lI (a_1 (j : Int))))))]) [3, 4, 0, 1, 2, 5] (by decide) rfl
                    exact ih37 (d37_4 + 1) a_2005 ls H _ (by omega) ra_2005 (by omega) (lv_sub hl [1, 2, 3, 4, 0] rfl) hP hD hS
              exact key37 ((((a_17 (d17_3)) + (a_13 (d2_2 + 1) - a_13 (d2_2))) - (a_17 (d17_3)) : Int).toNat + 1) (a_17 (d17_3)) w17_718 ls H _ (by omega) jw17_718 (by omega) (lv_sub hl [1, 2, 3, 4, 0] rfl) hP hD hS
        exact key17 (((a_15 (d2_2 + 1)) - (a_15 (d2_2)) : Int).toNat + 1) (a_15 (d2_2)) w2_718 ls H _ (by omega) jw2_718 (by omega) (lv_sub hl [1, 2, 3, 0] rfl) hP hD hS
  exact key2 (((B1) - (0) : Int).toNat + 1) 0 a_18 ls H _ (by omega) hR_a_18 (by omega) (lv_sub hl [1, 2, 0] rfl) hP hD hS
theorem dX0_substitute_0 : decode cX0_substitute 0 = .ok (.iconst 0, 1) := by decide +kernel
theorem dX0_substitute_1 : decode cX0_substitute 1 = .ok (.istore_n 2, 1) := by decide +kernel
theorem dX0_substitute_2 : decode cX0_substitute 2 = .ok (.iload_n 2, 1) := by decide +kernel
theorem dX0_substitute_3 : decode cX0_substitute 3 = .ok (.aload_n 0, 1) := by decide +kernel
theorem dX0_substitute_4 : decode cX0_substitute 4 = .ok (.getfield 15, 3) := by decide +kernel
theorem dX0_substitute_7 : decode cX0_substitute 7 = .ok (.if_icmp .ge 41, 3) := by decide +kernel
theorem dX0_substitute_48 : decode cX0_substitute 48 = .ok (.iconst 0, 1) := by decide +kernel
theorem dX0_substitute_49 : decode cX0_substitute 49 = .ok (.istore_n 2, 1) := by decide +kernel
theorem dX0_substitute_50 : decode cX0_substitute 50 = .ok (.iload_n 2, 1) := by decide +kernel
theorem dX0_substitute_51 : decode cX0_substitute 51 = .ok (.aload_n 0, 1) := by decide +kernel
theorem dX0_substitute_52 : decode cX0_substitute 52 = .ok (.getfield 9, 3) := by decide +kernel
theorem dX0_substitute_55 : decode cX0_substitute 55 = .ok (.if_icmp .ge 25, 3) := by decide +kernel
theorem dX0_substitute_80 : decode cX0_substitute 80 = .ok (.aload_n 0, 1) := by decide +kernel
theorem dX0_substitute_81 : decode cX0_substitute 81 = .ok (.aload_n 1, 1) := by decide +kernel
theorem dX0_substitute_82 : decode cX0_substitute 82 = .ok (.invokevirtual 119, 3) := by decide +kernel
theorem dX0_substitute_85 : decode cX0_substitute 85 = .ok (.return_, 1) := by decide +kernel
theorem dX0_substitute_58 : decode cX0_substitute 58 = .ok (.aload_n 0, 1) := by decide +kernel
theorem dX0_substitute_59 : decode cX0_substitute 59 = .ok (.getfield 44, 3) := by decide +kernel
theorem dX0_substitute_62 : decode cX0_substitute 62 = .ok (.iload_n 2, 1) := by decide +kernel
theorem dX0_substitute_63 : decode cX0_substitute 63 = .ok (.aload_n 0, 1) := by decide +kernel
theorem dX0_substitute_64 : decode cX0_substitute 64 = .ok (.getfield 44, 3) := by decide +kernel
theorem dX0_substitute_67 : decode cX0_substitute 67 = .ok (.iload_n 2, 1) := by decide +kernel
theorem dX0_substitute_68 : decode cX0_substitute 68 = .ok (.laload, 1) := by decide +kernel
theorem dX0_substitute_69 : decode cX0_substitute 69 = .ok (.aload_n 1, 1) := by decide +kernel
theorem dX0_substitute_70 : decode cX0_substitute 70 = .ok (.invokestatic 115, 3) := by decide +kernel
theorem dX0_substitute_73 : decode cX0_substitute 73 = .ok (.lastore, 1) := by decide +kernel
theorem dX0_substitute_74 : decode cX0_substitute 74 = .ok (.iinc 2 1, 3) := by decide +kernel
theorem dX0_substitute_77 : decode cX0_substitute 77 = .ok (.goto (-27), 3) := by decide +kernel
theorem dX0_substitute_10 : decode cX0_substitute 10 = .ok (.aload_n 0, 1) := by decide +kernel
theorem dX0_substitute_11 : decode cX0_substitute 11 = .ok (.getfield 34, 3) := by decide +kernel
theorem dX0_substitute_14 : decode cX0_substitute 14 = .ok (.iload_n 2, 1) := by decide +kernel
theorem dX0_substitute_15 : decode cX0_substitute 15 = .ok (.aload_n 0, 1) := by decide +kernel
theorem dX0_substitute_16 : decode cX0_substitute 16 = .ok (.getfield 34, 3) := by decide +kernel
theorem dX0_substitute_19 : decode cX0_substitute 19 = .ok (.iload_n 2, 1) := by decide +kernel
theorem dX0_substitute_20 : decode cX0_substitute 20 = .ok (.laload, 1) := by decide +kernel
theorem dX0_substitute_21 : decode cX0_substitute 21 = .ok (.aload_n 1, 1) := by decide +kernel
theorem dX0_substitute_22 : decode cX0_substitute 22 = .ok (.invokestatic 115, 3) := by decide +kernel
theorem dX0_substitute_25 : decode cX0_substitute 25 = .ok (.lastore, 1) := by decide +kernel
theorem dX0_substitute_26 : decode cX0_substitute 26 = .ok (.aload_n 0, 1) := by decide +kernel
theorem dX0_substitute_27 : decode cX0_substitute 27 = .ok (.getfield 38, 3) := by decide +kernel
theorem dX0_substitute_30 : decode cX0_substitute 30 = .ok (.iload_n 2, 1) := by decide +kernel
theorem dX0_substitute_31 : decode cX0_substitute 31 = .ok (.aload_n 0, 1) := by decide +kernel
theorem dX0_substitute_32 : decode cX0_substitute 32 = .ok (.getfield 38, 3) := by decide +kernel
theorem dX0_substitute_35 : decode cX0_substitute 35 = .ok (.iload_n 2, 1) := by decide +kernel
theorem dX0_substitute_36 : decode cX0_substitute 36 = .ok (.laload, 1) := by decide +kernel
theorem dX0_substitute_37 : decode cX0_substitute 37 = .ok (.aload_n 1, 1) := by decide +kernel
theorem dX0_substitute_38 : decode cX0_substitute 38 = .ok (.invokestatic 115, 3) := by decide +kernel
theorem dX0_substitute_41 : decode cX0_substitute 41 = .ok (.lastore, 1) := by decide +kernel
theorem dX0_substitute_42 : decode cX0_substitute 42 = .ok (.iinc 2 1, 3) := by decide +kernel
theorem dX0_substitute_45 : decode cX0_substitute 45 = .ok (.goto (-43), 3) := by decide +kernel
def o_X0_substitute : List Cond := [.fieldLink RX0 15 "SsaForge$Code" "rows" "I", .fieldLink RX0 9 "SsaForge$Code" "blocks" "I", .methodLink RX0 119 yX0_substituteInPhis, .instanceMethod yX0_substituteInPhis, .selects RX0 yX0_substituteInPhis yX0_substituteInPhis, .initialized RX0, .fieldLink RX0 44 "SsaForge$Code" "endUse" "[J", .initialized RX11, .static yX11_resolve, .fieldLink RX0 34 "SsaForge$Code" "left" "[J", .fieldLink RX0 38 "SsaForge$Code" "right" "[J"]
def v_X0_substitute : List Cond := .code yX0_substitute cX0_substitute 3 none :: (o_X0_substitute ++ (wsX00 ++ (v_X0_substituteInPhis ++ (v_X11_resolve ++ []))))
theorem mow_X0_substitute : ∀ w ∈ o_X0_substitute, w ∈ v_X0_substitute := fun _ h => List.mem_cons_of_mem _ (List.mem_append_left _ h)
theorem mem_X0_substitute_0 : ∀ w ∈ wsX00, w ∈ v_X0_substitute := fun _ h => List.mem_cons_of_mem _ (List.mem_append_right _ (List.mem_append_left _ h))
theorem mem_X0_substitute_1 : ∀ w ∈ v_X0_substituteInPhis, w ∈ v_X0_substitute := fun _ h => List.mem_cons_of_mem _ (List.mem_append_right _ (List.mem_append_right _ (List.mem_append_left _ h)))
theorem mem_X0_substitute_2 : ∀ w ∈ v_X11_resolve, w ∈ v_X0_substitute := fun _ h => List.mem_cons_of_mem _ (List.mem_append_right _ (List.mem_append_right _ (List.mem_append_right _ (List.mem_append_left _ h))))
set_option maxRecDepth 20000 in
theorem gw_X0_substitute : v_X0_substitute.all goodWord = true := by decide +kernel
set_option maxRecDepth 20000 in
theorem g_X0_substitute_X0_substituteInPhis : GoodIn v_X0_substitute (wsV RX0 119 RX0 yX0_substituteInPhis v_X0_substituteInPhis) := goodIn_app (goodIn_sub (fun w h => mow_X0_substitute w (by revert w h; decide +kernel)) (by decide +kernel)) (goodIn_sub mem_X0_substitute_1 gw_X0_substituteInPhis)
set_option maxHeartbeats 4000000 in
set_option maxRecDepth 100000 in
theorem c_X0_substitute (l : Launch) (dC : Nat → ClassId) (dI : Nat → Nat → Nat) (h0 : Nat) (B1 : Int) (R1 : Int) (v_2 : Value) (v_3 : Value) (v_4 : Value) (v_5 : Value) (v_6 : Value) (q_707 : Nat) (cA_707 : ClassId) (a_7 : Int → Int) (q_708 : Nat) (cA_708 : ClassId) (a_8 : Int → Int) (v_9 : Value) (q_710 : Nat) (cA_710 : ClassId) (a_10 : Int → Int) (v_11 : Value) (v_12 : Value) (q_713 : Nat) (cA_713 : ClassId) (a_13 : Int → Int) (v_14 : Value) (q_715 : Nat) (cA_715 : ClassId) (a_15 : Int → Int) (v_16 : Value) (q_717 : Nat) (cA_717 : ClassId) (a_17 : Int → Int) (q_718 : Nat) (cA_718 : ClassId) (na1 : Nat) (a_18 : Int → Int) (q_1 : Nat) (cA_1 : ClassId) (a_1 : Int → Int) (hNB1 : 0 ≤ B1 ∧ B1 ≤ 300) (hNR1 : 0 ≤ R1 ∧ R1 ≤ 2000) (hR_a_7 : ∀ j : Int, ((-2147483648 ≤ a_7 j ∧ a_7 j ≤ 4294968319) ∨ a_7 j = 1099511627776)) (hR_a_8 : ∀ j : Int, ((-2147483648 ≤ a_8 j ∧ a_8 j ≤ 4294968319) ∨ a_8 j = 1099511627776)) (hR_a_10 : ∀ j : Int, ((-2147483648 ≤ a_10 j ∧ a_10 j ≤ 4294968319) ∨ a_10 j = 1099511627776)) (hR_a_13 : ∀ j : Int, 0 ≤ a_13 j ∧ a_13 j ≤ 600) (hR_a_15 : ∀ j : Int, 0 ≤ a_15 j ∧ a_15 j ≤ 1000) (hR_a_17 : ∀ j : Int, 0 ≤ a_17 j ∧ a_17 j ≤ 60000) (hNna1 : na1 ≤ 60000) (hR_a_18 : ∀ j : Int, ((-2147483648 ≤ a_18 j ∧ a_18 j ≤ 4294968319) ∨ a_18 j = 1099511627776)) (hR_a_1 : ∀ j : Int, ((-2147483648 ≤ a_1 j ∧ a_1 j ≤ 4294968319) ∨ a_1 j = 1099511627776)) (hX_A : ∀ b i : Int, 0 ≤ b → b < B1 → a_15 b ≤ i → i < a_15 (b + 1) → a_17 i + (a_13 (b + 1) - a_13 b) ≤ na1) (sz : Nat) : Met l yX0_substitute v_X0_substitute ({ frames := 3, cells := 0, slots := 0, locals := 72 }) (va_Pc [.ref h0, .ref q_1] (fun U => U.heap.size = sz ∧ va_P (dC, dI) vwP [(h0, .inr (0, [.int (zI (B1)), .int (zI (R1)), v_2, v_3, v_4, v_5, v_6, .ref q_707, .ref q_708, v_9, .ref q_710, v_11, v_12, .ref q_713, v_14, .ref q_715, v_16, .ref q_717, .ref q_718])), (q_707, .inl (cA_707, 2000, .inr (.inl (fun j : Nat => lI (a_7 (j : Int)))))), (q_708, .inl (cA_708, 2000, .inr (.inl (fun j : Nat => lI (a_8 (j : Int)))))), (q_710, .inl (cA_710, 300, .inr (.inl (fun j : Nat => lI (a_10 (j : Int)))))), (q_713, .inl (cA_713, 301, .inl (fun j : Nat => zI (a_13 (j : Int))))), (q_715, .inl (cA_715, 301, .inl (fun j : Nat => zI (a_15 (j : Int))))), (q_717, .inl (cA_717, 1000, .inl (fun j : Nat => zI (a_17 (j : Int))))), (q_718, .inl (cA_718, na1, .inr (.inl (fun j : Nat => lI (a_18 (j : Int)))))), (q_1, .inl (cA_1, 1024, .inr (.inl (fun j : Nat => lI (a_1 (j : Int))))))] U.heap ∧ va_K (dC, dI) vwP [(cA_707, .long), (cA_708, .long), (cA_710, .long), (cA_713, .int), (cA_715, .int), (cA_717, .int), (cA_718, .long), (cA_1, .long)] U ∧ va_D (fun _ => True) [(h0, .inr (0, [.int (zI (B1)), .int (zI (R1)), v_2, v_3, v_4, v_5, v_6, .ref q_707, .ref q_708, v_9, .ref q_710, v_11, v_12, .ref q_713, v_14, .ref q_715, v_16, .ref q_717, .ref q_718])), (q_707, .inl (cA_707, 2000, .inr (.inl (fun j : Nat => lI (a_7 (j : Int)))))), (q_708, .inl (cA_708, 2000, .inr (.inl (fun j : Nat => lI (a_8 (j : Int)))))), (q_710, .inl (cA_710, 300, .inr (.inl (fun j : Nat => lI (a_10 (j : Int)))))), (q_713, .inl (cA_713, 301, .inl (fun j : Nat => zI (a_13 (j : Int))))), (q_715, .inl (cA_715, 301, .inl (fun j : Nat => zI (a_15 (j : Int))))), (q_717, .inl (cA_717, 1000, .inl (fun j : Nat => zI (a_17 (j : Int))))), (q_718, .inl (cA_718, na1, .inr (.inl (fun j : Nat => lI (a_18 (j : Int)))))), (q_1, .inl (cA_1, 1024, .inr (.inl (fun j : Nat => lI (a_1 (j : Int))))))] ∧ va_Nw (.methodLinkNest RX0 115 yX11_resolve "SsaForge") U)) (va_Qv (fun _ : Unit => True) (fun (_ : Unit) (t : State) => ∃ (a0_9 : Int → Int) (a1_9 : Int → Int) (a2_9 : Int → Int) (a3_9 : Int → Int), ((∀ j : Int, ((-2147483648 ≤ a0_9 j ∧ a0_9 j ≤ 4294968319) ∨ a0_9 j = 1099511627776)) ∧ (∀ j : Int, ((-2147483648 ≤ a1_9 j ∧ a1_9 j ≤ 4294968319) ∨ a1_9 j = 1099511627776)) ∧ (∀ j : Int, ((-2147483648 ≤ a2_9 j ∧ a2_9 j ≤ 4294968319) ∨ a2_9 j = 1099511627776)) ∧ (∀ j : Int, ((-2147483648 ≤ a3_9 j ∧ a3_9 j ≤ 4294968319) ∨ a3_9 j = 1099511627776))) ∧ va_P (dC, dI) vwP [(h0, .inr (0, [.int (zI (B1)), .int (zI (R1)), v_2, v_3, v_4, v_5, v_6, .ref q_707, .ref q_708, v_9, .ref q_710, v_11, v_12, .ref q_713, v_14, .ref q_715, v_16, .ref q_717, .ref q_718])), (q_707, .inl (cA_707, 2000, .inr (.inl (fun j : Nat => lI (a0_9 (j : Int)))))), (q_708, .inl (cA_708, 2000, .inr (.inl (fun j : Nat => lI (a1_9 (j : Int)))))), (q_710, .inl (cA_710, 300, .inr (.inl (fun j : Nat => lI (a2_9 (j : Int)))))), (q_713, .inl (cA_713, 301, .inl (fun j : Nat => zI (a_13 (j : Int))))), (q_715, .inl (cA_715, 301, .inl (fun j : Nat => zI (a_15 (j : Int))))), (q_717, .inl (cA_717, 1000, .inl (fun j : Nat => zI (a_17 (j : Int))))), (q_718, .inl (cA_718, na1, .inr (.inl (fun j : Nat => lI (a3_9 (j : Int)))))), (q_1, .inl (cA_1, 1024, .inr (.inl (fun j : Nat => lI (a_1 (j : Int))))))] t.heap ∧ va_K (dC, dI) vwP [(cA_707, .long), (cA_708, .long), (cA_710, .long), (cA_713, .int), (cA_715, .int), (cA_717, .int), (cA_718, .long), (cA_1, .long)] t ∧ va_D (va_A [(h0, .inr (0, [.int (zI (B1)), .int (zI (R1)), v_2, v_3, v_4, v_5, v_6, .ref q_707, .ref q_708, v_9, .ref q_710, v_11, v_12, .ref q_713, v_14, .ref q_715, v_16, .ref q_717, .ref q_718])), (q_707, .inl (cA_707, 2000, .inr (.inl (fun j : Nat => lI (a_7 (j : Int)))))), (q_708, .inl (cA_708, 2000, .inr (.inl (fun j : Nat => lI (a_8 (j : Int)))))), (q_710, .inl (cA_710, 300, .inr (.inl (fun j : Nat => lI (a_10 (j : Int)))))), (q_713, .inl (cA_713, 301, .inl (fun j : Nat => zI (a_13 (j : Int))))), (q_715, .inl (cA_715, 301, .inl (fun j : Nat => zI (a_15 (j : Int))))), (q_717, .inl (cA_717, 1000, .inl (fun j : Nat => zI (a_17 (j : Int))))), (q_718, .inl (cA_718, na1, .inr (.inl (fun j : Nat => lI (a_18 (j : Int)))))), (q_1, .inl (cA_1, 1024, .inr (.inl (fun j : Nat => lI (a_1 (j : Int))))))] sz) [(h0, .inr (0, [.int (zI (B1)), .int (zI (R1)), v_2, v_3, v_4, v_5, v_6, .ref q_707, .ref q_708, v_9, .ref q_710, v_11, v_12, .ref q_713, v_14, .ref q_715, v_16, .ref q_717, .ref q_718])), (q_707, .inl (cA_707, 2000, .inr (.inl (fun j : Nat => lI (a0_9 (j : Int)))))), (q_708, .inl (cA_708, 2000, .inr (.inl (fun j : Nat => lI (a1_9 (j : Int)))))), (q_710, .inl (cA_710, 300, .inr (.inl (fun j : Nat => lI (a2_9 (j : Int)))))), (q_713, .inl (cA_713, 301, .inl (fun j : Nat => zI (a_13 (j : Int))))), (q_715, .inl (cA_715, 301, .inl (fun j : Nat => zI (a_15 (j : Int))))), (q_717, .inl (cA_717, 1000, .inl (fun j : Nat => zI (a_17 (j : Int))))), (q_718, .inl (cA_718, na1, .inr (.inl (fun j : Nat => lI (a3_9 (j : Int)))))), (q_1, .inl (cA_1, 1024, .inr (.inl (fun j : Nat => lI (a_1 (j : Int))))))]) (va_A [(h0, .inr (0, [.int (zI (B1)), .int (zI (R1)), v_2, v_3, v_4, v_5, v_6, .ref q_707, .ref q_708, v_9, .ref q_710, v_11, v_12, .ref q_713, v_14, .ref q_715, v_16, .ref q_717, .ref q_718])), (q_707, .inl (cA_707, 2000, .inr (.inl (fun j : Nat => lI (a_7 (j : Int)))))), (q_708, .inl (cA_708, 2000, .inr (.inl (fun j : Nat => lI (a_8 (j : Int)))))), (q_710, .inl (cA_710, 300, .inr (.inl (fun j : Nat => lI (a_10 (j : Int)))))), (q_713, .inl (cA_713, 301, .inl (fun j : Nat => zI (a_13 (j : Int))))), (q_715, .inl (cA_715, 301, .inl (fun j : Nat => zI (a_15 (j : Int))))), (q_717, .inl (cA_717, 1000, .inl (fun j : Nat => zI (a_17 (j : Int))))), (q_718, .inl (cA_718, na1, .inr (.inl (fun j : Nat => lI (a_18 (j : Int)))))), (q_1, .inl (cA_1, 1024, .inr (.inl (fun j : Nat => lI (a_1 (j : Int))))))] sz)) 0 0 (va_A [(h0, .inr (0, [.int (zI (B1)), .int (zI (R1)), v_2, v_3, v_4, v_5, v_6, .ref q_707, .ref q_708, v_9, .ref q_710, v_11, v_12, .ref q_713, v_14, .ref q_715, v_16, .ref q_717, .ref q_718])), (q_707, .inl (cA_707, 2000, .inr (.inl (fun j : Nat => lI (a_7 (j : Int)))))), (q_708, .inl (cA_708, 2000, .inr (.inl (fun j : Nat => lI (a_8 (j : Int)))))), (q_710, .inl (cA_710, 300, .inr (.inl (fun j : Nat => lI (a_10 (j : Int)))))), (q_713, .inl (cA_713, 301, .inl (fun j : Nat => zI (a_13 (j : Int))))), (q_715, .inl (cA_715, 301, .inl (fun j : Nat => zI (a_15 (j : Int))))), (q_717, .inl (cA_717, 1000, .inl (fun j : Nat => zI (a_17 (j : Int))))), (q_718, .inl (cA_718, na1, .inr (.inl (fun j : Nat => lI (a_18 (j : Int)))))), (q_1, .inl (cA_1, 1024, .inr (.inl (fun j : Nat => lI (a_1 (j : Int))))))] sz) := by
  refine Met.ofW (cc := cX0_substitute) (maxL := 3) (ret := none) (by decide) rfl ?_
  intro p e s m args below meth c s₁ B hml hv
  obtain ⟨rfl, hsz, hP, hK, hD0, hp0⟩ := hv
  have hx := B.exec
  have hb := B.bytes
  have hr := B.returns
  have hts := atoms_spec (ws := v_X0_substitute) B.pre
  have hown : s.vm.findClass RX0 = some m.cls := findClass_of_methodNamed B.named
  have hlocks := B.notSynchronized
  have ow : ∀ {k : Nat} {w : Cond}, o_X0_substitute[k]? = some w → w.before ([.ref h0, .ref q_1] : List Value).toArray s = true := fun h => hts _ (mow_X0_substitute _ (List.mem_of_getElem? h))
  subst hsz
  have hD := hD0.self (sz := s.heap.size)
  generalize hAe : va_A [(h0, .inr (0, [.int (zI (B1)), .int (zI (R1)), v_2, v_3, v_4, v_5, v_6, .ref q_707, .ref q_708, v_9, .ref q_710, v_11, v_12, .ref q_713, v_14, .ref q_715, v_16, .ref q_717, .ref q_718])), (q_707, .inl (cA_707, 2000, .inr (.inl (fun j : Nat => lI (a_7 (j : Int)))))), (q_708, .inl (cA_708, 2000, .inr (.inl (fun j : Nat => lI (a_8 (j : Int)))))), (q_710, .inl (cA_710, 300, .inr (.inl (fun j : Nat => lI (a_10 (j : Int)))))), (q_713, .inl (cA_713, 301, .inl (fun j : Nat => zI (a_13 (j : Int))))), (q_715, .inl (cA_715, 301, .inl (fun j : Nat => zI (a_15 (j : Int))))), (q_717, .inl (cA_717, 1000, .inl (fun j : Nat => zI (a_17 (j : Int))))), (q_718, .inl (cA_718, na1, .inr (.inl (fun j : Nat => lI (a_18 (j : Int)))))), (q_1, .inl (cA_1, 1024, .inr (.inl (fun j : Nat => lI (a_1 (j : Int))))))] s.heap.size = A at hD ⊢
  have hA : ∀ q : Nat, s.heap.size ≤ q → A q := fun q h => by rw [← hAe]; exact Or.inr h
  have hS : va_S A s.heap s.heap [] := va_S.rf
  have hP : va_P (dC, dI) vwP [(h0, .inr (0, [.int (zI (B1)), .int (zI (R1)), v_2, v_3, v_4, v_5, v_6, .ref q_707, .ref q_708, v_9, .ref q_710, v_11, v_12, .ref q_713, v_14, .ref q_715, v_16, .ref q_717, .ref q_718])), (q_707, .inl (cA_707, 2000, .inr (.inl (fun j : Nat => lI (a_7 (j : Int)))))), (q_708, .inl (cA_708, 2000, .inr (.inl (fun j : Nat => lI (a_8 (j : Int)))))), (q_710, .inl (cA_710, 300, .inr (.inl (fun j : Nat => lI (a_10 (j : Int)))))), (q_713, .inl (cA_713, 301, .inl (fun j : Nat => zI (a_13 (j : Int))))), (q_715, .inl (cA_715, 301, .inl (fun j : Nat => zI (a_15 (j : Int))))), (q_717, .inl (cA_717, 1000, .inl (fun j : Nat => zI (a_17 (j : Int))))), (q_718, .inl (cA_718, na1, .inr (.inl (fun j : Nat => lI (a_18 (j : Int)))))), (q_1, .inl (cA_1, 1024, .inr (.inl (fun j : Nat => lI (a_1 (j : Int))))))] s.heap := hP
  have hl := lv_entry ([.ref h0, .ref q_1]) (n := 3) (Nat.le_of_ble_eq_true rfl)
  rw [lg_entry_eq]
  generalize (lg_sl ([.ref h0, .ref q_1]) ++ List.replicate (3 - (lg_sl ([.ref h0, .ref q_1])).length) Slot.unset).toArray = ls at hl ⊢
  have hl : lv_has ls 3 [(0, .ref h0), (1, .ref q_1)] := hl
  obtain ⟨H, hH⟩ : ∃ H, H = s.heap := ⟨_, rfl⟩
  rw [← hH] at hP
  have hS : va_S A s.heap H [] := by rw [hH]; exact hS
  rw [← hH]
  refine zW_cap (fun Q hQ => ?_)
  refine lv_iconst (v := 0) hx hb dX0_substitute_0 (by decide) ?_
  refine lv_istore_n (lv' := [(2, .int 0), (0, .ref h0), (1, .ref q_1)]) hx hb dX0_substitute_1 rfl hl (by decide) rfl (fun ls hl => ?_)
  have key2 : ∀ n2 : Nat, ∀ (d2_2 : Int) (w2_707 : Int → Int) (w2_708 : Int → Int) (ls : Array Slot) (H : Heap) (locs : List Loc), (0 ≤ d2_2 ∧ d2_2 ≤ 1000000000) → (∀ j : Int, ((-2147483648 ≤ w2_707 j ∧ w2_707 j ≤ 4294968319) ∨ w2_707 j = 1099511627776)) → (∀ j : Int, ((-2147483648 ≤ w2_708 j ∧ w2_708 j ≤ 4294968319) ∨ w2_708 j = 1099511627776)) → (((R1) - (d2_2) : Int).toNat) < n2 → lv_has ls 3 [(0, .ref h0), (1, .ref q_1), (2, .int (zI (d2_2)))] → va_P (dC, dI) vwP [(h0, .inr (0, [.int (zI (B1)), .int (zI (R1)), v_2, v_3, v_4, v_5, v_6, .ref q_707, .ref q_708, v_9, .ref q_710, v_11, v_12, .ref q_713, v_14, .ref q_715, v_16, .ref q_717, .ref q_718])), (q_707, .inl (cA_707, 2000, .inr (.inl (fun j : Nat => lI (w2_707 (j : Int)))))), (q_708, .inl (cA_708, 2000, .inr (.inl (fun j : Nat => lI (w2_708 (j : Int)))))), (q_710, .inl (cA_710, 300, .inr (.inl (fun j : Nat => lI (a_10 (j : Int)))))), (q_713, .inl (cA_713, 301, .inl (fun j : Nat => zI (a_13 (j : Int))))), (q_715, .inl (cA_715, 301, .inl (fun j : Nat => zI (a_15 (j : Int))))), (q_717, .inl (cA_717, 1000, .inl (fun j : Nat => zI (a_17 (j : Int))))), (q_718, .inl (cA_718, na1, .inr (.inl (fun j : Nat => lI (a_18 (j : Int)))))), (q_1, .inl (cA_1, 1024, .inr (.inl (fun j : Nat => lI (a_1 (j : Int))))))] H → va_D A [(h0, .inr (0, [.int (zI (B1)), .int (zI (R1)), v_2, v_3, v_4, v_5, v_6, .ref q_707, .ref q_708, v_9, .ref q_710, v_11, v_12, .ref q_713, v_14, .ref q_715, v_16, .ref q_717, .ref q_718])), (q_707, .inl (cA_707, 2000, .inr (.inl (fun j : Nat => lI (w2_707 (j : Int)))))), (q_708, .inl (cA_708, 2000, .inr (.inl (fun j : Nat => lI (w2_708 (j : Int)))))), (q_710, .inl (cA_710, 300, .inr (.inl (fun j : Nat => lI (a_10 (j : Int)))))), (q_713, .inl (cA_713, 301, .inl (fun j : Nat => zI (a_13 (j : Int))))), (q_715, .inl (cA_715, 301, .inl (fun j : Nat => zI (a_15 (j : Int))))), (q_717, .inl (cA_717, 1000, .inl (fun j : Nat => zI (a_17 (j : Int))))), (q_718, .inl (cA_718, na1, .inr (.inl (fun j : Nat => lI (a_18 (j : Int)))))), (q_1, .inl (cA_1, 1024, .inr (.inl (fun j : Nat => lI (a_1 (j : Int))))))] → va_S A s.heap H locs → W p l e (headSpec v_X0_substitute ({ frames := 3, cells := 0, slots := 0, locals := 72 })).room s m ([.ref h0, .ref q_1] : List Value).toArray below meth c H locs 0 0 Q (F0 m 2 ls []) := by
    intro n2
    induction n2 with
    | zero => intro d2_2 w2_707 w2_708 ls H locs jd2_2 jw2_707 jw2_708 hm2; exact absurd hm2 (by omega)
    | succ n2 ih2 =>
      intro d2_2 w2_707 w2_708 ls H locs jd2_2 jw2_707 jw2_708 hm2 hl hP hD hS
      refine lv_iload_n hx hb dX0_substitute_2 rfl (lv_at hl 2 rfl) ?_
      refine lv_aload_n hx hb dX0_substitute_3 rfl (lv_at hl 0 rfl) ?_
      refine va_get (D := (dC, dI)) (ci := 0) (v := .int (zI (R1))) (C := RX0) (T := TX0) (N := 19) hx hb hts mem_X0_substitute_0 hown hK hP 0 rfl rfl 1 (by decide) (ow (k := 0) rfl) (fun _ h9 => h9) rfl dX0_substitute_4 ?_
      refine lv_icmp_ge (tgt := 48) hx hb dX0_substitute_7 (by decide) (fun b7 => ?_) (fun b7 => ?_)
      · have yb7 : (R1 : Int) ≤ (d2_2 : Int) := (zI_le (a := R1) (b := d2_2) (by omega) (by omega) (by omega) (by omega)).mp b7
        refine lv_iconst (v := 0) hx hb dX0_substitute_48 (by decide) ?_
        refine lv_istore_n (lv' := [(2, .int 0), (0, .ref h0), (1, .ref q_1)]) hx hb dX0_substitute_49 rfl hl (by decide) rfl (fun ls hl => ?_)
        have key50 : ∀ n50 : Nat, ∀ (d50_2 : Int) (w50_710 : Int → Int) (ls : Array Slot) (H : Heap) (locs : List Loc), (0 ≤ d50_2 ∧ d50_2 ≤ 1000000000) → (∀ j : Int, ((-2147483648 ≤ w50_710 j ∧ w50_710 j ≤ 4294968319) ∨ w50_710 j = 1099511627776)) → (((B1) - (d50_2) : Int).toNat) < n50 → lv_has ls 3 [(0, .ref h0), (1, .ref q_1), (2, .int (zI (d50_2)))] → va_P (dC, dI) vwP [(h0, .inr (0, [.int (zI (B1)), .int (zI (R1)), v_2, v_3, v_4, v_5, v_6, .ref q_707, .ref q_708, v_9, .ref q_710, v_11, v_12, .ref q_713, v_14, .ref q_715, v_16, .ref q_717, .ref q_718])), (q_707, .inl (cA_707, 2000, .inr (.inl (fun j : Nat => lI (w2_707 (j : Int)))))), (q_708, .inl (cA_708, 2000, .inr (.inl (fun j : Nat => lI (w2_708 (j : Int)))))), (q_710, .inl (cA_710, 300, .inr (.inl (fun j : Nat => lI (w50_710 (j : Int)))))), (q_713, .inl (cA_713, 301, .inl (fun j : Nat => zI (a_13 (j : Int))))), (q_715, .inl (cA_715, 301, .inl (fun j : Nat => zI (a_15 (j : Int))))), (q_717, .inl (cA_717, 1000, .inl (fun j : Nat => zI (a_17 (j : Int))))), (q_718, .inl (cA_718, na1, .inr (.inl (fun j : Nat => lI (a_18 (j : Int)))))), (q_1, .inl (cA_1, 1024, .inr (.inl (fun j : Nat => lI (a_1 (j : Int))))))] H → va_D A [(h0, .inr (0, [.int (zI (B1)), .int (zI (R1)), v_2, v_3, v_4, v_5, v_6, .ref q_707, .ref q_708, v_9, .ref q_710, v_11, v_12, .ref q_713, v_14, .ref q_715, v_16, .ref q_717, .ref q_718])), (q_707, .inl (cA_707, 2000, .inr (.inl (fun j : Nat => lI (w2_707 (j : Int)))))), (q_708, .inl (cA_708, 2000, .inr (.inl (fun j : Nat => lI (w2_708 (j : Int)))))), (q_710, .inl (cA_710, 300, .inr (.inl (fun j : Nat => lI (w50_710 (j : Int)))))), (q_713, .inl (cA_713, 301, .inl (fun j : Nat => zI (a_13 (j : Int))))), (q_715, .inl (cA_715, 301, .inl (fun j : Nat => zI (a_15 (j : Int))))), (q_717, .inl (cA_717, 1000, .inl (fun j : Nat => zI (a_17 (j : Int))))), (q_718, .inl (cA_718, na1, .inr (.inl (fun j : Nat => lI (a_18 (j : Int)))))), (q_1, .inl (cA_1, 1024, .inr (.inl (fun j : Nat => lI (a_1 (j : Int))))))] → va_S A s.heap H locs → W p l e (headSpec v_X0_substitute ({ frames := 3, cells := 0, slots := 0, locals := 72 })).room s m ([.ref h0, .ref q_1] : List Value).toArray below meth c H locs 0 0 Q (F0 m 50 ls []) := by
          intro n50
          induction n50 with
          | zero => intro d50_2 w50_710 ls H locs jd50_2 jw50_710 hm50; exact absurd hm50 (by omega)
          | succ n50 ih50 =>
            intro d50_2 w50_710 ls H locs jd50_2 jw50_710 hm50 hl hP hD hS
            refine lv_iload_n hx hb dX0_substitute_50 rfl (lv_at hl 2 rfl) ?_
            refine lv_aload_n hx hb dX0_substitute_51 rfl (lv_at hl 0 rfl) ?_
            refine va_get (D := (dC, dI)) (ci := 0) (v := .int (zI (B1))) (C := RX0) (T := TX0) (N := 19) hx hb hts mem_X0_substitute_0 hown hK hP 0 rfl rfl 0 (by decide) (ow (k := 1) rfl) (fun _ h9 => h9) rfl dX0_substitute_52 ?_
            refine lv_icmp_ge (tgt := 80) hx hb dX0_substitute_55 (by decide) (fun b55 => ?_) (fun b55 => ?_)
            · have yb55 : (B1 : Int) ≤ (d50_2 : Int) := (zI_le (a := B1) (b := d50_2) (by omega) (by omega) (by omega) (by omega)).mp b55
              refine lv_aload_n hx hb dX0_substitute_80 rfl (lv_at hl 0 rfl) ?_
              refine lv_aload_n hx hb dX0_substitute_81 rfl (lv_at hl 1 rfl) ?_
              have hPc := hP.sub (ws' := [(h0, .inr (0, [.int (zI (B1)), .int (zI (R1)), v_2, v_3, v_4, v_5, v_6, .ref q_707, .ref q_708, v_9, .ref q_710, v_11, v_12, .ref q_713, v_14, .ref q_715, v_16, .ref q_717, .ref q_718])), (q_713, .inl (cA_713, 301, .inl (fun j : Nat => zI (a_13 (j : Int))))), (q_715, .inl (cA_715, 301, .inl (fun j : Nat => zI (a_15 (j : Int))))), (q_717, .inl (cA_717, 1000, .inl (fun j : Nat => zI (a_17 (j : Int))))), (q_718, .inl (cA_718, na1, .inr (.inl (fun j : Nat => lI (a_18 (j : Int)))))), (q_1, .inl (cA_1, 1024, .inr (.inl (fun j : Nat => lI (a_1 (j : Int))))))]) [0, 4, 5, 6, 7, 8] rfl
              have hDc := hD.sub (ws' := [(h0, .inr (0, [.int (zI (B1)), .int (zI (R1)), v_2, v_3, v_4, v_5, v_6, .ref q_707, .ref q_708, v_9, .ref q_710, v_11, v_12, .ref q_713, v_14, .ref q_715, v_16, .ref q_717, .ref q_718])), (q_713, .inl (cA_713, 301, .inl (fun j : Nat => zI (a_13 (j : Int))))), (q_715, .inl (cA_715, 301, .inl (fun j : Nat => zI (a_15 (j : Int))))), (q_717, .inl (cA_717, 1000, .inl (fun j : Nat => zI (a_17 (j : Int))))), (q_718, .inl (cA_718, na1, .inr (.inl (fun j : Nat => lI (a_18 (j : Int)))))), (q_1, .inl (cA_1, 1024, .inr (.inl (fun j : Nat => lI (a_1 (j : Int))))))]) [0, 4, 5, 6, 7, 8] (by decide) rfl
              have hKc := hK.sub (tys' := [(cA_713, .int), (cA_715, .int), (cA_717, .int), (cA_718, .long), (cA_1, .long)]) [3, 4, 5, 6, 7] rfl
              have hFc := va_free (wc := [(h0, .inr (0, [.int (zI (B1)), .int (zI (R1)), v_2, v_3, v_4, v_5, v_6, .ref q_707, .ref q_708, v_9, .ref q_710, v_11, v_12, .ref q_713, v_14, .ref q_715, v_16, .ref q_717, .ref q_718])), (q_713, .inl (cA_713, 301, .inl (fun j : Nat => zI (a_13 (j : Int))))), (q_715, .inl (cA_715, 301, .inl (fun j : Nat => zI (a_15 (j : Int))))), (q_717, .inl (cA_717, 1000, .inl (fun j : Nat => zI (a_17 (j : Int))))), (q_718, .inl (cA_718, na1, .inr (.inl (fun j : Nat => lI (a_18 (j : Int)))))), (q_1, .inl (cA_1, 1024, .inr (.inl (fun j : Nat => lI (a_1 (j : Int))))))]) hD hS hA [0, 4, 5, 6, 7, 8] rfl
              refine va_callv (va_runV (As := [.ref q_1]) (rest := []) ⟨hx, hb, hml, hown, hts⟩ (c_X0_substituteInPhis l dC dI h0 B1 (.int (zI (R1))) v_2 v_3 v_4 v_5 v_6 (.ref q_707) (.ref q_708) v_9 (.ref q_710) v_11 v_12 q_713 cA_713 a_13 v_14 q_715 cA_715 a_15 v_16 q_717 cA_717 a_17 q_718 cA_718 na1 a_18 q_1 cA_1 a_1 (by omega) hR_a_13 hR_a_15 hR_a_17 (by omega) hR_a_18 hR_a_1 hX_A H.size) (cwV 1 hts g_X0_substitute_X0_substituteInPhis rfl rfl rfl (by decide +kernel) ⟨(Nat.le_of_ble_eq_true rfl), (Nat.le_of_ble_eq_true rfl)⟩) ⟨fun a U g mk q => by obtain ⟨q0, q1, qP, qK, qD, e0⟩ := q; exact ⟨q0, q1, qP, va_K.moved (u := U) (U := U.calling g mk a) (Vm.Alike.refl U.vm) qK, qD, va_Nw.same rfl (u := U) (U := U.calling g mk a) rfl e0⟩, va_recv hKc hPc (ci := 0) (q0 := 0) rfl rfl, fun U hU hW => ⟨rfl, by rw [hU], by rw [hU]; exact hPc, va_K.moved hW.alike hKc, hDc.weaken (fun _ _ _ _ => trivial), va_Nw.warmM hW hp0⟩⟩ rfl rfl hl.1 rfl (lv_room (Nat.le_of_ble_eq_true rfl)) dX0_substitute_82 ⟨(Nat.le_of_ble_eq_true rfl), (Nat.le_of_ble_eq_true rfl)⟩) hS (fun q _ h => hFc q h) hFc (fun  u t H1 locs ht hvm hw hB hz1 hk1 hS => ?_)
              obtain ⟨a0_2001, hxt_2001, hP1, hK1, hD1⟩ := hB
              rw [ht] at hP1
              have hK1 := va_K.moved hvm.symm hK1
              obtain ⟨hP, hD⟩ := va_join (wr := [(q_707, .inl (cA_707, 2000, .inr (.inl (fun j : Nat => lI (w2_707 (j : Int)))))), (q_708, .inl (cA_708, 2000, .inr (.inl (fun j : Nat => lI (w2_708 (j : Int)))))), (q_710, .inl (cA_710, 300, .inr (.inl (fun j : Nat => lI (w50_710 (j : Int))))))]) (w1 := [(h0, .inr (0, [.int (zI (B1)), .int (zI (R1)), v_2, v_3, v_4, v_5, v_6, .ref q_707, .ref q_708, v_9, .ref q_710, v_11, v_12, .ref q_713, v_14, .ref q_715, v_16, .ref q_717, .ref q_718])), (q_713, .inl (cA_713, 301, .inl (fun j : Nat => zI (a_13 (j : Int))))), (q_715, .inl (cA_715, 301, .inl (fun j : Nat => zI (a_15 (j : Int))))), (q_717, .inl (cA_717, 1000, .inl (fun j : Nat => zI (a_17 (j : Int))))), (q_718, .inl (cA_718, na1, .inr (.inl (fun j : Nat => lI (a0_2001 (j : Int)))))), (q_1, .inl (cA_1, 1024, .inr (.inl (fun j : Nat => lI (a_1 (j : Int))))))]) hP hD [0, 4, 5, 6, 7, 8] [1, 2, 3] rfl rfl (by decide) (by decide) hk1 hFc hP1 hD1
              have hK := (hK.sub (tys' := [(cA_707, .long), (cA_708, .long), (cA_710, .long)]) [0, 1, 2] rfl).app hK1
              generalize H1 = H at hP hS ⊢
              have hP : va_P (dC, dI) vwP [(q_707, .inl (cA_707, 2000, .inr (.inl (fun j : Nat => lI (w2_707 (j : Int)))))), (q_708, .inl (cA_708, 2000, .inr (.inl (fun j : Nat => lI (w2_708 (j : Int)))))), (q_710, .inl (cA_710, 300, .inr (.inl (fun j : Nat => lI (w50_710 (j : Int)))))), (h0, .inr (0, [.int (zI (B1)), .int (zI (R1)), v_2, v_3, v_4, v_5, v_6, .ref q_707, .ref q_708, v_9, .ref q_710, v_11, v_12, .ref q_713, v_14, .ref q_715, v_16, .ref q_717, .ref q_718])), (q_713, .inl (cA_713, 301, .inl (fun j : Nat => zI (a_13 (j : Int))))), (q_715, .inl (cA_715, 301, .inl (fun j : Nat => zI (a_15 (j : Int))))), (q_717, .inl (cA_717, 1000, .inl (fun j : Nat => zI (a_17 (j : Int))))), (q_718, .inl (cA_718, na1, .inr (.inl (fun j : Nat => lI (a0_2001 (j : Int)))))), (q_1, .inl (cA_1, 1024, .inr (.inl (fun j : Nat => lI (a_1 (j : Int))))))] H := hP
              have hD : va_D A [(q_707, .inl (cA_707, 2000, .inr (.inl (fun j : Nat => lI (w2_707 (j : Int)))))), (q_708, .inl (cA_708, 2000, .inr (.inl (fun j : Nat => lI (w2_708 (j : Int)))))), (q_710, .inl (cA_710, 300, .inr (.inl (fun j : Nat => lI (w50_710 (j : Int)))))), (h0, .inr (0, [.int (zI (B1)), .int (zI (R1)), v_2, v_3, v_4, v_5, v_6, .ref q_707, .ref q_708, v_9, .ref q_710, v_11, v_12, .ref q_713, v_14, .ref q_715, v_16, .ref q_717, .ref q_718])), (q_713, .inl (cA_713, 301, .inl (fun j : Nat => zI (a_13 (j : Int))))), (q_715, .inl (cA_715, 301, .inl (fun j : Nat => zI (a_15 (j : Int))))), (q_717, .inl (cA_717, 1000, .inl (fun j : Nat => zI (a_17 (j : Int))))), (q_718, .inl (cA_718, na1, .inr (.inl (fun j : Nat => lI (a0_2001 (j : Int)))))), (q_1, .inl (cA_1, 1024, .inr (.inl (fun j : Nat => lI (a_1 (j : Int))))))] := hD
              have hK : va_K (dC, dI) vwP [(cA_707, .long), (cA_708, .long), (cA_710, .long), (cA_713, .int), (cA_715, .int), (cA_717, .int), (cA_718, .long), (cA_1, .long)] s := hK
              refine W.widen (k := 0) (n := 0) (Nat.le_of_ble_eq_true rfl) (Nat.le_of_ble_eq_true rfl) ?_
              have rk_2002 := hxt_2001
              subst hQ
              have hP := hP.sub (ws' := [(h0, .inr (0, [.int (zI (B1)), .int (zI (R1)), v_2, v_3, v_4, v_5, v_6, .ref q_707, .ref q_708, v_9, .ref q_710, v_11, v_12, .ref q_713, v_14, .ref q_715, v_16, .ref q_717, .ref q_718])), (q_707, .inl (cA_707, 2000, .inr (.inl (fun j : Nat => lI (w2_707 (j : Int)))))), (q_708, .inl (cA_708, 2000, .inr (.inl (fun j : Nat => lI (w2_708 (j : Int)))))), (q_710, .inl (cA_710, 300, .inr (.inl (fun j : Nat => lI (w50_710 (j : Int)))))), (q_713, .inl (cA_713, 301, .inl (fun j : Nat => zI (a_13 (j : Int))))), (q_715, .inl (cA_715, 301, .inl (fun j : Nat => zI (a_15 (j : Int))))), (q_717, .inl (cA_717, 1000, .inl (fun j : Nat => zI (a_17 (j : Int))))), (q_718, .inl (cA_718, na1, .inr (.inl (fun j : Nat => lI (a0_2001 (j : Int)))))), (q_1, .inl (cA_1, 1024, .inr (.inl (fun j : Nat => lI (a_1 (j : Int))))))]) [3, 0, 1, 2, 4, 5, 6, 7, 8] rfl
              have hD := hD.sub (ws' := [(h0, .inr (0, [.int (zI (B1)), .int (zI (R1)), v_2, v_3, v_4, v_5, v_6, .ref q_707, .ref q_708, v_9, .ref q_710, v_11, v_12, .ref q_713, v_14, .ref q_715, v_16, .ref q_717, .ref q_718])), (q_707, .inl (cA_707, 2000, .inr (.inl (fun j : Nat => lI (w2_707 (j : Int)))))), (q_708, .inl (cA_708, 2000, .inr (.inl (fun j : Nat => lI (w2_708 (j : Int)))))), (q_710, .inl (cA_710, 300, .inr (.inl (fun j : Nat => lI (w50_710 (j : Int)))))), (q_713, .inl (cA_713, 301, .inl (fun j : Nat => zI (a_13 (j : Int))))), (q_715, .inl (cA_715, 301, .inl (fun j : Nat => zI (a_15 (j : Int))))), (q_717, .inl (cA_717, 1000, .inl (fun j : Nat => zI (a_17 (j : Int))))), (q_718, .inl (cA_718, na1, .inr (.inl (fun j : Nat => lI (a0_2001 (j : Int)))))), (q_1, .inl (cA_1, 1024, .inr (.inl (fun j : Nat => lI (a_1 (j : Int))))))]) [3, 0, 1, 2, 4, 5, 6, 7, 8] (by decide) rfl
              refine W.widen (k := 0) (n := 0) (Nat.le_of_ble_eq_true rfl) (Nat.le_of_ble_eq_true rfl) ?_
              exact W.vret hx hb hr (fun t ht hW => ⟨⟨(), rfl, trivial, w2_707, w2_708, w50_710, a0_2001, ⟨jw2_707, jw2_708, jw50_710, rk_2002⟩, by rw [ht]; exact hP, va_K.moved hW.alike hK, hD⟩, hS.F ht⟩) hS.2.2 dX0_substitute_85
            · have yb55 : ¬ (B1 : Int) ≤ (d50_2 : Int) := fun q => b55 ((zI_le (a := B1) (b := d50_2) (by omega) (by omega) (by omega) (by omega)).mpr q)
              refine lv_aload_n hx hb dX0_substitute_58 rfl (lv_at hl 0 rfl) ?_
              refine va_get (D := (dC, dI)) (ci := 0) (v := .ref q_710) (C := RX0) (T := TX0) (N := 19) hx hb hts mem_X0_substitute_0 hown hK hP 0 rfl rfl 10 (by decide) (ow (k := 6) rfl) (fun _ h9 => h9) rfl dX0_substitute_59 ?_
              refine lv_iload_n hx hb dX0_substitute_62 rfl (lv_at hl 2 rfl) ?_
              refine lv_aload_n hx hb dX0_substitute_63 rfl (lv_at hl 0 rfl) ?_
              refine va_get (D := (dC, dI)) (ci := 0) (v := .ref q_710) (C := RX0) (T := TX0) (N := 19) hx hb hts mem_X0_substitute_0 hown hK hP 0 rfl rfl 10 (by decide) (ow (k := 6) rfl) (fun _ h9 => h9) rfl dX0_substitute_64 ?_
              refine lv_iload_n hx hb dX0_substitute_67 rfl (lv_at hl 2 rfl) ?_
              refine va_lald hx hb hK hP 3 2 rfl rfl (zI_in (a := d50_2) (n := 300) (by omega) (by omega) (by decide)) dX0_substitute_68 ?_
              refine lv_topl (fun z ez => ?_)
              obtain rfl : z = lI (w50_710 (d50_2)) := ez.trans (lI_ld (w50_710) (by omega) (by omega))
              have k1 := jw50_710 (d50_2)
              refine lv_aload_n hx hb dX0_substitute_69 rfl (lv_at hl 1 rfl) ?_
              have hPc := hP.sub (ws' := [(q_1, .inl (cA_1, 1024, .inr (.inl (fun j : Nat => lI (a_1 (j : Int))))))]) [8] rfl
              have hDc := hD.sub (ws' := [(q_1, .inl (cA_1, 1024, .inr (.inl (fun j : Nat => lI (a_1 (j : Int))))))]) [8] (by decide) rfl
              have hKc := hK.sub (tys' := [(cA_1, .long)]) [7] rfl
              have hFc := va_free (wc := [(q_1, .inl (cA_1, 1024, .inr (.inl (fun j : Nat => lI (a_1 (j : Int))))))]) hD hS hA [8] rfl
              refine va_calll (va_runSN (As := [.long (lI (w50_710 (d50_2))), .ref q_1]) (rest := [.int (zI (d50_2)), .ref q_710]) ⟨hx, hb, hml, hown, hts⟩ (c_X11_resolve l dC dI q_1 cA_1 a_1 (w50_710 (d50_2)) hR_a_1 (by omega) H.size) ⟨va_cnB 2 hts (goodIn_sub mem_X0_substitute_2 gw_X11_resolve) rfl rfl rfl hp0 (ow (k := 7) rfl) (by decide +kernel) ⟨(Nat.le_of_ble_eq_true rfl), (Nat.le_of_ble_eq_true rfl)⟩, (ow (k := 8) rfl), trivial⟩ ⟨fun a U g mk q => by obtain ⟨q0, q1, qP, qK, qD⟩ := q; exact ⟨q0, q1, qP, va_K.moved (u := U) (U := U.calling g mk a) (Vm.Alike.refl U.vm) qK, qD⟩, fun U hU hW => ⟨rfl, by rw [hU], by rw [hU]; exact hPc, va_K.moved hW.alike hKc, hDc.weaken (fun _ _ _ _ => trivial)⟩⟩ rfl rfl hl.1 rfl (lv_room (Nat.le_of_ble_eq_true rfl)) dX0_substitute_70 ⟨(Nat.le_of_ble_eq_true rfl), (Nat.le_of_ble_eq_true rfl)⟩) hS (fun q _ h => hFc q h) hFc (fun r_2003 u t H1 locs ht hvm hw hB hz1 hk1 hS => ?_)
              obtain ⟨hP1, hK1, hD1⟩ := hB
              rw [ht] at hP1
              have hK1 := va_K.moved hvm.symm hK1
              obtain ⟨hP, hD⟩ := va_join (wr := [(h0, .inr (0, [.int (zI (B1)), .int (zI (R1)), v_2, v_3, v_4, v_5, v_6, .ref q_707, .ref q_708, v_9, .ref q_710, v_11, v_12, .ref q_713, v_14, .ref q_715, v_16, .ref q_717, .ref q_718])), (q_707, .inl (cA_707, 2000, .inr (.inl (fun j : Nat => lI (w2_707 (j : Int)))))), (q_708, .inl (cA_708, 2000, .inr (.inl (fun j : Nat => lI (w2_708 (j : Int)))))), (q_710, .inl (cA_710, 300, .inr (.inl (fun j : Nat => lI (w50_710 (j : Int)))))), (q_713, .inl (cA_713, 301, .inl (fun j : Nat => zI (a_13 (j : Int))))), (q_715, .inl (cA_715, 301, .inl (fun j : Nat => zI (a_15 (j : Int))))), (q_717, .inl (cA_717, 1000, .inl (fun j : Nat => zI (a_17 (j : Int))))), (q_718, .inl (cA_718, na1, .inr (.inl (fun j : Nat => lI (a_18 (j : Int))))))]) (w1 := [(q_1, .inl (cA_1, 1024, .inr (.inl (fun j : Nat => lI (a_1 (j : Int))))))]) hP hD [8] [0, 1, 2, 3, 4, 5, 6, 7] rfl rfl (by decide) (by decide) hk1 hFc hP1 hD1
              have hK := (hK.sub (tys' := [(cA_707, .long), (cA_708, .long), (cA_710, .long), (cA_713, .int), (cA_715, .int), (cA_717, .int), (cA_718, .long)]) [0, 1, 2, 3, 4, 5, 6] rfl).app hK1
              generalize H1 = H at hP hS ⊢
              have hP : va_P (dC, dI) vwP [(h0, .inr (0, [.int (zI (B1)), .int (zI (R1)), v_2, v_3, v_4, v_5, v_6, .ref q_707, .ref q_708, v_9, .ref q_710, v_11, v_12, .ref q_713, v_14, .ref q_715, v_16, .ref q_717, .ref q_718])), (q_707, .inl (cA_707, 2000, .inr (.inl (fun j : Nat => lI (w2_707 (j : Int)))))), (q_708, .inl (cA_708, 2000, .inr (.inl (fun j : Nat => lI (w2_708 (j : Int)))))), (q_710, .inl (cA_710, 300, .inr (.inl (fun j : Nat => lI (w50_710 (j : Int)))))), (q_713, .inl (cA_713, 301, .inl (fun j : Nat => zI (a_13 (j : Int))))), (q_715, .inl (cA_715, 301, .inl (fun j : Nat => zI (a_15 (j : Int))))), (q_717, .inl (cA_717, 1000, .inl (fun j : Nat => zI (a_17 (j : Int))))), (q_718, .inl (cA_718, na1, .inr (.inl (fun j : Nat => lI (a_18 (j : Int)))))), (q_1, .inl (cA_1, 1024, .inr (.inl (fun j : Nat => lI (a_1 (j : Int))))))] H := hP
              have hD : va_D A [(h0, .inr (0, [.int (zI (B1)), .int (zI (R1)), v_2, v_3, v_4, v_5, v_6, .ref q_707, .ref q_708, v_9, .ref q_710, v_11, v_12, .ref q_713, v_14, .ref q_715, v_16, .ref q_717, .ref q_718])), (q_707, .inl (cA_707, 2000, .inr (.inl (fun j : Nat => lI (w2_707 (j : Int)))))), (q_708, .inl (cA_708, 2000, .inr (.inl (fun j : Nat => lI (w2_708 (j : Int)))))), (q_710, .inl (cA_710, 300, .inr (.inl (fun j : Nat => lI (w50_710 (j : Int)))))), (q_713, .inl (cA_713, 301, .inl (fun j : Nat => zI (a_13 (j : Int))))), (q_715, .inl (cA_715, 301, .inl (fun j : Nat => zI (a_15 (j : Int))))), (q_717, .inl (cA_717, 1000, .inl (fun j : Nat => zI (a_17 (j : Int))))), (q_718, .inl (cA_718, na1, .inr (.inl (fun j : Nat => lI (a_18 (j : Int)))))), (q_1, .inl (cA_1, 1024, .inr (.inl (fun j : Nat => lI (a_1 (j : Int))))))] := hD
              have hK : va_K (dC, dI) vwP [(cA_707, .long), (cA_708, .long), (cA_710, .long), (cA_713, .int), (cA_715, .int), (cA_717, .int), (cA_718, .long), (cA_1, .long)] s := hK
              refine W.widen (k := 0) (n := 0) (Nat.le_of_ble_eq_true rfl) (Nat.le_of_ble_eq_true rfl) ?_
              have hw_2004 := hw
              obtain ⟨z_2005, rfl, hzz_2005⟩ := hw_2004
              refine va_last (i := zI (d50_2)) hx hb hK hP hD hS 3 2 rfl rfl (zI_in (a := d50_2) (n := 300) (by omega) (by omega) (by decide)) dX0_substitute_73 (fun H locs hP hD hS => ?_)
              have eQ : vp_updL (fun j : Nat => lI (w50_710 (j : Int))) (zI (d50_2)).toNatClampNeg (lI (z_2005)) = (fun j : Nat => lI (zup w50_710 (d50_2) (z_2005) (j : Int))) := lI_st w50_710 (e := d50_2) (v := z_2005) (by omega) (by omega)
              rw [eQ] at hP hD
              clear eQ
              have ra_2006 : ∀ j : Int, ((-2147483648 ≤ zup w50_710 (d50_2) (z_2005) j ∧ zup w50_710 (d50_2) (z_2005) j ≤ 4294968319) ∨ zup w50_710 (d50_2) (z_2005) j = 1099511627776) := zup_P (P := fun x9 => ((-2147483648 ≤ x9 ∧ x9 ≤ 4294968319) ∨ x9 = 1099511627776)) jw50_710 (show ((-2147483648 ≤ (z_2005) ∧ (z_2005) ≤ 4294968319) ∨ (z_2005) = 1099511627776) by omega)
              generalize zup w50_710 (d50_2) (z_2005) = a_2006 at hP hD ra_2006
              have hP : va_P (dC, dI) vwP [(h0, .inr (0, [.int (zI (B1)), .int (zI (R1)), v_2, v_3, v_4, v_5, v_6, .ref q_707, .ref q_708, v_9, .ref q_710, v_11, v_12, .ref q_713, v_14, .ref q_715, v_16, .ref q_717, .ref q_718])), (q_707, .inl (cA_707, 2000, .inr (.inl (fun j : Nat => lI (w2_707 (j : Int)))))), (q_708, .inl (cA_708, 2000, .inr (.inl (fun j : Nat => lI (w2_708 (j : Int)))))), (q_710, .inl (cA_710, 300, .inr (.inl (fun j : Nat => lI (a_2006 (j : Int)))))), (q_713, .inl (cA_713, 301, .inl (fun j : Nat => zI (a_13 (j : Int))))), (q_715, .inl (cA_715, 301, .inl (fun j : Nat => zI (a_15 (j : Int))))), (q_717, .inl (cA_717, 1000, .inl (fun j : Nat => zI (a_17 (j : Int))))), (q_718, .inl (cA_718, na1, .inr (.inl (fun j : Nat => lI (a_18 (j : Int)))))), (q_1, .inl (cA_1, 1024, .inr (.inl (fun j : Nat => lI (a_1 (j : Int))))))] H := hP
              have hD : va_D A [(h0, .inr (0, [.int (zI (B1)), .int (zI (R1)), v_2, v_3, v_4, v_5, v_6, .ref q_707, .ref q_708, v_9, .ref q_710, v_11, v_12, .ref q_713, v_14, .ref q_715, v_16, .ref q_717, .ref q_718])), (q_707, .inl (cA_707, 2000, .inr (.inl (fun j : Nat => lI (w2_707 (j : Int)))))), (q_708, .inl (cA_708, 2000, .inr (.inl (fun j : Nat => lI (w2_708 (j : Int)))))), (q_710, .inl (cA_710, 300, .inr (.inl (fun j : Nat => lI (a_2006 (j : Int)))))), (q_713, .inl (cA_713, 301, .inl (fun j : Nat => zI (a_13 (j : Int))))), (q_715, .inl (cA_715, 301, .inl (fun j : Nat => zI (a_15 (j : Int))))), (q_717, .inl (cA_717, 1000, .inl (fun j : Nat => zI (a_17 (j : Int))))), (q_718, .inl (cA_718, na1, .inr (.inl (fun j : Nat => lI (a_18 (j : Int)))))), (q_1, .inl (cA_1, 1024, .inr (.inl (fun j : Nat => lI (a_1 (j : Int))))))] := hD
              refine lv_iinc (v := zI (d50_2 + 1)) (lv' := [(2, .int (zI (d50_2 + 1))), (0, .ref h0), (1, .ref q_1)]) hx hb dX0_substitute_74 hl (k := 2) rfl (zI_add (d50_2) (1)) (by decide) rfl (fun ls hl => ?_)
              refine lv_goto (tgt := 50) hx hb dX0_substitute_77 (by decide) ?_
              exact ih50 (d50_2 + 1) a_2006 ls H _ (by omega) ra_2006 (by omega) (lv_sub hl [1, 2, 0] rfl) hP hD hS
        exact key50 (((B1) - (0) : Int).toNat + 1) 0 a_10 ls H _ (by omega) hR_a_10 (by omega) (lv_sub hl [1, 2, 0] rfl) hP hD hS
      · have yb7 : ¬ (R1 : Int) ≤ (d2_2 : Int) := fun q => b7 ((zI_le (a := R1) (b := d2_2) (by omega) (by omega) (by omega) (by omega)).mpr q)
        refine lv_aload_n hx hb dX0_substitute_10 rfl (lv_at hl 0 rfl) ?_
        refine va_get (D := (dC, dI)) (ci := 0) (v := .ref q_707) (C := RX0) (T := TX0) (N := 19) hx hb hts mem_X0_substitute_0 hown hK hP 0 rfl rfl 7 (by decide) (ow (k := 9) rfl) (fun _ h9 => h9) rfl dX0_substitute_11 ?_
        refine lv_iload_n hx hb dX0_substitute_14 rfl (lv_at hl 2 rfl) ?_
        refine lv_aload_n hx hb dX0_substitute_15 rfl (lv_at hl 0 rfl) ?_
        refine va_get (D := (dC, dI)) (ci := 0) (v := .ref q_707) (C := RX0) (T := TX0) (N := 19) hx hb hts mem_X0_substitute_0 hown hK hP 0 rfl rfl 7 (by decide) (ow (k := 9) rfl) (fun _ h9 => h9) rfl dX0_substitute_16 ?_
        refine lv_iload_n hx hb dX0_substitute_19 rfl (lv_at hl 2 rfl) ?_
        refine va_lald hx hb hK hP 1 0 rfl rfl (zI_in (a := d2_2) (n := 2000) (by omega) (by omega) (by decide)) dX0_substitute_20 ?_
        refine lv_topl (fun z ez => ?_)
        obtain rfl : z = lI (w2_707 (d2_2)) := ez.trans (lI_ld (w2_707) (by omega) (by omega))
        have k2 := jw2_707 (d2_2)
        refine lv_aload_n hx hb dX0_substitute_21 rfl (lv_at hl 1 rfl) ?_
        have hPc := hP.sub (ws' := [(q_1, .inl (cA_1, 1024, .inr (.inl (fun j : Nat => lI (a_1 (j : Int))))))]) [8] rfl
        have hDc := hD.sub (ws' := [(q_1, .inl (cA_1, 1024, .inr (.inl (fun j : Nat => lI (a_1 (j : Int))))))]) [8] (by decide) rfl
        have hKc := hK.sub (tys' := [(cA_1, .long)]) [7] rfl
        have hFc := va_free (wc := [(q_1, .inl (cA_1, 1024, .inr (.inl (fun j : Nat => lI (a_1 (j : Int))))))]) hD hS hA [8] rfl
        refine va_calll (va_runSN (As := [.long (lI (w2_707 (d2_2))), .ref q_1]) (rest := [.int (zI (d2_2)), .ref q_707]) ⟨hx, hb, hml, hown, hts⟩ (c_X11_resolve l dC dI q_1 cA_1 a_1 (w2_707 (d2_2)) hR_a_1 (by omega) H.size) ⟨va_cnB 2 hts (goodIn_sub mem_X0_substitute_2 gw_X11_resolve) rfl rfl rfl hp0 (ow (k := 7) rfl) (by decide +kernel) ⟨(Nat.le_of_ble_eq_true rfl), (Nat.le_of_ble_eq_true rfl)⟩, (ow (k := 8) rfl), trivial⟩ ⟨fun a U g mk q => by obtain ⟨q0, q1, qP, qK, qD⟩ := q; exact ⟨q0, q1, qP, va_K.moved (u := U) (U := U.calling g mk a) (Vm.Alike.refl U.vm) qK, qD⟩, fun U hU hW => ⟨rfl, by rw [hU], by rw [hU]; exact hPc, va_K.moved hW.alike hKc, hDc.weaken (fun _ _ _ _ => trivial)⟩⟩ rfl rfl hl.1 rfl (lv_room (Nat.le_of_ble_eq_true rfl)) dX0_substitute_22 ⟨(Nat.le_of_ble_eq_true rfl), (Nat.le_of_ble_eq_true rfl)⟩) hS (fun q _ h => hFc q h) hFc (fun r_2007 u t H1 locs ht hvm hw hB hz1 hk1 hS => ?_)
        obtain ⟨hP1, hK1, hD1⟩ := hB
        rw [ht] at hP1
        have hK1 := va_K.moved hvm.symm hK1
        obtain ⟨hP, hD⟩ := va_join (wr := [(h0, .inr (0, [.int (zI (B1)), .int (zI (R1)), v_2, v_3, v_4, v_5, v_6, .ref q_707, .ref q_708, v_9, .ref q_710, v_11, v_12, .ref q_713, v_14, .ref q_715, v_16, .ref q_717, .ref q_718])), (q_707, .inl (cA_707, 2000, .inr (.inl (fun j : Nat => lI (w2_707 (j : Int)))))), (q_708, .inl (cA_708, 2000, .inr (.inl (fun j : Nat => lI (w2_708 (j : Int)))))), (q_710, .inl (cA_710, 300, .inr (.inl (fun j : Nat => lI (a_10 (j : Int)))))), (q_713, .inl (cA_713, 301, .inl (fun j : Nat => zI (a_13 (j : Int))))), (q_715, .inl (cA_715, 301, .inl (fun j : Nat => zI (a_15 (j : Int))))), (q_717, .inl (cA_717, 1000, .inl (fun j : Nat => zI (a_17 (j : Int))))), (q_718, .inl (cA_718, na1, .inr (.inl (fun j : Nat => lI (a_18 (j : Int))))))]) (w1 := [(q_1, .inl (cA_1, 1024, .inr (.inl (fun j : Nat => lI (a_1 (j : Int))))))]) hP hD [8] [0, 1, 2, 3, 4, 5, 6, 7] rfl rfl (by decide) (by decide) hk1 hFc hP1 hD1
        have hK := (hK.sub (tys' := [(cA_707, .long), (cA_708, .long), (cA_710, .long), (cA_713, .int), (cA_715, .int), (cA_717, .int), (cA_718, .long)]) [0, 1, 2, 3, 4, 5, 6] rfl).app hK1
        generalize H1 = H at hP hS ⊢
        have hP : va_P (dC, dI) vwP [(h0, .inr (0, [.int (zI (B1)), .int (zI (R1)), v_2, v_3, v_4, v_5, v_6, .ref q_707, .ref q_708, v_9, .ref q_710, v_11, v_12, .ref q_713, v_14, .ref q_715, v_16, .ref q_717, .ref q_718])), (q_707, .inl (cA_707, 2000, .inr (.inl (fun j : Nat => lI (w2_707 (j : Int)))))), (q_708, .inl (cA_708, 2000, .inr (.inl (fun j : Nat => lI (w2_708 (j : Int)))))), (q_710, .inl (cA_710, 300, .inr (.inl (fun j : Nat => lI (a_10 (j : Int)))))), (q_713, .inl (cA_713, 301, .inl (fun j : Nat => zI (a_13 (j : Int))))), (q_715, .inl (cA_715, 301, .inl (fun j : Nat => zI (a_15 (j : Int))))), (q_717, .inl (cA_717, 1000, .inl (fun j : Nat => zI (a_17 (j : Int))))), (q_718, .inl (cA_718, na1, .inr (.inl (fun j : Nat => lI (a_18 (j : Int)))))), (q_1, .inl (cA_1, 1024, .inr (.inl (fun j : Nat => lI (a_1 (j : Int))))))] H := hP
        have hD : va_D A [(h0, .inr (0, [.int (zI (B1)), .int (zI (R1)), v_2, v_3, v_4, v_5, v_6, .ref q_707, .ref q_708, v_9, .ref q_710, v_11, v_12, .ref q_713, v_14, .ref q_715, v_16, .ref q_717, .ref q_718])), (q_707, .inl (cA_707, 2000, .inr (.inl (fun j : Nat => lI (w2_707 (j : Int)))))), (q_708, .inl (cA_708, 2000, .inr (.inl (fun j : Nat => lI (w2_708 (j : Int)))))), (q_710, .inl (cA_710, 300, .inr (.inl (fun j : Nat => lI (a_10 (j : Int)))))), (q_713, .inl (cA_713, 301, .inl (fun j : Nat => zI (a_13 (j : Int))))), (q_715, .inl (cA_715, 301, .inl (fun j : Nat => zI (a_15 (j : Int))))), (q_717, .inl (cA_717, 1000, .inl (fun j : Nat => zI (a_17 (j : Int))))), (q_718, .inl (cA_718, na1, .inr (.inl (fun j : Nat => lI (a_18 (j : Int)))))), (q_1, .inl (cA_1, 1024, .inr (.inl (fun j : Nat => lI (a_1 (j : Int))))))] := hD
        have hK : va_K (dC, dI) vwP [(cA_707, .long), (cA_708, .long), (cA_710, .long), (cA_713, .int), (cA_715, .int), (cA_717, .int), (cA_718, .long), (cA_1, .long)] s := hK
        refine W.widen (k := 0) (n := 0) (Nat.le_of_ble_eq_true rfl) (Nat.le_of_ble_eq_true rfl) ?_
        have hw_2008 := hw
        obtain ⟨z_2009, rfl, hzz_2009⟩ := hw_2008
        refine va_last (i := zI (d2_2)) hx hb hK hP hD hS 1 0 rfl rfl (zI_in (a := d2_2) (n := 2000) (by omega) (by omega) (by decide)) dX0_substitute_25 (fun H locs hP hD hS => ?_)
        have eQ : vp_updL (fun j : Nat => lI (w2_707 (j : Int))) (zI (d2_2)).toNatClampNeg (lI (z_2009)) = (fun j : Nat => lI (zup w2_707 (d2_2) (z_2009) (j : Int))) := lI_st w2_707 (e := d2_2) (v := z_2009) (by omega) (by omega)
        rw [eQ] at hP hD
        clear eQ
        have ra_2010 : ∀ j : Int, ((-2147483648 ≤ zup w2_707 (d2_2) (z_2009) j ∧ zup w2_707 (d2_2) (z_2009) j ≤ 4294968319) ∨ zup w2_707 (d2_2) (z_2009) j = 1099511627776) := zup_P (P := fun x9 => ((-2147483648 ≤ x9 ∧ x9 ≤ 4294968319) ∨ x9 = 1099511627776)) jw2_707 (show ((-2147483648 ≤ (z_2009) ∧ (z_2009) ≤ 4294968319) ∨ (z_2009) = 1099511627776) by omega)
        generalize zup w2_707 (d2_2) (z_2009) = a_2010 at hP hD ra_2010
        have hP : va_P (dC, dI) vwP [(h0, .inr (0, [.int (zI (B1)), .int (zI (R1)), v_2, v_3, v_4, v_5, v_6, .ref q_707, .ref q_708, v_9, .ref q_710, v_11, v_12, .ref q_713, v_14, .ref q_715, v_16, .ref q_717, .ref q_718])), (q_707, .inl (cA_707, 2000, .inr (.inl (fun j : Nat => lI (a_2010 (j : Int)))))), (q_708, .inl (cA_708, 2000, .inr (.inl (fun j : Nat => lI (w2_708 (j : Int)))))), (q_710, .inl (cA_710, 300, .inr (.inl (fun j : Nat => lI (a_10 (j : Int)))))), (q_713, .inl (cA_713, 301, .inl (fun j : Nat => zI (a_13 (j : Int))))), (q_715, .inl (cA_715, 301, .inl (fun j : Nat => zI (a_15 (j : Int))))), (q_717, .inl (cA_717, 1000, .inl (fun j : Nat => zI (a_17 (j : Int))))), (q_718, .inl (cA_718, na1, .inr (.inl (fun j : Nat => lI (a_18 (j : Int)))))), (q_1, .inl (cA_1, 1024, .inr (.inl (fun j : Nat => lI (a_1 (j : Int))))))] H := hP
        have hD : va_D A [(h0, .inr (0, [.int (zI (B1)), .int (zI (R1)), v_2, v_3, v_4, v_5, v_6, .ref q_707, .ref q_708, v_9, .ref q_710, v_11, v_12, .ref q_713, v_14, .ref q_715, v_16, .ref q_717, .ref q_718])), (q_707, .inl (cA_707, 2000, .inr (.inl (fun j : Nat => lI (a_2010 (j : Int)))))), (q_708, .inl (cA_708, 2000, .inr (.inl (fun j : Nat => lI (w2_708 (j : Int)))))), (q_710, .inl (cA_710, 300, .inr (.inl (fun j : Nat => lI (a_10 (j : Int)))))), (q_713, .inl (cA_713, 301, .inl (fun j : Nat => zI (a_13 (j : Int))))), (q_715, .inl (cA_715, 301, .inl (fun j : Nat => zI (a_15 (j : Int))))), (q_717, .inl (cA_717, 1000, .inl (fun j : Nat => zI (a_17 (j : Int))))), (q_718, .inl (cA_718, na1, .inr (.inl (fun j : Nat => lI (a_18 (j : Int)))))), (q_1, .inl (cA_1, 1024, .inr (.inl (fun j : Nat => lI (a_1 (j : Int))))))] := hD
        refine lv_aload_n hx hb dX0_substitute_26 rfl (lv_at hl 0 rfl) ?_
        refine va_get (D := (dC, dI)) (ci := 0) (v := .ref q_708) (C := RX0) (T := TX0) (N := 19) hx hb hts mem_X0_substitute_0 hown hK hP 0 rfl rfl 8 (by decide) (ow (k := 10) rfl) (fun _ h9 => h9) rfl dX0_substitute_27 ?_
        refine lv_iload_n hx hb dX0_substitute_30 rfl (lv_at hl 2 rfl) ?_
        refine lv_aload_n hx hb dX0_substitute_31 rfl (lv_at hl 0 rfl) ?_
        refine va_get (D := (dC, dI)) (ci := 0) (v := .ref q_708) (C := RX0) (T := TX0) (N := 19) hx hb hts mem_X0_substitute_0 hown hK hP 0 rfl rfl 8 (by decide) (ow (k := 10) rfl) (fun _ h9 => h9) rfl dX0_substitute_32 ?_
        refine lv_iload_n hx hb dX0_substitute_35 rfl (lv_at hl 2 rfl) ?_
        refine va_lald hx hb hK hP 2 1 rfl rfl (zI_in (a := d2_2) (n := 2000) (by omega) (by omega) (by decide)) dX0_substitute_36 ?_
        refine lv_topl (fun z ez => ?_)
        obtain rfl : z = lI (w2_708 (d2_2)) := ez.trans (lI_ld (w2_708) (by omega) (by omega))
        have k3 := jw2_708 (d2_2)
        refine lv_aload_n hx hb dX0_substitute_37 rfl (lv_at hl 1 rfl) ?_
        have hPc := hP.sub (ws' := [(q_1, .inl (cA_1, 1024, .inr (.inl (fun j : Nat => lI (a_1 (j : Int))))))]) [8] rfl
        have hDc := hD.sub (ws' := [(q_1, .inl (cA_1, 1024, .inr (.inl (fun j : Nat => lI (a_1 (j : Int))))))]) [8] (by decide) rfl
        have hKc := hK.sub (tys' := [(cA_1, .long)]) [7] rfl
        have hFc := va_free (wc := [(q_1, .inl (cA_1, 1024, .inr (.inl (fun j : Nat => lI (a_1 (j : Int))))))]) hD hS hA [8] rfl
        refine va_calll (va_runSN (As := [.long (lI (w2_708 (d2_2))), .ref q_1]) (rest := [.int (zI (d2_2)), .ref q_708]) ⟨hx, hb, hml, hown, hts⟩ (c_X11_resolve l dC dI q_1 cA_1 a_1 (w2_708 (d2_2)) hR_a_1 (by omega) H.size) ⟨va_cnB 2 hts (goodIn_sub mem_X0_substitute_2 gw_X11_resolve) rfl rfl rfl hp0 (ow (k := 7) rfl) (by decide +kernel) ⟨(Nat.le_of_ble_eq_true rfl), (Nat.le_of_ble_eq_true rfl)⟩, (ow (k := 8) rfl), trivial⟩ ⟨fun a U g mk q => by obtain ⟨q0, q1, qP, qK, qD⟩ := q; exact ⟨q0, q1, qP, va_K.moved (u := U) (U := U.calling g mk a) (Vm.Alike.refl U.vm) qK, qD⟩, fun U hU hW => ⟨rfl, by rw [hU], by rw [hU]; exact hPc, va_K.moved hW.alike hKc, hDc.weaken (fun _ _ _ _ => trivial)⟩⟩ rfl rfl hl.1 rfl (lv_room (Nat.le_of_ble_eq_true rfl)) dX0_substitute_38 ⟨(Nat.le_of_ble_eq_true rfl), (Nat.le_of_ble_eq_true rfl)⟩) hS (fun q _ h => hFc q h) hFc (fun r_2011 u t H1 locs ht hvm hw hB hz1 hk1 hS => ?_)
        obtain ⟨hP1, hK1, hD1⟩ := hB
        rw [ht] at hP1
        have hK1 := va_K.moved hvm.symm hK1
        obtain ⟨hP, hD⟩ := va_join (wr := [(h0, .inr (0, [.int (zI (B1)), .int (zI (R1)), v_2, v_3, v_4, v_5, v_6, .ref q_707, .ref q_708, v_9, .ref q_710, v_11, v_12, .ref q_713, v_14, .ref q_715, v_16, .ref q_717, .ref q_718])), (q_707, .inl (cA_707, 2000, .inr (.inl (fun j : Nat => lI (a_2010 (j : Int)))))), (q_708, .inl (cA_708, 2000, .inr (.inl (fun j : Nat => lI (w2_708 (j : Int)))))), (q_710, .inl (cA_710, 300, .inr (.inl (fun j : Nat => lI (a_10 (j : Int)))))), (q_713, .inl (cA_713, 301, .inl (fun j : Nat => zI (a_13 (j : Int))))), (q_715, .inl (cA_715, 301, .inl (fun j : Nat => zI (a_15 (j : Int))))), (q_717, .inl (cA_717, 1000, .inl (fun j : Nat => zI (a_17 (j : Int))))), (q_718, .inl (cA_718, na1, .inr (.inl (fun j : Nat => lI (a_18 (j : Int))))))]) (w1 := [(q_1, .inl (cA_1, 1024, .inr (.inl (fun j : Nat => lI (a_1 (j : Int))))))]) hP hD [8] [0, 1, 2, 3, 4, 5, 6, 7] rfl rfl (by decide) (by decide) hk1 hFc hP1 hD1
        have hK := (hK.sub (tys' := [(cA_707, .long), (cA_708, .long), (cA_710, .long), (cA_713, .int), (cA_715, .int), (cA_717, .int), (cA_718, .long)]) [0, 1, 2, 3, 4, 5, 6] rfl).app hK1
        generalize H1 = H at hP hS ⊢
        have hP : va_P (dC, dI) vwP [(h0, .inr (0, [.int (zI (B1)), .int (zI (R1)), v_2, v_3, v_4, v_5, v_6, .ref q_707, .ref q_708, v_9, .ref q_710, v_11, v_12, .ref q_713, v_14, .ref q_715, v_16, .ref q_717, .ref q_718])), (q_707, .inl (cA_707, 2000, .inr (.inl (fun j : Nat => lI (a_2010 (j : Int)))))), (q_708, .inl (cA_708, 2000, .inr (.inl (fun j : Nat => lI (w2_708 (j : Int)))))), (q_710, .inl (cA_710, 300, .inr (.inl (fun j : Nat => lI (a_10 (j : Int)))))), (q_713, .inl (cA_713, 301, .inl (fun j : Nat => zI (a_13 (j : Int))))), (q_715, .inl (cA_715, 301, .inl (fun j : Nat => zI (a_15 (j : Int))))), (q_717, .inl (cA_717, 1000, .inl (fun j : Nat => zI (a_17 (j : Int))))), (q_718, .inl (cA_718, na1, .inr (.inl (fun j : Nat => lI (a_18 (j : Int)))))), (q_1, .inl (cA_1, 1024, .inr (.inl (fun j : Nat => lI (a_1 (j : Int))))))] H := hP
        have hD : va_D A [(h0, .inr (0, [.int (zI (B1)), .int (zI (R1)), v_2, v_3, v_4, v_5, v_6, .ref q_707, .ref q_708, v_9, .ref q_710, v_11, v_12, .ref q_713, v_14, .ref q_715, v_16, .ref q_717, .ref q_718])), (q_707, .inl (cA_707, 2000, .inr (.inl (fun j : Nat => lI (a_2010 (j : Int)))))), (q_708, .inl (cA_708, 2000, .inr (.inl (fun j : Nat => lI (w2_708 (j : Int)))))), (q_710, .inl (cA_710, 300, .inr (.inl (fun j : Nat => lI (a_10 (j : Int)))))), (q_713, .inl (cA_713, 301, .inl (fun j : Nat => zI (a_13 (j : Int))))), (q_715, .inl (cA_715, 301, .inl (fun j : Nat => zI (a_15 (j : Int))))), (q_717, .inl (cA_717, 1000, .inl (fun j : Nat => zI (a_17 (j : Int))))), (q_718, .inl (cA_718, na1, .inr (.inl (fun j : Nat => lI (a_18 (j : Int)))))), (q_1, .inl (cA_1, 1024, .inr (.inl (fun j : Nat => lI (a_1 (j : Int))))))] := hD
        have hK : va_K (dC, dI) vwP [(cA_707, .long), (cA_708, .long), (cA_710, .long), (cA_713, .int), (cA_715, .int), (cA_717, .int), (cA_718, .long), (cA_1, .long)] s := hK
        refine W.widen (k := 0) (n := 0) (Nat.le_of_ble_eq_true rfl) (Nat.le_of_ble_eq_true rfl) ?_
        have hw_2012 := hw
        obtain ⟨z_2013, rfl, hzz_2013⟩ := hw_2012
        refine va_last (i := zI (d2_2)) hx hb hK hP hD hS 2 1 rfl rfl (zI_in (a := d2_2) (n := 2000) (by omega) (by omega) (by decide)) dX0_substitute_41 (fun H locs hP hD hS => ?_)
        have eQ : vp_updL (fun j : Nat => lI (w2_708 (j : Int))) (zI (d2_2)).toNatClampNeg (lI (z_2013)) = (fun j : Nat => lI (zup w2_708 (d2_2) (z_2013) (j : Int))) := lI_st w2_708 (e := d2_2) (v := z_2013) (by omega) (by omega)
        rw [eQ] at hP hD
        clear eQ
        have ra_2014 : ∀ j : Int, ((-2147483648 ≤ zup w2_708 (d2_2) (z_2013) j ∧ zup w2_708 (d2_2) (z_2013) j ≤ 4294968319) ∨ zup w2_708 (d2_2) (z_2013) j = 1099511627776) := zup_P (P := fun x9 => ((-2147483648 ≤ x9 ∧ x9 ≤ 4294968319) ∨ x9 = 1099511627776)) jw2_708 (show ((-2147483648 ≤ (z_2013) ∧ (z_2013) ≤ 4294968319) ∨ (z_2013) = 1099511627776) by omega)
        generalize zup w2_708 (d2_2) (z_2013) = a_2014 at hP hD ra_2014
        have hP : va_P (dC, dI) vwP [(h0, .inr (0, [.int (zI (B1)), .int (zI (R1)), v_2, v_3, v_4, v_5, v_6, .ref q_707, .ref q_708, v_9, .ref q_710, v_11, v_12, .ref q_713, v_14, .ref q_715, v_16, .ref q_717, .ref q_718])), (q_707, .inl (cA_707, 2000, .inr (.inl (fun j : Nat => lI (a_2010 (j : Int)))))), (q_708, .inl (cA_708, 2000, .inr (.inl (fun j : Nat => lI (a_2014 (j : Int)))))), (q_710, .inl (cA_710, 300, .inr (.inl (fun j : Nat => lI (a_10 (j : Int)))))), (q_713, .inl (cA_713, 301, .inl (fun j : Nat => zI (a_13 (j : Int))))), (q_715, .inl (cA_715, 301, .inl (fun j : Nat => zI (a_15 (j : Int))))), (q_717, .inl (cA_717, 1000, .inl (fun j : Nat => zI (a_17 (j : Int))))), (q_718, .inl (cA_718, na1, .inr (.inl (fun j : Nat => lI (a_18 (j : Int)))))), (q_1, .inl (cA_1, 1024, .inr (.inl (fun j : Nat => lI (a_1 (j : Int))))))] H := hP
        have hD : va_D A [(h0, .inr (0, [.int (zI (B1)), .int (zI (R1)), v_2, v_3, v_4, v_5, v_6, .ref q_707, .ref q_708, v_9, .ref q_710, v_11, v_12, .ref q_713, v_14, .ref q_715, v_16, .ref q_717, .ref q_718])), (q_707, .inl (cA_707, 2000, .inr (.inl (fun j : Nat => lI (a_2010 (j : Int)))))), (q_708, .inl (cA_708, 2000, .inr (.inl (fun j : Nat => lI (a_2014 (j : Int)))))), (q_710, .inl (cA_710, 300, .inr (.inl (fun j : Nat => lI (a_10 (j : Int)))))), (q_713, .inl (cA_713, 301, .inl (fun j : Nat => zI (a_13 (j : Int))))), (q_715, .inl (cA_715, 301, .inl (fun j : Nat => zI (a_15 (j : Int))))), (q_717, .inl (cA_717, 1000, .inl (fun j : Nat => zI (a_17 (j : Int))))), (q_718, .inl (cA_718, na1, .inr (.inl (fun j : Nat => lI (a_18 (j : Int)))))), (q_1, .inl (cA_1, 1024, .inr (.inl (fun j : Nat => lI (a_1 (j : Int))))))] := hD
        refine lv_iinc (v := zI (d2_2 + 1)) (lv' := [(2, .int (zI (d2_2 + 1))), (0, .ref h0), (1, .ref q_1)]) hx hb dX0_substitute_42 hl (k := 2) rfl (zI_add (d2_2) (1)) (by decide) rfl (fun ls hl => ?_)
        refine lv_goto (tgt := 2) hx hb dX0_substitute_45 (by decide) ?_
        exact ih2 (d2_2 + 1) a_2010 a_2014 ls H _ (by omega) ra_2010 ra_2014 (by omega) (lv_sub hl [1, 2, 0] rfl) hP hD hS
  exact key2 (((R1) - (0) : Int).toNat + 1) 0 a_7 a_8 ls H _ (by omega) hR_a_7 hR_a_8 (by omega) (lv_sub hl [1, 2, 0] rfl) hP hD hS
theorem dX0_shiftRows_0 : decode cX0_shiftRows 0 = .ok (.iload_n 3, 1) := by decide +kernel
theorem dX0_shiftRows_1 : decode cX0_shiftRows 1 = .ok (.ifCond .le 77, 3) := by decide +kernel
theorem dX0_shiftRows_78 : decode cX0_shiftRows 78 = .ok (.return_, 1) := by decide +kernel
theorem dX0_shiftRows_4 : decode cX0_shiftRows 4 = .ok (.iload_n 1, 1) := by decide +kernel
theorem dX0_shiftRows_5 : decode cX0_shiftRows 5 = .ok (.iload_n 3, 1) := by decide +kernel
theorem dX0_shiftRows_6 : decode cX0_shiftRows 6 = .ok (.iadd, 1) := by decide +kernel
theorem dX0_shiftRows_7 : decode cX0_shiftRows 7 = .ok (.sipush 2000, 3) := by decide +kernel
theorem dX0_shiftRows_10 : decode cX0_shiftRows 10 = .ok (.if_icmp .gt 68, 3) := by decide +kernel
theorem dX0_shiftRows_13 : decode cX0_shiftRows 13 = .ok (.iload_n 2, 1) := by decide +kernel
theorem dX0_shiftRows_14 : decode cX0_shiftRows 14 = .ok (.iload_n 3, 1) := by decide +kernel
theorem dX0_shiftRows_15 : decode cX0_shiftRows 15 = .ok (.iadd, 1) := by decide +kernel
theorem dX0_shiftRows_16 : decode cX0_shiftRows 16 = .ok (.sipush 2000, 3) := by decide +kernel
theorem dX0_shiftRows_19 : decode cX0_shiftRows 19 = .ok (.if_icmp .gt 59, 3) := by decide +kernel
theorem dX0_shiftRows_22 : decode cX0_shiftRows 22 = .ok (.aload_n 0, 1) := by decide +kernel
theorem dX0_shiftRows_23 : decode cX0_shiftRows 23 = .ok (.getfield 28, 3) := by decide +kernel
theorem dX0_shiftRows_26 : decode cX0_shiftRows 26 = .ok (.iload_n 1, 1) := by decide +kernel
theorem dX0_shiftRows_27 : decode cX0_shiftRows 27 = .ok (.aload_n 0, 1) := by decide +kernel
theorem dX0_shiftRows_28 : decode cX0_shiftRows 28 = .ok (.getfield 28, 3) := by decide +kernel
theorem dX0_shiftRows_31 : decode cX0_shiftRows 31 = .ok (.iload_n 2, 1) := by decide +kernel
theorem dX0_shiftRows_32 : decode cX0_shiftRows 32 = .ok (.iload_n 3, 1) := by decide +kernel
theorem dX0_shiftRows_33 : decode cX0_shiftRows 33 = .ok (.invokestatic 127, 3) := by decide +kernel
theorem dX0_shiftRows_36 : decode cX0_shiftRows 36 = .ok (.aload_n 0, 1) := by decide +kernel
theorem dX0_shiftRows_37 : decode cX0_shiftRows 37 = .ok (.getfield 31, 3) := by decide +kernel
theorem dX0_shiftRows_40 : decode cX0_shiftRows 40 = .ok (.iload_n 1, 1) := by decide +kernel
theorem dX0_shiftRows_41 : decode cX0_shiftRows 41 = .ok (.aload_n 0, 1) := by decide +kernel
theorem dX0_shiftRows_42 : decode cX0_shiftRows 42 = .ok (.getfield 31, 3) := by decide +kernel
theorem dX0_shiftRows_45 : decode cX0_shiftRows 45 = .ok (.iload_n 2, 1) := by decide +kernel
theorem dX0_shiftRows_46 : decode cX0_shiftRows 46 = .ok (.iload_n 3, 1) := by decide +kernel
theorem dX0_shiftRows_47 : decode cX0_shiftRows 47 = .ok (.invokestatic 127, 3) := by decide +kernel
theorem dX0_shiftRows_50 : decode cX0_shiftRows 50 = .ok (.aload_n 0, 1) := by decide +kernel
theorem dX0_shiftRows_51 : decode cX0_shiftRows 51 = .ok (.getfield 34, 3) := by decide +kernel
theorem dX0_shiftRows_54 : decode cX0_shiftRows 54 = .ok (.iload_n 1, 1) := by decide +kernel
theorem dX0_shiftRows_55 : decode cX0_shiftRows 55 = .ok (.aload_n 0, 1) := by decide +kernel
theorem dX0_shiftRows_56 : decode cX0_shiftRows 56 = .ok (.getfield 34, 3) := by decide +kernel
theorem dX0_shiftRows_59 : decode cX0_shiftRows 59 = .ok (.iload_n 2, 1) := by decide +kernel
theorem dX0_shiftRows_60 : decode cX0_shiftRows 60 = .ok (.iload_n 3, 1) := by decide +kernel
theorem dX0_shiftRows_61 : decode cX0_shiftRows 61 = .ok (.invokestatic 127, 3) := by decide +kernel
theorem dX0_shiftRows_64 : decode cX0_shiftRows 64 = .ok (.aload_n 0, 1) := by decide +kernel
theorem dX0_shiftRows_65 : decode cX0_shiftRows 65 = .ok (.getfield 38, 3) := by decide +kernel
theorem dX0_shiftRows_68 : decode cX0_shiftRows 68 = .ok (.iload_n 1, 1) := by decide +kernel
theorem dX0_shiftRows_69 : decode cX0_shiftRows 69 = .ok (.aload_n 0, 1) := by decide +kernel
theorem dX0_shiftRows_70 : decode cX0_shiftRows 70 = .ok (.getfield 38, 3) := by decide +kernel
theorem dX0_shiftRows_73 : decode cX0_shiftRows 73 = .ok (.iload_n 2, 1) := by decide +kernel
theorem dX0_shiftRows_74 : decode cX0_shiftRows 74 = .ok (.iload_n 3, 1) := by decide +kernel
theorem dX0_shiftRows_75 : decode cX0_shiftRows 75 = .ok (.invokestatic 127, 3) := by decide +kernel
def o_X0_shiftRows : List Cond := [.fieldLink RX0 28 "SsaForge$Code" "op" "[I", .methodLink RX0 127 arraycopyName, .native arraycopyName, .static arraycopyName, .initialized "java/lang/System", .fieldLink RX0 31 "SsaForge$Code" "target" "[I", .fieldLink RX0 34 "SsaForge$Code" "left" "[J", .fieldLink RX0 38 "SsaForge$Code" "right" "[J"]
def v_X0_shiftRows : List Cond := .code yX0_shiftRows cX0_shiftRows 4 none :: (o_X0_shiftRows ++ (wsX00 ++ []))
theorem mow_X0_shiftRows : ∀ w ∈ o_X0_shiftRows, w ∈ v_X0_shiftRows := fun _ h => List.mem_cons_of_mem _ (List.mem_append_left _ h)
theorem mem_X0_shiftRows_0 : ∀ w ∈ wsX00, w ∈ v_X0_shiftRows := fun _ h => List.mem_cons_of_mem _ (List.mem_append_right _ (List.mem_append_left _ h))
set_option maxRecDepth 20000 in
theorem gw_X0_shiftRows : v_X0_shiftRows.all goodWord = true := by decide +kernel
set_option maxHeartbeats 4000000 in
set_option maxRecDepth 100000 in
theorem c_X0_shiftRows (l : Launch) (dC : Nat → ClassId) (dI : Nat → Nat → Nat) (h0 : Nat) (v_0 : Value) (v_1 : Value) (v_2 : Value) (v_3 : Value) (v_4 : Value) (q_705 : Nat) (cA_705 : ClassId) (a_5 : Int → Int) (q_706 : Nat) (cA_706 : ClassId) (a_6 : Int → Int) (q_707 : Nat) (cA_707 : ClassId) (a_7 : Int → Int) (q_708 : Nat) (cA_708 : ClassId) (a_8 : Int → Int) (v_9 : Value) (v_10 : Value) (v_11 : Value) (v_12 : Value) (v_13 : Value) (v_14 : Value) (v_15 : Value) (v_16 : Value) (v_17 : Value) (v_18 : Value) (fr : Int) (to : Int) (n : Int) (hR_a_5 : ∀ j : Int, -1 ≤ a_5 j ∧ a_5 j ≤ 100) (hR_a_6 : ∀ j : Int, -1 ≤ a_6 j ∧ a_6 j ≤ 1023) (hR_a_7 : ∀ j : Int, ((-2147483648 ≤ a_7 j ∧ a_7 j ≤ 4294968319) ∨ a_7 j = 1099511627776)) (hR_a_8 : ∀ j : Int, ((-2147483648 ≤ a_8 j ∧ a_8 j ≤ 4294968319) ∨ a_8 j = 1099511627776)) (hNf : 0 ≤ fr ∧ fr ≤ 4000 ∧ 0 ≤ to ∧ to ≤ 4000 ∧ -4000 ≤ n ∧ n ≤ 4000) (sz : Nat) : Met l yX0_shiftRows v_X0_shiftRows ({ frames := 1, cells := 0, slots := 0, locals := 60 }) (va_Pc [.ref h0, .int (zI (fr)), .int (zI (to)), .int (zI (n))] (fun U => U.heap.size = sz ∧ va_P (dC, dI) vwP [(h0, .inr (0, [v_0, v_1, v_2, v_3, v_4, .ref q_705, .ref q_706, .ref q_707, .ref q_708, v_9, v_10, v_11, v_12, v_13, v_14, v_15, v_16, v_17, v_18])), (q_705, .inl (cA_705, 2000, .inl (fun j : Nat => zI (a_5 (j : Int))))), (q_706, .inl (cA_706, 2000, .inl (fun j : Nat => zI (a_6 (j : Int))))), (q_707, .inl (cA_707, 2000, .inr (.inl (fun j : Nat => lI (a_7 (j : Int)))))), (q_708, .inl (cA_708, 2000, .inr (.inl (fun j : Nat => lI (a_8 (j : Int))))))] U.heap ∧ va_K (dC, dI) vwP [(cA_705, .int), (cA_706, .int), (cA_707, .long), (cA_708, .long)] U ∧ va_D (fun _ => True) [(h0, .inr (0, [v_0, v_1, v_2, v_3, v_4, .ref q_705, .ref q_706, .ref q_707, .ref q_708, v_9, v_10, v_11, v_12, v_13, v_14, v_15, v_16, v_17, v_18])), (q_705, .inl (cA_705, 2000, .inl (fun j : Nat => zI (a_5 (j : Int))))), (q_706, .inl (cA_706, 2000, .inl (fun j : Nat => zI (a_6 (j : Int))))), (q_707, .inl (cA_707, 2000, .inr (.inl (fun j : Nat => lI (a_7 (j : Int)))))), (q_708, .inl (cA_708, 2000, .inr (.inl (fun j : Nat => lI (a_8 (j : Int))))))])) (va_Qv (fun _ : Unit => True) (fun (_ : Unit) (t : State) => ∃ (a0_9 : Int → Int) (a1_9 : Int → Int) (a2_9 : Int → Int) (a3_9 : Int → Int), ((∀ j : Int, -1 ≤ a0_9 j ∧ a0_9 j ≤ 100) ∧ (∀ j : Int, -1 ≤ a1_9 j ∧ a1_9 j ≤ 1023) ∧ (∀ j : Int, ((-2147483648 ≤ a2_9 j ∧ a2_9 j ≤ 4294968319) ∨ a2_9 j = 1099511627776)) ∧ (∀ j : Int, ((-2147483648 ≤ a3_9 j ∧ a3_9 j ≤ 4294968319) ∨ a3_9 j = 1099511627776))) ∧ va_P (dC, dI) vwP [(h0, .inr (0, [v_0, v_1, v_2, v_3, v_4, .ref q_705, .ref q_706, .ref q_707, .ref q_708, v_9, v_10, v_11, v_12, v_13, v_14, v_15, v_16, v_17, v_18])), (q_705, .inl (cA_705, 2000, .inl (fun j : Nat => zI (a0_9 (j : Int))))), (q_706, .inl (cA_706, 2000, .inl (fun j : Nat => zI (a1_9 (j : Int))))), (q_707, .inl (cA_707, 2000, .inr (.inl (fun j : Nat => lI (a2_9 (j : Int)))))), (q_708, .inl (cA_708, 2000, .inr (.inl (fun j : Nat => lI (a3_9 (j : Int))))))] t.heap ∧ va_K (dC, dI) vwP [(cA_705, .int), (cA_706, .int), (cA_707, .long), (cA_708, .long)] t ∧ va_D (va_A [(h0, .inr (0, [v_0, v_1, v_2, v_3, v_4, .ref q_705, .ref q_706, .ref q_707, .ref q_708, v_9, v_10, v_11, v_12, v_13, v_14, v_15, v_16, v_17, v_18])), (q_705, .inl (cA_705, 2000, .inl (fun j : Nat => zI (a_5 (j : Int))))), (q_706, .inl (cA_706, 2000, .inl (fun j : Nat => zI (a_6 (j : Int))))), (q_707, .inl (cA_707, 2000, .inr (.inl (fun j : Nat => lI (a_7 (j : Int)))))), (q_708, .inl (cA_708, 2000, .inr (.inl (fun j : Nat => lI (a_8 (j : Int))))))] sz) [(h0, .inr (0, [v_0, v_1, v_2, v_3, v_4, .ref q_705, .ref q_706, .ref q_707, .ref q_708, v_9, v_10, v_11, v_12, v_13, v_14, v_15, v_16, v_17, v_18])), (q_705, .inl (cA_705, 2000, .inl (fun j : Nat => zI (a0_9 (j : Int))))), (q_706, .inl (cA_706, 2000, .inl (fun j : Nat => zI (a1_9 (j : Int))))), (q_707, .inl (cA_707, 2000, .inr (.inl (fun j : Nat => lI (a2_9 (j : Int)))))), (q_708, .inl (cA_708, 2000, .inr (.inl (fun j : Nat => lI (a3_9 (j : Int))))))]) (va_A [(h0, .inr (0, [v_0, v_1, v_2, v_3, v_4, .ref q_705, .ref q_706, .ref q_707, .ref q_708, v_9, v_10, v_11, v_12, v_13, v_14, v_15, v_16, v_17, v_18])), (q_705, .inl (cA_705, 2000, .inl (fun j : Nat => zI (a_5 (j : Int))))), (q_706, .inl (cA_706, 2000, .inl (fun j : Nat => zI (a_6 (j : Int))))), (q_707, .inl (cA_707, 2000, .inr (.inl (fun j : Nat => lI (a_7 (j : Int)))))), (q_708, .inl (cA_708, 2000, .inr (.inl (fun j : Nat => lI (a_8 (j : Int))))))] sz)) 0 0 (va_A [(h0, .inr (0, [v_0, v_1, v_2, v_3, v_4, .ref q_705, .ref q_706, .ref q_707, .ref q_708, v_9, v_10, v_11, v_12, v_13, v_14, v_15, v_16, v_17, v_18])), (q_705, .inl (cA_705, 2000, .inl (fun j : Nat => zI (a_5 (j : Int))))), (q_706, .inl (cA_706, 2000, .inl (fun j : Nat => zI (a_6 (j : Int))))), (q_707, .inl (cA_707, 2000, .inr (.inl (fun j : Nat => lI (a_7 (j : Int)))))), (q_708, .inl (cA_708, 2000, .inr (.inl (fun j : Nat => lI (a_8 (j : Int))))))] sz) := by
  refine Met.ofW (cc := cX0_shiftRows) (maxL := 4) (ret := none) (by decide) rfl ?_
  intro p e s m args below meth c s₁ B hml hv
  obtain ⟨rfl, hsz, hP, hK, hD0⟩ := hv
  have hx := B.exec
  have hb := B.bytes
  have hr := B.returns
  have hts := atoms_spec (ws := v_X0_shiftRows) B.pre
  have hown : s.vm.findClass RX0 = some m.cls := findClass_of_methodNamed B.named
  have hlocks := B.notSynchronized
  have ow : ∀ {k : Nat} {w : Cond}, o_X0_shiftRows[k]? = some w → w.before ([.ref h0, .int (zI (fr)), .int (zI (to)), .int (zI (n))] : List Value).toArray s = true := fun h => hts _ (mow_X0_shiftRows _ (List.mem_of_getElem? h))
  subst hsz
  have hD := hD0.self (sz := s.heap.size)
  generalize hAe : va_A [(h0, .inr (0, [v_0, v_1, v_2, v_3, v_4, .ref q_705, .ref q_706, .ref q_707, .ref q_708, v_9, v_10, v_11, v_12, v_13, v_14, v_15, v_16, v_17, v_18])), (q_705, .inl (cA_705, 2000, .inl (fun j : Nat => zI (a_5 (j : Int))))), (q_706, .inl (cA_706, 2000, .inl (fun j : Nat => zI (a_6 (j : Int))))), (q_707, .inl (cA_707, 2000, .inr (.inl (fun j : Nat => lI (a_7 (j : Int)))))), (q_708, .inl (cA_708, 2000, .inr (.inl (fun j : Nat => lI (a_8 (j : Int))))))] s.heap.size = A at hD ⊢
  have hA : ∀ q : Nat, s.heap.size ≤ q → A q := fun q h => by rw [← hAe]; exact Or.inr h
  have hS : va_S A s.heap s.heap [] := va_S.rf
  have hP : va_P (dC, dI) vwP [(h0, .inr (0, [v_0, v_1, v_2, v_3, v_4, .ref q_705, .ref q_706, .ref q_707, .ref q_708, v_9, v_10, v_11, v_12, v_13, v_14, v_15, v_16, v_17, v_18])), (q_705, .inl (cA_705, 2000, .inl (fun j : Nat => zI (a_5 (j : Int))))), (q_706, .inl (cA_706, 2000, .inl (fun j : Nat => zI (a_6 (j : Int))))), (q_707, .inl (cA_707, 2000, .inr (.inl (fun j : Nat => lI (a_7 (j : Int)))))), (q_708, .inl (cA_708, 2000, .inr (.inl (fun j : Nat => lI (a_8 (j : Int))))))] s.heap := hP
  have hl := lv_entry ([.ref h0, .int (zI (fr)), .int (zI (to)), .int (zI (n))]) (n := 4) (Nat.le_of_ble_eq_true rfl)
  rw [lg_entry_eq]
  generalize (lg_sl ([.ref h0, .int (zI (fr)), .int (zI (to)), .int (zI (n))]) ++ List.replicate (4 - (lg_sl ([.ref h0, .int (zI (fr)), .int (zI (to)), .int (zI (n))])).length) Slot.unset).toArray = ls at hl ⊢
  have hl : lv_has ls 4 [(0, .ref h0), (1, .int (zI (fr))), (2, .int (zI (to))), (3, .int (zI (n)))] := hl
  obtain ⟨H, hH⟩ : ∃ H, H = s.heap := ⟨_, rfl⟩
  rw [← hH] at hP
  have hS : va_S A s.heap H [] := by rw [hH]; exact hS
  rw [← hH]
  refine zW_cap (fun Q hQ => ?_)
  refine lv_iload_n hx hb dX0_shiftRows_0 rfl (lv_at hl 3 rfl) ?_
  refine lv_if_le (tgt := 78) hx hb dX0_shiftRows_1 (by decide) (fun b1 => ?_) (fun b1 => ?_)
  · have yb1 : (n : Int) ≤ (0 : Int) := (zI_le (a := n) (b := 0) (by omega) (by omega) (by omega) (by omega)).mp b1
    subst hQ
    refine W.widen (k := 0) (n := 0) (Nat.le_of_ble_eq_true rfl) (Nat.le_of_ble_eq_true rfl) ?_
    exact W.vret hx hb hr (fun t ht hW => ⟨⟨(), rfl, trivial, a_5, a_6, a_7, a_8, ⟨hR_a_5, hR_a_6, hR_a_7, hR_a_8⟩, by rw [ht]; exact hP, va_K.moved hW.alike hK, hD⟩, hS.F ht⟩) hS.2.2 dX0_shiftRows_78
  · have yb1 : ¬ (n : Int) ≤ (0 : Int) := fun q => b1 ((zI_le (a := n) (b := 0) (by omega) (by omega) (by omega) (by omega)).mpr q)
    refine lv_iload_n hx hb dX0_shiftRows_4 rfl (lv_at hl 1 rfl) ?_
    refine lv_iload_n hx hb dX0_shiftRows_5 rfl (lv_at hl 3 rfl) ?_
    refine lv_iadd hx hb dX0_shiftRows_6 ?_
    refine lv_topi (fun z ez => ?_)
    obtain rfl : z = zI (fr + n) := ez.trans (zI_add (fr) (n))
    refine lv_sipush (v := 2000) hx hb dX0_shiftRows_7 (by decide) ?_
    refine lv_icmp_gt (tgt := 78) hx hb dX0_shiftRows_10 (by decide) (fun b10 => ?_) (fun b10 => ?_)
    · have yb10 : (2000 : Int) < (fr + n : Int) := (zI_lt (a := 2000) (b := fr + n) (by omega) (by omega) (by omega) (by omega)).mp b10
      subst hQ
      refine W.widen (k := 0) (n := 0) (Nat.le_of_ble_eq_true rfl) (Nat.le_of_ble_eq_true rfl) ?_
      exact W.vret hx hb hr (fun t ht hW => ⟨⟨(), rfl, trivial, a_5, a_6, a_7, a_8, ⟨hR_a_5, hR_a_6, hR_a_7, hR_a_8⟩, by rw [ht]; exact hP, va_K.moved hW.alike hK, hD⟩, hS.F ht⟩) hS.2.2 dX0_shiftRows_78
    · have yb10 : ¬ (2000 : Int) < (fr + n : Int) := fun q => b10 ((zI_lt (a := 2000) (b := fr + n) (by omega) (by omega) (by omega) (by omega)).mpr q)
      refine lv_iload_n hx hb dX0_shiftRows_13 rfl (lv_at hl 2 rfl) ?_
      refine lv_iload_n hx hb dX0_shiftRows_14 rfl (lv_at hl 3 rfl) ?_
      refine lv_iadd hx hb dX0_shiftRows_15 ?_
      refine lv_topi (fun z ez => ?_)
      obtain rfl : z = zI (to + n) := ez.trans (zI_add (to) (n))
      refine lv_sipush (v := 2000) hx hb dX0_shiftRows_16 (by decide) ?_
      refine lv_icmp_gt (tgt := 78) hx hb dX0_shiftRows_19 (by decide) (fun b19 => ?_) (fun b19 => ?_)
      · have yb19 : (2000 : Int) < (to + n : Int) := (zI_lt (a := 2000) (b := to + n) (by omega) (by omega) (by omega) (by omega)).mp b19
        subst hQ
        refine W.widen (k := 0) (n := 0) (Nat.le_of_ble_eq_true rfl) (Nat.le_of_ble_eq_true rfl) ?_
        exact W.vret hx hb hr (fun t ht hW => ⟨⟨(), rfl, trivial, a_5, a_6, a_7, a_8, ⟨hR_a_5, hR_a_6, hR_a_7, hR_a_8⟩, by rw [ht]; exact hP, va_K.moved hW.alike hK, hD⟩, hS.F ht⟩) hS.2.2 dX0_shiftRows_78
      · have yb19 : ¬ (2000 : Int) < (to + n : Int) := fun q => b19 ((zI_lt (a := 2000) (b := to + n) (by omega) (by omega) (by omega) (by omega)).mpr q)
        refine lv_aload_n hx hb dX0_shiftRows_22 rfl (lv_at hl 0 rfl) ?_
        refine va_get (D := (dC, dI)) (ci := 0) (v := .ref q_705) (C := RX0) (T := TX0) (N := 19) hx hb hts mem_X0_shiftRows_0 hown hK hP 0 rfl rfl 5 (by decide) (ow (k := 0) rfl) (fun _ h9 => h9) rfl dX0_shiftRows_23 ?_
        refine lv_iload_n hx hb dX0_shiftRows_26 rfl (lv_at hl 1 rfl) ?_
        refine lv_aload_n hx hb dX0_shiftRows_27 rfl (lv_at hl 0 rfl) ?_
        refine va_get (D := (dC, dI)) (ci := 0) (v := .ref q_705) (C := RX0) (T := TX0) (N := 19) hx hb hts mem_X0_shiftRows_0 hown hK hP 0 rfl rfl 5 (by decide) (ow (k := 0) rfl) (fun _ h9 => h9) rfl dX0_shiftRows_28 ?_
        refine lv_iload_n hx hb dX0_shiftRows_31 rfl (lv_at hl 2 rfl) ?_
        refine lv_iload_n hx hb dX0_shiftRows_32 rfl (lv_at hl 3 rfl) ?_
        refine va_copyi (sp := zI (fr)) (dp := zI (to)) (n := zI (n)) hx hb (hml.trans hl.1.symm) hown (ow (k := 1) rfl) (ow (k := 2) rfl) (ow (k := 3) rfl) (ow (k := 4) rfl) hK hP hD hS 1 1 0 0 rfl rfl rfl rfl rfl (zI_nn (by omega) (by omega)) (zI_nn (by omega) (by omega)) (zI_nn (by omega) (by omega)) (zI_sum (by omega) (by omega) (by omega) (by omega) (by omega)) (zI_sum (by omega) (by omega) (by omega) (by omega) (by omega)) (fun _ _ => rfl) (Nat.le_of_ble_eq_true rfl) (Nat.le_of_ble_eq_true rfl) dX0_shiftRows_33 (fun H locs hP hD hS => ?_)
        obtain ⟨a_2001, ea_2001, ra_2001⟩ := cpy_zI (P := fun x9 => -1 ≤ x9 ∧ x9 ≤ 100) a_5 hR_a_5 hR_a_5 (sp := (zI (fr)).toNatClampNeg) (dp := (zI (to)).toNatClampNeg) (n := (zI (n)).toNatClampNeg)
        rw [ea_2001] at hP hD
        have hP : va_P (dC, dI) vwP [(h0, .inr (0, [v_0, v_1, v_2, v_3, v_4, .ref q_705, .ref q_706, .ref q_707, .ref q_708, v_9, v_10, v_11, v_12, v_13, v_14, v_15, v_16, v_17, v_18])), (q_705, .inl (cA_705, 2000, .inl (fun j : Nat => zI (a_2001 (j : Int))))), (q_706, .inl (cA_706, 2000, .inl (fun j : Nat => zI (a_6 (j : Int))))), (q_707, .inl (cA_707, 2000, .inr (.inl (fun j : Nat => lI (a_7 (j : Int)))))), (q_708, .inl (cA_708, 2000, .inr (.inl (fun j : Nat => lI (a_8 (j : Int))))))] H := hP
        have hD : va_D A [(h0, .inr (0, [v_0, v_1, v_2, v_3, v_4, .ref q_705, .ref q_706, .ref q_707, .ref q_708, v_9, v_10, v_11, v_12, v_13, v_14, v_15, v_16, v_17, v_18])), (q_705, .inl (cA_705, 2000, .inl (fun j : Nat => zI (a_2001 (j : Int))))), (q_706, .inl (cA_706, 2000, .inl (fun j : Nat => zI (a_6 (j : Int))))), (q_707, .inl (cA_707, 2000, .inr (.inl (fun j : Nat => lI (a_7 (j : Int)))))), (q_708, .inl (cA_708, 2000, .inr (.inl (fun j : Nat => lI (a_8 (j : Int))))))] := hD
        refine lv_aload_n hx hb dX0_shiftRows_36 rfl (lv_at hl 0 rfl) ?_
        refine va_get (D := (dC, dI)) (ci := 0) (v := .ref q_706) (C := RX0) (T := TX0) (N := 19) hx hb hts mem_X0_shiftRows_0 hown hK hP 0 rfl rfl 6 (by decide) (ow (k := 5) rfl) (fun _ h9 => h9) rfl dX0_shiftRows_37 ?_
        refine lv_iload_n hx hb dX0_shiftRows_40 rfl (lv_at hl 1 rfl) ?_
        refine lv_aload_n hx hb dX0_shiftRows_41 rfl (lv_at hl 0 rfl) ?_
        refine va_get (D := (dC, dI)) (ci := 0) (v := .ref q_706) (C := RX0) (T := TX0) (N := 19) hx hb hts mem_X0_shiftRows_0 hown hK hP 0 rfl rfl 6 (by decide) (ow (k := 5) rfl) (fun _ h9 => h9) rfl dX0_shiftRows_42 ?_
        refine lv_iload_n hx hb dX0_shiftRows_45 rfl (lv_at hl 2 rfl) ?_
        refine lv_iload_n hx hb dX0_shiftRows_46 rfl (lv_at hl 3 rfl) ?_
        refine va_copyi (sp := zI (fr)) (dp := zI (to)) (n := zI (n)) hx hb (hml.trans hl.1.symm) hown (ow (k := 1) rfl) (ow (k := 2) rfl) (ow (k := 3) rfl) (ow (k := 4) rfl) hK hP hD hS 2 2 1 1 rfl rfl rfl rfl rfl (zI_nn (by omega) (by omega)) (zI_nn (by omega) (by omega)) (zI_nn (by omega) (by omega)) (zI_sum (by omega) (by omega) (by omega) (by omega) (by omega)) (zI_sum (by omega) (by omega) (by omega) (by omega) (by omega)) (fun _ _ => rfl) (Nat.le_of_ble_eq_true rfl) (Nat.le_of_ble_eq_true rfl) dX0_shiftRows_47 (fun H locs hP hD hS => ?_)
        obtain ⟨a_2002, ea_2002, ra_2002⟩ := cpy_zI (P := fun x9 => -1 ≤ x9 ∧ x9 ≤ 1023) a_6 hR_a_6 hR_a_6 (sp := (zI (fr)).toNatClampNeg) (dp := (zI (to)).toNatClampNeg) (n := (zI (n)).toNatClampNeg)
        rw [ea_2002] at hP hD
        have hP : va_P (dC, dI) vwP [(h0, .inr (0, [v_0, v_1, v_2, v_3, v_4, .ref q_705, .ref q_706, .ref q_707, .ref q_708, v_9, v_10, v_11, v_12, v_13, v_14, v_15, v_16, v_17, v_18])), (q_705, .inl (cA_705, 2000, .inl (fun j : Nat => zI (a_2001 (j : Int))))), (q_706, .inl (cA_706, 2000, .inl (fun j : Nat => zI (a_2002 (j : Int))))), (q_707, .inl (cA_707, 2000, .inr (.inl (fun j : Nat => lI (a_7 (j : Int)))))), (q_708, .inl (cA_708, 2000, .inr (.inl (fun j : Nat => lI (a_8 (j : Int))))))] H := hP
        have hD : va_D A [(h0, .inr (0, [v_0, v_1, v_2, v_3, v_4, .ref q_705, .ref q_706, .ref q_707, .ref q_708, v_9, v_10, v_11, v_12, v_13, v_14, v_15, v_16, v_17, v_18])), (q_705, .inl (cA_705, 2000, .inl (fun j : Nat => zI (a_2001 (j : Int))))), (q_706, .inl (cA_706, 2000, .inl (fun j : Nat => zI (a_2002 (j : Int))))), (q_707, .inl (cA_707, 2000, .inr (.inl (fun j : Nat => lI (a_7 (j : Int)))))), (q_708, .inl (cA_708, 2000, .inr (.inl (fun j : Nat => lI (a_8 (j : Int))))))] := hD
        refine lv_aload_n hx hb dX0_shiftRows_50 rfl (lv_at hl 0 rfl) ?_
        refine va_get (D := (dC, dI)) (ci := 0) (v := .ref q_707) (C := RX0) (T := TX0) (N := 19) hx hb hts mem_X0_shiftRows_0 hown hK hP 0 rfl rfl 7 (by decide) (ow (k := 6) rfl) (fun _ h9 => h9) rfl dX0_shiftRows_51 ?_
        refine lv_iload_n hx hb dX0_shiftRows_54 rfl (lv_at hl 1 rfl) ?_
        refine lv_aload_n hx hb dX0_shiftRows_55 rfl (lv_at hl 0 rfl) ?_
        refine va_get (D := (dC, dI)) (ci := 0) (v := .ref q_707) (C := RX0) (T := TX0) (N := 19) hx hb hts mem_X0_shiftRows_0 hown hK hP 0 rfl rfl 7 (by decide) (ow (k := 6) rfl) (fun _ h9 => h9) rfl dX0_shiftRows_56 ?_
        refine lv_iload_n hx hb dX0_shiftRows_59 rfl (lv_at hl 2 rfl) ?_
        refine lv_iload_n hx hb dX0_shiftRows_60 rfl (lv_at hl 3 rfl) ?_
        refine va_copyl (sp := zI (fr)) (dp := zI (to)) (n := zI (n)) hx hb (hml.trans hl.1.symm) hown (ow (k := 1) rfl) (ow (k := 2) rfl) (ow (k := 3) rfl) (ow (k := 4) rfl) hK hP hD hS 3 3 2 2 rfl rfl rfl rfl rfl (zI_nn (by omega) (by omega)) (zI_nn (by omega) (by omega)) (zI_nn (by omega) (by omega)) (zI_sum (by omega) (by omega) (by omega) (by omega) (by omega)) (zI_sum (by omega) (by omega) (by omega) (by omega) (by omega)) (fun _ _ => rfl) (Nat.le_of_ble_eq_true rfl) (Nat.le_of_ble_eq_true rfl) dX0_shiftRows_61 (fun H locs hP hD hS => ?_)
        obtain ⟨a_2003, ea_2003, ra_2003⟩ := cpy_lI (P := fun x9 => ((-2147483648 ≤ x9 ∧ x9 ≤ 4294968319) ∨ x9 = 1099511627776)) a_7 hR_a_7 hR_a_7 (sp := (zI (fr)).toNatClampNeg) (dp := (zI (to)).toNatClampNeg) (n := (zI (n)).toNatClampNeg)
        rw [ea_2003] at hP hD
        have hP : va_P (dC, dI) vwP [(h0, .inr (0, [v_0, v_1, v_2, v_3, v_4, .ref q_705, .ref q_706, .ref q_707, .ref q_708, v_9, v_10, v_11, v_12, v_13, v_14, v_15, v_16, v_17, v_18])), (q_705, .inl (cA_705, 2000, .inl (fun j : Nat => zI (a_2001 (j : Int))))), (q_706, .inl (cA_706, 2000, .inl (fun j : Nat => zI (a_2002 (j : Int))))), (q_707, .inl (cA_707, 2000, .inr (.inl (fun j : Nat => lI (a_2003 (j : Int)))))), (q_708, .inl (cA_708, 2000, .inr (.inl (fun j : Nat => lI (a_8 (j : Int))))))] H := hP
        have hD : va_D A [(h0, .inr (0, [v_0, v_1, v_2, v_3, v_4, .ref q_705, .ref q_706, .ref q_707, .ref q_708, v_9, v_10, v_11, v_12, v_13, v_14, v_15, v_16, v_17, v_18])), (q_705, .inl (cA_705, 2000, .inl (fun j : Nat => zI (a_2001 (j : Int))))), (q_706, .inl (cA_706, 2000, .inl (fun j : Nat => zI (a_2002 (j : Int))))), (q_707, .inl (cA_707, 2000, .inr (.inl (fun j : Nat => lI (a_2003 (j : Int)))))), (q_708, .inl (cA_708, 2000, .inr (.inl (fun j : Nat => lI (a_8 (j : Int))))))] := hD
        refine lv_aload_n hx hb dX0_shiftRows_64 rfl (lv_at hl 0 rfl) ?_
        refine va_get (D := (dC, dI)) (ci := 0) (v := .ref q_708) (C := RX0) (T := TX0) (N := 19) hx hb hts mem_X0_shiftRows_0 hown hK hP 0 rfl rfl 8 (by decide) (ow (k := 7) rfl) (fun _ h9 => h9) rfl dX0_shiftRows_65 ?_
        refine lv_iload_n hx hb dX0_shiftRows_68 rfl (lv_at hl 1 rfl) ?_
        refine lv_aload_n hx hb dX0_shiftRows_69 rfl (lv_at hl 0 rfl) ?_
        refine va_get (D := (dC, dI)) (ci := 0) (v := .ref q_708) (C := RX0) (T := TX0) (N := 19) hx hb hts mem_X0_shiftRows_0 hown hK hP 0 rfl rfl 8 (by decide) (ow (k := 7) rfl) (fun _ h9 => h9) rfl dX0_shiftRows_70 ?_
        refine lv_iload_n hx hb dX0_shiftRows_73 rfl (lv_at hl 2 rfl) ?_
        refine lv_iload_n hx hb dX0_shiftRows_74 rfl (lv_at hl 3 rfl) ?_
        refine va_copyl (sp := zI (fr)) (dp := zI (to)) (n := zI (n)) hx hb (hml.trans hl.1.symm) hown (ow (k := 1) rfl) (ow (k := 2) rfl) (ow (k := 3) rfl) (ow (k := 4) rfl) hK hP hD hS 4 4 3 3 rfl rfl rfl rfl rfl (zI_nn (by omega) (by omega)) (zI_nn (by omega) (by omega)) (zI_nn (by omega) (by omega)) (zI_sum (by omega) (by omega) (by omega) (by omega) (by omega)) (zI_sum (by omega) (by omega) (by omega) (by omega) (by omega)) (fun _ _ => rfl) (Nat.le_of_ble_eq_true rfl) (Nat.le_of_ble_eq_true rfl) dX0_shiftRows_75 (fun H locs hP hD hS => ?_)
        obtain ⟨a_2004, ea_2004, ra_2004⟩ := cpy_lI (P := fun x9 => ((-2147483648 ≤ x9 ∧ x9 ≤ 4294968319) ∨ x9 = 1099511627776)) a_8 hR_a_8 hR_a_8 (sp := (zI (fr)).toNatClampNeg) (dp := (zI (to)).toNatClampNeg) (n := (zI (n)).toNatClampNeg)
        rw [ea_2004] at hP hD
        have hP : va_P (dC, dI) vwP [(h0, .inr (0, [v_0, v_1, v_2, v_3, v_4, .ref q_705, .ref q_706, .ref q_707, .ref q_708, v_9, v_10, v_11, v_12, v_13, v_14, v_15, v_16, v_17, v_18])), (q_705, .inl (cA_705, 2000, .inl (fun j : Nat => zI (a_2001 (j : Int))))), (q_706, .inl (cA_706, 2000, .inl (fun j : Nat => zI (a_2002 (j : Int))))), (q_707, .inl (cA_707, 2000, .inr (.inl (fun j : Nat => lI (a_2003 (j : Int)))))), (q_708, .inl (cA_708, 2000, .inr (.inl (fun j : Nat => lI (a_2004 (j : Int))))))] H := hP
        have hD : va_D A [(h0, .inr (0, [v_0, v_1, v_2, v_3, v_4, .ref q_705, .ref q_706, .ref q_707, .ref q_708, v_9, v_10, v_11, v_12, v_13, v_14, v_15, v_16, v_17, v_18])), (q_705, .inl (cA_705, 2000, .inl (fun j : Nat => zI (a_2001 (j : Int))))), (q_706, .inl (cA_706, 2000, .inl (fun j : Nat => zI (a_2002 (j : Int))))), (q_707, .inl (cA_707, 2000, .inr (.inl (fun j : Nat => lI (a_2003 (j : Int)))))), (q_708, .inl (cA_708, 2000, .inr (.inl (fun j : Nat => lI (a_2004 (j : Int))))))] := hD
        subst hQ
        refine W.widen (k := 0) (n := 0) (Nat.le_of_ble_eq_true rfl) (Nat.le_of_ble_eq_true rfl) ?_
        exact W.vret hx hb hr (fun t ht hW => ⟨⟨(), rfl, trivial, a_2001, a_2002, a_2003, a_2004, ⟨ra_2001, ra_2002, ra_2003, ra_2004⟩, by rw [ht]; exact hP, va_K.moved hW.alike hK, hD⟩, hS.F ht⟩) hS.2.2 dX0_shiftRows_78
