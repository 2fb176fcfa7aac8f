theorem dX11_isRegister_0 : decode cX11_isRegister 0 = .ok (.lload_n 0, 1) := by decide +kernel
theorem dX11_isRegister_1 : decode cX11_isRegister 1 = .ok (.ldc2_w 318, 3) := by decide +kernel
theorem dX11_isRegister_4 : decode cX11_isRegister 4 = .ok (.lcmp, 1) := by decide +kernel
theorem dX11_isRegister_5 : decode cX11_isRegister 5 = .ok (.ifCond .lt 15, 3) := by decide +kernel
theorem dX11_isRegister_20 : decode cX11_isRegister 20 = .ok (.iconst 0, 1) := by decide +kernel
theorem dX11_isRegister_21 : decode cX11_isRegister 21 = .ok (.ireturn, 1) := by decide +kernel
theorem dX11_isRegister_8 : decode cX11_isRegister 8 = .ok (.lload_n 0, 1) := by decide +kernel
theorem dX11_isRegister_9 : decode cX11_isRegister 9 = .ok (.ldc2_w 320, 3) := by decide +kernel
theorem dX11_isRegister_12 : decode cX11_isRegister 12 = .ok (.lcmp, 1) := by decide +kernel
theorem dX11_isRegister_13 : decode cX11_isRegister 13 = .ok (.ifCond .ge 7, 3) := by decide +kernel
theorem dX11_isRegister_16 : decode cX11_isRegister 16 = .ok (.iconst 1, 1) := by decide +kernel
theorem dX11_isRegister_17 : decode cX11_isRegister 17 = .ok (.goto 4, 3) := by decide +kernel
def o_X11_isRegister : List Cond := [.constantLong RX11 318 (4294967296), .constantLong RX11 320 (1099511627776)]
def v_X11_isRegister : List Cond := .code yX11_isRegister cX11_isRegister 2 (some .boolean) :: (o_X11_isRegister ++ [])
theorem mow_X11_isRegister : ∀ w ∈ o_X11_isRegister, w ∈ v_X11_isRegister := fun _ h => List.mem_cons_of_mem _ (List.mem_append_left _ h)
set_option maxRecDepth 20000 in
theorem gw_X11_isRegister : v_X11_isRegister.all goodWord = true := by decide +kernel
set_option maxHeartbeats 4000000 in
set_option maxRecDepth 100000 in
theorem c_X11_isRegister (l : Launch) (dC : Nat → ClassId) (dI : Nat → Nat → Nat) (x : Int) (hNx : -4611686018427387904 ≤ x ∧ x ≤ 4611686018427387904) (sz : Nat) : Met l yX11_isRegister v_X11_isRegister ({ frames := 0, cells := 0, slots := 0, locals := 0 }) (va_Pc [.long (lI (x))] (fun U => U.heap.size = sz ∧ va_P (dC, dI) vwP [] U.heap ∧ va_K (dC, dI) vwP [] U ∧ va_D (fun _ => True) [])) (va_Qi (fun (r : Int32) (_ : Unit) => r = zI (isR (x))) (fun (_ : Unit) (t : State) => va_P (dC, dI) vwP [] t.heap ∧ va_K (dC, dI) vwP [] t ∧ va_D (va_A [] sz) []) (va_A [] sz)) 0 0 (va_A [] sz) := by
  refine Met.ofW (cc := cX11_isRegister) (maxL := 2) (ret := (some .boolean)) (by decide) rfl ?_
  intro p e s m args below meth c s₁ B hml hv
  obtain ⟨rfl, hsz, hP, hK, hD0⟩ := hv
  have hx := B.exec
  have hb := B.bytes
  have hr := B.returns
  have hts := atoms_spec (ws := v_X11_isRegister) B.pre
  have hown : s.vm.findClass RX11 = some m.cls := findClass_of_methodNamed B.named
  have hlocks := B.notSynchronized
  have ow : ∀ {k : Nat} {w : Cond}, o_X11_isRegister[k]? = some w → w.before ([.long (lI (x))] : List Value).toArray s = true := fun h => hts _ (mow_X11_isRegister _ (List.mem_of_getElem? h))
  subst hsz
  have hD := hD0.self (sz := s.heap.size)
  generalize hAe : va_A [] s.heap.size = A at hD ⊢
  have hA : ∀ q : Nat, s.heap.size ≤ q → A q := fun q h => by rw [← hAe]; exact Or.inr h
  have hS : va_S A s.heap s.heap [] := va_S.rf
  have hP : va_P (dC, dI) vwP [] s.heap := hP
  have hl := lv_entry ([.long (lI (x))]) (n := 2) (Nat.le_of_ble_eq_true rfl)
  rw [lg_entry_eq]
  generalize (lg_sl ([.long (lI (x))]) ++ List.replicate (2 - (lg_sl ([.long (lI (x))])).length) Slot.unset).toArray = ls at hl ⊢
  have hl : lv_has ls 2 [(0, .long (lI (x)))] := hl
  obtain ⟨H, hH⟩ : ∃ H, H = s.heap := ⟨_, rfl⟩
  rw [← hH] at hP
  have hS : va_S A s.heap H [] := by rw [hH]; exact hS
  rw [← hH]
  refine zW_cap (fun Q hQ => ?_)
  refine lv_lload_n hx hb dX11_isRegister_0 rfl (lv_at hl 0 rfl) ?_
  refine lv_ldc2 (v := 4294967296) hx hb hown (ow (k := 0) rfl) dX11_isRegister_1 ?_
  refine lv_topl (fun z ez => ?_)
  obtain rfl : z = lI (4294967296) := ez
  refine W.lcmp hx hb dX11_isRegister_4 ?_
  refine lv_if_lt (tgt := 20) hx hb dX11_isRegister_5 (by decide) (fun b5 => ?_) (fun b5 => ?_)
  · have yb5 : (x : Int) < 4294967296 := (lc_lt (a := x) (b := 4294967296) (by omega) (by omega) (by omega) (by omega)).mp b5
    refine lv_iconst (v := 0) hx hb dX11_isRegister_20 (by decide) ?_
    subst hQ
    refine W.widen (k := 0) (n := 0) (Nat.le_of_ble_eq_true rfl) (Nat.le_of_ble_eq_true rfl) ?_
    exact W.zret (v := 0) hx hb hr (by decide) (fun t ht hW => ⟨⟨0, (), rfl, (congrArg zI (show (0 : Int) = isR (x) by unfold isR; (repeat' split) <;> omega)), by rw [ht]; exact hP, va_K.moved hW.alike hK, hD⟩, hS.F ht⟩) hS.2.2 dX11_isRegister_21
  · have yb5 : ¬ (x : Int) < 4294967296 := fun q => b5 ((lc_lt (a := x) (b := 4294967296) (by omega) (by omega) (by omega) (by omega)).mpr q)
    refine lv_lload_n hx hb dX11_isRegister_8 rfl (lv_at hl 0 rfl) ?_
    refine lv_ldc2 (v := 1099511627776) hx hb hown (ow (k := 1) rfl) dX11_isRegister_9 ?_
    refine lv_topl (fun z ez => ?_)
    obtain rfl : z = lI (1099511627776) := ez
    refine W.lcmp hx hb dX11_isRegister_12 ?_
    refine lv_if_ge (tgt := 20) hx hb dX11_isRegister_13 (by decide) (fun b13 => ?_) (fun b13 => ?_)
    · have yb13 : (1099511627776 : Int) ≤ x := (lc_ge (a := x) (b := 1099511627776) (by omega) (by omega) (by omega) (by omega)).mp b13
      refine lv_iconst (v := 0) hx hb dX11_isRegister_20 (by decide) ?_
      subst hQ
      refine W.widen (k := 0) (n := 0) (Nat.le_of_ble_eq_true rfl) (Nat.le_of_ble_eq_true rfl) ?_
      exact W.zret (v := 0) hx hb hr (by decide) (fun t ht hW => ⟨⟨0, (), rfl, (congrArg zI (show (0 : Int) = isR (x) by unfold isR; (repeat' split) <;> omega)), by rw [ht]; exact hP, va_K.moved hW.alike hK, hD⟩, hS.F ht⟩) hS.2.2 dX11_isRegister_21
    · have yb13 : ¬ (1099511627776 : Int) ≤ x := fun q => b13 ((lc_ge (a := x) (b := 1099511627776) (by omega) (by omega) (by omega) (by omega)).mpr q)
      refine lv_iconst (v := 1) hx hb dX11_isRegister_16 (by decide) ?_
      refine lv_goto (tgt := 21) hx hb dX11_isRegister_17 (by decide) ?_
      subst hQ
      refine W.widen (k := 0) (n := 0) (Nat.le_of_ble_eq_true rfl) (Nat.le_of_ble_eq_true rfl) ?_
      exact W.zret (v := 1) hx hb hr (by decide) (fun t ht hW => ⟨⟨1, (), rfl, (congrArg zI (show (1 : Int) = isR (x) by unfold isR; (repeat' split) <;> omega)), by rw [ht]; exact hP, va_K.moved hW.alike hK, hD⟩, hS.F ht⟩) hS.2.2 dX11_isRegister_21
theorem dX11_isNumber_0 : decode cX11_isNumber 0 = .ok (.lload_n 0, 1) := by decide +kernel
theorem dX11_isNumber_1 : decode cX11_isNumber 1 = .ok (.ldc2_w 318, 3) := by decide +kernel
theorem dX11_isNumber_4 : decode cX11_isNumber 4 = .ok (.lcmp, 1) := by decide +kernel
theorem dX11_isNumber_5 : decode cX11_isNumber 5 = .ok (.ifCond .ge 7, 3) := by decide +kernel
theorem dX11_isNumber_12 : decode cX11_isNumber 12 = .ok (.iconst 0, 1) := by decide +kernel
theorem dX11_isNumber_13 : decode cX11_isNumber 13 = .ok (.ireturn, 1) := by decide +kernel
theorem dX11_isNumber_8 : decode cX11_isNumber 8 = .ok (.iconst 1, 1) := by decide +kernel
theorem dX11_isNumber_9 : decode cX11_isNumber 9 = .ok (.goto 4, 3) := by decide +kernel
def o_X11_isNumber : List Cond := [.constantLong RX11 318 (4294967296)]
def v_X11_isNumber : List Cond := .code yX11_isNumber cX11_isNumber 2 (some .boolean) :: (o_X11_isNumber ++ [])
theorem mow_X11_isNumber : ∀ w ∈ o_X11_isNumber, w ∈ v_X11_isNumber := fun _ h => List.mem_cons_of_mem _ (List.mem_append_left _ h)
set_option maxRecDepth 20000 in
theorem gw_X11_isNumber : v_X11_isNumber.all goodWord = true := by decide +kernel
set_option maxHeartbeats 4000000 in
set_option maxRecDepth 100000 in
theorem c_X11_isNumber (l : Launch) (dC : Nat → ClassId) (dI : Nat → Nat → Nat) (x : Int) (hNx : -4611686018427387904 ≤ x ∧ x ≤ 4611686018427387904) (sz : Nat) : Met l yX11_isNumber v_X11_isNumber ({ frames := 0, cells := 0, slots := 0, locals := 0 }) (va_Pc [.long (lI (x))] (fun U => U.heap.size = sz ∧ va_P (dC, dI) vwP [] U.heap ∧ va_K (dC, dI) vwP [] U ∧ va_D (fun _ => True) [])) (va_Qi (fun (r : Int32) (_ : Unit) => r = zI (isN (x))) (fun (_ : Unit) (t : State) => va_P (dC, dI) vwP [] t.heap ∧ va_K (dC, dI) vwP [] t ∧ va_D (va_A [] sz) []) (va_A [] sz)) 0 0 (va_A [] sz) := by
  refine Met.ofW (cc := cX11_isNumber) (maxL := 2) (ret := (some .boolean)) (by decide) rfl ?_
  intro p e s m args below meth c s₁ B hml hv
  obtain ⟨rfl, hsz, hP, hK, hD0⟩ := hv
  have hx := B.exec
  have hb := B.bytes
  have hr := B.returns
  have hts := atoms_spec (ws := v_X11_isNumber) B.pre
  have hown : s.vm.findClass RX11 = some m.cls := findClass_of_methodNamed B.named
  have hlocks := B.notSynchronized
  have ow : ∀ {k : Nat} {w : Cond}, o_X11_isNumber[k]? = some w → w.before ([.long (lI (x))] : List Value).toArray s = true := fun h => hts _ (mow_X11_isNumber _ (List.mem_of_getElem? h))
  subst hsz
  have hD := hD0.self (sz := s.heap.size)
  generalize hAe : va_A [] s.heap.size = A at hD ⊢
  have hA : ∀ q : Nat, s.heap.size ≤ q → A q := fun q h => by rw [← hAe]; exact Or.inr h
  have hS : va_S A s.heap s.heap [] := va_S.rf
  have hP : va_P (dC, dI) vwP [] s.heap := hP
  have hl := lv_entry ([.long (lI (x))]) (n := 2) (Nat.le_of_ble_eq_true rfl)
  rw [lg_entry_eq]
  generalize (lg_sl ([.long (lI (x))]) ++ List.replicate (2 - (lg_sl ([.long (lI (x))])).length) Slot.unset).toArray = ls at hl ⊢
  have hl : lv_has ls 2 [(0, .long (lI (x)))] := hl
  obtain ⟨H, hH⟩ : ∃ H, H = s.heap := ⟨_, rfl⟩
  rw [← hH] at hP
  have hS : va_S A s.heap H [] := by rw [hH]; exact hS
  rw [← hH]
  refine zW_cap (fun Q hQ => ?_)
  refine lv_lload_n hx hb dX11_isNumber_0 rfl (lv_at hl 0 rfl) ?_
  refine lv_ldc2 (v := 4294967296) hx hb hown (ow (k := 0) rfl) dX11_isNumber_1 ?_
  refine lv_topl (fun z ez => ?_)
  obtain rfl : z = lI (4294967296) := ez
  refine W.lcmp hx hb dX11_isNumber_4 ?_
  refine lv_if_ge (tgt := 12) hx hb dX11_isNumber_5 (by decide) (fun b5 => ?_) (fun b5 => ?_)
  · have yb5 : (4294967296 : Int) ≤ x := (lc_ge (a := x) (b := 4294967296) (by omega) (by omega) (by omega) (by omega)).mp b5
    refine lv_iconst (v := 0) hx hb dX11_isNumber_12 (by decide) ?_
    subst hQ
    refine W.widen (k := 0) (n := 0) (Nat.le_of_ble_eq_true rfl) (Nat.le_of_ble_eq_true rfl) ?_
    exact W.zret (v := 0) hx hb hr (by decide) (fun t ht hW => ⟨⟨0, (), rfl, (congrArg zI (show (0 : Int) = isN (x) by unfold isN; (repeat' split) <;> omega)), by rw [ht]; exact hP, va_K.moved hW.alike hK, hD⟩, hS.F ht⟩) hS.2.2 dX11_isNumber_13
  · have yb5 : ¬ (4294967296 : Int) ≤ x := fun q => b5 ((lc_ge (a := x) (b := 4294967296) (by omega) (by omega) (by omega) (by omega)).mpr q)
    refine lv_iconst (v := 1) hx hb dX11_isNumber_8 (by decide) ?_
    refine lv_goto (tgt := 13) hx hb dX11_isNumber_9 (by decide) ?_
    subst hQ
    refine W.widen (k := 0) (n := 0) (Nat.le_of_ble_eq_true rfl) (Nat.le_of_ble_eq_true rfl) ?_
    exact W.zret (v := 1) hx hb hr (by decide) (fun t ht hW => ⟨⟨1, (), rfl, (congrArg zI (show (1 : Int) = isN (x) by unfold isN; (repeat' split) <;> omega)), by rw [ht]; exact hP, va_K.moved hW.alike hK, hD⟩, hS.F ht⟩) hS.2.2 dX11_isNumber_13
theorem dX11_registerOf_0 : decode cX11_registerOf 0 = .ok (.lload_n 0, 1) := by decide +kernel
theorem dX11_registerOf_1 : decode cX11_registerOf 1 = .ok (.ldc2_w 318, 3) := by decide +kernel
theorem dX11_registerOf_4 : decode cX11_registerOf 4 = .ok (.lsub, 1) := by decide +kernel
theorem dX11_registerOf_5 : decode cX11_registerOf 5 = .ok (.l2i, 1) := by decide +kernel
theorem dX11_registerOf_6 : decode cX11_registerOf 6 = .ok (.ireturn, 1) := by decide +kernel
def o_X11_registerOf : List Cond := [.constantLong RX11 318 (4294967296)]
def v_X11_registerOf : List Cond := .code yX11_registerOf cX11_registerOf 2 (some .int) :: (o_X11_registerOf ++ [])
theorem mow_X11_registerOf : ∀ w ∈ o_X11_registerOf, w ∈ v_X11_registerOf := fun _ h => List.mem_cons_of_mem _ (List.mem_append_left _ h)
set_option maxRecDepth 20000 in
theorem gw_X11_registerOf : v_X11_registerOf.all goodWord = true := by decide +kernel
set_option maxHeartbeats 4000000 in
set_option maxRecDepth 100000 in
theorem c_X11_registerOf (l : Launch) (dC : Nat → ClassId) (dI : Nat → Nat → Nat) (x : Int) (hNx : -4611686018427387904 ≤ x ∧ x ≤ 4611686018427387904) (sz : Nat) : Met l yX11_registerOf v_X11_registerOf ({ frames := 0, cells := 0, slots := 0, locals := 0 }) (va_Pc [.long (lI (x))] (fun U => U.heap.size = sz ∧ va_P (dC, dI) vwP [] U.heap ∧ va_K (dC, dI) vwP [] U ∧ va_D (fun _ => True) [])) (va_Qi (fun (r : Int32) (_ : Unit) => r = zI (x - 4294967296)) (fun (_ : Unit) (t : State) => va_P (dC, dI) vwP [] t.heap ∧ va_K (dC, dI) vwP [] t ∧ va_D (va_A [] sz) []) (va_A [] sz)) 0 0 (va_A [] sz) := by
  refine Met.ofW (cc := cX11_registerOf) (maxL := 2) (ret := (some .int)) (by decide) rfl ?_
  intro p e s m args below meth c s₁ B hml hv
  obtain ⟨rfl, hsz, hP, hK, hD0⟩ := hv
  have hx := B.exec
  have hb := B.bytes
  have hr := B.returns
  have hts := atoms_spec (ws := v_X11_registerOf) B.pre
  have hown : s.vm.findClass RX11 = some m.cls := findClass_of_methodNamed B.named
  have hlocks := B.notSynchronized
  have ow : ∀ {k : Nat} {w : Cond}, o_X11_registerOf[k]? = some w → w.before ([.long (lI (x))] : List Value).toArray s = true := fun h => hts _ (mow_X11_registerOf _ (List.mem_of_getElem? h))
  subst hsz
  have hD := hD0.self (sz := s.heap.size)
  generalize hAe : va_A [] s.heap.size = A at hD ⊢
  have hA : ∀ q : Nat, s.heap.size ≤ q → A q := fun q h => by rw [← hAe]; exact Or.inr h
  have hS : va_S A s.heap s.heap [] := va_S.rf
  have hP : va_P (dC, dI) vwP [] s.heap := hP
  have hl := lv_entry ([.long (lI (x))]) (n := 2) (Nat.le_of_ble_eq_true rfl)
  rw [lg_entry_eq]
  generalize (lg_sl ([.long (lI (x))]) ++ List.replicate (2 - (lg_sl ([.long (lI (x))])).length) Slot.unset).toArray = ls at hl ⊢
  have hl : lv_has ls 2 [(0, .long (lI (x)))] := hl
  obtain ⟨H, hH⟩ : ∃ H, H = s.heap := ⟨_, rfl⟩
  rw [← hH] at hP
  have hS : va_S A s.heap H [] := by rw [hH]; exact hS
  rw [← hH]
  refine zW_cap (fun Q hQ => ?_)
  refine lv_lload_n hx hb dX11_registerOf_0 rfl (lv_at hl 0 rfl) ?_
  refine lv_ldc2 (v := 4294967296) hx hb hown (ow (k := 0) rfl) dX11_registerOf_1 ?_
  refine lv_topl (fun z ez => ?_)
  obtain rfl : z = lI (4294967296) := ez
  refine lv_lsub hx hb dX11_registerOf_4 ?_
  refine lv_topl (fun z ez => ?_)
  obtain rfl : z = lI (x - 4294967296) := ez.trans (lI_sub (x) (4294967296))
  refine lv_l2i (v := zI (x - 4294967296)) hx hb dX11_registerOf_5 (lI_i (x - 4294967296)) ?_
  subst hQ
  refine W.widen (k := 0) (n := 0) (Nat.le_of_ble_eq_true rfl) (Nat.le_of_ble_eq_true rfl) ?_
  exact W.iret (v := (zI (x - 4294967296))) hx hb hr (fun t ht hW => ⟨⟨(zI (x - 4294967296)), (), rfl, rfl, by rw [ht]; exact hP, va_K.moved hW.alike hK, hD⟩, hS.F ht⟩) hS.2.2 dX11_registerOf_6
theorem dX11_divides_0 : decode cX11_divides 0 = .ok (.iload_n 0, 1) := by decide +kernel
theorem dX11_divides_1 : decode cX11_divides 1 = .ok (.bipush 6, 2) := by decide +kernel
theorem dX11_divides_3 : decode cX11_divides 3 = .ok (.if_icmp .eq 9, 3) := by decide +kernel
theorem dX11_divides_12 : decode cX11_divides 12 = .ok (.iconst 1, 1) := by decide +kernel
theorem dX11_divides_13 : decode cX11_divides 13 = .ok (.goto 4, 3) := by decide +kernel
theorem dX11_divides_17 : decode cX11_divides 17 = .ok (.ireturn, 1) := by decide +kernel
theorem dX11_divides_6 : decode cX11_divides 6 = .ok (.iload_n 0, 1) := by decide +kernel
theorem dX11_divides_7 : decode cX11_divides 7 = .ok (.bipush 7, 2) := by decide +kernel
theorem dX11_divides_9 : decode cX11_divides 9 = .ok (.if_icmp .ne 7, 3) := by decide +kernel
theorem dX11_divides_16 : decode cX11_divides 16 = .ok (.iconst 0, 1) := by decide +kernel
def o_X11_divides : List Cond := []
def v_X11_divides : List Cond := .code yX11_divides cX11_divides 1 (some .boolean) :: (o_X11_divides ++ [])
theorem mow_X11_divides : ∀ w ∈ o_X11_divides, w ∈ v_X11_divides := fun _ h => List.mem_cons_of_mem _ (List.mem_append_left _ h)
set_option maxRecDepth 20000 in
theorem gw_X11_divides : v_X11_divides.all goodWord = true := by decide +kernel
set_option maxHeartbeats 4000000 in
set_option maxRecDepth 100000 in
theorem c_X11_divides (l : Launch) (dC : Nat → ClassId) (dI : Nat → Nat → Nat) (o : Int) (hNo : -1 ≤ o ∧ o ≤ 100) (sz : Nat) : Met l yX11_divides v_X11_divides ({ frames := 0, cells := 0, slots := 0, locals := 0 }) (va_Pc [.int (zI (o))] (fun U => U.heap.size = sz ∧ va_P (dC, dI) vwP [] U.heap ∧ va_K (dC, dI) vwP [] U ∧ va_D (fun _ => True) [])) (va_Qi (fun (r : Int32) (_ : Unit) => ∃ z : Int, r = zI z ∧ (0 ≤ z ∧ z ≤ 1)) (fun (_ : Unit) (t : State) => va_P (dC, dI) vwP [] t.heap ∧ va_K (dC, dI) vwP [] t ∧ va_D (va_A [] sz) []) (va_A [] sz)) 0 0 (va_A [] sz) := by
  refine Met.ofW (cc := cX11_divides) (maxL := 1) (ret := (some .boolean)) (by decide) rfl ?_
  intro p e s m args below meth c s₁ B hml hv
  obtain ⟨rfl, hsz, hP, hK, hD0⟩ := hv
  have hx := B.exec
  have hb := B.bytes
  have hr := B.returns
  have hts := atoms_spec (ws := v_X11_divides) B.pre
  have hown : s.vm.findClass RX11 = some m.cls := findClass_of_methodNamed B.named
  have hlocks := B.notSynchronized
  have ow : ∀ {k : Nat} {w : Cond}, o_X11_divides[k]? = some w → w.before ([.int (zI (o))] : List Value).toArray s = true := fun h => hts _ (mow_X11_divides _ (List.mem_of_getElem? h))
  subst hsz
  have hD := hD0.self (sz := s.heap.size)
  generalize hAe : va_A [] s.heap.size = A at hD ⊢
  have hA : ∀ q : Nat, s.heap.size ≤ q → A q := fun q h => by rw [← hAe]; exact Or.inr h
  have hS : va_S A s.heap s.heap [] := va_S.rf
  have hP : va_P (dC, dI) vwP [] s.heap := hP
  have hl := lv_entry ([.int (zI (o))]) (n := 1) (Nat.le_of_ble_eq_true rfl)
  rw [lg_entry_eq]
  generalize (lg_sl ([.int (zI (o))]) ++ List.replicate (1 - (lg_sl ([.int (zI (o))])).length) Slot.unset).toArray = ls at hl ⊢
  have hl : lv_has ls 1 [(0, .int (zI (o)))] := hl
  obtain ⟨H, hH⟩ : ∃ H, H = s.heap := ⟨_, rfl⟩
  rw [← hH] at hP
  have hS : va_S A s.heap H [] := by rw [hH]; exact hS
  rw [← hH]
  refine zW_cap (fun Q hQ => ?_)
  refine lv_iload_n hx hb dX11_divides_0 rfl (lv_at hl 0 rfl) ?_
  refine lv_bipush (v := 6) hx hb dX11_divides_1 (by decide) ?_
  refine lv_icmp_eq (tgt := 12) hx hb dX11_divides_3 (by decide) (fun b3 => ?_) (fun b3 => ?_)
  · have yb3 : (o : Int) = (6 : Int) := (zI_eq (a := o) (b := 6) (by omega) (by omega) (by omega) (by omega)).mp b3
    refine lv_iconst (v := 1) hx hb dX11_divides_12 (by decide) ?_
    refine lv_goto (tgt := 17) hx hb dX11_divides_13 (by decide) ?_
    subst hQ
    refine W.widen (k := 0) (n := 0) (Nat.le_of_ble_eq_true rfl) (Nat.le_of_ble_eq_true rfl) ?_
    exact W.zret (v := 1) hx hb hr (by decide) (fun t ht hW => ⟨⟨1, (), rfl, ⟨1, rfl, by omega⟩, by rw [ht]; exact hP, va_K.moved hW.alike hK, hD⟩, hS.F ht⟩) hS.2.2 dX11_divides_17
  · have yb3 : ¬ (o : Int) = (6 : Int) := fun q => b3 ((zI_eq (a := o) (b := 6) (by omega) (by omega) (by omega) (by omega)).mpr q)
    refine lv_iload_n hx hb dX11_divides_6 rfl (lv_at hl 0 rfl) ?_
    refine lv_bipush (v := 7) hx hb dX11_divides_7 (by decide) ?_
    refine lv_icmp_ne (tgt := 16) hx hb dX11_divides_9 (by decide) (fun b9 => ?_) (fun b9 => ?_)
    · have yb9 : ¬ (o : Int) = (7 : Int) := fun q => b9 ((zI_eq (a := o) (b := 7) (by omega) (by omega) (by omega) (by omega)).mpr q)
      refine lv_iconst (v := 0) hx hb dX11_divides_16 (by decide) ?_
      subst hQ
      refine W.widen (k := 0) (n := 0) (Nat.le_of_ble_eq_true rfl) (Nat.le_of_ble_eq_true rfl) ?_
      exact W.zret (v := 0) hx hb hr (by decide) (fun t ht hW => ⟨⟨0, (), rfl, ⟨0, rfl, by omega⟩, by rw [ht]; exact hP, va_K.moved hW.alike hK, hD⟩, hS.F ht⟩) hS.2.2 dX11_divides_17
    · have yb9 : (o : Int) = (7 : Int) := (zI_eq (a := o) (b := 7) (by omega) (by omega) (by omega) (by omega)).mp b9
      refine lv_iconst (v := 1) hx hb dX11_divides_12 (by decide) ?_
      refine lv_goto (tgt := 17) hx hb dX11_divides_13 (by decide) ?_
      subst hQ
      refine W.widen (k := 0) (n := 0) (Nat.le_of_ble_eq_true rfl) (Nat.le_of_ble_eq_true rfl) ?_
      exact W.zret (v := 1) hx hb hr (by decide) (fun t ht hW => ⟨⟨1, (), rfl, ⟨1, rfl, by omega⟩, by rw [ht]; exact hP, va_K.moved hW.alike hK, hD⟩, hS.F ht⟩) hS.2.2 dX11_divides_17
theorem dX11_mayFail_0 : decode cX11_mayFail 0 = .ok (.iload_n 0, 1) := by decide +kernel
theorem dX11_mayFail_1 : decode cX11_mayFail 1 = .ok (.invokestatic 322, 3) := by decide +kernel
theorem dX11_mayFail_4 : decode cX11_mayFail 4 = .ok (.ifCond .eq 20, 3) := by decide +kernel
theorem dX11_mayFail_24 : decode cX11_mayFail 24 = .ok (.iconst 0, 1) := by decide +kernel
theorem dX11_mayFail_25 : decode cX11_mayFail 25 = .ok (.ireturn, 1) := by decide +kernel
theorem dX11_mayFail_7 : decode cX11_mayFail 7 = .ok (.lload_n 1, 1) := by decide +kernel
theorem dX11_mayFail_8 : decode cX11_mayFail 8 = .ok (.lconst 0, 1) := by decide +kernel
theorem dX11_mayFail_9 : decode cX11_mayFail 9 = .ok (.lcmp, 1) := by decide +kernel
theorem dX11_mayFail_10 : decode cX11_mayFail 10 = .ok (.ifCond .eq 10, 3) := by decide +kernel
theorem dX11_mayFail_20 : decode cX11_mayFail 20 = .ok (.iconst 1, 1) := by decide +kernel
theorem dX11_mayFail_21 : decode cX11_mayFail 21 = .ok (.goto 4, 3) := by decide +kernel
theorem dX11_mayFail_13 : decode cX11_mayFail 13 = .ok (.lload_n 1, 1) := by decide +kernel
theorem dX11_mayFail_14 : decode cX11_mayFail 14 = .ok (.invokestatic 326, 3) := by decide +kernel
theorem dX11_mayFail_17 : decode cX11_mayFail 17 = .ok (.ifCond .eq 7, 3) := by decide +kernel
def o_X11_mayFail : List Cond := [.methodLink RX11 322 yX11_divides, .static yX11_divides, .initialized RX11, .methodLink RX11 326 yX11_isRegister, .static yX11_isRegister]
def v_X11_mayFail : List Cond := .code yX11_mayFail cX11_mayFail 3 (some .boolean) :: (o_X11_mayFail ++ (v_X11_divides ++ (v_X11_isRegister ++ [])))
theorem mow_X11_mayFail : ∀ w ∈ o_X11_mayFail, w ∈ v_X11_mayFail := fun _ h => List.mem_cons_of_mem _ (List.mem_append_left _ h)
theorem mem_X11_mayFail_0 : ∀ w ∈ v_X11_divides, w ∈ v_X11_mayFail := fun _ h => List.mem_cons_of_mem _ (List.mem_append_right _ (List.mem_append_left _ h))
theorem mem_X11_mayFail_1 : ∀ w ∈ v_X11_isRegister, w ∈ v_X11_mayFail := fun _ h => List.mem_cons_of_mem _ (List.mem_append_right _ (List.mem_append_right _ (List.mem_append_left _ h)))
set_option maxRecDepth 20000 in
theorem gw_X11_mayFail : v_X11_mayFail.all goodWord = true := by decide +kernel
set_option maxRecDepth 20000 in
theorem g_X11_mayFail_X11_divides : GoodIn v_X11_mayFail (wsS RX11 322 yX11_divides v_X11_divides) := goodIn_app (goodIn_sub (fun w h => mow_X11_mayFail w (by revert w h; decide +kernel)) (by decide +kernel)) (goodIn_sub mem_X11_mayFail_0 gw_X11_divides)
set_option maxRecDepth 20000 in
theorem g_X11_mayFail_X11_isRegister : GoodIn v_X11_mayFail (wsS RX11 326 yX11_isRegister v_X11_isRegister) := goodIn_app (goodIn_sub (fun w h => mow_X11_mayFail w (by revert w h; decide +kernel)) (by decide +kernel)) (goodIn_sub mem_X11_mayFail_1 gw_X11_isRegister)
set_option maxHeartbeats 4000000 in
set_option maxRecDepth 100000 in
theorem c_X11_mayFail (l : Launch) (dC : Nat → ClassId) (dI : Nat → Nat → Nat) (o : Int) (x : Int) (hNo : -1 ≤ o ∧ o ≤ 100) (hNx : -4611686018427387904 ≤ x ∧ x ≤ 4611686018427387904) (sz : Nat) : Met l yX11_mayFail v_X11_mayFail ({ frames := 1, cells := 0, slots := 0, locals := 21 }) (va_Pc [.int (zI (o)), .long (lI (x))] (fun U => U.heap.size = sz ∧ va_P (dC, dI) vwP [] U.heap ∧ va_K (dC, dI) vwP [] U ∧ va_D (fun _ => True) [])) (va_Qi (fun (r : Int32) (_ : Unit) => ∃ z : Int, r = zI z ∧ (0 ≤ z ∧ z ≤ 1)) (fun (_ : Unit) (t : State) => va_P (dC, dI) vwP [] t.heap ∧ va_K (dC, dI) vwP [] t ∧ va_D (va_A [] sz) []) (va_A [] sz)) 0 0 (va_A [] sz) := by
  refine Met.ofW (cc := cX11_mayFail) (maxL := 3) (ret := (some .boolean)) (by decide) rfl ?_
  intro p e s m args below meth c s₁ B hml hv
  obtain ⟨rfl, hsz, hP, hK, hD0⟩ := hv
  have hx := B.exec
  have hb := B.bytes
  have hr := B.returns
  have hts := atoms_spec (ws := v_X11_mayFail) B.pre
  have hown : s.vm.findClass RX11 = some m.cls := findClass_of_methodNamed B.named
  have hlocks := B.notSynchronized
  have ow : ∀ {k : Nat} {w : Cond}, o_X11_mayFail[k]? = some w → w.before ([.int (zI (o)), .long (lI (x))] : List Value).toArray s = true := fun h => hts _ (mow_X11_mayFail _ (List.mem_of_getElem? h))
  subst hsz
  have hD := hD0.self (sz := s.heap.size)
  generalize hAe : va_A [] s.heap.size = A at hD ⊢
  have hA : ∀ q : Nat, s.heap.size ≤ q → A q := fun q h => by rw [← hAe]; exact Or.inr h
  have hS : va_S A s.heap s.heap [] := va_S.rf
  have hP : va_P (dC, dI) vwP [] s.heap := hP
  have hl := lv_entry ([.int (zI (o)), .long (lI (x))]) (n := 3) (Nat.le_of_ble_eq_true rfl)
  rw [lg_entry_eq]
  generalize (lg_sl ([.int (zI (o)), .long (lI (x))]) ++ List.replicate (3 - (lg_sl ([.int (zI (o)), .long (lI (x))])).length) Slot.unset).toArray = ls at hl ⊢
  have hl : lv_has ls 3 [(0, .int (zI (o))), (1, .long (lI (x)))] := hl
  obtain ⟨H, hH⟩ : ∃ H, H = s.heap := ⟨_, rfl⟩
  rw [← hH] at hP
  have hS : va_S A s.heap H [] := by rw [hH]; exact hS
  rw [← hH]
  refine zW_cap (fun Q hQ => ?_)
  refine lv_iload_n hx hb dX11_mayFail_0 rfl (lv_at hl 0 rfl) ?_
  have hPc := hP.sub (ws' := []) [] rfl
  have hDc := hD.sub (ws' := []) [] (by decide) rfl
  have hKc := hK.sub (tys' := []) [] rfl
  have hFc := va_free (wc := []) hD hS hA [] rfl
  refine va_calli (va_runS (As := [.int (zI (o))]) (rest := []) ⟨hx, hb, hml, hown, hts⟩ (c_X11_divides l dC dI o (by omega) H.size) (cwS 1 hts g_X11_mayFail_X11_divides rfl rfl rfl (by decide +kernel) ⟨(Nat.le_of_ble_eq_true rfl), (Nat.le_of_ble_eq_true rfl)⟩) ⟨fun a U g mk q => by obtain ⟨q0, q1, qP, qK, qD⟩ := q; exact ⟨q0, q1, qP, va_K.moved (u := U) (U := U.calling g mk a) (Vm.Alike.refl U.vm) qK, qD⟩, fun U hU hW => ⟨rfl, by rw [hU], by rw [hU]; exact hPc, va_K.moved hW.alike hKc, hDc.weaken (fun _ _ _ _ => trivial)⟩⟩ rfl rfl hl.1 rfl (lv_room (Nat.le_of_ble_eq_true rfl)) dX11_mayFail_1 ⟨(Nat.le_of_ble_eq_true rfl), (Nat.le_of_ble_eq_true rfl)⟩) hS (fun q _ h => hFc q h) hFc (fun r_1 u t H1 locs ht hvm hw hB hz1 hk1 hS => ?_)
  obtain ⟨hP1, hK1, hD1⟩ := hB
  rw [ht] at hP1
  have hK1 := va_K.moved hvm.symm hK1
  obtain ⟨hP, hD⟩ := va_join (wr := []) (w1 := []) hP hD [] [] rfl rfl (by decide) (by decide) hk1 hFc hP1 hD1
  have hK := (hK.sub (tys' := []) [] rfl).app hK1
  generalize H1 = H at hP hS ⊢
  have hP : va_P (dC, dI) vwP [] H := hP
  have hD : va_D A [] := hD
  have hK : va_K (dC, dI) vwP [] s := hK
  refine W.widen (k := 0) (n := 0) (Nat.le_of_ble_eq_true rfl) (Nat.le_of_ble_eq_true rfl) ?_
  have hw_2 := hw
  obtain ⟨z_3, rfl, hzz_3⟩ := hw_2
  refine lv_if_eq (tgt := 24) hx hb dX11_mayFail_4 (by decide) (fun b4 => ?_) (fun b4 => ?_)
  · have yb4 : (z_3 : Int) = (0 : Int) := (zI_eq (a := z_3) (b := 0) (by omega) (by omega) (by omega) (by omega)).mp b4
    refine lv_iconst (v := 0) hx hb dX11_mayFail_24 (by decide) ?_
    subst hQ
    refine W.widen (k := 0) (n := 0) (Nat.le_of_ble_eq_true rfl) (Nat.le_of_ble_eq_true rfl) ?_
    exact W.zret (v := 0) hx hb hr (by decide) (fun t ht hW => ⟨⟨0, (), rfl, ⟨0, rfl, by omega⟩, by rw [ht]; exact hP, va_K.moved hW.alike hK, hD⟩, hS.F ht⟩) hS.2.2 dX11_mayFail_25
  · have yb4 : ¬ (z_3 : Int) = (0 : Int) := fun q => b4 ((zI_eq (a := z_3) (b := 0) (by omega) (by omega) (by omega) (by omega)).mpr q)
    refine lv_lload_n hx hb dX11_mayFail_7 rfl (lv_at hl 1 rfl) ?_
    refine lv_lconst (v := lI (0)) hx hb dX11_mayFail_8 (by decide) ?_
    refine W.lcmp hx hb dX11_mayFail_9 ?_
    refine lv_if_eq (tgt := 20) hx hb dX11_mayFail_10 (by decide) (fun b10 => ?_) (fun b10 => ?_)
    · have yb10 : (x : Int) = 0 := (lc_eq (a := x) (b := 0) (by omega) (by omega) (by omega) (by omega)).mp b10
      refine lv_iconst (v := 1) hx hb dX11_mayFail_20 (by decide) ?_
      refine lv_goto (tgt := 25) hx hb dX11_mayFail_21 (by decide) ?_
      subst hQ
      refine W.widen (k := 0) (n := 0) (Nat.le_of_ble_eq_true rfl) (Nat.le_of_ble_eq_true rfl) ?_
      exact W.zret (v := 1) hx hb hr (by decide) (fun t ht hW => ⟨⟨1, (), rfl, ⟨1, rfl, by omega⟩, by rw [ht]; exact hP, va_K.moved hW.alike hK, hD⟩, hS.F ht⟩) hS.2.2 dX11_mayFail_25
    · have yb10 : ¬ (x : Int) = 0 := fun q => b10 ((lc_eq (a := x) (b := 0) (by omega) (by omega) (by omega) (by omega)).mpr q)
      refine lv_lload_n hx hb dX11_mayFail_13 rfl (lv_at hl 1 rfl) ?_
      have hPc := hP.sub (ws' := []) [] rfl
      have hDc := hD.sub (ws' := []) [] (by decide) rfl
      have hKc := hK.sub (tys' := []) [] rfl
      have hFc := va_free (wc := []) hD hS hA [] rfl
      refine va_calli (va_runS (As := [.long (lI (x))]) (rest := []) ⟨hx, hb, hml, hown, hts⟩ (c_X11_isRegister l dC dI x (by omega) H.size) (cwS 1 hts g_X11_mayFail_X11_isRegister rfl rfl rfl (by decide +kernel) ⟨(Nat.le_of_ble_eq_true rfl), (Nat.le_of_ble_eq_true rfl)⟩) ⟨fun a U g mk q => by obtain ⟨q0, q1, qP, qK, qD⟩ := q; exact ⟨q0, q1, qP, va_K.moved (u := U) (U := U.calling g mk a) (Vm.Alike.refl U.vm) qK, qD⟩, fun U hU hW => ⟨rfl, by rw [hU], by rw [hU]; exact hPc, va_K.moved hW.alike hKc, hDc.weaken (fun _ _ _ _ => trivial)⟩⟩ rfl rfl hl.1 rfl (lv_room (Nat.le_of_ble_eq_true rfl)) dX11_mayFail_14 ⟨(Nat.le_of_ble_eq_true rfl), (Nat.le_of_ble_eq_true rfl)⟩) hS (fun q _ h => hFc q h) hFc (fun r_4 u t H1 locs ht hvm hw hB hz1 hk1 hS => ?_)
      obtain ⟨hP1, hK1, hD1⟩ := hB
      rw [ht] at hP1
      have hK1 := va_K.moved hvm.symm hK1
      obtain ⟨hP, hD⟩ := va_join (wr := []) (w1 := []) hP hD [] [] rfl rfl (by decide) (by decide) hk1 hFc hP1 hD1
      have hK := (hK.sub (tys' := []) [] rfl).app hK1
      generalize H1 = H at hP hS ⊢
      have hP : va_P (dC, dI) vwP [] H := hP
      have hD : va_D A [] := hD
      have hK : va_K (dC, dI) vwP [] s := hK
      refine W.widen (k := 0) (n := 0) (Nat.le_of_ble_eq_true rfl) (Nat.le_of_ble_eq_true rfl) ?_
      obtain rfl : r_4 = (zI (isR (x))) := hw
      have := isR_spec (x)
      refine lv_if_eq (tgt := 24) hx hb dX11_mayFail_17 (by decide) (fun b17 => ?_) (fun b17 => ?_)
      · have yb17 : (isR (x) : Int) = (0 : Int) := (zI_eq (a := isR (x)) (b := 0) (by omega) (by omega) (by omega) (by omega)).mp b17
        refine lv_iconst (v := 0) hx hb dX11_mayFail_24 (by decide) ?_
        subst hQ
        refine W.widen (k := 0) (n := 0) (Nat.le_of_ble_eq_true rfl) (Nat.le_of_ble_eq_true rfl) ?_
        exact W.zret (v := 0) hx hb hr (by decide) (fun t ht hW => ⟨⟨0, (), rfl, ⟨0, rfl, by omega⟩, by rw [ht]; exact hP, va_K.moved hW.alike hK, hD⟩, hS.F ht⟩) hS.2.2 dX11_mayFail_25
      · have yb17 : ¬ (isR (x) : Int) = (0 : Int) := fun q => b17 ((zI_eq (a := isR (x)) (b := 0) (by omega) (by omega) (by omega) (by omega)).mpr q)
        refine lv_iconst (v := 1) hx hb dX11_mayFail_20 (by decide) ?_
        refine lv_goto (tgt := 25) hx hb dX11_mayFail_21 (by decide) ?_
        subst hQ
        refine W.widen (k := 0) (n := 0) (Nat.le_of_ble_eq_true rfl) (Nat.le_of_ble_eq_true rfl) ?_
        exact W.zret (v := 1) hx hb hr (by decide) (fun t ht hW => ⟨⟨1, (), rfl, ⟨1, rfl, by omega⟩, by rw [ht]; exact hP, va_K.moved hW.alike hK, hD⟩, hS.F ht⟩) hS.2.2 dX11_mayFail_25
theorem dX11_hasBit_0 : decode cX11_hasBit 0 = .ok (.aload_n 0, 1) := by decide +kernel
theorem dX11_hasBit_1 : decode cX11_hasBit 1 = .ok (.iload_n 1, 1) := by decide +kernel
theorem dX11_hasBit_2 : decode cX11_hasBit 2 = .ok (.iload_n 2, 1) := by decide +kernel
theorem dX11_hasBit_3 : decode cX11_hasBit 3 = .ok (.bipush 6, 2) := by decide +kernel
theorem dX11_hasBit_5 : decode cX11_hasBit 5 = .ok (.ishr, 1) := by decide +kernel
theorem dX11_hasBit_6 : decode cX11_hasBit 6 = .ok (.iadd, 1) := by decide +kernel
theorem dX11_hasBit_7 : decode cX11_hasBit 7 = .ok (.laload, 1) := by decide +kernel
theorem dX11_hasBit_8 : decode cX11_hasBit 8 = .ok (.iload_n 2, 1) := by decide +kernel
theorem dX11_hasBit_9 : decode cX11_hasBit 9 = .ok (.bipush 63, 2) := by decide +kernel
theorem dX11_hasBit_11 : decode cX11_hasBit 11 = .ok (.iand, 1) := by decide +kernel
theorem dX11_hasBit_12 : decode cX11_hasBit 12 = .ok (.lushr, 1) := by decide +kernel
theorem dX11_hasBit_13 : decode cX11_hasBit 13 = .ok (.lconst 1, 1) := by decide +kernel
theorem dX11_hasBit_14 : decode cX11_hasBit 14 = .ok (.land, 1) := by decide +kernel
theorem dX11_hasBit_15 : decode cX11_hasBit 15 = .ok (.lconst 0, 1) := by decide +kernel
theorem dX11_hasBit_16 : decode cX11_hasBit 16 = .ok (.lcmp, 1) := by decide +kernel
theorem dX11_hasBit_17 : decode cX11_hasBit 17 = .ok (.ifCond .eq 7, 3) := by decide +kernel
theorem dX11_hasBit_24 : decode cX11_hasBit 24 = .ok (.iconst 0, 1) := by decide +kernel
theorem dX11_hasBit_25 : decode cX11_hasBit 25 = .ok (.ireturn, 1) := by decide +kernel
theorem dX11_hasBit_20 : decode cX11_hasBit 20 = .ok (.iconst 1, 1) := by decide +kernel
theorem dX11_hasBit_21 : decode cX11_hasBit 21 = .ok (.goto 4, 3) := by decide +kernel
def o_X11_hasBit : List Cond := []
def v_X11_hasBit : List Cond := .code yX11_hasBit cX11_hasBit 3 (some .boolean) :: (o_X11_hasBit ++ [])
theorem mow_X11_hasBit : ∀ w ∈ o_X11_hasBit, w ∈ v_X11_hasBit := fun _ h => List.mem_cons_of_mem _ (List.mem_append_left _ h)
set_option maxRecDepth 20000 in
theorem gw_X11_hasBit : v_X11_hasBit.all goodWord = true := by decide +kernel
set_option maxHeartbeats 4000000 in
set_option maxRecDepth 100000 in
theorem c_X11_hasBit (l : Launch) (dC : Nat → ClassId) (dI : Nat → Nat → Nat) (q_1 : Nat) (cA_1 : ClassId) (nn : Nat) (fl_1 : Nat → Int64) (fr : Int) (i : Int) (hNb : 0 ≤ fr ∧ 0 ≤ i ∧ i < 1000000 ∧ fr < 1000000 ∧ fr + i / 64 < nn ∧ nn < 1000000) (sz : Nat) : Met l yX11_hasBit v_X11_hasBit ({ frames := 0, cells := 0, slots := 0, locals := 0 }) (va_Pc [.ref q_1, .int (zI (fr)), .int (zI (i))] (fun U => U.heap.size = sz ∧ va_P (dC, dI) vwP [(q_1, .inl (cA_1, nn, .inr (.inl fl_1)))] U.heap ∧ va_K (dC, dI) vwP [(cA_1, .long)] U ∧ va_D (fun _ => True) [(q_1, .inl (cA_1, nn, .inr (.inl fl_1)))])) (va_Qi (fun (r : Int32) (_ : Unit) => ∃ z : Int, r = zI z ∧ (0 ≤ z ∧ z ≤ 1)) (fun (_ : Unit) (t : State) => va_P (dC, dI) vwP [(q_1, .inl (cA_1, nn, .inr (.inl fl_1)))] t.heap ∧ va_K (dC, dI) vwP [(cA_1, .long)] t ∧ va_D (va_A [(q_1, .inl (cA_1, nn, .inr (.inl fl_1)))] sz) [(q_1, .inl (cA_1, nn, .inr (.inl fl_1)))]) (va_A [(q_1, .inl (cA_1, nn, .inr (.inl fl_1)))] sz)) 0 0 (va_A [(q_1, .inl (cA_1, nn, .inr (.inl fl_1)))] sz) := by
  refine Met.ofW (cc := cX11_hasBit) (maxL := 3) (ret := (some .boolean)) (by decide) rfl ?_
  intro p e s m args below meth c s₁ B hml hv
  obtain ⟨rfl, hsz, hP, hK, hD0⟩ := hv
  have hx := B.exec
  have hb := B.bytes
  have hr := B.returns
  have hts := atoms_spec (ws := v_X11_hasBit) B.pre
  have hown : s.vm.findClass RX11 = some m.cls := findClass_of_methodNamed B.named
  have hlocks := B.notSynchronized
  have ow : ∀ {k : Nat} {w : Cond}, o_X11_hasBit[k]? = some w → w.before ([.ref q_1, .int (zI (fr)), .int (zI (i))] : List Value).toArray s = true := fun h => hts _ (mow_X11_hasBit _ (List.mem_of_getElem? h))
  subst hsz
  have hD := hD0.self (sz := s.heap.size)
  generalize hAe : va_A [(q_1, .inl (cA_1, nn, .inr (.inl fl_1)))] s.heap.size = A at hD ⊢
  have hA : ∀ q : Nat, s.heap.size ≤ q → A q := fun q h => by rw [← hAe]; exact Or.inr h
  have hS : va_S A s.heap s.heap [] := va_S.rf
  have hP : va_P (dC, dI) vwP [(q_1, .inl (cA_1, nn, .inr (.inl fl_1)))] s.heap := hP
  have hl := lv_entry ([.ref q_1, .int (zI (fr)), .int (zI (i))]) (n := 3) (Nat.le_of_ble_eq_true rfl)
  rw [lg_entry_eq]
  generalize (lg_sl ([.ref q_1, .int (zI (fr)), .int (zI (i))]) ++ List.replicate (3 - (lg_sl ([.ref q_1, .int (zI (fr)), .int (zI (i))])).length) Slot.unset).toArray = ls at hl ⊢
  have hl : lv_has ls 3 [(0, .ref q_1), (1, .int (zI (fr))), (2, .int (zI (i)))] := hl
  obtain ⟨H, hH⟩ : ∃ H, H = s.heap := ⟨_, rfl⟩
  rw [← hH] at hP
  have hS : va_S A s.heap H [] := by rw [hH]; exact hS
  rw [← hH]
  refine zW_cap (fun Q hQ => ?_)
  refine lv_aload_n hx hb dX11_hasBit_0 rfl (lv_at hl 0 rfl) ?_
  refine lv_iload_n hx hb dX11_hasBit_1 rfl (lv_at hl 1 rfl) ?_
  refine lv_iload_n hx hb dX11_hasBit_2 rfl (lv_at hl 2 rfl) ?_
  refine lv_bipush (v := 6) hx hb dX11_hasBit_3 (by decide) ?_
  refine lv_ishr hx hb dX11_hasBit_5 ?_
  refine lv_topi (fun z ez => ?_)
  obtain rfl : z = zI ((i) / 64) := ez.trans (zI_shr (a := i) (k := 6) (by omega) (by omega) (by decide))
  refine lv_iadd hx hb dX11_hasBit_6 ?_
  refine lv_topi (fun z ez => ?_)
  obtain rfl : z = zI (fr + ((i) / 64)) := ez.trans (zI_add (fr) ((i) / 64))
  refine va_lald hx hb hK hP 0 0 rfl rfl (zI_in (a := fr + ((i) / 64)) (n := nn) (by omega) (by omega) (by omega)) dX11_hasBit_7 ?_
  refine lv_topl (fun x_2001 _ => ?_)
  refine lv_iload_n hx hb dX11_hasBit_8 rfl (lv_at hl 2 rfl) ?_
  refine lv_bipush (v := 63) hx hb dX11_hasBit_9 (by decide) ?_
  refine lv_iand hx hb dX11_hasBit_11 ?_
  refine lv_topi (fun z9 ez => ?_)
  obtain ⟨z_2002, rfl, hzz_2002⟩ := zI_and 6 (m := 63) (by decide) (by decide) ez
  refine lv_lushr hx hb dX11_hasBit_12 rfl ?_
  refine lv_topl (fun x_2003 _ => ?_)
  refine lv_lconst (v := lI (1)) hx hb dX11_hasBit_13 (by decide) ?_
  refine lv_land hx hb dX11_hasBit_14 ?_
  refine lv_topl (fun x_2004 _ => ?_)
  refine lv_lconst (v := lI (0)) hx hb dX11_hasBit_15 (by decide) ?_
  refine W.lcmp hx hb dX11_hasBit_16 ?_
  refine lv_topi (fun x_2005 _ => ?_)
  refine lv_if_eq (tgt := 24) hx hb dX11_hasBit_17 (by decide) (fun b17 => ?_) (fun b17 => ?_)
  · refine lv_iconst (v := 0) hx hb dX11_hasBit_24 (by decide) ?_
    subst hQ
    refine W.widen (k := 0) (n := 0) (Nat.le_of_ble_eq_true rfl) (Nat.le_of_ble_eq_true rfl) ?_
    exact W.zret (v := 0) hx hb hr (by decide) (fun t ht hW => ⟨⟨0, (), rfl, ⟨0, rfl, by omega⟩, by rw [ht]; exact hP, va_K.moved hW.alike hK, hD⟩, hS.F ht⟩) hS.2.2 dX11_hasBit_25
  · refine lv_iconst (v := 1) hx hb dX11_hasBit_20 (by decide) ?_
    refine lv_goto (tgt := 25) hx hb dX11_hasBit_21 (by decide) ?_
    subst hQ
    refine W.widen (k := 0) (n := 0) (Nat.le_of_ble_eq_true rfl) (Nat.le_of_ble_eq_true rfl) ?_
    exact W.zret (v := 1) hx hb hr (by decide) (fun t ht hW => ⟨⟨1, (), rfl, ⟨1, rfl, by omega⟩, by rw [ht]; exact hP, va_K.moved hW.alike hK, hD⟩, hS.F ht⟩) hS.2.2 dX11_hasBit_25
theorem dX11_putBit_0 : decode cX11_putBit 0 = .ok (.aload_n 0, 1) := by decide +kernel
theorem dX11_putBit_1 : decode cX11_putBit 1 = .ok (.iload_n 1, 1) := by decide +kernel
theorem dX11_putBit_2 : decode cX11_putBit 2 = .ok (.iload_n 2, 1) := by decide +kernel
theorem dX11_putBit_3 : decode cX11_putBit 3 = .ok (.bipush 6, 2) := by decide +kernel
theorem dX11_putBit_5 : decode cX11_putBit 5 = .ok (.ishr, 1) := by decide +kernel
theorem dX11_putBit_6 : decode cX11_putBit 6 = .ok (.iadd, 1) := by decide +kernel
theorem dX11_putBit_7 : decode cX11_putBit 7 = .ok (.dup2, 1) := by decide +kernel
theorem dX11_putBit_8 : decode cX11_putBit 8 = .ok (.laload, 1) := by decide +kernel
theorem dX11_putBit_9 : decode cX11_putBit 9 = .ok (.lconst 1, 1) := by decide +kernel
theorem dX11_putBit_10 : decode cX11_putBit 10 = .ok (.iload_n 2, 1) := by decide +kernel
theorem dX11_putBit_11 : decode cX11_putBit 11 = .ok (.bipush 63, 2) := by decide +kernel
theorem dX11_putBit_13 : decode cX11_putBit 13 = .ok (.iand, 1) := by decide +kernel
theorem dX11_putBit_14 : decode cX11_putBit 14 = .ok (.lshl, 1) := by decide +kernel
theorem dX11_putBit_15 : decode cX11_putBit 15 = .ok (.lor, 1) := by decide +kernel
theorem dX11_putBit_16 : decode cX11_putBit 16 = .ok (.lastore, 1) := by decide +kernel
theorem dX11_putBit_17 : decode cX11_putBit 17 = .ok (.return_, 1) := by decide +kernel
def o_X11_putBit : List Cond := []
def v_X11_putBit : List Cond := .code yX11_putBit cX11_putBit 3 none :: (o_X11_putBit ++ [])
theorem mow_X11_putBit : ∀ w ∈ o_X11_putBit, w ∈ v_X11_putBit := fun _ h => List.mem_cons_of_mem _ (List.mem_append_left _ h)
set_option maxRecDepth 20000 in
theorem gw_X11_putBit : v_X11_putBit.all goodWord = true := by decide +kernel
set_option maxHeartbeats 4000000 in
set_option maxRecDepth 100000 in
theorem c_X11_putBit (l : Launch) (dC : Nat → ClassId) (dI : Nat → Nat → Nat) (q_1 : Nat) (cA_1 : ClassId) (nn : Nat) (fl_1 : Nat → Int64) (fr : Int) (i : Int) (hNb : 0 ≤ fr ∧ 0 ≤ i ∧ i < 1000000 ∧ fr < 1000000 ∧ fr + i / 64 < nn ∧ nn < 1000000) (sz : Nat) : Met l yX11_putBit v_X11_putBit ({ frames := 0, cells := 0, slots := 0, locals := 0 }) (va_Pc [.ref q_1, .int (zI (fr)), .int (zI (i))] (fun U => U.heap.size = sz ∧ va_P (dC, dI) vwP [(q_1, .inl (cA_1, nn, .inr (.inl fl_1)))] U.heap ∧ va_K (dC, dI) vwP [(cA_1, .long)] U ∧ va_D (fun _ => True) [(q_1, .inl (cA_1, nn, .inr (.inl fl_1)))])) (va_Qv (fun _ : Unit => True) (fun (_ : Unit) (t : State) => ∃ (g0_9 : Nat → Int64), va_P (dC, dI) vwP [(q_1, .inl (cA_1, nn, .inr (.inl g0_9)))] t.heap ∧ va_K (dC, dI) vwP [(cA_1, .long)] t ∧ va_D (va_A [(q_1, .inl (cA_1, nn, .inr (.inl fl_1)))] sz) [(q_1, .inl (cA_1, nn, .inr (.inl g0_9)))]) (va_A [(q_1, .inl (cA_1, nn, .inr (.inl fl_1)))] sz)) 0 0 (va_A [(q_1, .inl (cA_1, nn, .inr (.inl fl_1)))] sz) := by
  refine Met.ofW (cc := cX11_putBit) (maxL := 3) (ret := none) (by decide) rfl ?_
  intro p e s m args below meth c s₁ B hml hv
  obtain ⟨rfl, hsz, hP, hK, hD0⟩ := hv
  have hx := B.exec
  have hb := B.bytes
  have hr := B.returns
  have hts := atoms_spec (ws := v_X11_putBit) B.pre
  have hown : s.vm.findClass RX11 = some m.cls := findClass_of_methodNamed B.named
  have hlocks := B.notSynchronized
  have ow : ∀ {k : Nat} {w : Cond}, o_X11_putBit[k]? = some w → w.before ([.ref q_1, .int (zI (fr)), .int (zI (i))] : List Value).toArray s = true := fun h => hts _ (mow_X11_putBit _ (List.mem_of_getElem? h))
  subst hsz
  have hD := hD0.self (sz := s.heap.size)
  generalize hAe : va_A [(q_1, .inl (cA_1, nn, .inr (.inl fl_1)))] s.heap.size = A at hD ⊢
  have hA : ∀ q : Nat, s.heap.size ≤ q → A q := fun q h => by rw [← hAe]; exact Or.inr h
  have hS : va_S A s.heap s.heap [] := va_S.rf
  have hP : va_P (dC, dI) vwP [(q_1, .inl (cA_1, nn, .inr (.inl fl_1)))] s.heap := hP
  have hl := lv_entry ([.ref q_1, .int (zI (fr)), .int (zI (i))]) (n := 3) (Nat.le_of_ble_eq_true rfl)
  rw [lg_entry_eq]
  generalize (lg_sl ([.ref q_1, .int (zI (fr)), .int (zI (i))]) ++ List.replicate (3 - (lg_sl ([.ref q_1, .int (zI (fr)), .int (zI (i))])).length) Slot.unset).toArray = ls at hl ⊢
  have hl : lv_has ls 3 [(0, .ref q_1), (1, .int (zI (fr))), (2, .int (zI (i)))] := hl
  obtain ⟨H, hH⟩ : ∃ H, H = s.heap := ⟨_, rfl⟩
  rw [← hH] at hP
  have hS : va_S A s.heap H [] := by rw [hH]; exact hS
  rw [← hH]
  refine zW_cap (fun Q hQ => ?_)
  refine lv_aload_n hx hb dX11_putBit_0 rfl (lv_at hl 0 rfl) ?_
  refine lv_iload_n hx hb dX11_putBit_1 rfl (lv_at hl 1 rfl) ?_
  refine lv_iload_n hx hb dX11_putBit_2 rfl (lv_at hl 2 rfl) ?_
  refine lv_bipush (v := 6) hx hb dX11_putBit_3 (by decide) ?_
  refine lv_ishr hx hb dX11_putBit_5 ?_
  refine lv_topi (fun z ez => ?_)
  obtain rfl : z = zI ((i) / 64) := ez.trans (zI_shr (a := i) (k := 6) (by omega) (by omega) (by decide))
  refine lv_iadd hx hb dX11_putBit_6 ?_
  refine lv_topi (fun z ez => ?_)
  obtain rfl : z = zI (fr + ((i) / 64)) := ez.trans (zI_add (fr) ((i) / 64))
  refine lv_dup2_11 hx hb dX11_putBit_7 rfl rfl ?_
  refine va_lald hx hb hK hP 0 0 rfl rfl (zI_in (a := fr + ((i) / 64)) (n := nn) (by omega) (by omega) (by omega)) dX11_putBit_8 ?_
  refine lv_topl (fun x_2001 _ => ?_)
  refine lv_lconst (v := lI (1)) hx hb dX11_putBit_9 (by decide) ?_
  refine lv_iload_n hx hb dX11_putBit_10 rfl (lv_at hl 2 rfl) ?_
  refine lv_bipush (v := 63) hx hb dX11_putBit_11 (by decide) ?_
  refine lv_iand hx hb dX11_putBit_13 ?_
  refine lv_topi (fun z9 ez => ?_)
  obtain ⟨z_2002, rfl, hzz_2002⟩ := zI_and 6 (m := 63) (by decide) (by decide) ez
  refine lv_lshl hx hb dX11_putBit_14 rfl ?_
  refine lv_topl (fun x_2003 _ => ?_)
  refine lv_lor hx hb dX11_putBit_15 ?_
  refine lv_topl (fun x_2004 _ => ?_)
  refine va_last (i := zI (fr + ((i) / 64))) hx hb hK hP hD hS 0 0 rfl rfl (zI_in (a := fr + ((i) / 64)) (n := nn) (by omega) (by omega) (by omega)) dX11_putBit_16 (fun H locs hP hD hS => ?_)
  have hP : va_P (dC, dI) vwP [(q_1, .inl (cA_1, nn, .inr (.inl (vp_updL fl_1 (zI (fr + ((i) / 64))).toNatClampNeg x_2004))))] H := hP
  have hD : va_D A [(q_1, .inl (cA_1, nn, .inr (.inl (vp_updL fl_1 (zI (fr + ((i) / 64))).toNatClampNeg x_2004))))] := hD
  generalize (vp_updL fl_1 (zI (fr + ((i) / 64))).toNatClampNeg x_2004) = fl_2005 at hP hD
  have hP : va_P (dC, dI) vwP [(q_1, .inl (cA_1, nn, .inr (.inl fl_2005)))] H := hP
  have hD : va_D A [(q_1, .inl (cA_1, nn, .inr (.inl fl_2005)))] := hD
  subst hQ
  refine W.widen (k := 0) (n := 0) (Nat.le_of_ble_eq_true rfl) (Nat.le_of_ble_eq_true rfl) ?_
  exact W.vret hx hb hr (fun t ht hW => ⟨⟨(), rfl, trivial, fl_2005, by rw [ht]; exact hP, va_K.moved hW.alike hK, hD⟩, hS.F ht⟩) hS.2.2 dX11_putBit_17
theorem dX11_takeBit_0 : decode cX11_takeBit 0 = .ok (.aload_n 0, 1) := by decide +kernel
theorem dX11_takeBit_1 : decode cX11_takeBit 1 = .ok (.iload_n 1, 1) := by decide +kernel
theorem dX11_takeBit_2 : decode cX11_takeBit 2 = .ok (.iload_n 2, 1) := by decide +kernel
theorem dX11_takeBit_3 : decode cX11_takeBit 3 = .ok (.bipush 6, 2) := by decide +kernel
theorem dX11_takeBit_5 : decode cX11_takeBit 5 = .ok (.ishr, 1) := by decide +kernel
theorem dX11_takeBit_6 : decode cX11_takeBit 6 = .ok (.iadd, 1) := by decide +kernel
theorem dX11_takeBit_7 : decode cX11_takeBit 7 = .ok (.dup2, 1) := by decide +kernel
theorem dX11_takeBit_8 : decode cX11_takeBit 8 = .ok (.laload, 1) := by decide +kernel
theorem dX11_takeBit_9 : decode cX11_takeBit 9 = .ok (.lconst 1, 1) := by decide +kernel
theorem dX11_takeBit_10 : decode cX11_takeBit 10 = .ok (.iload_n 2, 1) := by decide +kernel
theorem dX11_takeBit_11 : decode cX11_takeBit 11 = .ok (.bipush 63, 2) := by decide +kernel
theorem dX11_takeBit_13 : decode cX11_takeBit 13 = .ok (.iand, 1) := by decide +kernel
theorem dX11_takeBit_14 : decode cX11_takeBit 14 = .ok (.lshl, 1) := by decide +kernel
theorem dX11_takeBit_15 : decode cX11_takeBit 15 = .ok (.ldc2_w 330, 3) := by decide +kernel
theorem dX11_takeBit_18 : decode cX11_takeBit 18 = .ok (.lxor, 1) := by decide +kernel
theorem dX11_takeBit_19 : decode cX11_takeBit 19 = .ok (.land, 1) := by decide +kernel
theorem dX11_takeBit_20 : decode cX11_takeBit 20 = .ok (.lastore, 1) := by decide +kernel
theorem dX11_takeBit_21 : decode cX11_takeBit 21 = .ok (.return_, 1) := by decide +kernel
def o_X11_takeBit : List Cond := [.constantLong RX11 330 (-1)]
def v_X11_takeBit : List Cond := .code yX11_takeBit cX11_takeBit 3 none :: (o_X11_takeBit ++ [])
theorem mow_X11_takeBit : ∀ w ∈ o_X11_takeBit, w ∈ v_X11_takeBit := fun _ h => List.mem_cons_of_mem _ (List.mem_append_left _ h)
set_option maxRecDepth 20000 in
theorem gw_X11_takeBit : v_X11_takeBit.all goodWord = true := by decide +kernel
set_option maxHeartbeats 4000000 in
set_option maxRecDepth 100000 in
theorem c_X11_takeBit (l : Launch) (dC : Nat → ClassId) (dI : Nat → Nat → Nat) (q_1 : Nat) (cA_1 : ClassId) (nn : Nat) (fl_1 : Nat → Int64) (fr : Int) (i : Int) (hNb : 0 ≤ fr ∧ 0 ≤ i ∧ i < 1000000 ∧ fr < 1000000 ∧ fr + i / 64 < nn ∧ nn < 1000000) (sz : Nat) : Met l yX11_takeBit v_X11_takeBit ({ frames := 0, cells := 0, slots := 0, locals := 0 }) (va_Pc [.ref q_1, .int (zI (fr)), .int (zI (i))] (fun U => U.heap.size = sz ∧ va_P (dC, dI) vwP [(q_1, .inl (cA_1, nn, .inr (.inl fl_1)))] U.heap ∧ va_K (dC, dI) vwP [(cA_1, .long)] U ∧ va_D (fun _ => True) [(q_1, .inl (cA_1, nn, .inr (.inl fl_1)))])) (va_Qv (fun _ : Unit => True) (fun (_ : Unit) (t : State) => ∃ (g0_9 : Nat → Int64), va_P (dC, dI) vwP [(q_1, .inl (cA_1, nn, .inr (.inl g0_9)))] t.heap ∧ va_K (dC, dI) vwP [(cA_1, .long)] t ∧ va_D (va_A [(q_1, .inl (cA_1, nn, .inr (.inl fl_1)))] sz) [(q_1, .inl (cA_1, nn, .inr (.inl g0_9)))]) (va_A [(q_1, .inl (cA_1, nn, .inr (.inl fl_1)))] sz)) 0 0 (va_A [(q_1, .inl (cA_1, nn, .inr (.inl fl_1)))] sz) := by
  refine Met.ofW (cc := cX11_takeBit) (maxL := 3) (ret := none) (by decide) rfl ?_
  intro p e s m args below meth c s₁ B hml hv
  obtain ⟨rfl, hsz, hP, hK, hD0⟩ := hv
  have hx := B.exec
  have hb := B.bytes
  have hr := B.returns
  have hts := atoms_spec (ws := v_X11_takeBit) B.pre
  have hown : s.vm.findClass RX11 = some m.cls := findClass_of_methodNamed B.named
  have hlocks := B.notSynchronized
  have ow : ∀ {k : Nat} {w : Cond}, o_X11_takeBit[k]? = some w → w.before ([.ref q_1, .int (zI (fr)), .int (zI (i))] : List Value).toArray s = true := fun h => hts _ (mow_X11_takeBit _ (List.mem_of_getElem? h))
  subst hsz
  have hD := hD0.self (sz := s.heap.size)
  generalize hAe : va_A [(q_1, .inl (cA_1, nn, .inr (.inl fl_1)))] s.heap.size = A at hD ⊢
  have hA : ∀ q : Nat, s.heap.size ≤ q → A q := fun q h => by rw [← hAe]; exact Or.inr h
  have hS : va_S A s.heap s.heap [] := va_S.rf
  have hP : va_P (dC, dI) vwP [(q_1, .inl (cA_1, nn, .inr (.inl fl_1)))] s.heap := hP
  have hl := lv_entry ([.ref q_1, .int (zI (fr)), .int (zI (i))]) (n := 3) (Nat.le_of_ble_eq_true rfl)
  rw [lg_entry_eq]
  generalize (lg_sl ([.ref q_1, .int (zI (fr)), .int (zI (i))]) ++ List.replicate (3 - (lg_sl ([.ref q_1, .int (zI (fr)), .int (zI (i))])).length) Slot.unset).toArray = ls at hl ⊢
  have hl : lv_has ls 3 [(0, .ref q_1), (1, .int (zI (fr))), (2, .int (zI (i)))] := hl
  obtain ⟨H, hH⟩ : ∃ H, H = s.heap := ⟨_, rfl⟩
  rw [← hH] at hP
  have hS : va_S A s.heap H [] := by rw [hH]; exact hS
  rw [← hH]
  refine zW_cap (fun Q hQ => ?_)
  refine lv_aload_n hx hb dX11_takeBit_0 rfl (lv_at hl 0 rfl) ?_
  refine lv_iload_n hx hb dX11_takeBit_1 rfl (lv_at hl 1 rfl) ?_
  refine lv_iload_n hx hb dX11_takeBit_2 rfl (lv_at hl 2 rfl) ?_
  refine lv_bipush (v := 6) hx hb dX11_takeBit_3 (by decide) ?_
  refine lv_ishr hx hb dX11_takeBit_5 ?_
  refine lv_topi (fun z ez => ?_)
  obtain rfl : z = zI ((i) / 64) := ez.trans (zI_shr (a := i) (k := 6) (by omega) (by omega) (by decide))
  refine lv_iadd hx hb dX11_takeBit_6 ?_
  refine lv_topi (fun z ez => ?_)
  obtain rfl : z = zI (fr + ((i) / 64)) := ez.trans (zI_add (fr) ((i) / 64))
  refine lv_dup2_11 hx hb dX11_takeBit_7 rfl rfl ?_
  refine va_lald hx hb hK hP 0 0 rfl rfl (zI_in (a := fr + ((i) / 64)) (n := nn) (by omega) (by omega) (by omega)) dX11_takeBit_8 ?_
  refine lv_topl (fun x_2001 _ => ?_)
  refine lv_lconst (v := lI (1)) hx hb dX11_takeBit_9 (by decide) ?_
  refine lv_iload_n hx hb dX11_takeBit_10 rfl (lv_at hl 2 rfl) ?_
  refine lv_bipush (v := 63) hx hb dX11_takeBit_11 (by decide) ?_
  refine lv_iand hx hb dX11_takeBit_13 ?_
  refine lv_topi (fun z9 ez => ?_)
  obtain ⟨z_2002, rfl, hzz_2002⟩ := zI_and 6 (m := 63) (by decide) (by decide) ez
  refine lv_lshl hx hb dX11_takeBit_14 rfl ?_
  refine lv_topl (fun x_2003 _ => ?_)
  refine lv_ldc2 (v := (-1)) hx hb hown (ow (k := 0) rfl) dX11_takeBit_15 ?_
  refine lv_topl (fun z ez => ?_)
  obtain rfl : z = lI (-1) := ez
  refine lv_lxor hx hb dX11_takeBit_18 ?_
  refine lv_topl (fun x_2004 _ => ?_)
  refine lv_land hx hb dX11_takeBit_19 ?_
  refine lv_topl (fun x_2005 _ => ?_)
  refine va_last (i := zI (fr + ((i) / 64))) hx hb hK hP hD hS 0 0 rfl rfl (zI_in (a := fr + ((i) / 64)) (n := nn) (by omega) (by omega) (by omega)) dX11_takeBit_20 (fun H locs hP hD hS => ?_)
  have hP : va_P (dC, dI) vwP [(q_1, .inl (cA_1, nn, .inr (.inl (vp_updL fl_1 (zI (fr + ((i) / 64))).toNatClampNeg x_2005))))] H := hP
  have hD : va_D A [(q_1, .inl (cA_1, nn, .inr (.inl (vp_updL fl_1 (zI (fr + ((i) / 64))).toNatClampNeg x_2005))))] := hD
  generalize (vp_updL fl_1 (zI (fr + ((i) / 64))).toNatClampNeg x_2005) = fl_2006 at hP hD
  have hP : va_P (dC, dI) vwP [(q_1, .inl (cA_1, nn, .inr (.inl fl_2006)))] H := hP
  have hD : va_D A [(q_1, .inl (cA_1, nn, .inr (.inl fl_2006)))] := hD
  subst hQ
  refine W.widen (k := 0) (n := 0) (Nat.le_of_ble_eq_true rfl) (Nat.le_of_ble_eq_true rfl) ?_
  exact W.vret hx hb hr (fun t ht hW => ⟨⟨(), rfl, trivial, fl_2006, by rw [ht]; exact hP, va_K.moved hW.alike hK, hD⟩, hS.F ht⟩) hS.2.2 dX11_takeBit_21
theorem dX11_clearBits_0 : decode cX11_clearBits 0 = .ok (.iconst 0, 1) := by decide +kernel
theorem dX11_clearBits_1 : decode cX11_clearBits 1 = .ok (.istore_n 2, 1) := by decide +kernel
theorem dX11_clearBits_2 : decode cX11_clearBits 2 = .ok (.iload_n 2, 1) := by decide +kernel
theorem dX11_clearBits_3 : decode cX11_clearBits 3 = .ok (.iload_n 1, 1) := by decide +kernel
theorem dX11_clearBits_4 : decode cX11_clearBits 4 = .ok (.if_icmp .ge 13, 3) := by decide +kernel
theorem dX11_clearBits_17 : decode cX11_clearBits 17 = .ok (.return_, 1) := by decide +kernel
theorem dX11_clearBits_7 : decode cX11_clearBits 7 = .ok (.aload_n 0, 1) := by decide +kernel
theorem dX11_clearBits_8 : decode cX11_clearBits 8 = .ok (.iload_n 2, 1) := by decide +kernel
theorem dX11_clearBits_9 : decode cX11_clearBits 9 = .ok (.lconst 0, 1) := by decide +kernel
theorem dX11_clearBits_10 : decode cX11_clearBits 10 = .ok (.lastore, 1) := by decide +kernel
theorem dX11_clearBits_11 : decode cX11_clearBits 11 = .ok (.iinc 2 1, 3) := by decide +kernel
theorem dX11_clearBits_14 : decode cX11_clearBits 14 = .ok (.goto (-12), 3) := by decide +kernel
def o_X11_clearBits : List Cond := []
def v_X11_clearBits : List Cond := .code yX11_clearBits cX11_clearBits 3 none :: (o_X11_clearBits ++ [])
theorem mow_X11_clearBits : ∀ w ∈ o_X11_clearBits, w ∈ v_X11_clearBits := fun _ h => List.mem_cons_of_mem _ (List.mem_append_left _ h)
set_option maxRecDepth 20000 in
theorem gw_X11_clearBits : v_X11_clearBits.all goodWord = true := by decide +kernel
set_option maxHeartbeats 4000000 in
set_option maxRecDepth 100000 in
theorem c_X11_clearBits (l : Launch) (dC : Nat → ClassId) (dI : Nat → Nat → Nat) (q_1 : Nat) (cA_1 : ClassId) (nn : Nat) (fl_1 : Nat → Int64) (i : Int) (hNb : 0 ≤ i ∧ i ≤ nn ∧ nn < 1000000) (sz : Nat) : Met l yX11_clearBits v_X11_clearBits ({ frames := 0, cells := 0, slots := 0, locals := 0 }) (va_Pc [.ref q_1, .int (zI (i))] (fun U => U.heap.size = sz ∧ va_P (dC, dI) vwP [(q_1, .inl (cA_1, nn, .inr (.inl fl_1)))] U.heap ∧ va_K (dC, dI) vwP [(cA_1, .long)] U ∧ va_D (fun _ => True) [(q_1, .inl (cA_1, nn, .inr (.inl fl_1)))])) (va_Qv (fun _ : Unit => True) (fun (_ : Unit) (t : State) => ∃ (g0_9 : Nat → Int64), va_P (dC, dI) vwP [(q_1, .inl (cA_1, nn, .inr (.inl g0_9)))] t.heap ∧ va_K (dC, dI) vwP [(cA_1, .long)] t ∧ va_D (va_A [(q_1, .inl (cA_1, nn, .inr (.inl fl_1)))] sz) [(q_1, .inl (cA_1, nn, .inr (.inl g0_9)))]) (va_A [(q_1, .inl (cA_1, nn, .inr (.inl fl_1)))] sz)) 0 0 (va_A [(q_1, .inl (cA_1, nn, .inr (.inl fl_1)))] sz) := by
  refine Met.ofW (cc := cX11_clearBits) (maxL := 3) (ret := none) (by decide) rfl ?_
  intro p e s m args below meth c s₁ B hml hv
  obtain ⟨rfl, hsz, hP, hK, hD0⟩ := hv
  have hx := B.exec
  have hb := B.bytes
  have hr := B.returns
  have hts := atoms_spec (ws := v_X11_clearBits) B.pre
  have hown : s.vm.findClass RX11 = some m.cls := findClass_of_methodNamed B.named
  have hlocks := B.notSynchronized
  have ow : ∀ {k : Nat} {w : Cond}, o_X11_clearBits[k]? = some w → w.before ([.ref q_1, .int (zI (i))] : List Value).toArray s = true := fun h => hts _ (mow_X11_clearBits _ (List.mem_of_getElem? h))
  subst hsz
  have hD := hD0.self (sz := s.heap.size)
  generalize hAe : va_A [(q_1, .inl (cA_1, nn, .inr (.inl fl_1)))] s.heap.size = A at hD ⊢
  have hA : ∀ q : Nat, s.heap.size ≤ q → A q := fun q h => by rw [← hAe]; exact Or.inr h
  have hS : va_S A s.heap s.heap [] := va_S.rf
  have hP : va_P (dC, dI) vwP [(q_1, .inl (cA_1, nn, .inr (.inl fl_1)))] s.heap := hP
  have hl := lv_entry ([.ref q_1, .int (zI (i))]) (n := 3) (Nat.le_of_ble_eq_true rfl)
  rw [lg_entry_eq]
  generalize (lg_sl ([.ref q_1, .int (zI (i))]) ++ List.replicate (3 - (lg_sl ([.ref q_1, .int (zI (i))])).length) Slot.unset).toArray = ls at hl ⊢
  have hl : lv_has ls 3 [(0, .ref q_1), (1, .int (zI (i)))] := hl
  obtain ⟨H, hH⟩ : ∃ H, H = s.heap := ⟨_, rfl⟩
  rw [← hH] at hP
  have hS : va_S A s.heap H [] := by rw [hH]; exact hS
  rw [← hH]
  refine zW_cap (fun Q hQ => ?_)
  refine lv_iconst (v := 0) hx hb dX11_clearBits_0 (by decide) ?_
  refine lv_istore_n (lv' := [(2, .int 0), (0, .ref q_1), (1, .int (zI (i)))]) hx hb dX11_clearBits_1 rfl hl (by decide) rfl (fun ls hl => ?_)
  have key2 : ∀ n2 : Nat, ∀ (d2_2 : Int) (w2_1 : Nat → Int64) (ls : Array Slot) (H : Heap) (locs : List Loc), (0 ≤ d2_2 ∧ d2_2 ≤ 1000000000) → (((i) - (d2_2) : Int).toNat) < n2 → lv_has ls 3 [(0, .ref q_1), (1, .int (zI (i))), (2, .int (zI (d2_2)))] → va_P (dC, dI) vwP [(q_1, .inl (cA_1, nn, .inr (.inl w2_1)))] H → va_D A [(q_1, .inl (cA_1, nn, .inr (.inl w2_1)))] → va_S A s.heap H locs → W p l e (headSpec v_X11_clearBits ({ frames := 0, cells := 0, slots := 0, locals := 0 })).room s m ([.ref q_1, .int (zI (i))] : List Value).toArray below meth c H locs 0 0 Q (F0 m 2 ls []) := by
    intro n2
    induction n2 with
    | zero => intro d2_2 w2_1 ls H locs jd2_2 hm2; exact absurd hm2 (by omega)
    | succ n2 ih2 =>
      intro d2_2 w2_1 ls H locs jd2_2 hm2 hl hP hD hS
      refine lv_iload_n hx hb dX11_clearBits_2 rfl (lv_at hl 2 rfl) ?_
      refine lv_iload_n hx hb dX11_clearBits_3 rfl (lv_at hl 1 rfl) ?_
      refine lv_icmp_ge (tgt := 17) hx hb dX11_clearBits_4 (by decide) (fun b4 => ?_) (fun b4 => ?_)
      · have yb4 : (i : Int) ≤ (d2_2 : Int) := (zI_le (a := i) (b := d2_2) (by omega) (by omega) (by omega) (by omega)).mp b4
        subst hQ
        refine W.widen (k := 0) (n := 0) (Nat.le_of_ble_eq_true rfl) (Nat.le_of_ble_eq_true rfl) ?_
        exact W.vret hx hb hr (fun t ht hW => ⟨⟨(), rfl, trivial, w2_1, by rw [ht]; exact hP, va_K.moved hW.alike hK, hD⟩, hS.F ht⟩) hS.2.2 dX11_clearBits_17
      · have yb4 : ¬ (i : Int) ≤ (d2_2 : Int) := fun q => b4 ((zI_le (a := i) (b := d2_2) (by omega) (by omega) (by omega) (by omega)).mpr q)
        refine lv_aload_n hx hb dX11_clearBits_7 rfl (lv_at hl 0 rfl) ?_
        refine lv_iload_n hx hb dX11_clearBits_8 rfl (lv_at hl 2 rfl) ?_
        refine lv_lconst (v := lI (0)) hx hb dX11_clearBits_9 (by decide) ?_
        refine va_last (i := zI (d2_2)) hx hb hK hP hD hS 0 0 rfl rfl (zI_in (a := d2_2) (n := nn) (by omega) (by omega) (by omega)) dX11_clearBits_10 (fun H locs hP hD hS => ?_)
        have hP : va_P (dC, dI) vwP [(q_1, .inl (cA_1, nn, .inr (.inl (vp_updL w2_1 (zI (d2_2)).toNatClampNeg (lI (0))))))] H := hP
        have hD : va_D A [(q_1, .inl (cA_1, nn, .inr (.inl (vp_updL w2_1 (zI (d2_2)).toNatClampNeg (lI (0))))))] := hD
        generalize (vp_updL w2_1 (zI (d2_2)).toNatClampNeg (lI (0))) = fl_2001 at hP hD
        have hP : va_P (dC, dI) vwP [(q_1, .inl (cA_1, nn, .inr (.inl fl_2001)))] H := hP
        have hD : va_D A [(q_1, .inl (cA_1, nn, .inr (.inl fl_2001)))] := hD
        refine lv_iinc (v := zI (d2_2 + 1)) (lv' := [(2, .int (zI (d2_2 + 1))), (0, .ref q_1), (1, .int (zI (i)))]) hx hb dX11_clearBits_11 hl (k := 2) rfl (zI_add (d2_2) (1)) (by decide) rfl (fun ls hl => ?_)
        refine lv_goto (tgt := 2) hx hb dX11_clearBits_14 (by decide) ?_
        exact ih2 (d2_2 + 1) fl_2001 ls H _ (by omega) (by omega) (lv_sub hl [1, 2, 0] rfl) hP hD hS
  exact key2 (((i) - (0) : Int).toNat + 1) 0 fl_1 ls H _ (by omega) (by omega) (lv_sub hl [1, 2, 0] rfl) hP hD hS
