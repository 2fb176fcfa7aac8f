theorem dX11_isRegister_0 : decode cX11_isRegister 0 = .ok (.lload_n 0, 1) := by decide +kernel
theorem dX11_isRegister_1 : decode cX11_isRegister 1 = .ok (.ldc2_w 318, 3) := by decide +kernel
theorem dX11_isRegister_4 : decode cX11_isRegister 4 = .ok (.lcmp, 1) := by decide +kernel
theorem dX11_isRegister_5 : decode cX11_isRegister 5 = .ok (.ifCond .lt 15, 3) := by decide +kernel
theorem dX11_isRegister_20 : decode cX11_isRegister 20 = .ok (.iconst 0, 1) := by decide +kernel
theorem dX11_isRegister_21 : decode cX11_isRegister 21 = .ok (.ireturn, 1) := by decide +kernel
theorem dX11_isRegister_8 : decode cX11_isRegister 8 = .ok (.lload_n 0, 1) := by decide +kernel
theorem dX11_isRegister_9 : decode cX11_isRegister 9 = .ok (.ldc2_w 320, 3) := by decide +kernel
theorem dX11_isRegister_12 : decode cX11_isRegister 12 = .ok (.lcmp, 1) := by decide +kernel
theorem dX11_isRegister_13 : decode cX11_isRegister 13 = .ok (.ifCond .ge 7, 3) := by decide +kernel
theorem dX11_isRegister_16 : decode cX11_isRegister 16 = .ok (.iconst 1, 1) := by decide +kernel
theorem dX11_isRegister_17 : decode cX11_isRegister 17 = .ok (.goto 4, 3) := by decide +kernel
def o_X11_isRegister : List Cond := [.constantLong RX11 318 (4294967296), .constantLong RX11 320 (1099511627776)]
def v_X11_isRegister : List Cond := .code yX11_isRegister cX11_isRegister 2 (some .boolean) :: (o_X11_isRegister ++ [])
theorem mow_X11_isRegister : ∀ w ∈ o_X11_isRegister, w ∈ v_X11_isRegister := fun _ h => List.mem_cons_of_mem _ (List.mem_append_left _ h)
set_option maxRecDepth 20000 in
theorem gw_X11_isRegister : v_X11_isRegister.all goodWord = true := by decide +kernel
set_option maxHeartbeats 4000000 in
set_option maxRecDepth 100000 in
theorem c_X11_isRegister (l : Launch) (dC : Nat → ClassId) (dI : Nat → Nat → Nat) (x : Int) (hNx : -4611686018427387904 ≤ x ∧ x ≤ 4611686018427387904) (sz : Nat) : Met l yX11_isRegister v_X11_isRegister ({ frames := 0, cells := 0, slots := 0, locals := 0 }) (va_Pc [.long (lI (x))] (fun U => U.heap.size = sz ∧ va_P (dC, dI) vwP [] U.heap ∧ va_K (dC, dI) vwP [] U ∧ va_D (fun _ => True) [])) (va_Qi (fun (r : Int32) (_ : Unit) => r = zI (isR x)) (fun (_ : Unit) (t : State) => va_P (dC, dI) vwP [] t.heap ∧ va_K (dC, dI) vwP [] t ∧ va_D (va_A [] sz) []) (va_A [] sz)) 0 0 (va_A [] sz) := by
  refine Met.ofW (cc := cX11_isRegister) (maxL := 2) (ret := (some .boolean)) (by decide) rfl ?_
  intro p e s m args below meth c s₁ B hml hv
  obtain ⟨rfl, hsz, hP, hK, hD0⟩ := hv
  have hx := B.exec
  have hb := B.bytes
  have hr := B.returns
  have hts := atoms_spec (ws := v_X11_isRegister) B.pre
  have hown : s.vm.findClass RX11 = some m.cls := findClass_of_methodNamed B.named
  have hlocks := B.notSynchronized
  have ow : ∀ {k : Nat} {w : Cond}, o_X11_isRegister[k]? = some w → w.before ([.long (lI (x))] : List Value).toArray s = true := fun h => hts _ (mow_X11_isRegister _ (List.mem_of_getElem? h))
  subst hsz
  have hD := hD0.self (sz := s.heap.size)
  generalize hAe : va_A [] s.heap.size = A at hD ⊢
  have hA : ∀ q : Nat, s.heap.size ≤ q → A q := fun q h => by rw [← hAe]; exact Or.inr h
  have hS : va_S A s.heap s.heap [] := va_S.rf
  have hP : va_P (dC, dI) vwP [] s.heap := hP
  have hl := lv_entry ([.long (lI (x))]) (n := 2) (Nat.le_of_ble_eq_true rfl)
  rw [lg_entry_eq]
  generalize (lg_sl ([.long (lI (x))]) ++ List.replicate (2 - (lg_sl ([.long (lI (x))])).length) Slot.unset).toArray = ls at hl ⊢
  have hl : lv_has ls 2 [(0, .long (lI (x)))] := hl
  obtain ⟨H, hH⟩ : ∃ H, H = s.heap := ⟨_, rfl⟩
  rw [← hH] at hP
  have hS : va_S A s.heap H [] := by rw [hH]; exact hS
  rw [← hH]
  refine zW_cap (fun Q hQ => ?_)
  refine lv_lload_n hx hb dX11_isRegister_0 rfl (lv_at hl 0 rfl) ?_
  refine lv_ldc2 (v := 4294967296) hx hb hown (ow (k := 0) rfl) dX11_isRegister_1 ?_
  refine lv_topl (fun z ez => ?_)
  obtain rfl : z = lI (4294967296) := ez
  refine W.lcmp hx hb dX11_isRegister_4 ?_
  refine lv_if_lt (tgt := 20) hx hb dX11_isRegister_5 (by decide) (fun b5 => ?_) (fun b5 => ?_)
  · have yb5 : (x : Int) < 4294967296 := (lc_lt (a := x) (b := 4294967296) (by omega) (by omega) (by omega) (by omega)).mp b5
    refine lv_iconst (v := 0) hx hb dX11_isRegister_20 (by decide) ?_
    subst hQ
    refine W.widen (k := 0) (n := 0) (Nat.le_of_ble_eq_true rfl) (Nat.le_of_ble_eq_true rfl) ?_
    exact W.zret (v := 0) hx hb hr (by decide) (fun t ht hW => ⟨⟨0, (), rfl, (congrArg zI (show (0 : Int) = isR x by unfold isR; (repeat' split) <;> omega)), by rw [ht]; exact hP, va_K.moved hW.alike hK, hD⟩, hS.F ht⟩) hS.2.2 dX11_isRegister_21
  · have yb5 : ¬ (x : Int) < 4294967296 := fun q => b5 ((lc_lt (a := x) (b := 4294967296) (by omega) (by omega) (by omega) (by omega)).mpr q)
    refine lv_lload_n hx hb dX11_isRegister_8 rfl (lv_at hl 0 rfl) ?_
    refine lv_ldc2 (v := 1099511627776) hx hb hown (ow (k := 1) rfl) dX11_isRegister_9 ?_
    refine lv_topl (fun z ez => ?_)
    obtain rfl : z = lI (1099511627776) := ez
    refine W.lcmp hx hb dX11_isRegister_12 ?_
    refine lv_if_ge (tgt := 20) hx hb dX11_isRegister_13 (by decide) (fun b13 => ?_) (fun b13 => ?_)
    · have yb13 : (1099511627776 : Int) ≤ x := (lc_ge (a := x) (b := 1099511627776) (by omega) (by omega) (by omega) (by omega)).mp b13
      refine lv_iconst (v := 0) hx hb dX11_isRegister_20 (by decide) ?_
      subst hQ
      refine W.widen (k := 0) (n := 0) (Nat.le_of_ble_eq_true rfl) (Nat.le_of_ble_eq_true rfl) ?_
      exact W.zret (v := 0) hx hb hr (by decide) (fun t ht hW => ⟨⟨0, (), rfl, (congrArg zI (show (0 : Int) = isR x by unfold isR; (repeat' split) <;> omega)), by rw [ht]; exact hP, va_K.moved hW.alike hK, hD⟩, hS.F ht⟩) hS.2.2 dX11_isRegister_21
    · have yb13 : ¬ (1099511627776 : Int) ≤ x := fun q => b13 ((lc_ge (a := x) (b := 1099511627776) (by omega) (by omega) (by omega) (by omega)).mpr q)
      refine lv_iconst (v := 1) hx hb dX11_isRegister_16 (by decide) ?_
      refine lv_goto (tgt := 21) hx hb dX11_isRegister_17 (by decide) ?_
      subst hQ
      refine W.widen (k := 0) (n := 0) (Nat.le_of_ble_eq_true rfl) (Nat.le_of_ble_eq_true rfl) ?_
      exact W.zret (v := 1) hx hb hr (by decide) (fun t ht hW => ⟨⟨1, (), rfl, (congrArg zI (show (1 : Int) = isR x by unfold isR; (repeat' split) <;> omega)), by rw [ht]; exact hP, va_K.moved hW.alike hK, hD⟩, hS.F ht⟩) hS.2.2 dX11_isRegister_21
theorem dX11_isNumber_0 : decode cX11_isNumber 0 = .ok (.lload_n 0, 1) := by decide +kernel
theorem dX11_isNumber_1 : decode cX11_isNumber 1 = .ok (.ldc2_w 318, 3) := by decide +kernel
theorem dX11_isNumber_4 : decode cX11_isNumber 4 = .ok (.lcmp, 1) := by decide +kernel
theorem dX11_isNumber_5 : decode cX11_isNumber 5 = .ok (.ifCond .ge 7, 3) := by decide +kernel
theorem dX11_isNumber_12 : decode cX11_isNumber 12 = .ok (.iconst 0, 1) := by decide +kernel
theorem dX11_isNumber_13 : decode cX11_isNumber 13 = .ok (.ireturn, 1) := by decide +kernel
theorem dX11_isNumber_8 : decode cX11_isNumber 8 = .ok (.iconst 1, 1) := by decide +kernel
theorem dX11_isNumber_9 : decode cX11_isNumber 9 = .ok (.goto 4, 3) := by decide +kernel
def o_X11_isNumber : List Cond := [.constantLong RX11 318 (4294967296)]
def v_X11_isNumber : List Cond := .code yX11_isNumber cX11_isNumber 2 (some .boolean) :: (o_X11_isNumber ++ [])
theorem mow_X11_isNumber : ∀ w ∈ o_X11_isNumber, w ∈ v_X11_isNumber := fun _ h => List.mem_cons_of_mem _ (List.mem_append_left _ h)
set_option maxRecDepth 20000 in
theorem gw_X11_isNumber : v_X11_isNumber.all goodWord = true := by decide +kernel
set_option maxHeartbeats 4000000 in
set_option maxRecDepth 100000 in
theorem c_X11_isNumber (l : Launch) (dC : Nat → ClassId) (dI : Nat → Nat → Nat) (x : Int) (hNx : -4611686018427387904 ≤ x ∧ x ≤ 4611686018427387904) (sz : Nat) : Met l yX11_isNumber v_X11_isNumber ({ frames := 0, cells := 0, slots := 0, locals := 0 }) (va_Pc [.long (lI (x))] (fun U => U.heap.size = sz ∧ va_P (dC, dI) vwP [] U.heap ∧ va_K (dC, dI) vwP [] U ∧ va_D (fun _ => True) [])) (va_Qi (fun (r : Int32) (_ : Unit) => r = zI (isN x)) (fun (_ : Unit) (t : State) => va_P (dC, dI) vwP [] t.heap ∧ va_K (dC, dI) vwP [] t ∧ va_D (va_A [] sz) []) (va_A [] sz)) 0 0 (va_A [] sz) := by
  refine Met.ofW (cc := cX11_isNumber) (maxL := 2) (ret := (some .boolean)) (by decide) rfl ?_
  intro p e s m args below meth c s₁ B hml hv
  obtain ⟨rfl, hsz, hP, hK, hD0⟩ := hv
  have hx := B.exec
  have hb := B.bytes
  have hr := B.returns
  have hts := atoms_spec (ws := v_X11_isNumber) B.pre
  have hown : s.vm.findClass RX11 = some m.cls := findClass_of_methodNamed B.named
  have hlocks := B.notSynchronized
  have ow : ∀ {k : Nat} {w : Cond}, o_X11_isNumber[k]? = some w → w.before ([.long (lI (x))] : List Value).toArray s = true := fun h => hts _ (mow_X11_isNumber _ (List.mem_of_getElem? h))
  subst hsz
  have hD := hD0.self (sz := s.heap.size)
  generalize hAe : va_A [] s.heap.size = A at hD ⊢
  have hA : ∀ q : Nat, s.heap.size ≤ q → A q := fun q h => by rw [← hAe]; exact Or.inr h
  have hS : va_S A s.heap s.heap [] := va_S.rf
  have hP : va_P (dC, dI) vwP [] s.heap := hP
  have hl := lv_entry ([.long (lI (x))]) (n := 2) (Nat.le_of_ble_eq_true rfl)
  rw [lg_entry_eq]
  generalize (lg_sl ([.long (lI (x))]) ++ List.replicate (2 - (lg_sl ([.long (lI (x))])).length) Slot.unset).toArray = ls at hl ⊢
  have hl : lv_has ls 2 [(0, .long (lI (x)))] := hl
  obtain ⟨H, hH⟩ : ∃ H, H = s.heap := ⟨_, rfl⟩
  rw [← hH] at hP
  have hS : va_S A s.heap H [] := by rw [hH]; exact hS
  rw [← hH]
  refine zW_cap (fun Q hQ => ?_)
  refine lv_lload_n hx hb dX11_isNumber_0 rfl (lv_at hl 0 rfl) ?_
  refine lv_ldc2 (v := 4294967296) hx hb hown (ow (k := 0) rfl) dX11_isNumber_1 ?_
  refine lv_topl (fun z ez => ?_)
  obtain rfl : z = lI (4294967296) := ez
  refine W.lcmp hx hb dX11_isNumber_4 ?_
  refine lv_if_ge (tgt := 12) hx hb dX11_isNumber_5 (by decide) (fun b5 => ?_) (fun b5 => ?_)
  · have yb5 : (4294967296 : Int) ≤ x := (lc_ge (a := x) (b := 4294967296) (by omega) (by omega) (by omega) (by omega)).mp b5
    refine lv_iconst (v := 0) hx hb dX11_isNumber_12 (by decide) ?_
    subst hQ
    refine W.widen (k := 0) (n := 0) (Nat.le_of_ble_eq_true rfl) (Nat.le_of_ble_eq_true rfl) ?_
    exact W.zret (v := 0) hx hb hr (by decide) (fun t ht hW => ⟨⟨0, (), rfl, (congrArg zI (show (0 : Int) = isN x by unfold isN; (repeat' split) <;> omega)), by rw [ht]; exact hP, va_K.moved hW.alike hK, hD⟩, hS.F ht⟩) hS.2.2 dX11_isNumber_13
  · have yb5 : ¬ (4294967296 : Int) ≤ x := fun q => b5 ((lc_ge (a := x) (b := 4294967296) (by omega) (by omega) (by omega) (by omega)).mpr q)
    refine lv_iconst (v := 1) hx hb dX11_isNumber_8 (by decide) ?_
    refine lv_goto (tgt := 13) hx hb dX11_isNumber_9 (by decide) ?_
    subst hQ
    refine W.widen (k := 0) (n := 0) (Nat.le_of_ble_eq_true rfl) (Nat.le_of_ble_eq_true rfl) ?_
    exact W.zret (v := 1) hx hb hr (by decide) (fun t ht hW => ⟨⟨1, (), rfl, (congrArg zI (show (1 : Int) = isN x by unfold isN; (repeat' split) <;> omega)), by rw [ht]; exact hP, va_K.moved hW.alike hK, hD⟩, hS.F ht⟩) hS.2.2 dX11_isNumber_13
theorem dX11_registerOf_0 : decode cX11_registerOf 0 = .ok (.lload_n 0, 1) := by decide +kernel
theorem dX11_registerOf_1 : decode cX11_registerOf 1 = .ok (.ldc2_w 318, 3) := by decide +kernel
theorem dX11_registerOf_4 : decode cX11_registerOf 4 = .ok (.lsub, 1) := by decide +kernel
theorem dX11_registerOf_5 : decode cX11_registerOf 5 = .ok (.l2i, 1) := by decide +kernel
theorem dX11_registerOf_6 : decode cX11_registerOf 6 = .ok (.ireturn, 1) := by decide +kernel
def o_X11_registerOf : List Cond := [.constantLong RX11 318 (4294967296)]
def v_X11_registerOf : List Cond := .code yX11_registerOf cX11_registerOf 2 (some .int) :: (o_X11_registerOf ++ [])
theorem mow_X11_registerOf : ∀ w ∈ o_X11_registerOf, w ∈ v_X11_registerOf := fun _ h => List.mem_cons_of_mem _ (List.mem_append_left _ h)
set_option maxRecDepth 20000 in
theorem gw_X11_registerOf : v_X11_registerOf.all goodWord = true := by decide +kernel
set_option maxHeartbeats 4000000 in
set_option maxRecDepth 100000 in
theorem c_X11_registerOf (l : Launch) (dC : Nat → ClassId) (dI : Nat → Nat → Nat) (x : Int) (hNx : -4611686018427387904 ≤ x ∧ x ≤ 4611686018427387904) (sz : Nat) : Met l yX11_registerOf v_X11_registerOf ({ frames := 0, cells := 0, slots := 0, locals := 0 }) (va_Pc [.long (lI (x))] (fun U => U.heap.size = sz ∧ va_P (dC, dI) vwP [] U.heap ∧ va_K (dC, dI) vwP [] U ∧ va_D (fun _ => True) [])) (va_Qi (fun (r : Int32) (_ : Unit) => r = zI (x - 4294967296)) (fun (_ : Unit) (t : State) => va_P (dC, dI) vwP [] t.heap ∧ va_K (dC, dI) vwP [] t ∧ va_D (va_A [] sz) []) (va_A [] sz)) 0 0 (va_A [] sz) := by
  refine Met.ofW (cc := cX11_registerOf) (maxL := 2) (ret := (some .int)) (by decide) rfl ?_
  intro p e s m args below meth c s₁ B hml hv
  obtain ⟨rfl, hsz, hP, hK, hD0⟩ := hv
  have hx := B.exec
  have hb := B.bytes
  have hr := B.returns
  have hts := atoms_spec (ws := v_X11_registerOf) B.pre
  have hown : s.vm.findClass RX11 = some m.cls := findClass_of_methodNamed B.named
  have hlocks := B.notSynchronized
  have ow : ∀ {k : Nat} {w : Cond}, o_X11_registerOf[k]? = some w → w.before ([.long (lI (x))] : List Value).toArray s = true := fun h => hts _ (mow_X11_registerOf _ (List.mem_of_getElem? h))
  subst hsz
  have hD := hD0.self (sz := s.heap.size)
  generalize hAe : va_A [] s.heap.size = A at hD ⊢
  have hA : ∀ q : Nat, s.heap.size ≤ q → A q := fun q h => by rw [← hAe]; exact Or.inr h
  have hS : va_S A s.heap s.heap [] := va_S.rf
  have hP : va_P (dC, dI) vwP [] s.heap := hP
  have hl := lv_entry ([.long (lI (x))]) (n := 2) (Nat.le_of_ble_eq_true rfl)
  rw [lg_entry_eq]
  generalize (lg_sl ([.long (lI (x))]) ++ List.replicate (2 - (lg_sl ([.long (lI (x))])).length) Slot.unset).toArray = ls at hl ⊢
  have hl : lv_has ls 2 [(0, .long (lI (x)))] := hl
  obtain ⟨H, hH⟩ : ∃ H, H = s.heap := ⟨_, rfl⟩
  rw [← hH] at hP
  have hS : va_S A s.heap H [] := by rw [hH]; exact hS
  rw [← hH]
  refine zW_cap (fun Q hQ => ?_)
  refine lv_lload_n hx hb dX11_registerOf_0 rfl (lv_at hl 0 rfl) ?_
  refine lv_ldc2 (v := 4294967296) hx hb hown (ow (k := 0) rfl) dX11_registerOf_1 ?_
  refine lv_topl (fun z ez => ?_)
  obtain rfl : z = lI (4294967296) := ez
  refine lv_lsub hx hb dX11_registerOf_4 ?_
  refine lv_topl (fun z ez => ?_)
  obtain rfl : z = lI (x - 4294967296) := ez.trans (lI_sub (x) (4294967296))
  refine lv_l2i (v := zI (x - 4294967296)) hx hb dX11_registerOf_5 (lI_i (x - 4294967296)) ?_
  subst hQ
  refine W.widen (k := 0) (n := 0) (Nat.le_of_ble_eq_true rfl) (Nat.le_of_ble_eq_true rfl) ?_
  exact W.iret (v := (zI (x - 4294967296))) hx hb hr (fun t ht hW => ⟨⟨(zI (x - 4294967296)), (), rfl, rfl, by rw [ht]; exact hP, va_K.moved hW.alike hK, hD⟩, hS.F ht⟩) hS.2.2 dX11_registerOf_6
theorem dX11_divides_0 : decode cX11_divides 0 = .ok (.iload_n 0, 1) := by decide +kernel
theorem dX11_divides_1 : decode cX11_divides 1 = .ok (.bipush 6, 2) := by decide +kernel
theorem dX11_divides_3 : decode cX11_divides 3 = .ok (.if_icmp .eq 9, 3) := by decide +kernel
theorem dX11_divides_12 : decode cX11_divides 12 = .ok (.iconst 1, 1) := by decide +kernel
theorem dX11_divides_13 : decode cX11_divides 13 = .ok (.goto 4, 3) := by decide +kernel
theorem dX11_divides_17 : decode cX11_divides 17 = .ok (.ireturn, 1) := by decide +kernel
theorem dX11_divides_6 : decode cX11_divides 6 = .ok (.iload_n 0, 1) := by decide +kernel
theorem dX11_divides_7 : decode cX11_divides 7 = .ok (.bipush 7, 2) := by decide +kernel
theorem dX11_divides_9 : decode cX11_divides 9 = .ok (.if_icmp .ne 7, 3) := by decide +kernel
theorem dX11_divides_16 : decode cX11_divides 16 = .ok (.iconst 0, 1) := by decide +kernel
def o_X11_divides : List Cond := []
def v_X11_divides : List Cond := .code yX11_divides cX11_divides 1 (some .boolean) :: (o_X11_divides ++ [])
theorem mow_X11_divides : ∀ w ∈ o_X11_divides, w ∈ v_X11_divides := fun _ h => List.mem_cons_of_mem _ (List.mem_append_left _ h)
set_option maxRecDepth 20000 in
theorem gw_X11_divides : v_X11_divides.all goodWord = true := by decide +kernel
set_option maxHeartbeats 4000000 in
set_option maxRecDepth 100000 in
theorem c_X11_divides (l : Launch) (dC : Nat → ClassId) (dI : Nat → Nat → Nat) (o : Int) (hNo : -1 ≤ o ∧ o ≤ 100) (sz : Nat) : Met l yX11_divides v_X11_divides ({ frames := 0, cells := 0, slots := 0, locals := 0 }) (va_Pc [.int (zI (o))] (fun U => U.heap.size = sz ∧ va_P (dC, dI) vwP [] U.heap ∧ va_K (dC, dI) vwP [] U ∧ va_D (fun _ => True) [])) (va_Qi (fun (r : Int32) (_ : Unit) => ∃ z : Int, r = zI z ∧ (0 ≤ z ∧ z ≤ 1)) (fun (_ : Unit) (t : State) => va_P (dC, dI) vwP [] t.heap ∧ va_K (dC, dI) vwP [] t ∧ va_D (va_A [] sz) []) (va_A [] sz)) 0 0 (va_A [] sz) := by
  refine Met.ofW (cc := cX11_divides) (maxL := 1) (ret := (some .boolean)) (by decide) rfl ?_
  intro p e s m args below meth c s₁ B hml hv
  obtain ⟨rfl, hsz, hP, hK, hD0⟩ := hv
  have hx := B.exec
  have hb := B.bytes
  have hr := B.returns
  have hts := atoms_spec (ws := v_X11_divides) B.pre
  have hown : s.vm.findClass RX11 = some m.cls := findClass_of_methodNamed B.named
  have hlocks := B.notSynchronized
  have ow : ∀ {k : Nat} {w : Cond}, o_X11_divides[k]? = some w → w.before ([.int (zI (o))] : List Value).toArray s = true := fun h => hts _ (mow_X11_divides _ (List.mem_of_getElem? h))
  subst hsz
  have hD := hD0.self (sz := s.heap.size)
  generalize hAe : va_A [] s.heap.size = A at hD ⊢
  have hA : ∀ q : Nat, s.heap.size ≤ q → A q := fun q h => by rw [← hAe]; exact Or.inr h
  have hS : va_S A s.heap s.heap [] := va_S.rf
  have hP : va_P (dC, dI) vwP [] s.heap := hP
  have hl := lv_entry ([.int (zI (o))]) (n := 1) (Nat.le_of_ble_eq_true rfl)
  rw [lg_entry_eq]
  generalize (lg_sl ([.int (zI (o))]) ++ List.replicate (1 - (lg_sl ([.int (zI (o))])).length) Slot.unset).toArray = ls at hl ⊢
  have hl : lv_has ls 1 [(0, .int (zI (o)))] := hl
  obtain ⟨H, hH⟩ : ∃ H, H = s.heap := ⟨_, rfl⟩
  rw [← hH] at hP
  have hS : va_S A s.heap H [] := by rw [hH]; exact hS
  rw [← hH]
  refine zW_cap (fun Q hQ => ?_)
  refine lv_iload_n hx hb dX11_divides_0 rfl (lv_at hl 0 rfl) ?_
  refine lv_bipush (v := 6) hx hb dX11_divides_1 (by decide) ?_
  refine lv_icmp_eq (tgt := 12) hx hb dX11_divides_3 (by decide) (fun b3 => ?_) (fun b3 => ?_)
  · have yb3 : (o : Int) = (6 : Int) := (zI_eq (a := o) (b := 6) (by omega) (by omega) (by omega) (by omega)).mp b3
    refine lv_iconst (v := 1) hx hb dX11_divides_12 (by decide) ?_
    refine lv_goto (tgt := 17) hx hb dX11_divides_13 (by decide) ?_
    subst hQ
    refine W.widen (k := 0) (n := 0) (Nat.le_of_ble_eq_true rfl) (Nat.le_of_ble_eq_true rfl) ?_
    exact W.zret (v := 1) hx hb hr (by decide) (fun t ht hW => ⟨⟨1, (), rfl, ⟨1, rfl, by omega⟩, by rw [ht]; exact hP, va_K.moved hW.alike hK, hD⟩, hS.F ht⟩) hS.2.2 dX11_divides_17
  · have yb3 : ¬ (o : Int) = (6 : Int) := fun q => b3 ((zI_eq (a := o) (b := 6) (by omega) (by omega) (by omega) (by omega)).mpr q)
    refine lv_iload_n hx hb dX11_divides_6 rfl (lv_at hl 0 rfl) ?_
    refine lv_bipush (v := 7) hx hb dX11_divides_7 (by decide) ?_
    refine lv_icmp_ne (tgt := 16) hx hb dX11_divides_9 (by decide) (fun b9 => ?_) (fun b9 => ?_)
    · have yb9 : ¬ (o : Int) = (7 : Int) := fun q => b9 ((zI_eq (a := o) (b := 7) (by omega) (by omega) (by omega) (by omega)).mpr q)
      refine lv_iconst (v := 0) hx hb dX11_divides_16 (by decide) ?_
      subst hQ
      refine W.widen (k := 0) (n := 0) (Nat.le_of_ble_eq_true rfl) (Nat.le_of_ble_eq_true rfl) ?_
      exact W.zret (v := 0) hx hb hr (by decide) (fun t ht hW => ⟨⟨0, (), rfl, ⟨0, rfl, by omega⟩, by rw [ht]; exact hP, va_K.moved hW.alike hK, hD⟩, hS.F ht⟩) hS.2.2 dX11_divides_17
    · have yb9 : (o : Int) = (7 : Int) := (zI_eq (a := o) (b := 7) (by omega) (by omega) (by omega) (by omega)).mp b9
      refine lv_iconst (v := 1) hx hb dX11_divides_12 (by decide) ?_
      refine lv_goto (tgt := 17) hx hb dX11_divides_13 (by decide) ?_
      subst hQ
      refine W.widen (k := 0) (n := 0) (Nat.le_of_ble_eq_true rfl) (Nat.le_of_ble_eq_true rfl) ?_
      exact W.zret (v := 1) hx hb hr (by decide) (fun t ht hW => ⟨⟨1, (), rfl, ⟨1, rfl, by omega⟩, by rw [ht]; exact hP, va_K.moved hW.alike hK, hD⟩, hS.F ht⟩) hS.2.2 dX11_divides_17
theorem dX11_mayFail_0 : decode cX11_mayFail 0 = .ok (.iload_n 0, 1) := by decide +kernel
theorem dX11_mayFail_1 : decode cX11_mayFail 1 = .ok (.invokestatic 322, 3) := by decide +kernel
theorem dX11_mayFail_4 : decode cX11_mayFail 4 = .ok (.ifCond .eq 20, 3) := by decide +kernel
theorem dX11_mayFail_24 : decode cX11_mayFail 24 = .ok (.iconst 0, 1) := by decide +kernel
theorem dX11_mayFail_25 : decode cX11_mayFail 25 = .ok (.ireturn, 1) := by decide +kernel
theorem dX11_mayFail_7 : decode cX11_mayFail 7 = .ok (.lload_n 1, 1) := by decide +kernel
theorem dX11_mayFail_8 : decode cX11_mayFail 8 = .ok (.lconst 0, 1) := by decide +kernel
theorem dX11_mayFail_9 : decode cX11_mayFail 9 = .ok (.lcmp, 1) := by decide +kernel
theorem dX11_mayFail_10 : decode cX11_mayFail 10 = .ok (.ifCond .eq 10, 3) := by decide +kernel
theorem dX11_mayFail_20 : decode cX11_mayFail 20 = .ok (.iconst 1, 1) := by decide +kernel
theorem dX11_mayFail_21 : decode cX11_mayFail 21 = .ok (.goto 4, 3) := by decide +kernel
theorem dX11_mayFail_13 : decode cX11_mayFail 13 = .ok (.lload_n 1, 1) := by decide +kernel
theorem dX11_mayFail_14 : decode cX11_mayFail 14 = .ok (.invokestatic 326, 3) := by decide +kernel
theorem dX11_mayFail_17 : decode cX11_mayFail 17 = .ok (.ifCond .eq 7, 3) := by decide +kernel
def o_X11_mayFail : List Cond := [.methodLink RX11 322 yX11_divides, .static yX11_divides, .initialized RX11, .methodLink RX11 326 yX11_isRegister, .static yX11_isRegister]
def v_X11_mayFail : List Cond := .code yX11_mayFail cX11_mayFail 3 (some .boolean) :: (o_X11_mayFail ++ (v_X11_divides ++ (v_X11_isRegister ++ [])))
theorem mow_X11_mayFail : ∀ w ∈ o_X11_mayFail, w ∈ v_X11_mayFail := fun _ h => List.mem_cons_of_mem _ (List.mem_append_left _ h)
theorem mem_X11_mayFail_0 : ∀ w ∈ v_X11_divides, w ∈ v_X11_mayFail := fun _ h => List.mem_cons_of_mem _ (List.mem_append_right _ (List.mem_append_left _ h))
theorem mem_X11_mayFail_1 : ∀ w ∈ v_X11_isRegister, w ∈ v_X11_mayFail := fun _ h => List.mem_cons_of_mem _ (List.mem_append_right _ (List.mem_append_right _ (List.mem_append_left _ h)))
set_option maxRecDepth 20000 in
theorem gw_X11_mayFail : v_X11_mayFail.all goodWord = true := by decide +kernel
set_option maxRecDepth 20000 in
theorem g_X11_mayFail_X11_divides : GoodIn v_X11_mayFail (wsS RX11 322 yX11_divides v_X11_divides) := goodIn_app (goodIn_sub (fun w h => mow_X11_mayFail w (by revert w h; decide +kernel)) (by decide +kernel)) (goodIn_sub mem_X11_mayFail_0 gw_X11_divides)
set_option maxRecDepth 20000 in
theorem g_X11_mayFail_X11_isRegister : GoodIn v_X11_mayFail (wsS RX11 326 yX11_isRegister v_X11_isRegister) := goodIn_app (goodIn_sub (fun w h => mow_X11_mayFail w (by revert w h; decide +kernel)) (by decide +kernel)) (goodIn_sub mem_X11_mayFail_1 gw_X11_isRegister)
set_option maxHeartbeats 4000000 in
set_option maxRecDepth 100000 in
theorem c_X11_mayFail (l : Launch) (dC : Nat → ClassId) (dI : Nat → Nat → Nat) (o : Int) (x : Int) (hNo : -1 ≤ o ∧ o ≤ 100) (hNx : -4611686018427387904 ≤ x ∧ x ≤ 4611686018427387904) (sz : Nat) : Met l yX11_mayFail v_X11_mayFail ({ frames := 1, cells := 0, slots := 0, locals := 21 }) (va_Pc [.int (zI (o)), .long (lI (x))] (fun U => U.heap.size = sz ∧ va_P (dC, dI) vwP [] U.heap ∧ va_K (dC, dI) vwP [] U ∧ va_D (fun _ => True) [])) (va_Qi (fun (r : Int32) (_ : Unit) => ∃ z : Int, r = zI z ∧ (0 ≤ z ∧ z ≤ 1)) (fun (_ : Unit) (t : State) => va_P (dC, dI) vwP [] t.heap ∧ va_K (dC, dI) vwP [] t ∧ va_D (va_A [] sz) []) (va_A [] sz)) 0 0 (va_A [] sz) := by
  refine Met.ofW (cc := cX11_mayFail) (maxL := 3) (ret := (some .boolean)) (by decide) rfl ?_
  intro p e s m args below meth c s₁ B hml hv
  obtain ⟨rfl, hsz, hP, hK, hD0⟩ := hv
  have hx := B.exec
  have hb := B.bytes
  have hr := B.returns
  have hts := atoms_spec (ws := v_X11_mayFail) B.pre
  have hown : s.vm.findClass RX11 = some m.cls := findClass_of_methodNamed B.named
  have hlocks := B.notSynchronized
  have ow : ∀ {k : Nat} {w : Cond}, o_X11_mayFail[k]? = some w → w.before ([.int (zI (o)), .long (lI (x))] : List Value).toArray s = true := fun h => hts _ (mow_X11_mayFail _ (List.mem_of_getElem? h))
  subst hsz
  have hD := hD0.self (sz := s.heap.size)
  generalize hAe : va_A [] s.heap.size = A at hD ⊢
  have hA : ∀ q : Nat, s.heap.size ≤ q → A q := fun q h => by rw [← hAe]; exact Or.inr h
  have hS : va_S A s.heap s.heap [] := va_S.rf
  have hP : va_P (dC, dI) vwP [] s.heap := hP
  have hl := lv_entry ([.int (zI (o)), .long (lI (x))]) (n := 3) (Nat.le_of_ble_eq_true rfl)
  rw [lg_entry_eq]
  generalize (lg_sl ([.int (zI (o)), .long (lI (x))]) ++ List.replicate (3 - (lg_sl ([.int (zI (o)), .long (lI (x))])).length) Slot.unset).toArray = ls at hl ⊢
  have hl : lv_has ls 3 [(0, .int (zI (o))), (1, .long (lI (x)))] := hl
  obtain ⟨H, hH⟩ : ∃ H, H = s.heap := ⟨_, rfl⟩
  rw [← hH] at hP
  have hS : va_S A s.heap H [] := by rw [hH]; exact hS
  rw [← hH]
  refine zW_cap (fun Q hQ => ?_)
  refine lv_iload_n hx hb dX11_mayFail_0 rfl (lv_at hl 0 rfl) ?_
  have hPc := hP.sub (ws' := []) [] rfl
  have hDc := hD.sub (ws' := []) [] (by decide) rfl
  have hKc := hK.sub (tys' := []) [] rfl
  have hFc := va_free (wc := []) hD hS hA [] rfl
  refine va_calli (va_runS (As := [.int (zI (o))]) (rest := []) ⟨hx, hb, hml, hown, hts⟩ (c_X11_divides l dC dI o (by omega) H.size) (cwS 1 hts g_X11_mayFail_X11_divides rfl rfl rfl (by decide +kernel) ⟨(Nat.le_of_ble_eq_true rfl), (Nat.le_of_ble_eq_true rfl)⟩) ⟨fun a U g mk q => by obtain ⟨q0, q1, qP, qK, qD⟩ := q; exact ⟨q0, q1, qP, va_K.moved (u := U) (U := U.calling g mk a) (Vm.Alike.refl U.vm) qK, qD⟩, fun U hU hW => ⟨rfl, by rw [hU], by rw [hU]; exact hPc, va_K.moved hW.alike hKc, hDc.weaken (fun _ _ _ _ => trivial)⟩⟩ rfl rfl hl.1 rfl (lv_room (Nat.le_of_ble_eq_true rfl)) dX11_mayFail_1 ⟨(Nat.le_of_ble_eq_true rfl), (Nat.le_of_ble_eq_true rfl)⟩) hS (fun q _ h => hFc q h) hFc (fun r_1 u t H1 locs ht hvm hw hB hz1 hk1 hS => ?_)
  obtain ⟨hP1, hK1, hD1⟩ := hB
  rw [ht] at hP1
  have hK1 := va_K.moved hvm.symm hK1
  obtain ⟨hP, hD⟩ := va_join (wr := []) (w1 := []) hP hD [] [] rfl rfl (by decide) (by decide) hk1 hFc hP1 hD1
  have hK := (hK.sub (tys' := []) [] rfl).app hK1
  generalize H1 = H at hP hS ⊢
  have hP : va_P (dC, dI) vwP [] H := hP
  have hD : va_D A [] := hD
  have hK : va_K (dC, dI) vwP [] s := hK
  refine W.widen (k := 0) (n := 0) (Nat.le_of_ble_eq_true rfl) (Nat.le_of_ble_eq_true rfl) ?_
  have hw_2 := hw
  obtain ⟨z_3, rfl, hzz_3⟩ := hw_2
  refine lv_if_eq (tgt := 24) hx hb dX11_mayFail_4 (by decide) (fun b4 => ?_) (fun b4 => ?_)
  · have yb4 : (z_3 : Int) = (0 : Int) := (zI_eq (a := z_3) (b := 0) (by omega) (by omega) (by omega) (by omega)).mp b4
    refine lv_iconst (v := 0) hx hb dX11_mayFail_24 (by decide) ?_
    subst hQ
    refine W.widen (k := 0) (n := 0) (Nat.le_of_ble_eq_true rfl) (Nat.le_of_ble_eq_true rfl) ?_
    exact W.zret (v := 0) hx hb hr (by decide) (fun t ht hW => ⟨⟨0, (), rfl, ⟨0, rfl, by omega⟩, by rw [ht]; exact hP, va_K.moved hW.alike hK, hD⟩, hS.F ht⟩) hS.2.2 dX11_mayFail_25
  · have yb4 : ¬ (z_3 : Int) = (0 : Int) := fun q => b4 ((zI_eq (a := z_3) (b := 0) (by omega) (by omega) (by omega) (by omega)).mpr q)
    refine lv_lload_n hx hb dX11_mayFail_7 rfl (lv_at hl 1 rfl) ?_
    refine lv_lconst (v := lI (0)) hx hb dX11_mayFail_8 (by decide) ?_
    refine W.lcmp hx hb dX11_mayFail_9 ?_
    refine lv_if_eq (tgt := 20) hx hb dX11_mayFail_10 (by decide) (fun b10 => ?_) (fun b10 => ?_)
    · have yb10 : (x : Int) = 0 := (lc_eq (a := x) (b := 0) (by omega) (by omega) (by omega) (by omega)).mp b10
      refine lv_iconst (v := 1) hx hb dX11_mayFail_20 (by decide) ?_
      refine lv_goto (tgt := 25) hx hb dX11_mayFail_21 (by decide) ?_
      subst hQ
      refine W.widen (k := 0) (n := 0) (Nat.le_of_ble_eq_true rfl) (Nat.le_of_ble_eq_true rfl) ?_
      exact W.zret (v := 1) hx hb hr (by decide) (fun t ht hW => ⟨⟨1, (), rfl, ⟨1, rfl, by omega⟩, by rw [ht]; exact hP, va_K.moved hW.alike hK, hD⟩, hS.F ht⟩) hS.2.2 dX11_mayFail_25
    · have yb10 : ¬ (x : Int) = 0 := fun q => b10 ((lc_eq (a := x) (b := 0) (by omega) (by omega) (by omega) (by omega)).mpr q)
      refine lv_lload_n hx hb dX11_mayFail_13 rfl (lv_at hl 1 rfl) ?_
      have hPc := hP.sub (ws' := []) [] rfl
      have hDc := hD.sub (ws' := []) [] (by decide) rfl
      have hKc := hK.sub (tys' := []) [] rfl
      have hFc := va_free (wc := []) hD hS hA [] rfl
      refine va_calli (va_runS (As := [.long (lI (x))]) (rest := []) ⟨hx, hb, hml, hown, hts⟩ (c_X11_isRegister l dC dI x (by omega) H.size) (cwS 1 hts g_X11_mayFail_X11_isRegister rfl rfl rfl (by decide +kernel) ⟨(Nat.le_of_ble_eq_true rfl), (Nat.le_of_ble_eq_true rfl)⟩) ⟨fun a U g mk q => by obtain ⟨q0, q1, qP, qK, qD⟩ := q; exact ⟨q0, q1, qP, va_K.moved (u := U) (U := U.calling g mk a) (Vm.Alike.refl U.vm) qK, qD⟩, fun U hU hW => ⟨rfl, by rw [hU], by rw [hU]; exact hPc, va_K.moved hW.alike hKc, hDc.weaken (fun _ _ _ _ => trivial)⟩⟩ rfl rfl hl.1 rfl (lv_room (Nat.le_of_ble_eq_true rfl)) dX11_mayFail_14 ⟨(Nat.le_of_ble_eq_true rfl), (Nat.le_of_ble_eq_true rfl)⟩) hS (fun q _ h => hFc q h) hFc (fun r_4 u t H1 locs ht hvm hw hB hz1 hk1 hS => ?_)
      obtain ⟨hP1, hK1, hD1⟩ := hB
      rw [ht] at hP1
      have hK1 := va_K.moved hvm.symm hK1
      obtain ⟨hP, hD⟩ := va_join (wr := []) (w1 := []) hP hD [] [] rfl rfl (by decide) (by decide) hk1 hFc hP1 hD1
      have hK := (hK.sub (tys' := []) [] rfl).app hK1
      generalize H1 = H at hP hS ⊢
      have hP : va_P (dC, dI) vwP [] H := hP
      have hD : va_D A [] := hD
      have hK : va_K (dC, dI) vwP [] s := hK
      refine W.widen (k := 0) (n := 0) (Nat.le_of_ble_eq_true rfl) (Nat.le_of_ble_eq_true rfl) ?_
      obtain rfl : r_4 = (zI (isR x)) := hw
      have := isR_spec (x)
      refine lv_if_eq (tgt := 24) hx hb dX11_mayFail_17 (by decide) (fun b17 => ?_) (fun b17 => ?_)
      · have yb17 : (isR x : Int) = (0 : Int) := (zI_eq (a := isR x) (b := 0) (by omega) (by omega) (by omega) (by omega)).mp b17
        refine lv_iconst (v := 0) hx hb dX11_mayFail_24 (by decide) ?_
        subst hQ
        refine W.widen (k := 0) (n := 0) (Nat.le_of_ble_eq_true rfl) (Nat.le_of_ble_eq_true rfl) ?_
        exact W.zret (v := 0) hx hb hr (by decide) (fun t ht hW => ⟨⟨0, (), rfl, ⟨0, rfl, by omega⟩, by rw [ht]; exact hP, va_K.moved hW.alike hK, hD⟩, hS.F ht⟩) hS.2.2 dX11_mayFail_25
      · have yb17 : ¬ (isR x : Int) = (0 : Int) := fun q => b17 ((zI_eq (a := isR x) (b := 0) (by omega) (by omega) (by omega) (by omega)).mpr q)
        refine lv_iconst (v := 1) hx hb dX11_mayFail_20 (by decide) ?_
        refine lv_goto (tgt := 25) hx hb dX11_mayFail_21 (by decide) ?_
        subst hQ
        refine W.widen (k := 0) (n := 0) (Nat.le_of_ble_eq_true rfl) (Nat.le_of_ble_eq_true rfl) ?_
        exact W.zret (v := 1) hx hb hr (by decide) (fun t ht hW => ⟨⟨1, (), rfl, ⟨1, rfl, by omega⟩, by rw [ht]; exact hP, va_K.moved hW.alike hK, hD⟩, hS.F ht⟩) hS.2.2 dX11_mayFail_25
theorem dX11_hasBit_0 : decode cX11_hasBit 0 = .ok (.aload_n 0, 1) := by decide +kernel
theorem dX11_hasBit_1 : decode cX11_hasBit 1 = .ok (.iload_n 1, 1) := by decide +kernel
theorem dX11_hasBit_2 : decode cX11_hasBit 2 = .ok (.iload_n 2, 1) := by decide +kernel
theorem dX11_hasBit_3 : decode cX11_hasBit 3 = .ok (.bipush 6, 2) := by decide +kernel
theorem dX11_hasBit_5 : decode cX11_hasBit 5 = .ok (.ishr, 1) := by decide +kernel
theorem dX11_hasBit_6 : decode cX11_hasBit 6 = .ok (.iadd, 1) := by decide +kernel
theorem dX11_hasBit_7 : decode cX11_hasBit 7 = .ok (.laload, 1) := by decide +kernel
theorem dX11_hasBit_8 : decode cX11_hasBit 8 = .ok (.iload_n 2, 1) := by decide +kernel
theorem dX11_hasBit_9 : decode cX11_hasBit 9 = .ok (.bipush 63, 2) := by decide +kernel
theorem dX11_hasBit_11 : decode cX11_hasBit 11 = .ok (.iand, 1) := by decide +kernel
theorem dX11_hasBit_12 : decode cX11_hasBit 12 = .ok (.lushr, 1) := by decide +kernel
theorem dX11_hasBit_13 : decode cX11_hasBit 13 = .ok (.lconst 1, 1) := by decide +kernel
theorem dX11_hasBit_14 : decode cX11_hasBit 14 = .ok (.land, 1) := by decide +kernel
theorem dX11_hasBit_15 : decode cX11_hasBit 15 = .ok (.lconst 0, 1) := by decide +kernel
theorem dX11_hasBit_16 : decode cX11_hasBit 16 = .ok (.lcmp, 1) := by decide +kernel
theorem dX11_hasBit_17 : decode cX11_hasBit 17 = .ok (.ifCond .eq 7, 3) := by decide +kernel
theorem dX11_hasBit_24 : decode cX11_hasBit 24 = .ok (.iconst 0, 1) := by decide +kernel
theorem dX11_hasBit_25 : decode cX11_hasBit 25 = .ok (.ireturn, 1) := by decide +kernel
theorem dX11_hasBit_20 : decode cX11_hasBit 20 = .ok (.iconst 1, 1) := by decide +kernel
theorem dX11_hasBit_21 : decode cX11_hasBit 21 = .ok (.goto 4, 3) := by decide +kernel
def o_X11_hasBit : List Cond := []
def v_X11_hasBit : List Cond := .code yX11_hasBit cX11_hasBit 3 (some .boolean) :: (o_X11_hasBit ++ [])
theorem mow_X11_hasBit : ∀ w ∈ o_X11_hasBit, w ∈ v_X11_hasBit := fun _ h => List.mem_cons_of_mem _ (List.mem_append_left _ h)
set_option maxRecDepth 20000 in
theorem gw_X11_hasBit : v_X11_hasBit.all goodWord = true := by decide +kernel
set_option maxHeartbeats 4000000 in
set_option maxRecDepth 100000 in
theorem c_X11_hasBit (l : Launch) (dC : Nat → ClassId) (dI : Nat → Nat → Nat) (q_1 : Nat) (cA_1 : ClassId) (nn : Nat) (fl_1 : Nat → Int64) (fr : Int) (i : Int) (hNb : 0 ≤ fr ∧ 0 ≤ i ∧ i < 1000000 ∧ fr < 1000000 ∧ fr + i / 64 < nn ∧ nn < 1000000) (sz : Nat) : Met l yX11_hasBit v_X11_hasBit ({ frames := 0, cells := 0, slots := 0, locals := 0 }) (va_Pc [.ref q_1, .int (zI (fr)), .int (zI (i))] (fun U => U.heap.size = sz ∧ va_P (dC, dI) vwP [(q_1, .inl (cA_1, nn, .inr (.inl fl_1)))] U.heap ∧ va_K (dC, dI) vwP [(cA_1, .long)] U ∧ va_D (fun _ => True) [(q_1, .inl (cA_1, nn, .inr (.inl fl_1)))])) (va_Qi (fun (r : Int32) (_ : Unit) => ∃ z : Int, r = zI z ∧ (0 ≤ z ∧ z ≤ 1)) (fun (_ : Unit) (t : State) => va_P (dC, dI) vwP [(q_1, .inl (cA_1, nn, .inr (.inl fl_1)))] t.heap ∧ va_K (dC, dI) vwP [(cA_1, .long)] t ∧ va_D (va_A [(q_1, .inl (cA_1, nn, .inr (.inl fl_1)))] sz) [(q_1, .inl (cA_1, nn, .inr (.inl fl_1)))]) (va_A [(q_1, .inl (cA_1, nn, .inr (.inl fl_1)))] sz)) 0 0 (va_A [(q_1, .inl (cA_1, nn, .inr (.inl fl_1)))] sz) := by
  refine Met.ofW (cc := cX11_hasBit) (maxL := 3) (ret := (some .boolean)) (by decide) rfl ?_
  intro p e s m args below meth c s₁ B hml hv
  obtain ⟨rfl, hsz, hP, hK, hD0⟩ := hv
  have hx := B.exec
  have hb := B.bytes
  have hr := B.returns
  have hts := atoms_spec (ws := v_X11_hasBit) B.pre
  have hown : s.vm.findClass RX11 = some m.cls := findClass_of_methodNamed B.named
  have hlocks := B.notSynchronized
  have ow : ∀ {k : Nat} {w : Cond}, o_X11_hasBit[k]? = some w → w.before ([.ref q_1, .int (zI (fr)), .int (zI (i))] : List Value).toArray s = true := fun h => hts _ (mow_X11_hasBit _ (List.mem_of_getElem? h))
  subst hsz
  have hD := hD0.self (sz := s.heap.size)
  generalize hAe : va_A [(q_1, .inl (cA_1, nn, .inr (.inl fl_1)))] s.heap.size = A at hD ⊢
  have hA : ∀ q : Nat, s.heap.size ≤ q → A q := fun q h => by rw [← hAe]; exact Or.inr h
  have hS : va_S A s.heap s.heap [] := va_S.rf
  have hP : va_P (dC, dI) vwP [(q_1, .inl (cA_1, nn, .inr (.inl fl_1)))] s.heap := hP
  have hl := lv_entry ([.ref q_1, .int (zI (fr)), .int (zI (i))]) (n := 3) (Nat.le_of_ble_eq_true rfl)
  rw [lg_entry_eq]
  generalize (lg_sl ([.ref q_1, .int (zI (fr)), .int (zI (i))]) ++ List.replicate (3 - (lg_sl ([.ref q_1, .int (zI (fr)), .int (zI (i))])).length) Slot.unset).toArray = ls at hl ⊢
  have hl : lv_has ls 3 [(0, .ref q_1), (1, .int (zI (fr))), (2, .int (zI (i)))] := hl
  obtain ⟨H, hH⟩ : ∃ H, H = s.heap := ⟨_, rfl⟩
  rw [← hH] at hP
  have hS : va_S A s.heap H [] := by rw [hH]; exact hS
  rw [← hH]
  refine zW_cap (fun Q hQ => ?_)
  refine lv_aload_n hx hb dX11_hasBit_0 rfl (lv_at hl 0 rfl) ?_
  refine lv_iload_n hx hb dX11_hasBit_1 rfl (lv_at hl 1 rfl) ?_
  refine lv_iload_n hx hb dX11_hasBit_2 rfl (lv_at hl 2 rfl) ?_
  refine lv_bipush (v := 6) hx hb dX11_hasBit_3 (by decide) ?_
  refine lv_ishr hx hb dX11_hasBit_5 ?_
  refine lv_topi (fun z ez => ?_)
  obtain rfl : z = zI ((i) / 64) := ez.trans (zI_shr (a := i) (k := 6) (by omega) (by omega) (by decide))
  refine lv_iadd hx hb dX11_hasBit_6 ?_
  refine lv_topi (fun z ez => ?_)
  obtain rfl : z = zI (fr + ((i) / 64)) := ez.trans (zI_add (fr) ((i) / 64))
  refine va_lald hx hb hK hP 0 0 rfl rfl (zI_in (a := fr + ((i) / 64)) (n := nn) (by omega) (by omega) (by omega)) dX11_hasBit_7 ?_
  refine lv_topl (fun x_2001 _ => ?_)
  refine lv_iload_n hx hb dX11_hasBit_8 rfl (lv_at hl 2 rfl) ?_
  refine lv_bipush (v := 63) hx hb dX11_hasBit_9 (by decide) ?_
  refine lv_iand hx hb dX11_hasBit_11 ?_
  refine lv_topi (fun x_2002 _ => ?_)
  refine lv_lushr hx hb dX11_hasBit_12 rfl ?_
  refine lv_topl (fun x_2003 _ => ?_)
  refine lv_lconst (v := lI (1)) hx hb dX11_hasBit_13 (by decide) ?_
  refine lv_land hx hb dX11_hasBit_14 ?_
  refine lv_topl (fun x_2004 _ => ?_)
  refine lv_lconst (v := lI (0)) hx hb dX11_hasBit_15 (by decide) ?_
  refine W.lcmp hx hb dX11_hasBit_16 ?_
  refine lv_topi (fun x_2005 _ => ?_)
  refine lv_if_eq (tgt := 24) hx hb dX11_hasBit_17 (by decide) (fun b17 => ?_) (fun b17 => ?_)
  · refine lv_iconst (v := 0) hx hb dX11_hasBit_24 (by decide) ?_
    subst hQ
    refine W.widen (k := 0) (n := 0) (Nat.le_of_ble_eq_true rfl) (Nat.le_of_ble_eq_true rfl) ?_
    exact W.zret (v := 0) hx hb hr (by decide) (fun t ht hW => ⟨⟨0, (), rfl, ⟨0, rfl, by omega⟩, by rw [ht]; exact hP, va_K.moved hW.alike hK, hD⟩, hS.F ht⟩) hS.2.2 dX11_hasBit_25
  · refine lv_iconst (v := 1) hx hb dX11_hasBit_20 (by decide) ?_
    refine lv_goto (tgt := 25) hx hb dX11_hasBit_21 (by decide) ?_
    subst hQ
    refine W.widen (k := 0) (n := 0) (Nat.le_of_ble_eq_true rfl) (Nat.le_of_ble_eq_true rfl) ?_
    exact W.zret (v := 1) hx hb hr (by decide) (fun t ht hW => ⟨⟨1, (), rfl, ⟨1, rfl, by omega⟩, by rw [ht]; exact hP, va_K.moved hW.alike hK, hD⟩, hS.F ht⟩) hS.2.2 dX11_hasBit_25
theorem dX11_putBit_0 : decode cX11_putBit 0 = .ok (.aload_n 0, 1) := by decide +kernel
theorem dX11_putBit_1 : decode cX11_putBit 1 = .ok (.iload_n 1, 1) := by decide +kernel
theorem dX11_putBit_2 : decode cX11_putBit 2 = .ok (.iload_n 2, 1) := by decide +kernel
theorem dX11_putBit_3 : decode cX11_putBit 3 = .ok (.bipush 6, 2) := by decide +kernel
theorem dX11_putBit_5 : decode cX11_putBit 5 = .ok (.ishr, 1) := by decide +kernel
theorem dX11_putBit_6 : decode cX11_putBit 6 = .ok (.iadd, 1) := by decide +kernel
theorem dX11_putBit_7 : decode cX11_putBit 7 = .ok (.dup2, 1) := by decide +kernel
theorem dX11_putBit_8 : decode cX11_putBit 8 = .ok (.laload, 1) := by decide +kernel
theorem dX11_putBit_9 : decode cX11_putBit 9 = .ok (.lconst 1, 1) := by decide +kernel
theorem dX11_putBit_10 : decode cX11_putBit 10 = .ok (.iload_n 2, 1) := by decide +kernel
theorem dX11_putBit_11 : decode cX11_putBit 11 = .ok (.bipush 63, 2) := by decide +kernel
theorem dX11_putBit_13 : decode cX11_putBit 13 = .ok (.iand, 1) := by decide +kernel
theorem dX11_putBit_14 : decode cX11_putBit 14 = .ok (.lshl, 1) := by decide +kernel
theorem dX11_putBit_15 : decode cX11_putBit 15 = .ok (.lor, 1) := by decide +kernel
theorem dX11_putBit_16 : decode cX11_putBit 16 = .ok (.lastore, 1) := by decide +kernel
theorem dX11_putBit_17 : decode cX11_putBit 17 = .ok (.return_, 1) := by decide +kernel
def o_X11_putBit : List Cond := []
def v_X11_putBit : List Cond := .code yX11_putBit cX11_putBit 3 none :: (o_X11_putBit ++ [])
theorem mow_X11_putBit : ∀ w ∈ o_X11_putBit, w ∈ v_X11_putBit := fun _ h => List.mem_cons_of_mem _ (List.mem_append_left _ h)
set_option maxRecDepth 20000 in
theorem gw_X11_putBit : v_X11_putBit.all goodWord = true := by decide +kernel
set_option maxHeartbeats 4000000 in
set_option maxRecDepth 100000 in
theorem c_X11_putBit (l : Launch) (dC : Nat → ClassId) (dI : Nat → Nat → Nat) (q_1 : Nat) (cA_1 : ClassId) (nn : Nat) (fl_1 : Nat → Int64) (fr : Int) (i : Int) (hNb : 0 ≤ fr ∧ 0 ≤ i ∧ i < 1000000 ∧ fr < 1000000 ∧ fr + i / 64 < nn ∧ nn < 1000000) (sz : Nat) : Met l yX11_putBit v_X11_putBit ({ frames := 0, cells := 0, slots := 0, locals := 0 }) (va_Pc [.ref q_1, .int (zI (fr)), .int (zI (i))] (fun U => U.heap.size = sz ∧ va_P (dC, dI) vwP [(q_1, .inl (cA_1, nn, .inr (.inl fl_1)))] U.heap ∧ va_K (dC, dI) vwP [(cA_1, .long)] U ∧ va_D (fun _ => True) [(q_1, .inl (cA_1, nn, .inr (.inl fl_1)))])) (va_Qv (fun _ : Unit => True) (fun (_ : Unit) (t : State) => ∃ (g0_9 : Nat → Int64), va_P (dC, dI) vwP [(q_1, .inl (cA_1, nn, .inr (.inl g0_9)))] t.heap ∧ va_K (dC, dI) vwP [(cA_1, .long)] t ∧ va_D (va_A [(q_1, .inl (cA_1, nn, .inr (.inl fl_1)))] sz) [(q_1, .inl (cA_1, nn, .inr (.inl g0_9)))]) (va_A [(q_1, .inl (cA_1, nn, .inr (.inl fl_1)))] sz)) 0 0 (va_A [(q_1, .inl (cA_1, nn, .inr (.inl fl_1)))] sz) := by
  refine Met.ofW (cc := cX11_putBit) (maxL := 3) (ret := none) (by decide) rfl ?_
  intro p e s m args below meth c s₁ B hml hv
  obtain ⟨rfl, hsz, hP, hK, hD0⟩ := hv
  have hx := B.exec
  have hb := B.bytes
  have hr := B.returns
  have hts := atoms_spec (ws := v_X11_putBit) B.pre
  have hown : s.vm.findClass RX11 = some m.cls := findClass_of_methodNamed B.named
  have hlocks := B.notSynchronized
  have ow : ∀ {k : Nat} {w : Cond}, o_X11_putBit[k]? = some w → w.before ([.ref q_1, .int (zI (fr)), .int (zI (i))] : List Value).toArray s = true := fun h => hts _ (mow_X11_putBit _ (List.mem_of_getElem? h))
  subst hsz
  have hD := hD0.self (sz := s.heap.size)
  generalize hAe : va_A [(q_1, .inl (cA_1, nn, .inr (.inl fl_1)))] s.heap.size = A at hD ⊢
  have hA : ∀ q : Nat, s.heap.size ≤ q → A q := fun q h => by rw [← hAe]; exact Or.inr h
  have hS : va_S A s.heap s.heap [] := va_S.rf
  have hP : va_P (dC, dI) vwP [(q_1, .inl (cA_1, nn, .inr (.inl fl_1)))] s.heap := hP
  have hl := lv_entry ([.ref q_1, .int (zI (fr)), .int (zI (i))]) (n := 3) (Nat.le_of_ble_eq_true rfl)
  rw [lg_entry_eq]
  generalize (lg_sl ([.ref q_1, .int (zI (fr)), .int (zI (i))]) ++ List.replicate (3 - (lg_sl ([.ref q_1, .int (zI (fr)), .int (zI (i))])).length) Slot.unset).toArray = ls at hl ⊢
  have hl : lv_has ls 3 [(0, .ref q_1), (1, .int (zI (fr))), (2, .int (zI (i)))] := hl
  obtain ⟨H, hH⟩ : ∃ H, H = s.heap := ⟨_, rfl⟩
  rw [← hH] at hP
  have hS : va_S A s.heap H [] := by rw [hH]; exact hS
  rw [← hH]
  refine zW_cap (fun Q hQ => ?_)
  refine lv_aload_n hx hb dX11_putBit_0 rfl (lv_at hl 0 rfl) ?_
  refine lv_iload_n hx hb dX11_putBit_1 rfl (lv_at hl 1 rfl) ?_
  refine lv_iload_n hx hb dX11_putBit_2 rfl (lv_at hl 2 rfl) ?_
  refine lv_bipush (v := 6) hx hb dX11_putBit_3 (by decide) ?_
  refine lv_ishr hx hb dX11_putBit_5 ?_
  refine lv_topi (fun z ez => ?_)
  obtain rfl : z = zI ((i) / 64) := ez.trans (zI_shr (a := i) (k := 6) (by omega) (by omega) (by decide))
  refine lv_iadd hx hb dX11_putBit_6 ?_
  refine lv_topi (fun z ez => ?_)
  obtain rfl : z = zI (fr + ((i) / 64)) := ez.trans (zI_add (fr) ((i) / 64))
  refine lv_dup2_11 hx hb dX11_putBit_7 rfl rfl ?_
  refine va_lald hx hb hK hP 0 0 rfl rfl (zI_in (a := fr + ((i) / 64)) (n := nn) (by omega) (by omega) (by omega)) dX11_putBit_8 ?_
  refine lv_topl (fun x_2001 _ => ?_)
  refine lv_lconst (v := lI (1)) hx hb dX11_putBit_9 (by decide) ?_
  refine lv_iload_n hx hb dX11_putBit_10 rfl (lv_at hl 2 rfl) ?_
  refine lv_bipush (v := 63) hx hb dX11_putBit_11 (by decide) ?_
  refine lv_iand hx hb dX11_putBit_13 ?_
  refine lv_topi (fun x_2002 _ => ?_)
  refine lv_lshl hx hb dX11_putBit_14 rfl ?_
  refine lv_topl (fun x_2003 _ => ?_)
  refine lv_lor hx hb dX11_putBit_15 ?_
  refine lv_topl (fun x_2004 _ => ?_)
  refine va_last (i := zI (fr + ((i) / 64))) hx hb hK hP hD hS 0 0 rfl rfl (zI_in (a := fr + ((i) / 64)) (n := nn) (by omega) (by omega) (by omega)) dX11_putBit_16 (fun H locs hP hD hS => ?_)
  have hP : va_P (dC, dI) vwP [(q_1, .inl (cA_1, nn, .inr (.inl (vp_updL fl_1 (zI (fr + ((i) / 64))).toNatClampNeg x_2004))))] H := hP
  have hD : va_D A [(q_1, .inl (cA_1, nn, .inr (.inl (vp_updL fl_1 (zI (fr + ((i) / 64))).toNatClampNeg x_2004))))] := hD
  generalize (vp_updL fl_1 (zI (fr + ((i) / 64))).toNatClampNeg x_2004) = fl_2005 at hP hD
  have hP : va_P (dC, dI) vwP [(q_1, .inl (cA_1, nn, .inr (.inl fl_2005)))] H := hP
  have hD : va_D A [(q_1, .inl (cA_1, nn, .inr (.inl fl_2005)))] := hD
  subst hQ
  refine W.widen (k := 0) (n := 0) (Nat.le_of_ble_eq_true rfl) (Nat.le_of_ble_eq_true rfl) ?_
  exact W.vret hx hb hr (fun t ht hW => ⟨⟨(), rfl, trivial, fl_2005, by rw [ht]; exact hP, va_K.moved hW.alike hK, hD⟩, hS.F ht⟩) hS.2.2 dX11_putBit_17
theorem dX11_takeBit_0 : decode cX11_takeBit 0 = .ok (.aload_n 0, 1) := by decide +kernel
theorem dX11_takeBit_1 : decode cX11_takeBit 1 = .ok (.iload_n 1, 1) := by decide +kernel
theorem dX11_takeBit_2 : decode cX11_takeBit 2 = .ok (.iload_n 2, 1) := by decide +kernel
theorem dX11_takeBit_3 : decode cX11_takeBit 3 = .ok (.bipush 6, 2) := by decide +kernel
theorem dX11_takeBit_5 : decode cX11_takeBit 5 = .ok (.ishr, 1) := by decide +kernel
theorem dX11_takeBit_6 : decode cX11_takeBit 6 = .ok (.iadd, 1) := by decide +kernel
theorem dX11_takeBit_7 : decode cX11_takeBit 7 = .ok (.dup2, 1) := by decide +kernel
theorem dX11_takeBit_8 : decode cX11_takeBit 8 = .ok (.laload, 1) := by decide +kernel
theorem dX11_takeBit_9 : decode cX11_takeBit 9 = .ok (.lconst 1, 1) := by decide +kernel
theorem dX11_takeBit_10 : decode cX11_takeBit 10 = .ok (.iload_n 2, 1) := by decide +kernel
theorem dX11_takeBit_11 : decode cX11_takeBit 11 = .ok (.bipush 63, 2) := by decide +kernel
theorem dX11_takeBit_13 : decode cX11_takeBit 13 = .ok (.iand, 1) := by decide +kernel
theorem dX11_takeBit_14 : decode cX11_takeBit 14 = .ok (.lshl, 1) := by decide +kernel
theorem dX11_takeBit_15 : decode cX11_takeBit 15 = .ok (.ldc2_w 330, 3) := by decide +kernel
theorem dX11_takeBit_18 : decode cX11_takeBit 18 = .ok (.lxor, 1) := by decide +kernel
theorem dX11_takeBit_19 : decode cX11_takeBit 19 = .ok (.land, 1) := by decide +kernel
theorem dX11_takeBit_20 : decode cX11_takeBit 20 = .ok (.lastore, 1) := by decide +kernel
theorem dX11_takeBit_21 : decode cX11_takeBit 21 = .ok (.return_, 1) := by decide +kernel
def o_X11_takeBit : List Cond := [.constantLong RX11 330 (-1)]
def v_X11_takeBit : List Cond := .code yX11_takeBit cX11_takeBit 3 none :: (o_X11_takeBit ++ [])
theorem mow_X11_takeBit : ∀ w ∈ o_X11_takeBit, w ∈ v_X11_takeBit := fun _ h => List.mem_cons_of_mem _ (List.mem_append_left _ h)
set_option maxRecDepth 20000 in
theorem gw_X11_takeBit : v_X11_takeBit.all goodWord = true := by decide +kernel
set_option maxHeartbeats 4000000 in
set_option maxRecDepth 100000 in
theorem c_X11_takeBit (l : Launch) (dC : Nat → ClassId) (dI : Nat → Nat → Nat) (q_1 : Nat) (cA_1 : ClassId) (nn : Nat) (fl_1 : Nat → Int64) (fr : Int) (i : Int) (hNb : 0 ≤ fr ∧ 0 ≤ i ∧ i < 1000000 ∧ fr < 1000000 ∧ fr + i / 64 < nn ∧ nn < 1000000) (sz : Nat) : Met l yX11_takeBit v_X11_takeBit ({ frames := 0, cells := 0, slots := 0, locals := 0 }) (va_Pc [.ref q_1, .int (zI (fr)), .int (zI (i))] (fun U => U.heap.size = sz ∧ va_P (dC, dI) vwP [(q_1, .inl (cA_1, nn, .inr (.inl fl_1)))] U.heap ∧ va_K (dC, dI) vwP [(cA_1, .long)] U ∧ va_D (fun _ => True) [(q_1, .inl (cA_1, nn, .inr (.inl fl_1)))])) (va_Qv (fun _ : Unit => True) (fun (_ : Unit) (t : State) => ∃ (g0_9 : Nat → Int64), va_P (dC, dI) vwP [(q_1, .inl (cA_1, nn, .inr (.inl g0_9)))] t.heap ∧ va_K (dC, dI) vwP [(cA_1, .long)] t ∧ va_D (va_A [(q_1, .inl (cA_1, nn, .inr (.inl fl_1)))] sz) [(q_1, .inl (cA_1, nn, .inr (.inl g0_9)))]) (va_A [(q_1, .inl (cA_1, nn, .inr (.inl fl_1)))] sz)) 0 0 (va_A [(q_1, .inl (cA_1, nn, .inr (.inl fl_1)))] sz) := by
  refine Met.ofW (cc := cX11_takeBit) (maxL := 3) (ret := none) (by decide) rfl ?_
  intro p e s m args below meth c s₁ B hml hv
  obtain ⟨rfl, hsz, hP, hK, hD0⟩ := hv
  have hx := B.exec
  have hb := B.bytes
  have hr := B.returns
  have hts := atoms_spec (ws := v_X11_takeBit) B.pre
  have hown : s.vm.findClass RX11 = some m.cls := findClass_of_methodNamed B.named
  have hlocks := B.notSynchronized
  have ow : ∀ {k : Nat} {w : Cond}, o_X11_takeBit[k]? = some w → w.before ([.ref q_1, .int (zI (fr)), .int (zI (i))] : List Value).toArray s = true := fun h => hts _ (mow_X11_takeBit _ (List.mem_of_getElem? h))
  subst hsz
  have hD := hD0.self (sz := s.heap.size)
  generalize hAe : va_A [(q_1, .inl (cA_1, nn, .inr (.inl fl_1)))] s.heap.size = A at hD ⊢
  have hA : ∀ q : Nat, s.heap.size ≤ q → A q := fun q h => by rw [← hAe]; exact Or.inr h
  have hS : va_S A s.heap s.heap [] := va_S.rf
  have hP : va_P (dC, dI) vwP [(q_1, .inl (cA_1, nn, .inr (.inl fl_1)))] s.heap := hP
  have hl := lv_entry ([.ref q_1, .int (zI (fr)), .int (zI (i))]) (n := 3) (Nat.le_of_ble_eq_true rfl)
  rw [lg_entry_eq]
  generalize (lg_sl ([.ref q_1, .int (zI (fr)), .int (zI (i))]) ++ List.replicate (3 - (lg_sl ([.ref q_1, .int (zI (fr)), .int (zI (i))])).length) Slot.unset).toArray = ls at hl ⊢
  have hl : lv_has ls 3 [(0, .ref q_1), (1, .int (zI (fr))), (2, .int (zI (i)))] := hl
  obtain ⟨H, hH⟩ : ∃ H, H = s.heap := ⟨_, rfl⟩
  rw [← hH] at hP
  have hS : va_S A s.heap H [] := by rw [hH]; exact hS
  rw [← hH]
  refine zW_cap (fun Q hQ => ?_)
  refine lv_aload_n hx hb dX11_takeBit_0 rfl (lv_at hl 0 rfl) ?_
  refine lv_iload_n hx hb dX11_takeBit_1 rfl (lv_at hl 1 rfl) ?_
  refine lv_iload_n hx hb dX11_takeBit_2 rfl (lv_at hl 2 rfl) ?_
  refine lv_bipush (v := 6) hx hb dX11_takeBit_3 (by decide) ?_
  refine lv_ishr hx hb dX11_takeBit_5 ?_
  refine lv_topi (fun z ez => ?_)
  obtain rfl : z = zI ((i) / 64) := ez.trans (zI_shr (a := i) (k := 6) (by omega) (by omega) (by decide))
  refine lv_iadd hx hb dX11_takeBit_6 ?_
  refine lv_topi (fun z ez => ?_)
  obtain rfl : z = zI (fr + ((i) / 64)) := ez.trans (zI_add (fr) ((i) / 64))
  refine lv_dup2_11 hx hb dX11_takeBit_7 rfl rfl ?_
  refine va_lald hx hb hK hP 0 0 rfl rfl (zI_in (a := fr + ((i) / 64)) (n := nn) (by omega) (by omega) (by omega)) dX11_takeBit_8 ?_
  refine lv_topl (fun x_2001 _ => ?_)
  refine lv_lconst (v := lI (1)) hx hb dX11_takeBit_9 (by decide) ?_
  refine lv_iload_n hx hb dX11_takeBit_10 rfl (lv_at hl 2 rfl) ?_
  refine lv_bipush (v := 63) hx hb dX11_takeBit_11 (by decide) ?_
  refine lv_iand hx hb dX11_takeBit_13 ?_
  refine lv_topi (fun x_2002 _ => ?_)
  refine lv_lshl hx hb dX11_takeBit_14 rfl ?_
  refine lv_topl (fun x_2003 _ => ?_)
  refine lv_ldc2 (v := (-1)) hx hb hown (ow (k := 0) rfl) dX11_takeBit_15 ?_
  refine lv_topl (fun z ez => ?_)
  obtain rfl : z = lI (-1) := ez
  refine lv_lxor hx hb dX11_takeBit_18 ?_
  refine lv_topl (fun x_2004 _ => ?_)
  refine lv_land hx hb dX11_takeBit_19 ?_
  refine lv_topl (fun x_2005 _ => ?_)
  refine va_last (i := zI (fr + ((i) / 64))) hx hb hK hP hD hS 0 0 rfl rfl (zI_in (a := fr + ((i) / 64)) (n := nn) (by omega) (by omega) (by omega)) dX11_takeBit_20 (fun H locs hP hD hS => ?_)
  have hP : va_P (dC, dI) vwP [(q_1, .inl (cA_1, nn, .inr (.inl (vp_updL fl_1 (zI (fr + ((i) / 64))).toNatClampNeg x_2005))))] H := hP
  have hD : va_D A [(q_1, .inl (cA_1, nn, .inr (.inl (vp_updL fl_1 (zI (fr + ((i) / 64))).toNatClampNeg x_2005))))] := hD
  generalize (vp_updL fl_1 (zI (fr + ((i) / 64))).toNatClampNeg x_2005) = fl_2006 at hP hD
  have hP : va_P (dC, dI) vwP [(q_1, .inl (cA_1, nn, .inr (.inl fl_2006)))] H := hP
  have hD : va_D A [(q_1, .inl (cA_1, nn, .inr (.inl fl_2006)))] := hD
  subst hQ
  refine W.widen (k := 0) (n := 0) (Nat.le_of_ble_eq_true rfl) (Nat.le_of_ble_eq_true rfl) ?_
  exact W.vret hx hb hr (fun t ht hW => ⟨⟨(), rfl, trivial, fl_2006, by rw [ht]; exact hP, va_K.moved hW.alike hK, hD⟩, hS.F ht⟩) hS.2.2 dX11_takeBit_21
theorem dX11_clearBits_0 : decode cX11_clearBits 0 = .ok (.iconst 0, 1) := by decide +kernel
theorem dX11_clearBits_1 : decode cX11_clearBits 1 = .ok (.istore_n 2, 1) := by decide +kernel
theorem dX11_clearBits_2 : decode cX11_clearBits 2 = .ok (.iload_n 2, 1) := by decide +kernel
theorem dX11_clearBits_3 : decode cX11_clearBits 3 = .ok (.iload_n 1, 1) := by decide +kernel
theorem dX11_clearBits_4 : decode cX11_clearBits 4 = .ok (.if_icmp .ge 13, 3) := by decide +kernel
theorem dX11_clearBits_17 : decode cX11_clearBits 17 = .ok (.return_, 1) := by decide +kernel
theorem dX11_clearBits_7 : decode cX11_clearBits 7 = .ok (.aload_n 0, 1) := by decide +kernel
theorem dX11_clearBits_8 : decode cX11_clearBits 8 = .ok (.iload_n 2, 1) := by decide +kernel
theorem dX11_clearBits_9 : decode cX11_clearBits 9 = .ok (.lconst 0, 1) := by decide +kernel
theorem dX11_clearBits_10 : decode cX11_clearBits 10 = .ok (.lastore, 1) := by decide +kernel
theorem dX11_clearBits_11 : decode cX11_clearBits 11 = .ok (.iinc 2 1, 3) := by decide +kernel
theorem dX11_clearBits_14 : decode cX11_clearBits 14 = .ok (.goto (-12), 3) := by decide +kernel
def o_X11_clearBits : List Cond := []
def v_X11_clearBits : List Cond := .code yX11_clearBits cX11_clearBits 3 none :: (o_X11_clearBits ++ [])
theorem mow_X11_clearBits : ∀ w ∈ o_X11_clearBits, w ∈ v_X11_clearBits := fun _ h => List.mem_cons_of_mem _ (List.mem_append_left _ h)
set_option maxRecDepth 20000 in
theorem gw_X11_clearBits : v_X11_clearBits.all goodWord = true := by decide +kernel
set_option maxHeartbeats 4000000 in
set_option maxRecDepth 100000 in
theorem c_X11_clearBits (l : Launch) (dC : Nat → ClassId) (dI : Nat → Nat → Nat) (q_1 : Nat) (cA_1 : ClassId) (nn : Nat) (fl_1 : Nat → Int64) (i : Int) (hNb : 0 ≤ i ∧ i ≤ nn ∧ nn < 1000000) (sz : Nat) : Met l yX11_clearBits v_X11_clearBits ({ frames := 0, cells := 0, slots := 0, locals := 0 }) (va_Pc [.ref q_1, .int (zI (i))] (fun U => U.heap.size = sz ∧ va_P (dC, dI) vwP [(q_1, .inl (cA_1, nn, .inr (.inl fl_1)))] U.heap ∧ va_K (dC, dI) vwP [(cA_1, .long)] U ∧ va_D (fun _ => True) [(q_1, .inl (cA_1, nn, .inr (.inl fl_1)))])) (va_Qv (fun _ : Unit => True) (fun (_ : Unit) (t : State) => ∃ (g0_9 : Nat → Int64), va_P (dC, dI) vwP [(q_1, .inl (cA_1, nn, .inr (.inl g0_9)))] t.heap ∧ va_K (dC, dI) vwP [(cA_1, .long)] t ∧ va_D (va_A [(q_1, .inl (cA_1, nn, .inr (.inl fl_1)))] sz) [(q_1, .inl (cA_1, nn, .inr (.inl g0_9)))]) (va_A [(q_1, .inl (cA_1, nn, .inr (.inl fl_1)))] sz)) 0 0 (va_A [(q_1, .inl (cA_1, nn, .inr (.inl fl_1)))] sz) := by
  refine Met.ofW (cc := cX11_clearBits) (maxL := 3) (ret := none) (by decide) rfl ?_
  intro p e s m args below meth c s₁ B hml hv
  obtain ⟨rfl, hsz, hP, hK, hD0⟩ := hv
  have hx := B.exec
  have hb := B.bytes
  have hr := B.returns
  have hts := atoms_spec (ws := v_X11_clearBits) B.pre
  have hown : s.vm.findClass RX11 = some m.cls := findClass_of_methodNamed B.named
  have hlocks := B.notSynchronized
  have ow : ∀ {k : Nat} {w : Cond}, o_X11_clearBits[k]? = some w → w.before ([.ref q_1, .int (zI (i))] : List Value).toArray s = true := fun h => hts _ (mow_X11_clearBits _ (List.mem_of_getElem? h))
  subst hsz
  have hD := hD0.self (sz := s.heap.size)
  generalize hAe : va_A [(q_1, .inl (cA_1, nn, .inr (.inl fl_1)))] s.heap.size = A at hD ⊢
  have hA : ∀ q : Nat, s.heap.size ≤ q → A q := fun q h => by rw [← hAe]; exact Or.inr h
  have hS : va_S A s.heap s.heap [] := va_S.rf
  have hP : va_P (dC, dI) vwP [(q_1, .inl (cA_1, nn, .inr (.inl fl_1)))] s.heap := hP
  have hl := lv_entry ([.ref q_1, .int (zI (i))]) (n := 3) (Nat.le_of_ble_eq_true rfl)
  rw [lg_entry_eq]
  generalize (lg_sl ([.ref q_1, .int (zI (i))]) ++ List.replicate (3 - (lg_sl ([.ref q_1, .int (zI (i))])).length) Slot.unset).toArray = ls at hl ⊢
  have hl : lv_has ls 3 [(0, .ref q_1), (1, .int (zI (i)))] := hl
  obtain ⟨H, hH⟩ : ∃ H, H = s.heap := ⟨_, rfl⟩
  rw [← hH] at hP
  have hS : va_S A s.heap H [] := by rw [hH]; exact hS
  rw [← hH]
  refine zW_cap (fun Q hQ => ?_)
  refine lv_iconst (v := 0) hx hb dX11_clearBits_0 (by decide) ?_
  refine lv_istore_n (lv' := [(2, .int 0), (0, .ref q_1), (1, .int (zI (i)))]) hx hb dX11_clearBits_1 rfl hl (by decide) rfl (fun ls hl => ?_)
  have key2 : ∀ n2 : Nat, ∀ (d2_2 : Int) (w2_0 : Nat → Int64) (ls : Array Slot) (H : Heap) (locs : List Loc), (0 ≤ d2_2 ∧ d2_2 ≤ 1000000000) → (((i) - (d2_2) : Int).toNat) < n2 → lv_has ls 3 [(0, .ref q_1), (1, .int (zI (i))), (2, .int (zI (d2_2)))] → va_P (dC, dI) vwP [(q_1, .inl (cA_1, nn, .inr (.inl w2_0)))] H → va_D A [(q_1, .inl (cA_1, nn, .inr (.inl w2_0)))] → va_S A s.heap H locs → W p l e (headSpec v_X11_clearBits ({ frames := 0, cells := 0, slots := 0, locals := 0 })).room s m ([.ref q_1, .int (zI (i))] : List Value).toArray below meth c H locs 0 0 Q (F0 m 2 ls []) := by
    intro n2
    induction n2 with
    | zero => intro d2_2 w2_0 ls H locs jd2_2 hm2; exact absurd hm2 (by omega)
    | succ n2 ih2 =>
      intro d2_2 w2_0 ls H locs jd2_2 hm2 hl hP hD hS
      refine lv_iload_n hx hb dX11_clearBits_2 rfl (lv_at hl 2 rfl) ?_
      refine lv_iload_n hx hb dX11_clearBits_3 rfl (lv_at hl 1 rfl) ?_
      refine lv_icmp_ge (tgt := 17) hx hb dX11_clearBits_4 (by decide) (fun b4 => ?_) (fun b4 => ?_)
      · have yb4 : (i : Int) ≤ (d2_2 : Int) := (zI_le (a := i) (b := d2_2) (by omega) (by omega) (by omega) (by omega)).mp b4
        subst hQ
        refine W.widen (k := 0) (n := 0) (Nat.le_of_ble_eq_true rfl) (Nat.le_of_ble_eq_true rfl) ?_
        exact W.vret hx hb hr (fun t ht hW => ⟨⟨(), rfl, trivial, w2_0, by rw [ht]; exact hP, va_K.moved hW.alike hK, hD⟩, hS.F ht⟩) hS.2.2 dX11_clearBits_17
      · have yb4 : ¬ (i : Int) ≤ (d2_2 : Int) := fun q => b4 ((zI_le (a := i) (b := d2_2) (by omega) (by omega) (by omega) (by omega)).mpr q)
        refine lv_aload_n hx hb dX11_clearBits_7 rfl (lv_at hl 0 rfl) ?_
        refine lv_iload_n hx hb dX11_clearBits_8 rfl (lv_at hl 2 rfl) ?_
        refine lv_lconst (v := lI (0)) hx hb dX11_clearBits_9 (by decide) ?_
        refine va_last (i := zI (d2_2)) hx hb hK hP hD hS 0 0 rfl rfl (zI_in (a := d2_2) (n := nn) (by omega) (by omega) (by omega)) dX11_clearBits_10 (fun H locs hP hD hS => ?_)
        have hP : va_P (dC, dI) vwP [(q_1, .inl (cA_1, nn, .inr (.inl (vp_updL w2_0 (zI (d2_2)).toNatClampNeg (lI (0))))))] H := hP
        have hD : va_D A [(q_1, .inl (cA_1, nn, .inr (.inl (vp_updL w2_0 (zI (d2_2)).toNatClampNeg (lI (0))))))] := hD
        generalize (vp_updL w2_0 (zI (d2_2)).toNatClampNeg (lI (0))) = fl_2001 at hP hD
        have hP : va_P (dC, dI) vwP [(q_1, .inl (cA_1, nn, .inr (.inl fl_2001)))] H := hP
        have hD : va_D A [(q_1, .inl (cA_1, nn, .inr (.inl fl_2001)))] := hD
        refine lv_iinc (v := zI (d2_2 + 1)) (lv' := [(2, .int (zI (d2_2 + 1))), (0, .ref q_1), (1, .int (zI (i)))]) hx hb dX11_clearBits_11 hl (k := 2) rfl (zI_add (d2_2) (1)) (by decide) rfl (fun ls hl => ?_)
        refine lv_goto (tgt := 2) hx hb dX11_clearBits_14 (by decide) ?_
        exact ih2 (d2_2 + 1) fl_2001 ls H _ (by omega) (by omega) (lv_sub hl [1, 2, 0] rfl) hP hD hS
  exact key2 (((i) - (0) : Int).toNat + 1) 0 fl_1 ls H _ (by omega) (by omega) (lv_sub hl [1, 2, 0] rfl) hP hD hS
theorem dX0_goalCount_0 : decode cX0_goalCount 0 = .ok (.aload_n 0, 1) := by decide +kernel
theorem dX0_goalCount_1 : decode cX0_goalCount 1 = .ok (.getfield 41, 3) := by decide +kernel
theorem dX0_goalCount_4 : decode cX0_goalCount 4 = .ok (.iload_n 1, 1) := by decide +kernel
theorem dX0_goalCount_5 : decode cX0_goalCount 5 = .ok (.iaload, 1) := by decide +kernel
theorem dX0_goalCount_6 : decode cX0_goalCount 6 = .ok (.iconst 2, 1) := by decide +kernel
theorem dX0_goalCount_7 : decode cX0_goalCount 7 = .ok (.if_icmp .ne 5, 3) := by decide +kernel
theorem dX0_goalCount_12 : decode cX0_goalCount 12 = .ok (.aload_n 0, 1) := by decide +kernel
theorem dX0_goalCount_13 : decode cX0_goalCount 13 = .ok (.getfield 47, 3) := by decide +kernel
theorem dX0_goalCount_16 : decode cX0_goalCount 16 = .ok (.iload_n 1, 1) := by decide +kernel
theorem dX0_goalCount_17 : decode cX0_goalCount 17 = .ok (.iaload, 1) := by decide +kernel
theorem dX0_goalCount_18 : decode cX0_goalCount 18 = .ok (.aload_n 0, 1) := by decide +kernel
theorem dX0_goalCount_19 : decode cX0_goalCount 19 = .ok (.getfield 50, 3) := by decide +kernel
theorem dX0_goalCount_22 : decode cX0_goalCount 22 = .ok (.iload_n 1, 1) := by decide +kernel
theorem dX0_goalCount_23 : decode cX0_goalCount 23 = .ok (.iaload, 1) := by decide +kernel
theorem dX0_goalCount_24 : decode cX0_goalCount 24 = .ok (.if_icmp .ne 7, 3) := by decide +kernel
theorem dX0_goalCount_31 : decode cX0_goalCount 31 = .ok (.iconst 2, 1) := by decide +kernel
theorem dX0_goalCount_32 : decode cX0_goalCount 32 = .ok (.ireturn, 1) := by decide +kernel
theorem dX0_goalCount_27 : decode cX0_goalCount 27 = .ok (.iconst 1, 1) := by decide +kernel
theorem dX0_goalCount_28 : decode cX0_goalCount 28 = .ok (.goto 4, 3) := by decide +kernel
theorem dX0_goalCount_10 : decode cX0_goalCount 10 = .ok (.iconst 0, 1) := by decide +kernel
theorem dX0_goalCount_11 : decode cX0_goalCount 11 = .ok (.ireturn, 1) := by decide +kernel
def o_X0_goalCount : List Cond := [.fieldLink RX0 41 "SsaForge$Code" "endKind" "[I", .fieldLink RX0 47 "SsaForge$Code" "goalOne" "[I", .fieldLink RX0 50 "SsaForge$Code" "goalTwo" "[I"]
def v_X0_goalCount : List Cond := .code yX0_goalCount cX0_goalCount 2 (some .int) :: (o_X0_goalCount ++ (wsX00 ++ []))
theorem mow_X0_goalCount : ∀ w ∈ o_X0_goalCount, w ∈ v_X0_goalCount := fun _ h => List.mem_cons_of_mem _ (List.mem_append_left _ h)
theorem mem_X0_goalCount_0 : ∀ w ∈ wsX00, w ∈ v_X0_goalCount := fun _ h => List.mem_cons_of_mem _ (List.mem_append_right _ (List.mem_append_left _ h))
set_option maxRecDepth 20000 in
theorem gw_X0_goalCount : v_X0_goalCount.all goodWord = true := by decide +kernel
set_option maxHeartbeats 4000000 in
set_option maxRecDepth 100000 in
theorem c_X0_goalCount (l : Launch) (dC : Nat → ClassId) (dI : Nat → Nat → Nat) (h0 : Nat) (v_0 : Value) (v_1 : Value) (v_2 : Value) (v_3 : Value) (v_4 : Value) (v_5 : Value) (v_6 : Value) (v_7 : Value) (v_8 : Value) (q_709 : Nat) (cA_709 : ClassId) (a_9 : Int → Int) (v_10 : Value) (q_711 : Nat) (cA_711 : ClassId) (a_11 : Int → Int) (q_712 : Nat) (cA_712 : ClassId) (a_12 : Int → Int) (v_13 : Value) (v_14 : Value) (v_15 : Value) (v_16 : Value) (v_17 : Value) (v_18 : Value) (b : Int) (hR_a_9 : ∀ j : Int, 0 ≤ a_9 j ∧ a_9 j ≤ 2) (hR_a_11 : ∀ j : Int, 0 ≤ a_11 j ∧ a_11 j ≤ 299) (hR_a_12 : ∀ j : Int, 0 ≤ a_12 j ∧ a_12 j ≤ 299) (hNb : 0 ≤ b ∧ b < 300) (sz : Nat) : Met l yX0_goalCount v_X0_goalCount ({ frames := 0, cells := 0, slots := 0, locals := 0 }) (va_Pc [.ref h0, .int (zI (b))] (fun U => U.heap.size = sz ∧ va_P (dC, dI) vwP [(h0, .inr (0, [v_0, v_1, v_2, v_3, v_4, v_5, v_6, v_7, v_8, .ref q_709, v_10, .ref q_711, .ref q_712, v_13, v_14, v_15, v_16, v_17, v_18])), (q_709, .inl (cA_709, 300, .inl (fun j : Nat => zI (a_9 (j : Int))))), (q_711, .inl (cA_711, 300, .inl (fun j : Nat => zI (a_11 (j : Int))))), (q_712, .inl (cA_712, 300, .inl (fun j : Nat => zI (a_12 (j : Int)))))] U.heap ∧ va_K (dC, dI) vwP [(cA_709, .int), (cA_711, .int), (cA_712, .int)] U ∧ va_D (fun _ => True) [(h0, .inr (0, [v_0, v_1, v_2, v_3, v_4, v_5, v_6, v_7, v_8, .ref q_709, v_10, .ref q_711, .ref q_712, v_13, v_14, v_15, v_16, v_17, v_18])), (q_709, .inl (cA_709, 300, .inl (fun j : Nat => zI (a_9 (j : Int))))), (q_711, .inl (cA_711, 300, .inl (fun j : Nat => zI (a_11 (j : Int))))), (q_712, .inl (cA_712, 300, .inl (fun j : Nat => zI (a_12 (j : Int)))))])) (va_Qi (fun (r : Int32) (_ : Unit) => r = zI (gcF a_9 a_11 a_12 b)) (fun (_ : Unit) (t : State) => va_P (dC, dI) vwP [(h0, .inr (0, [v_0, v_1, v_2, v_3, v_4, v_5, v_6, v_7, v_8, .ref q_709, v_10, .ref q_711, .ref q_712, v_13, v_14, v_15, v_16, v_17, v_18])), (q_709, .inl (cA_709, 300, .inl (fun j : Nat => zI (a_9 (j : Int))))), (q_711, .inl (cA_711, 300, .inl (fun j : Nat => zI (a_11 (j : Int))))), (q_712, .inl (cA_712, 300, .inl (fun j : Nat => zI (a_12 (j : Int)))))] t.heap ∧ va_K (dC, dI) vwP [(cA_709, .int), (cA_711, .int), (cA_712, .int)] t ∧ va_D (va_A [(h0, .inr (0, [v_0, v_1, v_2, v_3, v_4, v_5, v_6, v_7, v_8, .ref q_709, v_10, .ref q_711, .ref q_712, v_13, v_14, v_15, v_16, v_17, v_18])), (q_709, .inl (cA_709, 300, .inl (fun j : Nat => zI (a_9 (j : Int))))), (q_711, .inl (cA_711, 300, .inl (fun j : Nat => zI (a_11 (j : Int))))), (q_712, .inl (cA_712, 300, .inl (fun j : Nat => zI (a_12 (j : Int)))))] sz) [(h0, .inr (0, [v_0, v_1, v_2, v_3, v_4, v_5, v_6, v_7, v_8, .ref q_709, v_10, .ref q_711, .ref q_712, v_13, v_14, v_15, v_16, v_17, v_18])), (q_709, .inl (cA_709, 300, .inl (fun j : Nat => zI (a_9 (j : Int))))), (q_711, .inl (cA_711, 300, .inl (fun j : Nat => zI (a_11 (j : Int))))), (q_712, .inl (cA_712, 300, .inl (fun j : Nat => zI (a_12 (j : Int)))))]) (va_A [(h0, .inr (0, [v_0, v_1, v_2, v_3, v_4, v_5, v_6, v_7, v_8, .ref q_709, v_10, .ref q_711, .ref q_712, v_13, v_14, v_15, v_16, v_17, v_18])), (q_709, .inl (cA_709, 300, .inl (fun j : Nat => zI (a_9 (j : Int))))), (q_711, .inl (cA_711, 300, .inl (fun j : Nat => zI (a_11 (j : Int))))), (q_712, .inl (cA_712, 300, .inl (fun j : Nat => zI (a_12 (j : Int)))))] sz)) 0 0 (va_A [(h0, .inr (0, [v_0, v_1, v_2, v_3, v_4, v_5, v_6, v_7, v_8, .ref q_709, v_10, .ref q_711, .ref q_712, v_13, v_14, v_15, v_16, v_17, v_18])), (q_709, .inl (cA_709, 300, .inl (fun j : Nat => zI (a_9 (j : Int))))), (q_711, .inl (cA_711, 300, .inl (fun j : Nat => zI (a_11 (j : Int))))), (q_712, .inl (cA_712, 300, .inl (fun j : Nat => zI (a_12 (j : Int)))))] sz) := by
  refine Met.ofW (cc := cX0_goalCount) (maxL := 2) (ret := (some .int)) (by decide) rfl ?_
  intro p e s m args below meth c s₁ B hml hv
  obtain ⟨rfl, hsz, hP, hK, hD0⟩ := hv
  have hx := B.exec
  have hb := B.bytes
  have hr := B.returns
  have hts := atoms_spec (ws := v_X0_goalCount) B.pre
  have hown : s.vm.findClass RX0 = some m.cls := findClass_of_methodNamed B.named
  have hlocks := B.notSynchronized
  have ow : ∀ {k : Nat} {w : Cond}, o_X0_goalCount[k]? = some w → w.before ([.ref h0, .int (zI (b))] : List Value).toArray s = true := fun h => hts _ (mow_X0_goalCount _ (List.mem_of_getElem? h))
  subst hsz
  have hD := hD0.self (sz := s.heap.size)
  generalize hAe : va_A [(h0, .inr (0, [v_0, v_1, v_2, v_3, v_4, v_5, v_6, v_7, v_8, .ref q_709, v_10, .ref q_711, .ref q_712, v_13, v_14, v_15, v_16, v_17, v_18])), (q_709, .inl (cA_709, 300, .inl (fun j : Nat => zI (a_9 (j : Int))))), (q_711, .inl (cA_711, 300, .inl (fun j : Nat => zI (a_11 (j : Int))))), (q_712, .inl (cA_712, 300, .inl (fun j : Nat => zI (a_12 (j : Int)))))] s.heap.size = A at hD ⊢
  have hA : ∀ q : Nat, s.heap.size ≤ q → A q := fun q h => by rw [← hAe]; exact Or.inr h
  have hS : va_S A s.heap s.heap [] := va_S.rf
  have hP : va_P (dC, dI) vwP [(h0, .inr (0, [v_0, v_1, v_2, v_3, v_4, v_5, v_6, v_7, v_8, .ref q_709, v_10, .ref q_711, .ref q_712, v_13, v_14, v_15, v_16, v_17, v_18])), (q_709, .inl (cA_709, 300, .inl (fun j : Nat => zI (a_9 (j : Int))))), (q_711, .inl (cA_711, 300, .inl (fun j : Nat => zI (a_11 (j : Int))))), (q_712, .inl (cA_712, 300, .inl (fun j : Nat => zI (a_12 (j : Int)))))] s.heap := hP
  have hl := lv_entry ([.ref h0, .int (zI (b))]) (n := 2) (Nat.le_of_ble_eq_true rfl)
  rw [lg_entry_eq]
  generalize (lg_sl ([.ref h0, .int (zI (b))]) ++ List.replicate (2 - (lg_sl ([.ref h0, .int (zI (b))])).length) Slot.unset).toArray = ls at hl ⊢
  have hl : lv_has ls 2 [(0, .ref h0), (1, .int (zI (b)))] := hl
  obtain ⟨H, hH⟩ : ∃ H, H = s.heap := ⟨_, rfl⟩
  rw [← hH] at hP
  have hS : va_S A s.heap H [] := by rw [hH]; exact hS
  rw [← hH]
  refine zW_cap (fun Q hQ => ?_)
  refine lv_aload_n hx hb dX0_goalCount_0 rfl (lv_at hl 0 rfl) ?_
  refine va_get (D := (dC, dI)) (ci := 0) (v := .ref q_709) (C := RX0) (T := TX0) (N := 19) hx hb hts mem_X0_goalCount_0 hown hK hP 0 rfl rfl 9 (by decide) (ow (k := 0) rfl) (fun _ h9 => h9) rfl dX0_goalCount_1 ?_
  refine lv_iload_n hx hb dX0_goalCount_4 rfl (lv_at hl 1 rfl) ?_
  refine va_iald hx hb hK hP 1 0 rfl rfl (zI_in (a := b) (n := 300) (by omega) (by omega) (by decide)) dX0_goalCount_5 ?_
  refine lv_topi (fun z ez => ?_)
  obtain rfl : z = zI (a_9 (b)) := ez.trans (zI_ld (a_9) (by omega) (by omega))
  have k1 := hR_a_9 (b)
  refine lv_iconst (v := 2) hx hb dX0_goalCount_6 (by decide) ?_
  refine lv_icmp_ne (tgt := 12) hx hb dX0_goalCount_7 (by decide) (fun b7 => ?_) (fun b7 => ?_)
  · have yb7 : ¬ (a_9 (b) : Int) = (2 : Int) := fun q => b7 ((zI_eq (a := a_9 (b)) (b := 2) (by omega) (by omega) (by omega) (by omega)).mpr q)
    refine lv_aload_n hx hb dX0_goalCount_12 rfl (lv_at hl 0 rfl) ?_
    refine va_get (D := (dC, dI)) (ci := 0) (v := .ref q_711) (C := RX0) (T := TX0) (N := 19) hx hb hts mem_X0_goalCount_0 hown hK hP 0 rfl rfl 11 (by decide) (ow (k := 1) rfl) (fun _ h9 => h9) rfl dX0_goalCount_13 ?_
    refine lv_iload_n hx hb dX0_goalCount_16 rfl (lv_at hl 1 rfl) ?_
    refine va_iald hx hb hK hP 2 1 rfl rfl (zI_in (a := b) (n := 300) (by omega) (by omega) (by decide)) dX0_goalCount_17 ?_
    refine lv_topi (fun z ez => ?_)
    obtain rfl : z = zI (a_11 (b)) := ez.trans (zI_ld (a_11) (by omega) (by omega))
    have k2 := hR_a_11 (b)
    refine lv_aload_n hx hb dX0_goalCount_18 rfl (lv_at hl 0 rfl) ?_
    refine va_get (D := (dC, dI)) (ci := 0) (v := .ref q_712) (C := RX0) (T := TX0) (N := 19) hx hb hts mem_X0_goalCount_0 hown hK hP 0 rfl rfl 12 (by decide) (ow (k := 2) rfl) (fun _ h9 => h9) rfl dX0_goalCount_19 ?_
    refine lv_iload_n hx hb dX0_goalCount_22 rfl (lv_at hl 1 rfl) ?_
    refine va_iald hx hb hK hP 3 2 rfl rfl (zI_in (a := b) (n := 300) (by omega) (by omega) (by decide)) dX0_goalCount_23 ?_
    refine lv_topi (fun z ez => ?_)
    obtain rfl : z = zI (a_12 (b)) := ez.trans (zI_ld (a_12) (by omega) (by omega))
    have k3 := hR_a_12 (b)
    refine lv_icmp_ne (tgt := 31) hx hb dX0_goalCount_24 (by decide) (fun b24 => ?_) (fun b24 => ?_)
    · have yb24 : ¬ (a_11 (b) : Int) = (a_12 (b) : Int) := fun q => b24 ((zI_eq (a := a_11 (b)) (b := a_12 (b)) (by omega) (by omega) (by omega) (by omega)).mpr q)
      refine lv_iconst (v := 2) hx hb dX0_goalCount_31 (by decide) ?_
      subst hQ
      refine W.widen (k := 0) (n := 0) (Nat.le_of_ble_eq_true rfl) (Nat.le_of_ble_eq_true rfl) ?_
      exact W.iret (v := 2) hx hb hr (fun t ht hW => ⟨⟨2, (), rfl, (congrArg zI (show (2 : Int) = gcF a_9 a_11 a_12 b by unfold gcF; (repeat' split) <;> omega)), by rw [ht]; exact hP, va_K.moved hW.alike hK, hD⟩, hS.F ht⟩) hS.2.2 dX0_goalCount_32
    · have yb24 : (a_11 (b) : Int) = (a_12 (b) : Int) := (zI_eq (a := a_11 (b)) (b := a_12 (b)) (by omega) (by omega) (by omega) (by omega)).mp b24
      refine lv_iconst (v := 1) hx hb dX0_goalCount_27 (by decide) ?_
      refine lv_goto (tgt := 32) hx hb dX0_goalCount_28 (by decide) ?_
      subst hQ
      refine W.widen (k := 0) (n := 0) (Nat.le_of_ble_eq_true rfl) (Nat.le_of_ble_eq_true rfl) ?_
      exact W.iret (v := 1) hx hb hr (fun t ht hW => ⟨⟨1, (), rfl, (congrArg zI (show (1 : Int) = gcF a_9 a_11 a_12 b by unfold gcF; (repeat' split) <;> omega)), by rw [ht]; exact hP, va_K.moved hW.alike hK, hD⟩, hS.F ht⟩) hS.2.2 dX0_goalCount_32
  · have yb7 : (a_9 (b) : Int) = (2 : Int) := (zI_eq (a := a_9 (b)) (b := 2) (by omega) (by omega) (by omega) (by omega)).mp b7
    refine lv_iconst (v := 0) hx hb dX0_goalCount_10 (by decide) ?_
    subst hQ
    refine W.widen (k := 0) (n := 0) (Nat.le_of_ble_eq_true rfl) (Nat.le_of_ble_eq_true rfl) ?_
    exact W.iret (v := 0) hx hb hr (fun t ht hW => ⟨⟨0, (), rfl, (congrArg zI (show (0 : Int) = gcF a_9 a_11 a_12 b by unfold gcF; (repeat' split) <;> omega)), by rw [ht]; exact hP, va_K.moved hW.alike hK, hD⟩, hS.F ht⟩) hS.2.2 dX0_goalCount_11
theorem dX0_goal_0 : decode cX0_goal 0 = .ok (.iload_n 2, 1) := by decide +kernel
theorem dX0_goal_1 : decode cX0_goal 1 = .ok (.ifCond .ne 12, 3) := by decide +kernel
theorem dX0_goal_13 : decode cX0_goal 13 = .ok (.aload_n 0, 1) := by decide +kernel
theorem dX0_goal_14 : decode cX0_goal 14 = .ok (.getfield 50, 3) := by decide +kernel
theorem dX0_goal_17 : decode cX0_goal 17 = .ok (.iload_n 1, 1) := by decide +kernel
theorem dX0_goal_18 : decode cX0_goal 18 = .ok (.iaload, 1) := by decide +kernel
theorem dX0_goal_19 : decode cX0_goal 19 = .ok (.ireturn, 1) := by decide +kernel
theorem dX0_goal_4 : decode cX0_goal 4 = .ok (.aload_n 0, 1) := by decide +kernel
theorem dX0_goal_5 : decode cX0_goal 5 = .ok (.getfield 47, 3) := by decide +kernel
theorem dX0_goal_8 : decode cX0_goal 8 = .ok (.iload_n 1, 1) := by decide +kernel
theorem dX0_goal_9 : decode cX0_goal 9 = .ok (.iaload, 1) := by decide +kernel
theorem dX0_goal_10 : decode cX0_goal 10 = .ok (.goto 9, 3) := by decide +kernel
def o_X0_goal : List Cond := [.fieldLink RX0 50 "SsaForge$Code" "goalTwo" "[I", .fieldLink RX0 47 "SsaForge$Code" "goalOne" "[I"]
def v_X0_goal : List Cond := .code yX0_goal cX0_goal 3 (some .int) :: (o_X0_goal ++ (wsX00 ++ []))
theorem mow_X0_goal : ∀ w ∈ o_X0_goal, w ∈ v_X0_goal := fun _ h => List.mem_cons_of_mem _ (List.mem_append_left _ h)
theorem mem_X0_goal_0 : ∀ w ∈ wsX00, w ∈ v_X0_goal := fun _ h => List.mem_cons_of_mem _ (List.mem_append_right _ (List.mem_append_left _ h))
set_option maxRecDepth 20000 in
theorem gw_X0_goal : v_X0_goal.all goodWord = true := by decide +kernel
set_option maxHeartbeats 4000000 in
set_option maxRecDepth 100000 in
theorem c_X0_goal (l : Launch) (dC : Nat → ClassId) (dI : Nat → Nat → Nat) (h0 : Nat) (v_0 : Value) (v_1 : Value) (v_2 : Value) (v_3 : Value) (v_4 : Value) (v_5 : Value) (v_6 : Value) (v_7 : Value) (v_8 : Value) (v_9 : Value) (v_10 : Value) (q_711 : Nat) (cA_711 : ClassId) (a_11 : Int → Int) (q_712 : Nat) (cA_712 : ClassId) (a_12 : Int → Int) (v_13 : Value) (v_14 : Value) (v_15 : Value) (v_16 : Value) (v_17 : Value) (v_18 : Value) (b : Int) (i : Int) (hR_a_11 : ∀ j : Int, 0 ≤ a_11 j ∧ a_11 j ≤ 299) (hR_a_12 : ∀ j : Int, 0 ≤ a_12 j ∧ a_12 j ≤ 299) (hNb : 0 ≤ b ∧ b < 300) (hNi : 0 ≤ i ∧ i < 300) (sz : Nat) : Met l yX0_goal v_X0_goal ({ frames := 0, cells := 0, slots := 0, locals := 0 }) (va_Pc [.ref h0, .int (zI (b)), .int (zI (i))] (fun U => U.heap.size = sz ∧ va_P (dC, dI) vwP [(h0, .inr (0, [v_0, v_1, v_2, v_3, v_4, v_5, v_6, v_7, v_8, v_9, v_10, .ref q_711, .ref q_712, v_13, v_14, v_15, v_16, v_17, v_18])), (q_711, .inl (cA_711, 300, .inl (fun j : Nat => zI (a_11 (j : Int))))), (q_712, .inl (cA_712, 300, .inl (fun j : Nat => zI (a_12 (j : Int)))))] U.heap ∧ va_K (dC, dI) vwP [(cA_711, .int), (cA_712, .int)] U ∧ va_D (fun _ => True) [(h0, .inr (0, [v_0, v_1, v_2, v_3, v_4, v_5, v_6, v_7, v_8, v_9, v_10, .ref q_711, .ref q_712, v_13, v_14, v_15, v_16, v_17, v_18])), (q_711, .inl (cA_711, 300, .inl (fun j : Nat => zI (a_11 (j : Int))))), (q_712, .inl (cA_712, 300, .inl (fun j : Nat => zI (a_12 (j : Int)))))])) (va_Qi (fun (r : Int32) (_ : Unit) => r = zI (glF a_11 a_12 b i)) (fun (_ : Unit) (t : State) => va_P (dC, dI) vwP [(h0, .inr (0, [v_0, v_1, v_2, v_3, v_4, v_5, v_6, v_7, v_8, v_9, v_10, .ref q_711, .ref q_712, v_13, v_14, v_15, v_16, v_17, v_18])), (q_711, .inl (cA_711, 300, .inl (fun j : Nat => zI (a_11 (j : Int))))), (q_712, .inl (cA_712, 300, .inl (fun j : Nat => zI (a_12 (j : Int)))))] t.heap ∧ va_K (dC, dI) vwP [(cA_711, .int), (cA_712, .int)] t ∧ va_D (va_A [(h0, .inr (0, [v_0, v_1, v_2, v_3, v_4, v_5, v_6, v_7, v_8, v_9, v_10, .ref q_711, .ref q_712, v_13, v_14, v_15, v_16, v_17, v_18])), (q_711, .inl (cA_711, 300, .inl (fun j : Nat => zI (a_11 (j : Int))))), (q_712, .inl (cA_712, 300, .inl (fun j : Nat => zI (a_12 (j : Int)))))] sz) [(h0, .inr (0, [v_0, v_1, v_2, v_3, v_4, v_5, v_6, v_7, v_8, v_9, v_10, .ref q_711, .ref q_712, v_13, v_14, v_15, v_16, v_17, v_18])), (q_711, .inl (cA_711, 300, .inl (fun j : Nat => zI (a_11 (j : Int))))), (q_712, .inl (cA_712, 300, .inl (fun j : Nat => zI (a_12 (j : Int)))))]) (va_A [(h0, .inr (0, [v_0, v_1, v_2, v_3, v_4, v_5, v_6, v_7, v_8, v_9, v_10, .ref q_711, .ref q_712, v_13, v_14, v_15, v_16, v_17, v_18])), (q_711, .inl (cA_711, 300, .inl (fun j : Nat => zI (a_11 (j : Int))))), (q_712, .inl (cA_712, 300, .inl (fun j : Nat => zI (a_12 (j : Int)))))] sz)) 0 0 (va_A [(h0, .inr (0, [v_0, v_1, v_2, v_3, v_4, v_5, v_6, v_7, v_8, v_9, v_10, .ref q_711, .ref q_712, v_13, v_14, v_15, v_16, v_17, v_18])), (q_711, .inl (cA_711, 300, .inl (fun j : Nat => zI (a_11 (j : Int))))), (q_712, .inl (cA_712, 300, .inl (fun j : Nat => zI (a_12 (j : Int)))))] sz) := by
  refine Met.ofW (cc := cX0_goal) (maxL := 3) (ret := (some .int)) (by decide) rfl ?_
  intro p e s m args below meth c s₁ B hml hv
  obtain ⟨rfl, hsz, hP, hK, hD0⟩ := hv
  have hx := B.exec
  have hb := B.bytes
  have hr := B.returns
  have hts := atoms_spec (ws := v_X0_goal) B.pre
  have hown : s.vm.findClass RX0 = some m.cls := findClass_of_methodNamed B.named
  have hlocks := B.notSynchronized
  have ow : ∀ {k : Nat} {w : Cond}, o_X0_goal[k]? = some w → w.before ([.ref h0, .int (zI (b)), .int (zI (i))] : List Value).toArray s = true := fun h => hts _ (mow_X0_goal _ (List.mem_of_getElem? h))
  subst hsz
  have hD := hD0.self (sz := s.heap.size)
  generalize hAe : va_A [(h0, .inr (0, [v_0, v_1, v_2, v_3, v_4, v_5, v_6, v_7, v_8, v_9, v_10, .ref q_711, .ref q_712, v_13, v_14, v_15, v_16, v_17, v_18])), (q_711, .inl (cA_711, 300, .inl (fun j : Nat => zI (a_11 (j : Int))))), (q_712, .inl (cA_712, 300, .inl (fun j : Nat => zI (a_12 (j : Int)))))] s.heap.size = A at hD ⊢
  have hA : ∀ q : Nat, s.heap.size ≤ q → A q := fun q h => by rw [← hAe]; exact Or.inr h
  have hS : va_S A s.heap s.heap [] := va_S.rf
  have hP : va_P (dC, dI) vwP [(h0, .inr (0, [v_0, v_1, v_2, v_3, v_4, v_5, v_6, v_7, v_8, v_9, v_10, .ref q_711, .ref q_712, v_13, v_14, v_15, v_16, v_17, v_18])), (q_711, .inl (cA_711, 300, .inl (fun j : Nat => zI (a_11 (j : Int))))), (q_712, .inl (cA_712, 300, .inl (fun j : Nat => zI (a_12 (j : Int)))))] s.heap := hP
  have hl := lv_entry ([.ref h0, .int (zI (b)), .int (zI (i))]) (n := 3) (Nat.le_of_ble_eq_true rfl)
  rw [lg_entry_eq]
  generalize (lg_sl ([.ref h0, .int (zI (b)), .int (zI (i))]) ++ List.replicate (3 - (lg_sl ([.ref h0, .int (zI (b)), .int (zI (i))])).length) Slot.unset).toArray = ls at hl ⊢
  have hl : lv_has ls 3 [(0, .ref h0), (1, .int (zI (b))), (2, .int (zI (i)))] := hl
  obtain ⟨H, hH⟩ : ∃ H, H = s.heap := ⟨_, rfl⟩
  rw [← hH] at hP
  have hS : va_S A s.heap H [] := by rw [hH]; exact hS
  rw [← hH]
  refine zW_cap (fun Q hQ => ?_)
  refine lv_iload_n hx hb dX0_goal_0 rfl (lv_at hl 2 rfl) ?_
  refine lv_if_ne (tgt := 13) hx hb dX0_goal_1 (by decide) (fun b1 => ?_) (fun b1 => ?_)
  · have yb1 : ¬ (i : Int) = (0 : Int) := fun q => b1 ((zI_eq (a := i) (b := 0) (by omega) (by omega) (by omega) (by omega)).mpr q)
    refine lv_aload_n hx hb dX0_goal_13 rfl (lv_at hl 0 rfl) ?_
    refine va_get (D := (dC, dI)) (ci := 0) (v := .ref q_712) (C := RX0) (T := TX0) (N := 19) hx hb hts mem_X0_goal_0 hown hK hP 0 rfl rfl 12 (by decide) (ow (k := 0) rfl) (fun _ h9 => h9) rfl dX0_goal_14 ?_
    refine lv_iload_n hx hb dX0_goal_17 rfl (lv_at hl 1 rfl) ?_
    refine va_iald hx hb hK hP 2 1 rfl rfl (zI_in (a := b) (n := 300) (by omega) (by omega) (by decide)) dX0_goal_18 ?_
    refine lv_topi (fun z ez => ?_)
    obtain rfl : z = zI (a_12 (b)) := ez.trans (zI_ld (a_12) (by omega) (by omega))
    have k1 := hR_a_12 (b)
    subst hQ
    refine W.widen (k := 0) (n := 0) (Nat.le_of_ble_eq_true rfl) (Nat.le_of_ble_eq_true rfl) ?_
    exact W.iret (v := (zI (a_12 (b)))) hx hb hr (fun t ht hW => ⟨⟨(zI (a_12 (b))), (), rfl, (congrArg zI (show (a_12 (b) : Int) = glF a_11 a_12 b i by unfold glF; (repeat' split) <;> omega)), by rw [ht]; exact hP, va_K.moved hW.alike hK, hD⟩, hS.F ht⟩) hS.2.2 dX0_goal_19
  · have yb1 : (i : Int) = (0 : Int) := (zI_eq (a := i) (b := 0) (by omega) (by omega) (by omega) (by omega)).mp b1
    refine lv_aload_n hx hb dX0_goal_4 rfl (lv_at hl 0 rfl) ?_
    refine va_get (D := (dC, dI)) (ci := 0) (v := .ref q_711) (C := RX0) (T := TX0) (N := 19) hx hb hts mem_X0_goal_0 hown hK hP 0 rfl rfl 11 (by decide) (ow (k := 1) rfl) (fun _ h9 => h9) rfl dX0_goal_5 ?_
    refine lv_iload_n hx hb dX0_goal_8 rfl (lv_at hl 1 rfl) ?_
    refine va_iald hx hb hK hP 1 0 rfl rfl (zI_in (a := b) (n := 300) (by omega) (by omega) (by decide)) dX0_goal_9 ?_
    refine lv_topi (fun z ez => ?_)
    obtain rfl : z = zI (a_11 (b)) := ez.trans (zI_ld (a_11) (by omega) (by omega))
    have k2 := hR_a_11 (b)
    refine lv_goto (tgt := 19) hx hb dX0_goal_10 (by decide) ?_
    subst hQ
    refine W.widen (k := 0) (n := 0) (Nat.le_of_ble_eq_true rfl) (Nat.le_of_ble_eq_true rfl) ?_
    exact W.iret (v := (zI (a_11 (b)))) hx hb hr (fun t ht hW => ⟨⟨(zI (a_11 (b))), (), rfl, (congrArg zI (show (a_11 (b) : Int) = glF a_11 a_12 b i by unfold glF; (repeat' split) <;> omega)), by rw [ht]; exact hP, va_K.moved hW.alike hK, hD⟩, hS.F ht⟩) hS.2.2 dX0_goal_19
theorem dX0_phiCount_0 : decode cX0_phiCount 0 = .ok (.aload_n 0, 1) := by decide +kernel
theorem dX0_phiCount_1 : decode cX0_phiCount 1 = .ok (.getfield 59, 3) := by decide +kernel
theorem dX0_phiCount_4 : decode cX0_phiCount 4 = .ok (.iload_n 1, 1) := by decide +kernel
theorem dX0_phiCount_5 : decode cX0_phiCount 5 = .ok (.iconst 1, 1) := by decide +kernel
theorem dX0_phiCount_6 : decode cX0_phiCount 6 = .ok (.iadd, 1) := by decide +kernel
theorem dX0_phiCount_7 : decode cX0_phiCount 7 = .ok (.iaload, 1) := by decide +kernel
theorem dX0_phiCount_8 : decode cX0_phiCount 8 = .ok (.aload_n 0, 1) := by decide +kernel
theorem dX0_phiCount_9 : decode cX0_phiCount 9 = .ok (.getfield 59, 3) := by decide +kernel
theorem dX0_phiCount_12 : decode cX0_phiCount 12 = .ok (.iload_n 1, 1) := by decide +kernel
theorem dX0_phiCount_13 : decode cX0_phiCount 13 = .ok (.iaload, 1) := by decide +kernel
theorem dX0_phiCount_14 : decode cX0_phiCount 14 = .ok (.isub, 1) := by decide +kernel
theorem dX0_phiCount_15 : decode cX0_phiCount 15 = .ok (.ireturn, 1) := by decide +kernel
def o_X0_phiCount : List Cond := [.fieldLink RX0 59 "SsaForge$Code" "phiStart" "[I"]
def v_X0_phiCount : List Cond := .code yX0_phiCount cX0_phiCount 2 (some .int) :: (o_X0_phiCount ++ (wsX00 ++ []))
theorem mow_X0_phiCount : ∀ w ∈ o_X0_phiCount, w ∈ v_X0_phiCount := fun _ h => List.mem_cons_of_mem _ (List.mem_append_left _ h)
theorem mem_X0_phiCount_0 : ∀ w ∈ wsX00, w ∈ v_X0_phiCount := fun _ h => List.mem_cons_of_mem _ (List.mem_append_right _ (List.mem_append_left _ h))
set_option maxRecDepth 20000 in
theorem gw_X0_phiCount : v_X0_phiCount.all goodWord = true := by decide +kernel
set_option maxHeartbeats 4000000 in
set_option maxRecDepth 100000 in
theorem c_X0_phiCount (l : Launch) (dC : Nat → ClassId) (dI : Nat → Nat → Nat) (h0 : Nat) (v_0 : Value) (v_1 : Value) (v_2 : Value) (v_3 : Value) (v_4 : Value) (v_5 : Value) (v_6 : Value) (v_7 : Value) (v_8 : Value) (v_9 : Value) (v_10 : Value) (v_11 : Value) (v_12 : Value) (v_13 : Value) (v_14 : Value) (q_715 : Nat) (cA_715 : ClassId) (a_15 : Int → Int) (v_16 : Value) (v_17 : Value) (v_18 : Value) (b : Int) (hR_a_15 : ∀ j : Int, 0 ≤ a_15 j ∧ a_15 j ≤ 1000) (hNb : 0 ≤ b ∧ b < 300) (sz : Nat) : Met l yX0_phiCount v_X0_phiCount ({ frames := 0, cells := 0, slots := 0, locals := 0 }) (va_Pc [.ref h0, .int (zI (b))] (fun U => U.heap.size = sz ∧ va_P (dC, dI) vwP [(h0, .inr (0, [v_0, v_1, v_2, v_3, v_4, v_5, v_6, v_7, v_8, v_9, v_10, v_11, v_12, v_13, v_14, .ref q_715, v_16, v_17, v_18])), (q_715, .inl (cA_715, 301, .inl (fun j : Nat => zI (a_15 (j : Int)))))] U.heap ∧ va_K (dC, dI) vwP [(cA_715, .int)] U ∧ va_D (fun _ => True) [(h0, .inr (0, [v_0, v_1, v_2, v_3, v_4, v_5, v_6, v_7, v_8, v_9, v_10, v_11, v_12, v_13, v_14, .ref q_715, v_16, v_17, v_18])), (q_715, .inl (cA_715, 301, .inl (fun j : Nat => zI (a_15 (j : Int)))))])) (va_Qi (fun (r : Int32) (_ : Unit) => ∃ z : Int, r = zI z ∧ (-1000 ≤ z ∧ z ≤ 1000)) (fun (_ : Unit) (t : State) => va_P (dC, dI) vwP [(h0, .inr (0, [v_0, v_1, v_2, v_3, v_4, v_5, v_6, v_7, v_8, v_9, v_10, v_11, v_12, v_13, v_14, .ref q_715, v_16, v_17, v_18])), (q_715, .inl (cA_715, 301, .inl (fun j : Nat => zI (a_15 (j : Int)))))] t.heap ∧ va_K (dC, dI) vwP [(cA_715, .int)] t ∧ va_D (va_A [(h0, .inr (0, [v_0, v_1, v_2, v_3, v_4, v_5, v_6, v_7, v_8, v_9, v_10, v_11, v_12, v_13, v_14, .ref q_715, v_16, v_17, v_18])), (q_715, .inl (cA_715, 301, .inl (fun j : Nat => zI (a_15 (j : Int)))))] sz) [(h0, .inr (0, [v_0, v_1, v_2, v_3, v_4, v_5, v_6, v_7, v_8, v_9, v_10, v_11, v_12, v_13, v_14, .ref q_715, v_16, v_17, v_18])), (q_715, .inl (cA_715, 301, .inl (fun j : Nat => zI (a_15 (j : Int)))))]) (va_A [(h0, .inr (0, [v_0, v_1, v_2, v_3, v_4, v_5, v_6, v_7, v_8, v_9, v_10, v_11, v_12, v_13, v_14, .ref q_715, v_16, v_17, v_18])), (q_715, .inl (cA_715, 301, .inl (fun j : Nat => zI (a_15 (j : Int)))))] sz)) 0 0 (va_A [(h0, .inr (0, [v_0, v_1, v_2, v_3, v_4, v_5, v_6, v_7, v_8, v_9, v_10, v_11, v_12, v_13, v_14, .ref q_715, v_16, v_17, v_18])), (q_715, .inl (cA_715, 301, .inl (fun j : Nat => zI (a_15 (j : Int)))))] sz) := by
  refine Met.ofW (cc := cX0_phiCount) (maxL := 2) (ret := (some .int)) (by decide) rfl ?_
  intro p e s m args below meth c s₁ B hml hv
  obtain ⟨rfl, hsz, hP, hK, hD0⟩ := hv
  have hx := B.exec
  have hb := B.bytes
  have hr := B.returns
  have hts := atoms_spec (ws := v_X0_phiCount) B.pre
  have hown : s.vm.findClass RX0 = some m.cls := findClass_of_methodNamed B.named
  have hlocks := B.notSynchronized
  have ow : ∀ {k : Nat} {w : Cond}, o_X0_phiCount[k]? = some w → w.before ([.ref h0, .int (zI (b))] : List Value).toArray s = true := fun h => hts _ (mow_X0_phiCount _ (List.mem_of_getElem? h))
  subst hsz
  have hD := hD0.self (sz := s.heap.size)
  generalize hAe : va_A [(h0, .inr (0, [v_0, v_1, v_2, v_3, v_4, v_5, v_6, v_7, v_8, v_9, v_10, v_11, v_12, v_13, v_14, .ref q_715, v_16, v_17, v_18])), (q_715, .inl (cA_715, 301, .inl (fun j : Nat => zI (a_15 (j : Int)))))] s.heap.size = A at hD ⊢
  have hA : ∀ q : Nat, s.heap.size ≤ q → A q := fun q h => by rw [← hAe]; exact Or.inr h
  have hS : va_S A s.heap s.heap [] := va_S.rf
  have hP : va_P (dC, dI) vwP [(h0, .inr (0, [v_0, v_1, v_2, v_3, v_4, v_5, v_6, v_7, v_8, v_9, v_10, v_11, v_12, v_13, v_14, .ref q_715, v_16, v_17, v_18])), (q_715, .inl (cA_715, 301, .inl (fun j : Nat => zI (a_15 (j : Int)))))] s.heap := hP
  have hl := lv_entry ([.ref h0, .int (zI (b))]) (n := 2) (Nat.le_of_ble_eq_true rfl)
  rw [lg_entry_eq]
  generalize (lg_sl ([.ref h0, .int (zI (b))]) ++ List.replicate (2 - (lg_sl ([.ref h0, .int (zI (b))])).length) Slot.unset).toArray = ls at hl ⊢
  have hl : lv_has ls 2 [(0, .ref h0), (1, .int (zI (b)))] := hl
  obtain ⟨H, hH⟩ : ∃ H, H = s.heap := ⟨_, rfl⟩
  rw [← hH] at hP
  have hS : va_S A s.heap H [] := by rw [hH]; exact hS
  rw [← hH]
  refine zW_cap (fun Q hQ => ?_)
  refine lv_aload_n hx hb dX0_phiCount_0 rfl (lv_at hl 0 rfl) ?_
  refine va_get (D := (dC, dI)) (ci := 0) (v := .ref q_715) (C := RX0) (T := TX0) (N := 19) hx hb hts mem_X0_phiCount_0 hown hK hP 0 rfl rfl 15 (by decide) (ow (k := 0) rfl) (fun _ h9 => h9) rfl dX0_phiCount_1 ?_
  refine lv_iload_n hx hb dX0_phiCount_4 rfl (lv_at hl 1 rfl) ?_
  refine lv_iconst (v := 1) hx hb dX0_phiCount_5 (by decide) ?_
  refine lv_iadd hx hb dX0_phiCount_6 ?_
  refine lv_topi (fun z ez => ?_)
  obtain rfl : z = zI (b + 1) := ez.trans (zI_add (b) (1))
  refine va_iald hx hb hK hP 1 0 rfl rfl (zI_in (a := b + 1) (n := 301) (by omega) (by omega) (by decide)) dX0_phiCount_7 ?_
  refine lv_topi (fun z ez => ?_)
  obtain rfl : z = zI (a_15 (b + 1)) := ez.trans (zI_ld (a_15) (by omega) (by omega))
  have k1 := hR_a_15 (b + 1)
  refine lv_aload_n hx hb dX0_phiCount_8 rfl (lv_at hl 0 rfl) ?_
  refine va_get (D := (dC, dI)) (ci := 0) (v := .ref q_715) (C := RX0) (T := TX0) (N := 19) hx hb hts mem_X0_phiCount_0 hown hK hP 0 rfl rfl 15 (by decide) (ow (k := 0) rfl) (fun _ h9 => h9) rfl dX0_phiCount_9 ?_
  refine lv_iload_n hx hb dX0_phiCount_12 rfl (lv_at hl 1 rfl) ?_
  refine va_iald hx hb hK hP 1 0 rfl rfl (zI_in (a := b) (n := 301) (by omega) (by omega) (by decide)) dX0_phiCount_13 ?_
  refine lv_topi (fun z ez => ?_)
  obtain rfl : z = zI (a_15 (b)) := ez.trans (zI_ld (a_15) (by omega) (by omega))
  have k2 := hR_a_15 (b)
  refine lv_isub hx hb dX0_phiCount_14 ?_
  refine lv_topi (fun z ez => ?_)
  obtain rfl : z = zI ((a_15 (b + 1)) - (a_15 (b))) := ez.trans (zI_sub (a_15 (b + 1)) (a_15 (b)))
  subst hQ
  refine W.widen (k := 0) (n := 0) (Nat.le_of_ble_eq_true rfl) (Nat.le_of_ble_eq_true rfl) ?_
  exact W.iret (v := (zI ((a_15 (b + 1)) - (a_15 (b))))) hx hb hr (fun t ht hW => ⟨⟨(zI ((a_15 (b + 1)) - (a_15 (b)))), (), rfl, ⟨(a_15 (b + 1)) - (a_15 (b)), rfl, by omega⟩, by rw [ht]; exact hP, va_K.moved hW.alike hK, hD⟩, hS.F ht⟩) hS.2.2 dX0_phiCount_15
theorem dX0_predCount_0 : decode cX0_predCount 0 = .ok (.aload_n 0, 1) := by decide +kernel
theorem dX0_predCount_1 : decode cX0_predCount 1 = .ok (.getfield 53, 3) := by decide +kernel
theorem dX0_predCount_4 : decode cX0_predCount 4 = .ok (.iload_n 1, 1) := by decide +kernel
theorem dX0_predCount_5 : decode cX0_predCount 5 = .ok (.iconst 1, 1) := by decide +kernel
theorem dX0_predCount_6 : decode cX0_predCount 6 = .ok (.iadd, 1) := by decide +kernel
theorem dX0_predCount_7 : decode cX0_predCount 7 = .ok (.iaload, 1) := by decide +kernel
theorem dX0_predCount_8 : decode cX0_predCount 8 = .ok (.aload_n 0, 1) := by decide +kernel
theorem dX0_predCount_9 : decode cX0_predCount 9 = .ok (.getfield 53, 3) := by decide +kernel
theorem dX0_predCount_12 : decode cX0_predCount 12 = .ok (.iload_n 1, 1) := by decide +kernel
theorem dX0_predCount_13 : decode cX0_predCount 13 = .ok (.iaload, 1) := by decide +kernel
theorem dX0_predCount_14 : decode cX0_predCount 14 = .ok (.isub, 1) := by decide +kernel
theorem dX0_predCount_15 : decode cX0_predCount 15 = .ok (.ireturn, 1) := by decide +kernel
def o_X0_predCount : List Cond := [.fieldLink RX0 53 "SsaForge$Code" "predStart" "[I"]
def v_X0_predCount : List Cond := .code yX0_predCount cX0_predCount 2 (some .int) :: (o_X0_predCount ++ (wsX00 ++ []))
theorem mow_X0_predCount : ∀ w ∈ o_X0_predCount, w ∈ v_X0_predCount := fun _ h => List.mem_cons_of_mem _ (List.mem_append_left _ h)
theorem mem_X0_predCount_0 : ∀ w ∈ wsX00, w ∈ v_X0_predCount := fun _ h => List.mem_cons_of_mem _ (List.mem_append_right _ (List.mem_append_left _ h))
set_option maxRecDepth 20000 in
theorem gw_X0_predCount : v_X0_predCount.all goodWord = true := by decide +kernel
set_option maxHeartbeats 4000000 in
set_option maxRecDepth 100000 in
theorem c_X0_predCount (l : Launch) (dC : Nat → ClassId) (dI : Nat → Nat → Nat) (h0 : Nat) (v_0 : Value) (v_1 : Value) (v_2 : Value) (v_3 : Value) (v_4 : Value) (v_5 : Value) (v_6 : Value) (v_7 : Value) (v_8 : Value) (v_9 : Value) (v_10 : Value) (v_11 : Value) (v_12 : Value) (q_713 : Nat) (cA_713 : ClassId) (a_13 : Int → Int) (v_14 : Value) (v_15 : Value) (v_16 : Value) (v_17 : Value) (v_18 : Value) (b : Int) (hR_a_13 : ∀ j : Int, 0 ≤ a_13 j ∧ a_13 j ≤ 600) (hNb : 0 ≤ b ∧ b < 300) (sz : Nat) : Met l yX0_predCount v_X0_predCount ({ frames := 0, cells := 0, slots := 0, locals := 0 }) (va_Pc [.ref h0, .int (zI (b))] (fun U => U.heap.size = sz ∧ va_P (dC, dI) vwP [(h0, .inr (0, [v_0, v_1, v_2, v_3, v_4, v_5, v_6, v_7, v_8, v_9, v_10, v_11, v_12, .ref q_713, v_14, v_15, v_16, v_17, v_18])), (q_713, .inl (cA_713, 301, .inl (fun j : Nat => zI (a_13 (j : Int)))))] U.heap ∧ va_K (dC, dI) vwP [(cA_713, .int)] U ∧ va_D (fun _ => True) [(h0, .inr (0, [v_0, v_1, v_2, v_3, v_4, v_5, v_6, v_7, v_8, v_9, v_10, v_11, v_12, .ref q_713, v_14, v_15, v_16, v_17, v_18])), (q_713, .inl (cA_713, 301, .inl (fun j : Nat => zI (a_13 (j : Int)))))])) (va_Qi (fun (r : Int32) (_ : Unit) => ∃ z : Int, r = zI z ∧ (-600 ≤ z ∧ z ≤ 600)) (fun (_ : Unit) (t : State) => va_P (dC, dI) vwP [(h0, .inr (0, [v_0, v_1, v_2, v_3, v_4, v_5, v_6, v_7, v_8, v_9, v_10, v_11, v_12, .ref q_713, v_14, v_15, v_16, v_17, v_18])), (q_713, .inl (cA_713, 301, .inl (fun j : Nat => zI (a_13 (j : Int)))))] t.heap ∧ va_K (dC, dI) vwP [(cA_713, .int)] t ∧ va_D (va_A [(h0, .inr (0, [v_0, v_1, v_2, v_3, v_4, v_5, v_6, v_7, v_8, v_9, v_10, v_11, v_12, .ref q_713, v_14, v_15, v_16, v_17, v_18])), (q_713, .inl (cA_713, 301, .inl (fun j : Nat => zI (a_13 (j : Int)))))] sz) [(h0, .inr (0, [v_0, v_1, v_2, v_3, v_4, v_5, v_6, v_7, v_8, v_9, v_10, v_11, v_12, .ref q_713, v_14, v_15, v_16, v_17, v_18])), (q_713, .inl (cA_713, 301, .inl (fun j : Nat => zI (a_13 (j : Int)))))]) (va_A [(h0, .inr (0, [v_0, v_1, v_2, v_3, v_4, v_5, v_6, v_7, v_8, v_9, v_10, v_11, v_12, .ref q_713, v_14, v_15, v_16, v_17, v_18])), (q_713, .inl (cA_713, 301, .inl (fun j : Nat => zI (a_13 (j : Int)))))] sz)) 0 0 (va_A [(h0, .inr (0, [v_0, v_1, v_2, v_3, v_4, v_5, v_6, v_7, v_8, v_9, v_10, v_11, v_12, .ref q_713, v_14, v_15, v_16, v_17, v_18])), (q_713, .inl (cA_713, 301, .inl (fun j : Nat => zI (a_13 (j : Int)))))] sz) := by
  refine Met.ofW (cc := cX0_predCount) (maxL := 2) (ret := (some .int)) (by decide) rfl ?_
  intro p e s m args below meth c s₁ B hml hv
  obtain ⟨rfl, hsz, hP, hK, hD0⟩ := hv
  have hx := B.exec
  have hb := B.bytes
  have hr := B.returns
  have hts := atoms_spec (ws := v_X0_predCount) B.pre
  have hown : s.vm.findClass RX0 = some m.cls := findClass_of_methodNamed B.named
  have hlocks := B.notSynchronized
  have ow : ∀ {k : Nat} {w : Cond}, o_X0_predCount[k]? = some w → w.before ([.ref h0, .int (zI (b))] : List Value).toArray s = true := fun h => hts _ (mow_X0_predCount _ (List.mem_of_getElem? h))
  subst hsz
  have hD := hD0.self (sz := s.heap.size)
  generalize hAe : va_A [(h0, .inr (0, [v_0, v_1, v_2, v_3, v_4, v_5, v_6, v_7, v_8, v_9, v_10, v_11, v_12, .ref q_713, v_14, v_15, v_16, v_17, v_18])), (q_713, .inl (cA_713, 301, .inl (fun j : Nat => zI (a_13 (j : Int)))))] s.heap.size = A at hD ⊢
  have hA : ∀ q : Nat, s.heap.size ≤ q → A q := fun q h => by rw [← hAe]; exact Or.inr h
  have hS : va_S A s.heap s.heap [] := va_S.rf
  have hP : va_P (dC, dI) vwP [(h0, .inr (0, [v_0, v_1, v_2, v_3, v_4, v_5, v_6, v_7, v_8, v_9, v_10, v_11, v_12, .ref q_713, v_14, v_15, v_16, v_17, v_18])), (q_713, .inl (cA_713, 301, .inl (fun j : Nat => zI (a_13 (j : Int)))))] s.heap := hP
  have hl := lv_entry ([.ref h0, .int (zI (b))]) (n := 2) (Nat.le_of_ble_eq_true rfl)
  rw [lg_entry_eq]
  generalize (lg_sl ([.ref h0, .int (zI (b))]) ++ List.replicate (2 - (lg_sl ([.ref h0, .int (zI (b))])).length) Slot.unset).toArray = ls at hl ⊢
  have hl : lv_has ls 2 [(0, .ref h0), (1, .int (zI (b)))] := hl
  obtain ⟨H, hH⟩ : ∃ H, H = s.heap := ⟨_, rfl⟩
  rw [← hH] at hP
  have hS : va_S A s.heap H [] := by rw [hH]; exact hS
  rw [← hH]
  refine zW_cap (fun Q hQ => ?_)
  refine lv_aload_n hx hb dX0_predCount_0 rfl (lv_at hl 0 rfl) ?_
  refine va_get (D := (dC, dI)) (ci := 0) (v := .ref q_713) (C := RX0) (T := TX0) (N := 19) hx hb hts mem_X0_predCount_0 hown hK hP 0 rfl rfl 13 (by decide) (ow (k := 0) rfl) (fun _ h9 => h9) rfl dX0_predCount_1 ?_
  refine lv_iload_n hx hb dX0_predCount_4 rfl (lv_at hl 1 rfl) ?_
  refine lv_iconst (v := 1) hx hb dX0_predCount_5 (by decide) ?_
  refine lv_iadd hx hb dX0_predCount_6 ?_
  refine lv_topi (fun z ez => ?_)
  obtain rfl : z = zI (b + 1) := ez.trans (zI_add (b) (1))
  refine va_iald hx hb hK hP 1 0 rfl rfl (zI_in (a := b + 1) (n := 301) (by omega) (by omega) (by decide)) dX0_predCount_7 ?_
  refine lv_topi (fun z ez => ?_)
  obtain rfl : z = zI (a_13 (b + 1)) := ez.trans (zI_ld (a_13) (by omega) (by omega))
  have k1 := hR_a_13 (b + 1)
  refine lv_aload_n hx hb dX0_predCount_8 rfl (lv_at hl 0 rfl) ?_
  refine va_get (D := (dC, dI)) (ci := 0) (v := .ref q_713) (C := RX0) (T := TX0) (N := 19) hx hb hts mem_X0_predCount_0 hown hK hP 0 rfl rfl 13 (by decide) (ow (k := 0) rfl) (fun _ h9 => h9) rfl dX0_predCount_9 ?_
  refine lv_iload_n hx hb dX0_predCount_12 rfl (lv_at hl 1 rfl) ?_
  refine va_iald hx hb hK hP 1 0 rfl rfl (zI_in (a := b) (n := 301) (by omega) (by omega) (by decide)) dX0_predCount_13 ?_
  refine lv_topi (fun z ez => ?_)
  obtain rfl : z = zI (a_13 (b)) := ez.trans (zI_ld (a_13) (by omega) (by omega))
  have k2 := hR_a_13 (b)
  refine lv_isub hx hb dX0_predCount_14 ?_
  refine lv_topi (fun z ez => ?_)
  obtain rfl : z = zI ((a_13 (b + 1)) - (a_13 (b))) := ez.trans (zI_sub (a_13 (b + 1)) (a_13 (b)))
  subst hQ
  refine W.widen (k := 0) (n := 0) (Nat.le_of_ble_eq_true rfl) (Nat.le_of_ble_eq_true rfl) ?_
  exact W.iret (v := (zI ((a_13 (b + 1)) - (a_13 (b))))) hx hb hr (fun t ht hW => ⟨⟨(zI ((a_13 (b + 1)) - (a_13 (b)))), (), rfl, ⟨(a_13 (b + 1)) - (a_13 (b)), rfl, by omega⟩, by rw [ht]; exact hP, va_K.moved hW.alike hK, hD⟩, hS.F ht⟩) hS.2.2 dX0_predCount_15
theorem dX0_predIndex_0 : decode cX0_predIndex 0 = .ok (.aload_n 0, 1) := by decide +kernel
theorem dX0_predIndex_1 : decode cX0_predIndex 1 = .ok (.getfield 53, 3) := by decide +kernel
theorem dX0_predIndex_4 : decode cX0_predIndex 4 = .ok (.iload_n 1, 1) := by decide +kernel
theorem dX0_predIndex_5 : decode cX0_predIndex 5 = .ok (.iaload, 1) := by decide +kernel
theorem dX0_predIndex_6 : decode cX0_predIndex 6 = .ok (.istore_n 3, 1) := by decide +kernel
theorem dX0_predIndex_7 : decode cX0_predIndex 7 = .ok (.iload_n 3, 1) := by decide +kernel
theorem dX0_predIndex_8 : decode cX0_predIndex 8 = .ok (.aload_n 0, 1) := by decide +kernel
theorem dX0_predIndex_9 : decode cX0_predIndex 9 = .ok (.getfield 53, 3) := by decide +kernel
theorem dX0_predIndex_12 : decode cX0_predIndex 12 = .ok (.iload_n 1, 1) := by decide +kernel
theorem dX0_predIndex_13 : decode cX0_predIndex 13 = .ok (.iconst 1, 1) := by decide +kernel
theorem dX0_predIndex_14 : decode cX0_predIndex 14 = .ok (.iadd, 1) := by decide +kernel
theorem dX0_predIndex_15 : decode cX0_predIndex 15 = .ok (.iaload, 1) := by decide +kernel
theorem dX0_predIndex_16 : decode cX0_predIndex 16 = .ok (.if_icmp .ge 28, 3) := by decide +kernel
theorem dX0_predIndex_44 : decode cX0_predIndex 44 = .ok (.iconst (-1), 1) := by decide +kernel
theorem dX0_predIndex_45 : decode cX0_predIndex 45 = .ok (.ireturn, 1) := by decide +kernel
theorem dX0_predIndex_19 : decode cX0_predIndex 19 = .ok (.aload_n 0, 1) := by decide +kernel
theorem dX0_predIndex_20 : decode cX0_predIndex 20 = .ok (.getfield 56, 3) := by decide +kernel
theorem dX0_predIndex_23 : decode cX0_predIndex 23 = .ok (.iload_n 3, 1) := by decide +kernel
theorem dX0_predIndex_24 : decode cX0_predIndex 24 = .ok (.iaload, 1) := by decide +kernel
theorem dX0_predIndex_25 : decode cX0_predIndex 25 = .ok (.iload_n 2, 1) := by decide +kernel
theorem dX0_predIndex_26 : decode cX0_predIndex 26 = .ok (.if_icmp .ne 12, 3) := by decide +kernel
theorem dX0_predIndex_38 : decode cX0_predIndex 38 = .ok (.iinc 3 1, 3) := by decide +kernel
theorem dX0_predIndex_41 : decode cX0_predIndex 41 = .ok (.goto (-34), 3) := by decide +kernel
theorem dX0_predIndex_29 : decode cX0_predIndex 29 = .ok (.iload_n 3, 1) := by decide +kernel
theorem dX0_predIndex_30 : decode cX0_predIndex 30 = .ok (.aload_n 0, 1) := by decide +kernel
theorem dX0_predIndex_31 : decode cX0_predIndex 31 = .ok (.getfield 53, 3) := by decide +kernel
theorem dX0_predIndex_34 : decode cX0_predIndex 34 = .ok (.iload_n 1, 1) := by decide +kernel
theorem dX0_predIndex_35 : decode cX0_predIndex 35 = .ok (.iaload, 1) := by decide +kernel
theorem dX0_predIndex_36 : decode cX0_predIndex 36 = .ok (.isub, 1) := by decide +kernel
theorem dX0_predIndex_37 : decode cX0_predIndex 37 = .ok (.ireturn, 1) := by decide +kernel
def o_X0_predIndex : List Cond := [.fieldLink RX0 53 "SsaForge$Code" "predStart" "[I", .fieldLink RX0 56 "SsaForge$Code" "preds" "[I"]
def v_X0_predIndex : List Cond := .code yX0_predIndex cX0_predIndex 4 (some .int) :: (o_X0_predIndex ++ (wsX00 ++ []))
theorem mow_X0_predIndex : ∀ w ∈ o_X0_predIndex, w ∈ v_X0_predIndex := fun _ h => List.mem_cons_of_mem _ (List.mem_append_left _ h)
theorem mem_X0_predIndex_0 : ∀ w ∈ wsX00, w ∈ v_X0_predIndex := fun _ h => List.mem_cons_of_mem _ (List.mem_append_right _ (List.mem_append_left _ h))
set_option maxRecDepth 20000 in
theorem gw_X0_predIndex : v_X0_predIndex.all goodWord = true := by decide +kernel
set_option maxHeartbeats 4000000 in
set_option maxRecDepth 100000 in
theorem c_X0_predIndex (l : Launch) (dC : Nat → ClassId) (dI : Nat → Nat → Nat) (h0 : Nat) (v_0 : Value) (v_1 : Value) (v_2 : Value) (v_3 : Value) (v_4 : Value) (v_5 : Value) (v_6 : Value) (v_7 : Value) (v_8 : Value) (v_9 : Value) (v_10 : Value) (v_11 : Value) (v_12 : Value) (q_713 : Nat) (cA_713 : ClassId) (a_13 : Int → Int) (q_714 : Nat) (cA_714 : ClassId) (a_14 : Int → Int) (v_15 : Value) (v_16 : Value) (v_17 : Value) (v_18 : Value) (b : Int) (p0 : Int32) (hR_a_13 : ∀ j : Int, 0 ≤ a_13 j ∧ a_13 j ≤ 600) (hR_a_14 : ∀ j : Int, 0 ≤ a_14 j ∧ a_14 j ≤ 299) (hNb : 0 ≤ b ∧ b < 300) (sz : Nat) : Met l yX0_predIndex v_X0_predIndex ({ frames := 0, cells := 0, slots := 0, locals := 0 }) (va_Pc [.ref h0, .int (zI (b)), .int p0] (fun U => U.heap.size = sz ∧ va_P (dC, dI) vwP [(h0, .inr (0, [v_0, v_1, v_2, v_3, v_4, v_5, v_6, v_7, v_8, v_9, v_10, v_11, v_12, .ref q_713, .ref q_714, v_15, v_16, v_17, v_18])), (q_713, .inl (cA_713, 301, .inl (fun j : Nat => zI (a_13 (j : Int))))), (q_714, .inl (cA_714, 600, .inl (fun j : Nat => zI (a_14 (j : Int)))))] U.heap ∧ va_K (dC, dI) vwP [(cA_713, .int), (cA_714, .int)] U ∧ va_D (fun _ => True) [(h0, .inr (0, [v_0, v_1, v_2, v_3, v_4, v_5, v_6, v_7, v_8, v_9, v_10, v_11, v_12, .ref q_713, .ref q_714, v_15, v_16, v_17, v_18])), (q_713, .inl (cA_713, 301, .inl (fun j : Nat => zI (a_13 (j : Int))))), (q_714, .inl (cA_714, 600, .inl (fun j : Nat => zI (a_14 (j : Int)))))])) (va_Qi (fun (r : Int32) (_ : Unit) => ∃ z : Int, r = zI z ∧ (-1 ≤ z ∧ z ≤ 600)) (fun (_ : Unit) (t : State) => va_P (dC, dI) vwP [(h0, .inr (0, [v_0, v_1, v_2, v_3, v_4, v_5, v_6, v_7, v_8, v_9, v_10, v_11, v_12, .ref q_713, .ref q_714, v_15, v_16, v_17, v_18])), (q_713, .inl (cA_713, 301, .inl (fun j : Nat => zI (a_13 (j : Int))))), (q_714, .inl (cA_714, 600, .inl (fun j : Nat => zI (a_14 (j : Int)))))] t.heap ∧ va_K (dC, dI) vwP [(cA_713, .int), (cA_714, .int)] t ∧ va_D (va_A [(h0, .inr (0, [v_0, v_1, v_2, v_3, v_4, v_5, v_6, v_7, v_8, v_9, v_10, v_11, v_12, .ref q_713, .ref q_714, v_15, v_16, v_17, v_18])), (q_713, .inl (cA_713, 301, .inl (fun j : Nat => zI (a_13 (j : Int))))), (q_714, .inl (cA_714, 600, .inl (fun j : Nat => zI (a_14 (j : Int)))))] sz) [(h0, .inr (0, [v_0, v_1, v_2, v_3, v_4, v_5, v_6, v_7, v_8, v_9, v_10, v_11, v_12, .ref q_713, .ref q_714, v_15, v_16, v_17, v_18])), (q_713, .inl (cA_713, 301, .inl (fun j : Nat => zI (a_13 (j : Int))))), (q_714, .inl (cA_714, 600, .inl (fun j : Nat => zI (a_14 (j : Int)))))]) (va_A [(h0, .inr (0, [v_0, v_1, v_2, v_3, v_4, v_5, v_6, v_7, v_8, v_9, v_10, v_11, v_12, .ref q_713, .ref q_714, v_15, v_16, v_17, v_18])), (q_713, .inl (cA_713, 301, .inl (fun j : Nat => zI (a_13 (j : Int))))), (q_714, .inl (cA_714, 600, .inl (fun j : Nat => zI (a_14 (j : Int)))))] sz)) 0 0 (va_A [(h0, .inr (0, [v_0, v_1, v_2, v_3, v_4, v_5, v_6, v_7, v_8, v_9, v_10, v_11, v_12, .ref q_713, .ref q_714, v_15, v_16, v_17, v_18])), (q_713, .inl (cA_713, 301, .inl (fun j : Nat => zI (a_13 (j : Int))))), (q_714, .inl (cA_714, 600, .inl (fun j : Nat => zI (a_14 (j : Int)))))] sz) := by
  refine Met.ofW (cc := cX0_predIndex) (maxL := 4) (ret := (some .int)) (by decide) rfl ?_
  intro p e s m args below meth c s₁ B hml hv
  obtain ⟨rfl, hsz, hP, hK, hD0⟩ := hv
  have hx := B.exec
  have hb := B.bytes
  have hr := B.returns
  have hts := atoms_spec (ws := v_X0_predIndex) B.pre
  have hown : s.vm.findClass RX0 = some m.cls := findClass_of_methodNamed B.named
  have hlocks := B.notSynchronized
  have ow : ∀ {k : Nat} {w : Cond}, o_X0_predIndex[k]? = some w → w.before ([.ref h0, .int (zI (b)), .int p0] : List Value).toArray s = true := fun h => hts _ (mow_X0_predIndex _ (List.mem_of_getElem? h))
  subst hsz
  have hD := hD0.self (sz := s.heap.size)
  generalize hAe : va_A [(h0, .inr (0, [v_0, v_1, v_2, v_3, v_4, v_5, v_6, v_7, v_8, v_9, v_10, v_11, v_12, .ref q_713, .ref q_714, v_15, v_16, v_17, v_18])), (q_713, .inl (cA_713, 301, .inl (fun j : Nat => zI (a_13 (j : Int))))), (q_714, .inl (cA_714, 600, .inl (fun j : Nat => zI (a_14 (j : Int)))))] s.heap.size = A at hD ⊢
  have hA : ∀ q : Nat, s.heap.size ≤ q → A q := fun q h => by rw [← hAe]; exact Or.inr h
  have hS : va_S A s.heap s.heap [] := va_S.rf
  have hP : va_P (dC, dI) vwP [(h0, .inr (0, [v_0, v_1, v_2, v_3, v_4, v_5, v_6, v_7, v_8, v_9, v_10, v_11, v_12, .ref q_713, .ref q_714, v_15, v_16, v_17, v_18])), (q_713, .inl (cA_713, 301, .inl (fun j : Nat => zI (a_13 (j : Int))))), (q_714, .inl (cA_714, 600, .inl (fun j : Nat => zI (a_14 (j : Int)))))] s.heap := hP
  have hl := lv_entry ([.ref h0, .int (zI (b)), .int p0]) (n := 4) (Nat.le_of_ble_eq_true rfl)
  rw [lg_entry_eq]
  generalize (lg_sl ([.ref h0, .int (zI (b)), .int p0]) ++ List.replicate (4 - (lg_sl ([.ref h0, .int (zI (b)), .int p0])).length) Slot.unset).toArray = ls at hl ⊢
  have hl : lv_has ls 4 [(0, .ref h0), (1, .int (zI (b))), (2, .int p0)] := hl
  obtain ⟨H, hH⟩ : ∃ H, H = s.heap := ⟨_, rfl⟩
  rw [← hH] at hP
  have hS : va_S A s.heap H [] := by rw [hH]; exact hS
  rw [← hH]
  refine zW_cap (fun Q hQ => ?_)
  refine lv_aload_n hx hb dX0_predIndex_0 rfl (lv_at hl 0 rfl) ?_
  refine va_get (D := (dC, dI)) (ci := 0) (v := .ref q_713) (C := RX0) (T := TX0) (N := 19) hx hb hts mem_X0_predIndex_0 hown hK hP 0 rfl rfl 13 (by decide) (ow (k := 0) rfl) (fun _ h9 => h9) rfl dX0_predIndex_1 ?_
  refine lv_iload_n hx hb dX0_predIndex_4 rfl (lv_at hl 1 rfl) ?_
  refine va_iald hx hb hK hP 1 0 rfl rfl (zI_in (a := b) (n := 301) (by omega) (by omega) (by decide)) dX0_predIndex_5 ?_
  refine lv_topi (fun z ez => ?_)
  obtain rfl : z = zI (a_13 (b)) := ez.trans (zI_ld (a_13) (by omega) (by omega))
  have k1 := hR_a_13 (b)
  refine lv_istore_n (lv' := [(3, .int (zI (a_13 (b)))), (0, .ref h0), (1, .int (zI (b))), (2, .int p0)]) hx hb dX0_predIndex_6 rfl hl (by decide) rfl (fun ls hl => ?_)
  have key7 : ∀ n7 : Nat, ∀ (d7_3 : Int) (ls : Array Slot) (H : Heap) (locs : List Loc), (a_13 (b) ≤ d7_3 ∧ d7_3 ≤ 1000000000) → (((a_13 (b + 1)) - (d7_3) : Int).toNat) < n7 → lv_has ls 4 [(0, .ref h0), (1, .int (zI (b))), (2, .int p0), (3, .int (zI (d7_3)))] → va_P (dC, dI) vwP [(h0, .inr (0, [v_0, v_1, v_2, v_3, v_4, v_5, v_6, v_7, v_8, v_9, v_10, v_11, v_12, .ref q_713, .ref q_714, v_15, v_16, v_17, v_18])), (q_713, .inl (cA_713, 301, .inl (fun j : Nat => zI (a_13 (j : Int))))), (q_714, .inl (cA_714, 600, .inl (fun j : Nat => zI (a_14 (j : Int)))))] H → va_D A [(h0, .inr (0, [v_0, v_1, v_2, v_3, v_4, v_5, v_6, v_7, v_8, v_9, v_10, v_11, v_12, .ref q_713, .ref q_714, v_15, v_16, v_17, v_18])), (q_713, .inl (cA_713, 301, .inl (fun j : Nat => zI (a_13 (j : Int))))), (q_714, .inl (cA_714, 600, .inl (fun j : Nat => zI (a_14 (j : Int)))))] → va_S A s.heap H locs → W p l e (headSpec v_X0_predIndex ({ frames := 0, cells := 0, slots := 0, locals := 0 })).room s m ([.ref h0, .int (zI (b)), .int p0] : List Value).toArray below meth c H locs 0 0 Q (F0 m 7 ls []) := by
    intro n7
    induction n7 with
    | zero => intro d7_3 ls H locs jd7_3 hm7; exact absurd hm7 (by omega)
    | succ n7 ih7 =>
      intro d7_3 ls H locs jd7_3 hm7 hl hP hD hS
      refine lv_iload_n hx hb dX0_predIndex_7 rfl (lv_at hl 3 rfl) ?_
      refine lv_aload_n hx hb dX0_predIndex_8 rfl (lv_at hl 0 rfl) ?_
      refine va_get (D := (dC, dI)) (ci := 0) (v := .ref q_713) (C := RX0) (T := TX0) (N := 19) hx hb hts mem_X0_predIndex_0 hown hK hP 0 rfl rfl 13 (by decide) (ow (k := 0) rfl) (fun _ h9 => h9) rfl dX0_predIndex_9 ?_
      refine lv_iload_n hx hb dX0_predIndex_12 rfl (lv_at hl 1 rfl) ?_
      refine lv_iconst (v := 1) hx hb dX0_predIndex_13 (by decide) ?_
      refine lv_iadd hx hb dX0_predIndex_14 ?_
      refine lv_topi (fun z ez => ?_)
      obtain rfl : z = zI (b + 1) := ez.trans (zI_add (b) (1))
      refine va_iald hx hb hK hP 1 0 rfl rfl (zI_in (a := b + 1) (n := 301) (by omega) (by omega) (by decide)) dX0_predIndex_15 ?_
      refine lv_topi (fun z ez => ?_)
      obtain rfl : z = zI (a_13 (b + 1)) := ez.trans (zI_ld (a_13) (by omega) (by omega))
      have k2 := hR_a_13 (b + 1)
      refine lv_icmp_ge (tgt := 44) hx hb dX0_predIndex_16 (by decide) (fun b16 => ?_) (fun b16 => ?_)
      · have yb16 : (a_13 (b + 1) : Int) ≤ (d7_3 : Int) := (zI_le (a := a_13 (b + 1)) (b := d7_3) (by omega) (by omega) (by omega) (by omega)).mp b16
        refine lv_iconst (v := (-1)) hx hb dX0_predIndex_44 (by decide) ?_
        subst hQ
        refine W.widen (k := 0) (n := 0) (Nat.le_of_ble_eq_true rfl) (Nat.le_of_ble_eq_true rfl) ?_
        exact W.iret (v := (-1)) hx hb hr (fun t ht hW => ⟨⟨(-1), (), rfl, ⟨-1, rfl, by omega⟩, by rw [ht]; exact hP, va_K.moved hW.alike hK, hD⟩, hS.F ht⟩) hS.2.2 dX0_predIndex_45
      · have yb16 : ¬ (a_13 (b + 1) : Int) ≤ (d7_3 : Int) := fun q => b16 ((zI_le (a := a_13 (b + 1)) (b := d7_3) (by omega) (by omega) (by omega) (by omega)).mpr q)
        refine lv_aload_n hx hb dX0_predIndex_19 rfl (lv_at hl 0 rfl) ?_
        refine va_get (D := (dC, dI)) (ci := 0) (v := .ref q_714) (C := RX0) (T := TX0) (N := 19) hx hb hts mem_X0_predIndex_0 hown hK hP 0 rfl rfl 14 (by decide) (ow (k := 1) rfl) (fun _ h9 => h9) rfl dX0_predIndex_20 ?_
        refine lv_iload_n hx hb dX0_predIndex_23 rfl (lv_at hl 3 rfl) ?_
        refine va_iald hx hb hK hP 2 1 rfl rfl (zI_in (a := d7_3) (n := 600) (by omega) (by omega) (by decide)) dX0_predIndex_24 ?_
        refine lv_topi (fun z ez => ?_)
        obtain rfl : z = zI (a_14 (d7_3)) := ez.trans (zI_ld (a_14) (by omega) (by omega))
        have k3 := hR_a_14 (d7_3)
        refine lv_iload_n hx hb dX0_predIndex_25 rfl (lv_at hl 2 rfl) ?_
        refine lv_icmp_ne (tgt := 38) hx hb dX0_predIndex_26 (by decide) (fun b26 => ?_) (fun b26 => ?_)
        · refine lv_iinc (v := zI (d7_3 + 1)) (lv' := [(3, .int (zI (d7_3 + 1))), (0, .ref h0), (1, .int (zI (b))), (2, .int p0)]) hx hb dX0_predIndex_38 hl (k := 3) rfl (zI_add (d7_3) (1)) (by decide) rfl (fun ls hl => ?_)
          refine lv_goto (tgt := 7) hx hb dX0_predIndex_41 (by decide) ?_
          exact ih7 (d7_3 + 1) ls H _ (by omega) (by omega) (lv_sub hl [1, 2, 3, 0] rfl) hP hD hS
        · refine lv_iload_n hx hb dX0_predIndex_29 rfl (lv_at hl 3 rfl) ?_
          refine lv_aload_n hx hb dX0_predIndex_30 rfl (lv_at hl 0 rfl) ?_
          refine va_get (D := (dC, dI)) (ci := 0) (v := .ref q_713) (C := RX0) (T := TX0) (N := 19) hx hb hts mem_X0_predIndex_0 hown hK hP 0 rfl rfl 13 (by decide) (ow (k := 0) rfl) (fun _ h9 => h9) rfl dX0_predIndex_31 ?_
          refine lv_iload_n hx hb dX0_predIndex_34 rfl (lv_at hl 1 rfl) ?_
          refine va_iald hx hb hK hP 1 0 rfl rfl (zI_in (a := b) (n := 301) (by omega) (by omega) (by decide)) dX0_predIndex_35 ?_
          refine lv_topi (fun z ez => ?_)
          obtain rfl : z = zI (a_13 (b)) := ez.trans (zI_ld (a_13) (by omega) (by omega))
          have k4 := hR_a_13 (b)
          refine lv_isub hx hb dX0_predIndex_36 ?_
          refine lv_topi (fun z ez => ?_)
          obtain rfl : z = zI (d7_3 - (a_13 (b))) := ez.trans (zI_sub (d7_3) (a_13 (b)))
          subst hQ
          refine W.widen (k := 0) (n := 0) (Nat.le_of_ble_eq_true rfl) (Nat.le_of_ble_eq_true rfl) ?_
          exact W.iret (v := (zI (d7_3 - (a_13 (b))))) hx hb hr (fun t ht hW => ⟨⟨(zI (d7_3 - (a_13 (b)))), (), rfl, ⟨d7_3 - (a_13 (b)), rfl, by omega⟩, by rw [ht]; exact hP, va_K.moved hW.alike hK, hD⟩, hS.F ht⟩) hS.2.2 dX0_predIndex_37
  exact key7 (((a_13 (b + 1)) - (a_13 (b)) : Int).toNat + 1) (a_13 (b)) ls H _ (by omega) (by omega) (lv_sub hl [1, 2, 3, 0] rfl) hP hD hS
theorem dX0_putRow_0 : decode cX0_putRow 0 = .ok (.aload_n 0, 1) := by decide +kernel
theorem dX0_putRow_1 : decode cX0_putRow 1 = .ok (.getfield 28, 3) := by decide +kernel
theorem dX0_putRow_4 : decode cX0_putRow 4 = .ok (.iload_n 1, 1) := by decide +kernel
theorem dX0_putRow_5 : decode cX0_putRow 5 = .ok (.iload_n 2, 1) := by decide +kernel
theorem dX0_putRow_6 : decode cX0_putRow 6 = .ok (.iastore, 1) := by decide +kernel
theorem dX0_putRow_7 : decode cX0_putRow 7 = .ok (.aload_n 0, 1) := by decide +kernel
theorem dX0_putRow_8 : decode cX0_putRow 8 = .ok (.getfield 31, 3) := by decide +kernel
theorem dX0_putRow_11 : decode cX0_putRow 11 = .ok (.iload_n 1, 1) := by decide +kernel
theorem dX0_putRow_12 : decode cX0_putRow 12 = .ok (.iload_n 3, 1) := by decide +kernel
theorem dX0_putRow_13 : decode cX0_putRow 13 = .ok (.iastore, 1) := by decide +kernel
theorem dX0_putRow_14 : decode cX0_putRow 14 = .ok (.aload_n 0, 1) := by decide +kernel
theorem dX0_putRow_15 : decode cX0_putRow 15 = .ok (.getfield 34, 3) := by decide +kernel
theorem dX0_putRow_18 : decode cX0_putRow 18 = .ok (.iload_n 1, 1) := by decide +kernel
theorem dX0_putRow_19 : decode cX0_putRow 19 = .ok (.lload 4, 2) := by decide +kernel
theorem dX0_putRow_21 : decode cX0_putRow 21 = .ok (.lastore, 1) := by decide +kernel
theorem dX0_putRow_22 : decode cX0_putRow 22 = .ok (.aload_n 0, 1) := by decide +kernel
theorem dX0_putRow_23 : decode cX0_putRow 23 = .ok (.getfield 38, 3) := by decide +kernel
theorem dX0_putRow_26 : decode cX0_putRow 26 = .ok (.iload_n 1, 1) := by decide +kernel
theorem dX0_putRow_27 : decode cX0_putRow 27 = .ok (.lload 6, 2) := by decide +kernel
theorem dX0_putRow_29 : decode cX0_putRow 29 = .ok (.lastore, 1) := by decide +kernel
theorem dX0_putRow_30 : decode cX0_putRow 30 = .ok (.return_, 1) := by decide +kernel
def o_X0_putRow : List Cond := [.fieldLink RX0 28 "SsaForge$Code" "op" "[I", .fieldLink RX0 31 "SsaForge$Code" "target" "[I", .fieldLink RX0 34 "SsaForge$Code" "left" "[J", .fieldLink RX0 38 "SsaForge$Code" "right" "[J"]
def v_X0_putRow : List Cond := .code yX0_putRow cX0_putRow 8 none :: (o_X0_putRow ++ (wsX00 ++ []))
theorem mow_X0_putRow : ∀ w ∈ o_X0_putRow, w ∈ v_X0_putRow := fun _ h => List.mem_cons_of_mem _ (List.mem_append_left _ h)
theorem mem_X0_putRow_0 : ∀ w ∈ wsX00, w ∈ v_X0_putRow := fun _ h => List.mem_cons_of_mem _ (List.mem_append_right _ (List.mem_append_left _ h))
set_option maxRecDepth 20000 in
theorem gw_X0_putRow : v_X0_putRow.all goodWord = true := by decide +kernel
set_option maxHeartbeats 4000000 in
set_option maxRecDepth 100000 in
theorem c_X0_putRow (l : Launch) (dC : Nat → ClassId) (dI : Nat → Nat → Nat) (h0 : Nat) (v_0 : Value) (v_1 : Value) (v_2 : Value) (v_3 : Value) (v_4 : Value) (q_705 : Nat) (cA_705 : ClassId) (a_5 : Int → Int) (q_706 : Nat) (cA_706 : ClassId) (a_6 : Int → Int) (q_707 : Nat) (cA_707 : ClassId) (a_7 : Int → Int) (q_708 : Nat) (cA_708 : ClassId) (a_8 : Int → Int) (v_9 : Value) (v_10 : Value) (v_11 : Value) (v_12 : Value) (v_13 : Value) (v_14 : Value) (v_15 : Value) (v_16 : Value) (v_17 : Value) (v_18 : Value) (i : Int) (set : Int) (x1 : Int) (x2 : Int) (ro : Int) (hR_a_5 : ∀ j : Int, -1 ≤ a_5 j ∧ a_5 j ≤ 100) (hR_a_6 : ∀ j : Int, -1 ≤ a_6 j ∧ a_6 j ≤ 1023) (hR_a_7 : ∀ j : Int, ((-2147483648 ≤ a_7 j ∧ a_7 j ≤ 4294968319) ∨ a_7 j = 1099511627776)) (hR_a_8 : ∀ j : Int, ((-2147483648 ≤ a_8 j ∧ a_8 j ≤ 4294968319) ∨ a_8 j = 1099511627776)) (hNi : 0 ≤ i ∧ i < 2000) (hNset : -1 ≤ set ∧ set ≤ 1023) (hNx1 : ((-2147483648 ≤ x1 ∧ x1 ≤ 4294968319) ∨ x1 = 1099511627776)) (hNx2 : ((-2147483648 ≤ x2 ∧ x2 ≤ 4294968319) ∨ x2 = 1099511627776)) (hNro : -1 ≤ ro ∧ ro ≤ 100) (sz : Nat) : Met l yX0_putRow v_X0_putRow ({ frames := 0, cells := 0, slots := 0, locals := 0 }) (va_Pc [.ref h0, .int (zI (i)), .int (zI (ro)), .int (zI (set)), .long (lI (x1)), .long (lI (x2))] (fun U => U.heap.size = sz ∧ va_P (dC, dI) vwP [(h0, .inr (0, [v_0, v_1, v_2, v_3, v_4, .ref q_705, .ref q_706, .ref q_707, .ref q_708, v_9, v_10, v_11, v_12, v_13, v_14, v_15, v_16, v_17, v_18])), (q_705, .inl (cA_705, 2000, .inl (fun j : Nat => zI (a_5 (j : Int))))), (q_706, .inl (cA_706, 2000, .inl (fun j : Nat => zI (a_6 (j : Int))))), (q_707, .inl (cA_707, 2000, .inr (.inl (fun j : Nat => lI (a_7 (j : Int)))))), (q_708, .inl (cA_708, 2000, .inr (.inl (fun j : Nat => lI (a_8 (j : Int))))))] U.heap ∧ va_K (dC, dI) vwP [(cA_705, .int), (cA_706, .int), (cA_707, .long), (cA_708, .long)] U ∧ va_D (fun _ => True) [(h0, .inr (0, [v_0, v_1, v_2, v_3, v_4, .ref q_705, .ref q_706, .ref q_707, .ref q_708, v_9, v_10, v_11, v_12, v_13, v_14, v_15, v_16, v_17, v_18])), (q_705, .inl (cA_705, 2000, .inl (fun j : Nat => zI (a_5 (j : Int))))), (q_706, .inl (cA_706, 2000, .inl (fun j : Nat => zI (a_6 (j : Int))))), (q_707, .inl (cA_707, 2000, .inr (.inl (fun j : Nat => lI (a_7 (j : Int)))))), (q_708, .inl (cA_708, 2000, .inr (.inl (fun j : Nat => lI (a_8 (j : Int))))))])) (va_Qv (fun _ : Unit => True) (fun (_ : Unit) (t : State) => ∃ (a0_9 : Int → Int) (a1_9 : Int → Int) (a2_9 : Int → Int) (a3_9 : Int → Int), ((∀ j : Int, -1 ≤ a0_9 j ∧ a0_9 j ≤ 100) ∧ (∀ j : Int, -1 ≤ a1_9 j ∧ a1_9 j ≤ 1023) ∧ (∀ j : Int, ((-2147483648 ≤ a2_9 j ∧ a2_9 j ≤ 4294968319) ∨ a2_9 j = 1099511627776)) ∧ (∀ j : Int, ((-2147483648 ≤ a3_9 j ∧ a3_9 j ≤ 4294968319) ∨ a3_9 j = 1099511627776))) ∧ va_P (dC, dI) vwP [(h0, .inr (0, [v_0, v_1, v_2, v_3, v_4, .ref q_705, .ref q_706, .ref q_707, .ref q_708, v_9, v_10, v_11, v_12, v_13, v_14, v_15, v_16, v_17, v_18])), (q_705, .inl (cA_705, 2000, .inl (fun j : Nat => zI (a0_9 (j : Int))))), (q_706, .inl (cA_706, 2000, .inl (fun j : Nat => zI (a1_9 (j : Int))))), (q_707, .inl (cA_707, 2000, .inr (.inl (fun j : Nat => lI (a2_9 (j : Int)))))), (q_708, .inl (cA_708, 2000, .inr (.inl (fun j : Nat => lI (a3_9 (j : Int))))))] t.heap ∧ va_K (dC, dI) vwP [(cA_705, .int), (cA_706, .int), (cA_707, .long), (cA_708, .long)] t ∧ va_D (va_A [(h0, .inr (0, [v_0, v_1, v_2, v_3, v_4, .ref q_705, .ref q_706, .ref q_707, .ref q_708, v_9, v_10, v_11, v_12, v_13, v_14, v_15, v_16, v_17, v_18])), (q_705, .inl (cA_705, 2000, .inl (fun j : Nat => zI (a_5 (j : Int))))), (q_706, .inl (cA_706, 2000, .inl (fun j : Nat => zI (a_6 (j : Int))))), (q_707, .inl (cA_707, 2000, .inr (.inl (fun j : Nat => lI (a_7 (j : Int)))))), (q_708, .inl (cA_708, 2000, .inr (.inl (fun j : Nat => lI (a_8 (j : Int))))))] sz) [(h0, .inr (0, [v_0, v_1, v_2, v_3, v_4, .ref q_705, .ref q_706, .ref q_707, .ref q_708, v_9, v_10, v_11, v_12, v_13, v_14, v_15, v_16, v_17, v_18])), (q_705, .inl (cA_705, 2000, .inl (fun j : Nat => zI (a0_9 (j : Int))))), (q_706, .inl (cA_706, 2000, .inl (fun j : Nat => zI (a1_9 (j : Int))))), (q_707, .inl (cA_707, 2000, .inr (.inl (fun j : Nat => lI (a2_9 (j : Int)))))), (q_708, .inl (cA_708, 2000, .inr (.inl (fun j : Nat => lI (a3_9 (j : Int))))))]) (va_A [(h0, .inr (0, [v_0, v_1, v_2, v_3, v_4, .ref q_705, .ref q_706, .ref q_707, .ref q_708, v_9, v_10, v_11, v_12, v_13, v_14, v_15, v_16, v_17, v_18])), (q_705, .inl (cA_705, 2000, .inl (fun j : Nat => zI (a_5 (j : Int))))), (q_706, .inl (cA_706, 2000, .inl (fun j : Nat => zI (a_6 (j : Int))))), (q_707, .inl (cA_707, 2000, .inr (.inl (fun j : Nat => lI (a_7 (j : Int)))))), (q_708, .inl (cA_708, 2000, .inr (.inl (fun j : Nat => lI (a_8 (j : Int))))))] sz)) 0 0 (va_A [(h0, .inr (0, [v_0, v_1, v_2, v_3, v_4, .ref q_705, .ref q_706, .ref q_707, .ref q_708, v_9, v_10, v_11, v_12, v_13, v_14, v_15, v_16, v_17, v_18])), (q_705, .inl (cA_705, 2000, .inl (fun j : Nat => zI (a_5 (j : Int))))), (q_706, .inl (cA_706, 2000, .inl (fun j : Nat => zI (a_6 (j : Int))))), (q_707, .inl (cA_707, 2000, .inr (.inl (fun j : Nat => lI (a_7 (j : Int)))))), (q_708, .inl (cA_708, 2000, .inr (.inl (fun j : Nat => lI (a_8 (j : Int))))))] sz) := by
  refine Met.ofW (cc := cX0_putRow) (maxL := 8) (ret := none) (by decide) rfl ?_
  intro p e s m args below meth c s₁ B hml hv
  obtain ⟨rfl, hsz, hP, hK, hD0⟩ := hv
  have hx := B.exec
  have hb := B.bytes
  have hr := B.returns
  have hts := atoms_spec (ws := v_X0_putRow) B.pre
  have hown : s.vm.findClass RX0 = some m.cls := findClass_of_methodNamed B.named
  have hlocks := B.notSynchronized
  have ow : ∀ {k : Nat} {w : Cond}, o_X0_putRow[k]? = some w → w.before ([.ref h0, .int (zI (i)), .int (zI (ro)), .int (zI (set)), .long (lI (x1)), .long (lI (x2))] : List Value).toArray s = true := fun h => hts _ (mow_X0_putRow _ (List.mem_of_getElem? h))
  subst hsz
  have hD := hD0.self (sz := s.heap.size)
  generalize hAe : va_A [(h0, .inr (0, [v_0, v_1, v_2, v_3, v_4, .ref q_705, .ref q_706, .ref q_707, .ref q_708, v_9, v_10, v_11, v_12, v_13, v_14, v_15, v_16, v_17, v_18])), (q_705, .inl (cA_705, 2000, .inl (fun j : Nat => zI (a_5 (j : Int))))), (q_706, .inl (cA_706, 2000, .inl (fun j : Nat => zI (a_6 (j : Int))))), (q_707, .inl (cA_707, 2000, .inr (.inl (fun j : Nat => lI (a_7 (j : Int)))))), (q_708, .inl (cA_708, 2000, .inr (.inl (fun j : Nat => lI (a_8 (j : Int))))))] s.heap.size = A at hD ⊢
  have hA : ∀ q : Nat, s.heap.size ≤ q → A q := fun q h => by rw [← hAe]; exact Or.inr h
  have hS : va_S A s.heap s.heap [] := va_S.rf
  have hP : va_P (dC, dI) vwP [(h0, .inr (0, [v_0, v_1, v_2, v_3, v_4, .ref q_705, .ref q_706, .ref q_707, .ref q_708, v_9, v_10, v_11, v_12, v_13, v_14, v_15, v_16, v_17, v_18])), (q_705, .inl (cA_705, 2000, .inl (fun j : Nat => zI (a_5 (j : Int))))), (q_706, .inl (cA_706, 2000, .inl (fun j : Nat => zI (a_6 (j : Int))))), (q_707, .inl (cA_707, 2000, .inr (.inl (fun j : Nat => lI (a_7 (j : Int)))))), (q_708, .inl (cA_708, 2000, .inr (.inl (fun j : Nat => lI (a_8 (j : Int))))))] s.heap := hP
  have hl := lv_entry ([.ref h0, .int (zI (i)), .int (zI (ro)), .int (zI (set)), .long (lI (x1)), .long (lI (x2))]) (n := 8) (Nat.le_of_ble_eq_true rfl)
  rw [lg_entry_eq]
  generalize (lg_sl ([.ref h0, .int (zI (i)), .int (zI (ro)), .int (zI (set)), .long (lI (x1)), .long (lI (x2))]) ++ List.replicate (8 - (lg_sl ([.ref h0, .int (zI (i)), .int (zI (ro)), .int (zI (set)), .long (lI (x1)), .long (lI (x2))])).length) Slot.unset).toArray = ls at hl ⊢
  have hl : lv_has ls 8 [(0, .ref h0), (1, .int (zI (i))), (2, .int (zI (ro))), (3, .int (zI (set))), (4, .long (lI (x1))), (6, .long (lI (x2)))] := hl
  obtain ⟨H, hH⟩ : ∃ H, H = s.heap := ⟨_, rfl⟩
  rw [← hH] at hP
  have hS : va_S A s.heap H [] := by rw [hH]; exact hS
  rw [← hH]
  refine zW_cap (fun Q hQ => ?_)
  refine lv_aload_n hx hb dX0_putRow_0 rfl (lv_at hl 0 rfl) ?_
  refine va_get (D := (dC, dI)) (ci := 0) (v := .ref q_705) (C := RX0) (T := TX0) (N := 19) hx hb hts mem_X0_putRow_0 hown hK hP 0 rfl rfl 5 (by decide) (ow (k := 0) rfl) (fun _ h9 => h9) rfl dX0_putRow_1 ?_
  refine lv_iload_n hx hb dX0_putRow_4 rfl (lv_at hl 1 rfl) ?_
  refine lv_iload_n hx hb dX0_putRow_5 rfl (lv_at hl 2 rfl) ?_
  refine va_iast (i := zI (i)) hx hb hK hP hD hS 1 0 rfl rfl (zI_in (a := i) (n := 2000) (by omega) (by omega) (by decide)) dX0_putRow_6 (fun H locs hP hD hS => ?_)
  have eQ : upd (fun j : Nat => zI (a_5 (j : Int))) (zI (i)).toNatClampNeg (zI (ro)) = (fun j : Nat => zI (zup a_5 (i) (ro) (j : Int))) := zI_st a_5 (e := i) (v := ro) (by omega) (by omega)
  rw [eQ] at hP hD
  clear eQ
  have ra_2001 : ∀ j : Int, -1 ≤ zup a_5 (i) (ro) j ∧ zup a_5 (i) (ro) j ≤ 100 := zup_P (P := fun x9 => -1 ≤ x9 ∧ x9 ≤ 100) hR_a_5 (show -1 ≤ (ro) ∧ (ro) ≤ 100 by omega)
  generalize zup a_5 (i) (ro) = a_2001 at hP hD ra_2001
  have hP : va_P (dC, dI) vwP [(h0, .inr (0, [v_0, v_1, v_2, v_3, v_4, .ref q_705, .ref q_706, .ref q_707, .ref q_708, v_9, v_10, v_11, v_12, v_13, v_14, v_15, v_16, v_17, v_18])), (q_705, .inl (cA_705, 2000, .inl (fun j : Nat => zI (a_2001 (j : Int))))), (q_706, .inl (cA_706, 2000, .inl (fun j : Nat => zI (a_6 (j : Int))))), (q_707, .inl (cA_707, 2000, .inr (.inl (fun j : Nat => lI (a_7 (j : Int)))))), (q_708, .inl (cA_708, 2000, .inr (.inl (fun j : Nat => lI (a_8 (j : Int))))))] H := hP
  have hD : va_D A [(h0, .inr (0, [v_0, v_1, v_2, v_3, v_4, .ref q_705, .ref q_706, .ref q_707, .ref q_708, v_9, v_10, v_11, v_12, v_13, v_14, v_15, v_16, v_17, v_18])), (q_705, .inl (cA_705, 2000, .inl (fun j : Nat => zI (a_2001 (j : Int))))), (q_706, .inl (cA_706, 2000, .inl (fun j : Nat => zI (a_6 (j : Int))))), (q_707, .inl (cA_707, 2000, .inr (.inl (fun j : Nat => lI (a_7 (j : Int)))))), (q_708, .inl (cA_708, 2000, .inr (.inl (fun j : Nat => lI (a_8 (j : Int))))))] := hD
  refine lv_aload_n hx hb dX0_putRow_7 rfl (lv_at hl 0 rfl) ?_
  refine va_get (D := (dC, dI)) (ci := 0) (v := .ref q_706) (C := RX0) (T := TX0) (N := 19) hx hb hts mem_X0_putRow_0 hown hK hP 0 rfl rfl 6 (by decide) (ow (k := 1) rfl) (fun _ h9 => h9) rfl dX0_putRow_8 ?_
  refine lv_iload_n hx hb dX0_putRow_11 rfl (lv_at hl 1 rfl) ?_
  refine lv_iload_n hx hb dX0_putRow_12 rfl (lv_at hl 3 rfl) ?_
  refine va_iast (i := zI (i)) hx hb hK hP hD hS 2 1 rfl rfl (zI_in (a := i) (n := 2000) (by omega) (by omega) (by decide)) dX0_putRow_13 (fun H locs hP hD hS => ?_)
  have eQ : upd (fun j : Nat => zI (a_6 (j : Int))) (zI (i)).toNatClampNeg (zI (set)) = (fun j : Nat => zI (zup a_6 (i) (set) (j : Int))) := zI_st a_6 (e := i) (v := set) (by omega) (by omega)
  rw [eQ] at hP hD
  clear eQ
  have ra_2002 : ∀ j : Int, -1 ≤ zup a_6 (i) (set) j ∧ zup a_6 (i) (set) j ≤ 1023 := zup_P (P := fun x9 => -1 ≤ x9 ∧ x9 ≤ 1023) hR_a_6 (show -1 ≤ (set) ∧ (set) ≤ 1023 by omega)
  generalize zup a_6 (i) (set) = a_2002 at hP hD ra_2002
  have hP : va_P (dC, dI) vwP [(h0, .inr (0, [v_0, v_1, v_2, v_3, v_4, .ref q_705, .ref q_706, .ref q_707, .ref q_708, v_9, v_10, v_11, v_12, v_13, v_14, v_15, v_16, v_17, v_18])), (q_705, .inl (cA_705, 2000, .inl (fun j : Nat => zI (a_2001 (j : Int))))), (q_706, .inl (cA_706, 2000, .inl (fun j : Nat => zI (a_2002 (j : Int))))), (q_707, .inl (cA_707, 2000, .inr (.inl (fun j : Nat => lI (a_7 (j : Int)))))), (q_708, .inl (cA_708, 2000, .inr (.inl (fun j : Nat => lI (a_8 (j : Int))))))] H := hP
  have hD : va_D A [(h0, .inr (0, [v_0, v_1, v_2, v_3, v_4, .ref q_705, .ref q_706, .ref q_707, .ref q_708, v_9, v_10, v_11, v_12, v_13, v_14, v_15, v_16, v_17, v_18])), (q_705, .inl (cA_705, 2000, .inl (fun j : Nat => zI (a_2001 (j : Int))))), (q_706, .inl (cA_706, 2000, .inl (fun j : Nat => zI (a_2002 (j : Int))))), (q_707, .inl (cA_707, 2000, .inr (.inl (fun j : Nat => lI (a_7 (j : Int)))))), (q_708, .inl (cA_708, 2000, .inr (.inl (fun j : Nat => lI (a_8 (j : Int))))))] := hD
  refine lv_aload_n hx hb dX0_putRow_14 rfl (lv_at hl 0 rfl) ?_
  refine va_get (D := (dC, dI)) (ci := 0) (v := .ref q_707) (C := RX0) (T := TX0) (N := 19) hx hb hts mem_X0_putRow_0 hown hK hP 0 rfl rfl 7 (by decide) (ow (k := 2) rfl) (fun _ h9 => h9) rfl dX0_putRow_15 ?_
  refine lv_iload_n hx hb dX0_putRow_18 rfl (lv_at hl 1 rfl) ?_
  refine lv_lload hx hb dX0_putRow_19 (lv_at hl 4 rfl) ?_
  refine va_last (i := zI (i)) hx hb hK hP hD hS 3 2 rfl rfl (zI_in (a := i) (n := 2000) (by omega) (by omega) (by decide)) dX0_putRow_21 (fun H locs hP hD hS => ?_)
  have eQ : vp_updL (fun j : Nat => lI (a_7 (j : Int))) (zI (i)).toNatClampNeg (lI (x1)) = (fun j : Nat => lI (zup a_7 (i) (x1) (j : Int))) := lI_st a_7 (e := i) (v := x1) (by omega) (by omega)
  rw [eQ] at hP hD
  clear eQ
  have ra_2003 : ∀ j : Int, ((-2147483648 ≤ zup a_7 (i) (x1) j ∧ zup a_7 (i) (x1) j ≤ 4294968319) ∨ zup a_7 (i) (x1) j = 1099511627776) := zup_P (P := fun x9 => ((-2147483648 ≤ x9 ∧ x9 ≤ 4294968319) ∨ x9 = 1099511627776)) hR_a_7 (show ((-2147483648 ≤ (x1) ∧ (x1) ≤ 4294968319) ∨ (x1) = 1099511627776) by omega)
  generalize zup a_7 (i) (x1) = a_2003 at hP hD ra_2003
  have hP : va_P (dC, dI) vwP [(h0, .inr (0, [v_0, v_1, v_2, v_3, v_4, .ref q_705, .ref q_706, .ref q_707, .ref q_708, v_9, v_10, v_11, v_12, v_13, v_14, v_15, v_16, v_17, v_18])), (q_705, .inl (cA_705, 2000, .inl (fun j : Nat => zI (a_2001 (j : Int))))), (q_706, .inl (cA_706, 2000, .inl (fun j : Nat => zI (a_2002 (j : Int))))), (q_707, .inl (cA_707, 2000, .inr (.inl (fun j : Nat => lI (a_2003 (j : Int)))))), (q_708, .inl (cA_708, 2000, .inr (.inl (fun j : Nat => lI (a_8 (j : Int))))))] H := hP
  have hD : va_D A [(h0, .inr (0, [v_0, v_1, v_2, v_3, v_4, .ref q_705, .ref q_706, .ref q_707, .ref q_708, v_9, v_10, v_11, v_12, v_13, v_14, v_15, v_16, v_17, v_18])), (q_705, .inl (cA_705, 2000, .inl (fun j : Nat => zI (a_2001 (j : Int))))), (q_706, .inl (cA_706, 2000, .inl (fun j : Nat => zI (a_2002 (j : Int))))), (q_707, .inl (cA_707, 2000, .inr (.inl (fun j : Nat => lI (a_2003 (j : Int)))))), (q_708, .inl (cA_708, 2000, .inr (.inl (fun j : Nat => lI (a_8 (j : Int))))))] := hD
  refine lv_aload_n hx hb dX0_putRow_22 rfl (lv_at hl 0 rfl) ?_
  refine va_get (D := (dC, dI)) (ci := 0) (v := .ref q_708) (C := RX0) (T := TX0) (N := 19) hx hb hts mem_X0_putRow_0 hown hK hP 0 rfl rfl 8 (by decide) (ow (k := 3) rfl) (fun _ h9 => h9) rfl dX0_putRow_23 ?_
  refine lv_iload_n hx hb dX0_putRow_26 rfl (lv_at hl 1 rfl) ?_
  refine lv_lload hx hb dX0_putRow_27 (lv_at hl 5 rfl) ?_
  refine va_last (i := zI (i)) hx hb hK hP hD hS 4 3 rfl rfl (zI_in (a := i) (n := 2000) (by omega) (by omega) (by decide)) dX0_putRow_29 (fun H locs hP hD hS => ?_)
  have eQ : vp_updL (fun j : Nat => lI (a_8 (j : Int))) (zI (i)).toNatClampNeg (lI (x2)) = (fun j : Nat => lI (zup a_8 (i) (x2) (j : Int))) := lI_st a_8 (e := i) (v := x2) (by omega) (by omega)
  rw [eQ] at hP hD
  clear eQ
  have ra_2004 : ∀ j : Int, ((-2147483648 ≤ zup a_8 (i) (x2) j ∧ zup a_8 (i) (x2) j ≤ 4294968319) ∨ zup a_8 (i) (x2) j = 1099511627776) := zup_P (P := fun x9 => ((-2147483648 ≤ x9 ∧ x9 ≤ 4294968319) ∨ x9 = 1099511627776)) hR_a_8 (show ((-2147483648 ≤ (x2) ∧ (x2) ≤ 4294968319) ∨ (x2) = 1099511627776) by omega)
  generalize zup a_8 (i) (x2) = a_2004 at hP hD ra_2004
  have hP : va_P (dC, dI) vwP [(h0, .inr (0, [v_0, v_1, v_2, v_3, v_4, .ref q_705, .ref q_706, .ref q_707, .ref q_708, v_9, v_10, v_11, v_12, v_13, v_14, v_15, v_16, v_17, v_18])), (q_705, .inl (cA_705, 2000, .inl (fun j : Nat => zI (a_2001 (j : Int))))), (q_706, .inl (cA_706, 2000, .inl (fun j : Nat => zI (a_2002 (j : Int))))), (q_707, .inl (cA_707, 2000, .inr (.inl (fun j : Nat => lI (a_2003 (j : Int)))))), (q_708, .inl (cA_708, 2000, .inr (.inl (fun j : Nat => lI (a_2004 (j : Int))))))] H := hP
  have hD : va_D A [(h0, .inr (0, [v_0, v_1, v_2, v_3, v_4, .ref q_705, .ref q_706, .ref q_707, .ref q_708, v_9, v_10, v_11, v_12, v_13, v_14, v_15, v_16, v_17, v_18])), (q_705, .inl (cA_705, 2000, .inl (fun j : Nat => zI (a_2001 (j : Int))))), (q_706, .inl (cA_706, 2000, .inl (fun j : Nat => zI (a_2002 (j : Int))))), (q_707, .inl (cA_707, 2000, .inr (.inl (fun j : Nat => lI (a_2003 (j : Int)))))), (q_708, .inl (cA_708, 2000, .inr (.inl (fun j : Nat => lI (a_2004 (j : Int))))))] := hD
  subst hQ
  refine W.widen (k := 0) (n := 0) (Nat.le_of_ble_eq_true rfl) (Nat.le_of_ble_eq_true rfl) ?_
  exact W.vret hx hb hr (fun t ht hW => ⟨⟨(), rfl, trivial, a_2001, a_2002, a_2003, a_2004, ⟨ra_2001, ra_2002, ra_2003, ra_2004⟩, by rw [ht]; exact hP, va_K.moved hW.alike hK, hD⟩, hS.F ht⟩) hS.2.2 dX0_putRow_30
theorem dX0_addRow_0 : decode cX0_addRow 0 = .ok (.aload_n 0, 1) := by decide +kernel
theorem dX0_addRow_1 : decode cX0_addRow 1 = .ok (.getfield 15, 3) := by decide +kernel
theorem dX0_addRow_4 : decode cX0_addRow 4 = .ok (.sipush 2000, 3) := by decide +kernel
theorem dX0_addRow_7 : decode cX0_addRow 7 = .ok (.if_icmp .lt 5, 3) := by decide +kernel
theorem dX0_addRow_12 : decode cX0_addRow 12 = .ok (.aload_n 0, 1) := by decide +kernel
theorem dX0_addRow_13 : decode cX0_addRow 13 = .ok (.aload_n 0, 1) := by decide +kernel
theorem dX0_addRow_14 : decode cX0_addRow 14 = .ok (.getfield 15, 3) := by decide +kernel
theorem dX0_addRow_17 : decode cX0_addRow 17 = .ok (.iload_n 1, 1) := by decide +kernel
theorem dX0_addRow_18 : decode cX0_addRow 18 = .ok (.iload_n 2, 1) := by decide +kernel
theorem dX0_addRow_19 : decode cX0_addRow 19 = .ok (.lload_n 3, 1) := by decide +kernel
theorem dX0_addRow_20 : decode cX0_addRow 20 = .ok (.lload 5, 2) := by decide +kernel
theorem dX0_addRow_22 : decode cX0_addRow 22 = .ok (.invokevirtual 81, 3) := by decide +kernel
theorem dX0_addRow_25 : decode cX0_addRow 25 = .ok (.aload_n 0, 1) := by decide +kernel
theorem dX0_addRow_26 : decode cX0_addRow 26 = .ok (.dup, 1) := by decide +kernel
theorem dX0_addRow_27 : decode cX0_addRow 27 = .ok (.getfield 15, 3) := by decide +kernel
theorem dX0_addRow_30 : decode cX0_addRow 30 = .ok (.iconst 1, 1) := by decide +kernel
theorem dX0_addRow_31 : decode cX0_addRow 31 = .ok (.iadd, 1) := by decide +kernel
theorem dX0_addRow_32 : decode cX0_addRow 32 = .ok (.putfield 15, 3) := by decide +kernel
theorem dX0_addRow_35 : decode cX0_addRow 35 = .ok (.iconst 1, 1) := by decide +kernel
theorem dX0_addRow_36 : decode cX0_addRow 36 = .ok (.ireturn, 1) := by decide +kernel
theorem dX0_addRow_10 : decode cX0_addRow 10 = .ok (.iconst 0, 1) := by decide +kernel
theorem dX0_addRow_11 : decode cX0_addRow 11 = .ok (.ireturn, 1) := by decide +kernel
def o_X0_addRow : List Cond := [.fieldLink RX0 15 "SsaForge$Code" "rows" "I", .methodLink RX0 81 yX0_putRow, .instanceMethod yX0_putRow, .selects RX0 yX0_putRow yX0_putRow, .initialized RX0]
def v_X0_addRow : List Cond := .code yX0_addRow cX0_addRow 7 (some .boolean) :: (o_X0_addRow ++ (wsX00 ++ (v_X0_putRow ++ [])))
theorem mow_X0_addRow : ∀ w ∈ o_X0_addRow, w ∈ v_X0_addRow := fun _ h => List.mem_cons_of_mem _ (List.mem_append_left _ h)
theorem mem_X0_addRow_0 : ∀ w ∈ wsX00, w ∈ v_X0_addRow := fun _ h => List.mem_cons_of_mem _ (List.mem_append_right _ (List.mem_append_left _ h))
theorem mem_X0_addRow_1 : ∀ w ∈ v_X0_putRow, w ∈ v_X0_addRow := fun _ h => List.mem_cons_of_mem _ (List.mem_append_right _ (List.mem_append_right _ (List.mem_append_left _ h)))
set_option maxRecDepth 20000 in
theorem gw_X0_addRow : v_X0_addRow.all goodWord = true := by decide +kernel
set_option maxRecDepth 20000 in
theorem g_X0_addRow_X0_putRow : GoodIn v_X0_addRow (wsV RX0 81 RX0 yX0_putRow v_X0_putRow) := goodIn_app (goodIn_sub (fun w h => mow_X0_addRow w (by revert w h; decide +kernel)) (by decide +kernel)) (goodIn_sub mem_X0_addRow_1 gw_X0_putRow)
set_option maxHeartbeats 4000000 in
set_option maxRecDepth 100000 in
theorem c_X0_addRow (l : Launch) (dC : Nat → ClassId) (dI : Nat → Nat → Nat) (h0 : Nat) (v_0 : Value) (R1 : Int) (v_2 : Value) (v_3 : Value) (v_4 : Value) (q_705 : Nat) (cA_705 : ClassId) (a_5 : Int → Int) (q_706 : Nat) (cA_706 : ClassId) (a_6 : Int → Int) (q_707 : Nat) (cA_707 : ClassId) (a_7 : Int → Int) (q_708 : Nat) (cA_708 : ClassId) (a_8 : Int → Int) (v_9 : Value) (v_10 : Value) (v_11 : Value) (v_12 : Value) (v_13 : Value) (v_14 : Value) (v_15 : Value) (v_16 : Value) (v_17 : Value) (v_18 : Value) (set : Int) (x1 : Int) (x2 : Int) (ro : Int) (hNR1 : 0 ≤ R1 ∧ R1 ≤ 2000) (hR_a_5 : ∀ j : Int, -1 ≤ a_5 j ∧ a_5 j ≤ 100) (hR_a_6 : ∀ j : Int, -1 ≤ a_6 j ∧ a_6 j ≤ 1023) (hR_a_7 : ∀ j : Int, ((-2147483648 ≤ a_7 j ∧ a_7 j ≤ 4294968319) ∨ a_7 j = 1099511627776)) (hR_a_8 : ∀ j : Int, ((-2147483648 ≤ a_8 j ∧ a_8 j ≤ 4294968319) ∨ a_8 j = 1099511627776)) (hNset : -1 ≤ set ∧ set ≤ 1023) (hNx1 : ((-2147483648 ≤ x1 ∧ x1 ≤ 4294968319) ∨ x1 = 1099511627776)) (hNx2 : ((-2147483648 ≤ x2 ∧ x2 ≤ 4294968319) ∨ x2 = 1099511627776)) (hNro : -1 ≤ ro ∧ ro ≤ 100) (sz : Nat) : Met l yX0_addRow v_X0_addRow ({ frames := 1, cells := 0, slots := 0, locals := 27 }) (va_Pc [.ref h0, .int (zI (ro)), .int (zI (set)), .long (lI (x1)), .long (lI (x2))] (fun U => U.heap.size = sz ∧ va_P (dC, dI) vwP [(h0, .inr (0, [v_0, .int (zI (R1)), v_2, v_3, v_4, .ref q_705, .ref q_706, .ref q_707, .ref q_708, v_9, v_10, v_11, v_12, v_13, v_14, v_15, v_16, v_17, v_18])), (q_705, .inl (cA_705, 2000, .inl (fun j : Nat => zI (a_5 (j : Int))))), (q_706, .inl (cA_706, 2000, .inl (fun j : Nat => zI (a_6 (j : Int))))), (q_707, .inl (cA_707, 2000, .inr (.inl (fun j : Nat => lI (a_7 (j : Int)))))), (q_708, .inl (cA_708, 2000, .inr (.inl (fun j : Nat => lI (a_8 (j : Int))))))] U.heap ∧ va_K (dC, dI) vwP [(cA_705, .int), (cA_706, .int), (cA_707, .long), (cA_708, .long)] U ∧ va_D (fun _ => True) [(h0, .inr (0, [v_0, .int (zI (R1)), v_2, v_3, v_4, .ref q_705, .ref q_706, .ref q_707, .ref q_708, v_9, v_10, v_11, v_12, v_13, v_14, v_15, v_16, v_17, v_18])), (q_705, .inl (cA_705, 2000, .inl (fun j : Nat => zI (a_5 (j : Int))))), (q_706, .inl (cA_706, 2000, .inl (fun j : Nat => zI (a_6 (j : Int))))), (q_707, .inl (cA_707, 2000, .inr (.inl (fun j : Nat => lI (a_7 (j : Int)))))), (q_708, .inl (cA_708, 2000, .inr (.inl (fun j : Nat => lI (a_8 (j : Int))))))])) (va_Qi (fun (r : Int32) (_ : Unit) => ∃ z : Int, r = zI z ∧ (0 ≤ z ∧ z ≤ 1)) (fun (_ : Unit) (t : State) => ∃ (z0_9 : Int) (a1_9 : Int → Int) (a2_9 : Int → Int) (a3_9 : Int → Int) (a4_9 : Int → Int), ((0 ≤ z0_9 ∧ z0_9 ≤ 2000) ∧ (∀ j : Int, -1 ≤ a1_9 j ∧ a1_9 j ≤ 100) ∧ (∀ j : Int, -1 ≤ a2_9 j ∧ a2_9 j ≤ 1023) ∧ (∀ j : Int, ((-2147483648 ≤ a3_9 j ∧ a3_9 j ≤ 4294968319) ∨ a3_9 j = 1099511627776)) ∧ (∀ j : Int, ((-2147483648 ≤ a4_9 j ∧ a4_9 j ≤ 4294968319) ∨ a4_9 j = 1099511627776))) ∧ va_P (dC, dI) vwP [(h0, .inr (0, [v_0, .int (zI (z0_9)), v_2, v_3, v_4, .ref q_705, .ref q_706, .ref q_707, .ref q_708, v_9, v_10, v_11, v_12, v_13, v_14, v_15, v_16, v_17, v_18])), (q_705, .inl (cA_705, 2000, .inl (fun j : Nat => zI (a1_9 (j : Int))))), (q_706, .inl (cA_706, 2000, .inl (fun j : Nat => zI (a2_9 (j : Int))))), (q_707, .inl (cA_707, 2000, .inr (.inl (fun j : Nat => lI (a3_9 (j : Int)))))), (q_708, .inl (cA_708, 2000, .inr (.inl (fun j : Nat => lI (a4_9 (j : Int))))))] t.heap ∧ va_K (dC, dI) vwP [(cA_705, .int), (cA_706, .int), (cA_707, .long), (cA_708, .long)] t ∧ va_D (va_A [(h0, .inr (0, [v_0, .int (zI (R1)), v_2, v_3, v_4, .ref q_705, .ref q_706, .ref q_707, .ref q_708, v_9, v_10, v_11, v_12, v_13, v_14, v_15, v_16, v_17, v_18])), (q_705, .inl (cA_705, 2000, .inl (fun j : Nat => zI (a_5 (j : Int))))), (q_706, .inl (cA_706, 2000, .inl (fun j : Nat => zI (a_6 (j : Int))))), (q_707, .inl (cA_707, 2000, .inr (.inl (fun j : Nat => lI (a_7 (j : Int)))))), (q_708, .inl (cA_708, 2000, .inr (.inl (fun j : Nat => lI (a_8 (j : Int))))))] sz) [(h0, .inr (0, [v_0, .int (zI (z0_9)), v_2, v_3, v_4, .ref q_705, .ref q_706, .ref q_707, .ref q_708, v_9, v_10, v_11, v_12, v_13, v_14, v_15, v_16, v_17, v_18])), (q_705, .inl (cA_705, 2000, .inl (fun j : Nat => zI (a1_9 (j : Int))))), (q_706, .inl (cA_706, 2000, .inl (fun j : Nat => zI (a2_9 (j : Int))))), (q_707, .inl (cA_707, 2000, .inr (.inl (fun j : Nat => lI (a3_9 (j : Int)))))), (q_708, .inl (cA_708, 2000, .inr (.inl (fun j : Nat => lI (a4_9 (j : Int))))))]) (va_A [(h0, .inr (0, [v_0, .int (zI (R1)), v_2, v_3, v_4, .ref q_705, .ref q_706, .ref q_707, .ref q_708, v_9, v_10, v_11, v_12, v_13, v_14, v_15, v_16, v_17, v_18])), (q_705, .inl (cA_705, 2000, .inl (fun j : Nat => zI (a_5 (j : Int))))), (q_706, .inl (cA_706, 2000, .inl (fun j : Nat => zI (a_6 (j : Int))))), (q_707, .inl (cA_707, 2000, .inr (.inl (fun j : Nat => lI (a_7 (j : Int)))))), (q_708, .inl (cA_708, 2000, .inr (.inl (fun j : Nat => lI (a_8 (j : Int))))))] sz)) 0 0 (va_A [(h0, .inr (0, [v_0, .int (zI (R1)), v_2, v_3, v_4, .ref q_705, .ref q_706, .ref q_707, .ref q_708, v_9, v_10, v_11, v_12, v_13, v_14, v_15, v_16, v_17, v_18])), (q_705, .inl (cA_705, 2000, .inl (fun j : Nat => zI (a_5 (j : Int))))), (q_706, .inl (cA_706, 2000, .inl (fun j : Nat => zI (a_6 (j : Int))))), (q_707, .inl (cA_707, 2000, .inr (.inl (fun j : Nat => lI (a_7 (j : Int)))))), (q_708, .inl (cA_708, 2000, .inr (.inl (fun j : Nat => lI (a_8 (j : Int))))))] sz) := by
  refine Met.ofW (cc := cX0_addRow) (maxL := 7) (ret := (some .boolean)) (by decide) rfl ?_
  intro p e s m args below meth c s₁ B hml hv
  obtain ⟨rfl, hsz, hP, hK, hD0⟩ := hv
  have hx := B.exec
  have hb := B.bytes
  have hr := B.returns
  have hts := atoms_spec (ws := v_X0_addRow) B.pre
  have hown : s.vm.findClass RX0 = some m.cls := findClass_of_methodNamed B.named
  have hlocks := B.notSynchronized
  have ow : ∀ {k : Nat} {w : Cond}, o_X0_addRow[k]? = some w → w.before ([.ref h0, .int (zI (ro)), .int (zI (set)), .long (lI (x1)), .long (lI (x2))] : List Value).toArray s = true := fun h => hts _ (mow_X0_addRow _ (List.mem_of_getElem? h))
  subst hsz
  have hD := hD0.self (sz := s.heap.size)
  generalize hAe : va_A [(h0, .inr (0, [v_0, .int (zI (R1)), v_2, v_3, v_4, .ref q_705, .ref q_706, .ref q_707, .ref q_708, v_9, v_10, v_11, v_12, v_13, v_14, v_15, v_16, v_17, v_18])), (q_705, .inl (cA_705, 2000, .inl (fun j : Nat => zI (a_5 (j : Int))))), (q_706, .inl (cA_706, 2000, .inl (fun j : Nat => zI (a_6 (j : Int))))), (q_707, .inl (cA_707, 2000, .inr (.inl (fun j : Nat => lI (a_7 (j : Int)))))), (q_708, .inl (cA_708, 2000, .inr (.inl (fun j : Nat => lI (a_8 (j : Int))))))] s.heap.size = A at hD ⊢
  have hA : ∀ q : Nat, s.heap.size ≤ q → A q := fun q h => by rw [← hAe]; exact Or.inr h
  have hS : va_S A s.heap s.heap [] := va_S.rf
  have hP : va_P (dC, dI) vwP [(h0, .inr (0, [v_0, .int (zI (R1)), v_2, v_3, v_4, .ref q_705, .ref q_706, .ref q_707, .ref q_708, v_9, v_10, v_11, v_12, v_13, v_14, v_15, v_16, v_17, v_18])), (q_705, .inl (cA_705, 2000, .inl (fun j : Nat => zI (a_5 (j : Int))))), (q_706, .inl (cA_706, 2000, .inl (fun j : Nat => zI (a_6 (j : Int))))), (q_707, .inl (cA_707, 2000, .inr (.inl (fun j : Nat => lI (a_7 (j : Int)))))), (q_708, .inl (cA_708, 2000, .inr (.inl (fun j : Nat => lI (a_8 (j : Int))))))] s.heap := hP
  have hl := lv_entry ([.ref h0, .int (zI (ro)), .int (zI (set)), .long (lI (x1)), .long (lI (x2))]) (n := 7) (Nat.le_of_ble_eq_true rfl)
  rw [lg_entry_eq]
  generalize (lg_sl ([.ref h0, .int (zI (ro)), .int (zI (set)), .long (lI (x1)), .long (lI (x2))]) ++ List.replicate (7 - (lg_sl ([.ref h0, .int (zI (ro)), .int (zI (set)), .long (lI (x1)), .long (lI (x2))])).length) Slot.unset).toArray = ls at hl ⊢
  have hl : lv_has ls 7 [(0, .ref h0), (1, .int (zI (ro))), (2, .int (zI (set))), (3, .long (lI (x1))), (5, .long (lI (x2)))] := hl
  obtain ⟨H, hH⟩ : ∃ H, H = s.heap := ⟨_, rfl⟩
  rw [← hH] at hP
  have hS : va_S A s.heap H [] := by rw [hH]; exact hS
  rw [← hH]
  refine zW_cap (fun Q hQ => ?_)
  refine lv_aload_n hx hb dX0_addRow_0 rfl (lv_at hl 0 rfl) ?_
  refine va_get (D := (dC, dI)) (ci := 0) (v := .int (zI (R1))) (C := RX0) (T := TX0) (N := 19) hx hb hts mem_X0_addRow_0 hown hK hP 0 rfl rfl 1 (by decide) (ow (k := 0) rfl) (fun _ h9 => h9) rfl dX0_addRow_1 ?_
  refine lv_sipush (v := 2000) hx hb dX0_addRow_4 (by decide) ?_
  refine lv_icmp_lt (tgt := 12) hx hb dX0_addRow_7 (by decide) (fun b7 => ?_) (fun b7 => ?_)
  · have yb7 : (R1 : Int) < (2000 : Int) := (zI_lt (a := R1) (b := 2000) (by omega) (by omega) (by omega) (by omega)).mp b7
    refine lv_aload_n hx hb dX0_addRow_12 rfl (lv_at hl 0 rfl) ?_
    refine lv_aload_n hx hb dX0_addRow_13 rfl (lv_at hl 0 rfl) ?_
    refine va_get (D := (dC, dI)) (ci := 0) (v := .int (zI (R1))) (C := RX0) (T := TX0) (N := 19) hx hb hts mem_X0_addRow_0 hown hK hP 0 rfl rfl 1 (by decide) (ow (k := 0) rfl) (fun _ h9 => h9) rfl dX0_addRow_14 ?_
    refine lv_iload_n hx hb dX0_addRow_17 rfl (lv_at hl 1 rfl) ?_
    refine lv_iload_n hx hb dX0_addRow_18 rfl (lv_at hl 2 rfl) ?_
    refine lv_lload_n hx hb dX0_addRow_19 rfl (lv_at hl 3 rfl) ?_
    refine lv_lload hx hb dX0_addRow_20 (lv_at hl 4 rfl) ?_
    have hPc := hP.sub (ws' := [(h0, .inr (0, [v_0, .int (zI (R1)), v_2, v_3, v_4, .ref q_705, .ref q_706, .ref q_707, .ref q_708, v_9, v_10, v_11, v_12, v_13, v_14, v_15, v_16, v_17, v_18])), (q_705, .inl (cA_705, 2000, .inl (fun j : Nat => zI (a_5 (j : Int))))), (q_706, .inl (cA_706, 2000, .inl (fun j : Nat => zI (a_6 (j : Int))))), (q_707, .inl (cA_707, 2000, .inr (.inl (fun j : Nat => lI (a_7 (j : Int)))))), (q_708, .inl (cA_708, 2000, .inr (.inl (fun j : Nat => lI (a_8 (j : Int))))))]) [0, 1, 2, 3, 4] rfl
    have hDc := hD.sub (ws' := [(h0, .inr (0, [v_0, .int (zI (R1)), v_2, v_3, v_4, .ref q_705, .ref q_706, .ref q_707, .ref q_708, v_9, v_10, v_11, v_12, v_13, v_14, v_15, v_16, v_17, v_18])), (q_705, .inl (cA_705, 2000, .inl (fun j : Nat => zI (a_5 (j : Int))))), (q_706, .inl (cA_706, 2000, .inl (fun j : Nat => zI (a_6 (j : Int))))), (q_707, .inl (cA_707, 2000, .inr (.inl (fun j : Nat => lI (a_7 (j : Int)))))), (q_708, .inl (cA_708, 2000, .inr (.inl (fun j : Nat => lI (a_8 (j : Int))))))]) [0, 1, 2, 3, 4] (by decide) rfl
    have hKc := hK.sub (tys' := [(cA_705, .int), (cA_706, .int), (cA_707, .long), (cA_708, .long)]) [0, 1, 2, 3] rfl
    have hFc := va_free (wc := [(h0, .inr (0, [v_0, .int (zI (R1)), v_2, v_3, v_4, .ref q_705, .ref q_706, .ref q_707, .ref q_708, v_9, v_10, v_11, v_12, v_13, v_14, v_15, v_16, v_17, v_18])), (q_705, .inl (cA_705, 2000, .inl (fun j : Nat => zI (a_5 (j : Int))))), (q_706, .inl (cA_706, 2000, .inl (fun j : Nat => zI (a_6 (j : Int))))), (q_707, .inl (cA_707, 2000, .inr (.inl (fun j : Nat => lI (a_7 (j : Int)))))), (q_708, .inl (cA_708, 2000, .inr (.inl (fun j : Nat => lI (a_8 (j : Int))))))]) hD hS hA [0, 1, 2, 3, 4] rfl
    refine va_callv (va_runV (As := [.int (zI (R1)), .int (zI (ro)), .int (zI (set)), .long (lI (x1)), .long (lI (x2))]) (rest := []) ⟨hx, hb, hml, hown, hts⟩ (c_X0_putRow l dC dI h0 v_0 (.int (zI (R1))) v_2 v_3 v_4 q_705 cA_705 a_5 q_706 cA_706 a_6 q_707 cA_707 a_7 q_708 cA_708 a_8 v_9 v_10 v_11 v_12 v_13 v_14 v_15 v_16 v_17 v_18 R1 set x1 x2 ro hR_a_5 hR_a_6 hR_a_7 hR_a_8 (by omega) (by omega) (by omega) (by omega) (by omega) H.size) (cwV 5 hts g_X0_addRow_X0_putRow rfl rfl rfl (by decide +kernel) ⟨(Nat.le_of_ble_eq_true rfl), (Nat.le_of_ble_eq_true rfl)⟩) ⟨fun a U g mk q => by obtain ⟨q0, q1, qP, qK, qD⟩ := q; exact ⟨q0, q1, qP, va_K.moved (u := U) (U := U.calling g mk a) (Vm.Alike.refl U.vm) qK, qD⟩, va_recv hKc hPc (ci := 0) (q0 := 0) rfl rfl, fun U hU hW => ⟨rfl, by rw [hU], by rw [hU]; exact hPc, va_K.moved hW.alike hKc, hDc.weaken (fun _ _ _ _ => trivial)⟩⟩ rfl rfl hl.1 rfl (lv_room (Nat.le_of_ble_eq_true rfl)) dX0_addRow_22 ⟨(Nat.le_of_ble_eq_true rfl), (Nat.le_of_ble_eq_true rfl)⟩) hS (fun q _ h => hFc q h) hFc (fun  u t H1 locs ht hvm hw hB hz1 hk1 hS => ?_)
    obtain ⟨a0_2001, a1_2002, a2_2003, a3_2004, hxt_2004, hP1, hK1, hD1⟩ := hB
    rw [ht] at hP1
    have hK1 := va_K.moved hvm.symm hK1
    obtain ⟨hP, hD⟩ := va_join (wr := []) (w1 := [(h0, .inr (0, [v_0, .int (zI (R1)), v_2, v_3, v_4, .ref q_705, .ref q_706, .ref q_707, .ref q_708, v_9, v_10, v_11, v_12, v_13, v_14, v_15, v_16, v_17, v_18])), (q_705, .inl (cA_705, 2000, .inl (fun j : Nat => zI (a0_2001 (j : Int))))), (q_706, .inl (cA_706, 2000, .inl (fun j : Nat => zI (a1_2002 (j : Int))))), (q_707, .inl (cA_707, 2000, .inr (.inl (fun j : Nat => lI (a2_2003 (j : Int)))))), (q_708, .inl (cA_708, 2000, .inr (.inl (fun j : Nat => lI (a3_2004 (j : Int))))))]) hP hD [0, 1, 2, 3, 4] [] rfl rfl (by decide) (by decide) hk1 hFc hP1 hD1
    have hK := (hK.sub (tys' := []) [] rfl).app hK1
    generalize H1 = H at hP hS ⊢
    have hP : va_P (dC, dI) vwP [(h0, .inr (0, [v_0, .int (zI (R1)), v_2, v_3, v_4, .ref q_705, .ref q_706, .ref q_707, .ref q_708, v_9, v_10, v_11, v_12, v_13, v_14, v_15, v_16, v_17, v_18])), (q_705, .inl (cA_705, 2000, .inl (fun j : Nat => zI (a0_2001 (j : Int))))), (q_706, .inl (cA_706, 2000, .inl (fun j : Nat => zI (a1_2002 (j : Int))))), (q_707, .inl (cA_707, 2000, .inr (.inl (fun j : Nat => lI (a2_2003 (j : Int)))))), (q_708, .inl (cA_708, 2000, .inr (.inl (fun j : Nat => lI (a3_2004 (j : Int))))))] H := hP
    have hD : va_D A [(h0, .inr (0, [v_0, .int (zI (R1)), v_2, v_3, v_4, .ref q_705, .ref q_706, .ref q_707, .ref q_708, v_9, v_10, v_11, v_12, v_13, v_14, v_15, v_16, v_17, v_18])), (q_705, .inl (cA_705, 2000, .inl (fun j : Nat => zI (a0_2001 (j : Int))))), (q_706, .inl (cA_706, 2000, .inl (fun j : Nat => zI (a1_2002 (j : Int))))), (q_707, .inl (cA_707, 2000, .inr (.inl (fun j : Nat => lI (a2_2003 (j : Int)))))), (q_708, .inl (cA_708, 2000, .inr (.inl (fun j : Nat => lI (a3_2004 (j : Int))))))] := hD
    have hK : va_K (dC, dI) vwP [(cA_705, .int), (cA_706, .int), (cA_707, .long), (cA_708, .long)] s := hK
    refine W.widen (k := 0) (n := 0) (Nat.le_of_ble_eq_true rfl) (Nat.le_of_ble_eq_true rfl) ?_
    obtain ⟨rk_2005, rk_2006, rk_2007, rk_2008⟩ := hxt_2004
    refine lv_aload_n hx hb dX0_addRow_25 rfl (lv_at hl 0 rfl) ?_
    refine lv_dup hx hb dX0_addRow_26 rfl ?_
    refine va_get (D := (dC, dI)) (ci := 0) (v := .int (zI (R1))) (C := RX0) (T := TX0) (N := 19) hx hb hts mem_X0_addRow_0 hown hK hP 0 rfl rfl 1 (by decide) (ow (k := 0) rfl) (fun _ h9 => h9) rfl dX0_addRow_27 ?_
    refine lv_iconst (v := 1) hx hb dX0_addRow_30 (by decide) ?_
    refine lv_iadd hx hb dX0_addRow_31 ?_
    refine lv_topi (fun z ez => ?_)
    obtain rfl : z = zI (R1 + 1) := ez.trans (zI_add (R1) (1))
    refine va_put (D := (dC, dI)) (ci := 0) (v := .int (zI (R1 + 1))) (ty := .int) (C := RX0) (T := TX0) (N := 19) hx hb hts mem_X0_addRow_0 tyX0 tyX0_ok nmX0 hown hK hP hD hS 0 rfl rfl 1 (by decide) (ow (k := 0) rfl) (fun _ h9 => h9) rfl (by decide +kernel) rfl rfl (Nat.le_of_ble_eq_true rfl) dX0_addRow_32 (fun H locs hP hD hS => ?_)
    have hP : va_P (dC, dI) vwP [(h0, .inr (0, [v_0, .int (zI (R1 + 1)), v_2, v_3, v_4, .ref q_705, .ref q_706, .ref q_707, .ref q_708, v_9, v_10, v_11, v_12, v_13, v_14, v_15, v_16, v_17, v_18])), (q_705, .inl (cA_705, 2000, .inl (fun j : Nat => zI (a0_2001 (j : Int))))), (q_706, .inl (cA_706, 2000, .inl (fun j : Nat => zI (a1_2002 (j : Int))))), (q_707, .inl (cA_707, 2000, .inr (.inl (fun j : Nat => lI (a2_2003 (j : Int)))))), (q_708, .inl (cA_708, 2000, .inr (.inl (fun j : Nat => lI (a3_2004 (j : Int))))))] H := hP
    have hD : va_D A [(h0, .inr (0, [v_0, .int (zI (R1 + 1)), v_2, v_3, v_4, .ref q_705, .ref q_706, .ref q_707, .ref q_708, v_9, v_10, v_11, v_12, v_13, v_14, v_15, v_16, v_17, v_18])), (q_705, .inl (cA_705, 2000, .inl (fun j : Nat => zI (a0_2001 (j : Int))))), (q_706, .inl (cA_706, 2000, .inl (fun j : Nat => zI (a1_2002 (j : Int))))), (q_707, .inl (cA_707, 2000, .inr (.inl (fun j : Nat => lI (a2_2003 (j : Int)))))), (q_708, .inl (cA_708, 2000, .inr (.inl (fun j : Nat => lI (a3_2004 (j : Int))))))] := hD
    refine lv_iconst (v := 1) hx hb dX0_addRow_35 (by decide) ?_
    subst hQ
    refine W.widen (k := 0) (n := 0) (Nat.le_of_ble_eq_true rfl) (Nat.le_of_ble_eq_true rfl) ?_
    exact W.zret (v := 1) hx hb hr (by decide) (fun t ht hW => ⟨⟨1, (), rfl, ⟨1, rfl, by omega⟩, (R1 + 1), a0_2001, a1_2002, a2_2003, a3_2004, ⟨(by omega), rk_2005, rk_2006, rk_2007, rk_2008⟩, by rw [ht]; exact hP, va_K.moved hW.alike hK, hD⟩, hS.F ht⟩) hS.2.2 dX0_addRow_36
  · have yb7 : ¬ (R1 : Int) < (2000 : Int) := fun q => b7 ((zI_lt (a := R1) (b := 2000) (by omega) (by omega) (by omega) (by omega)).mpr q)
    refine lv_iconst (v := 0) hx hb dX0_addRow_10 (by decide) ?_
    subst hQ
    refine W.widen (k := 0) (n := 0) (Nat.le_of_ble_eq_true rfl) (Nat.le_of_ble_eq_true rfl) ?_
    exact W.zret (v := 0) hx hb hr (by decide) (fun t ht hW => ⟨⟨0, (), rfl, ⟨0, rfl, by omega⟩, R1, a_5, a_6, a_7, a_8, ⟨(by omega), hR_a_5, hR_a_6, hR_a_7, hR_a_8⟩, by rw [ht]; exact hP, va_K.moved hW.alike hK, hD⟩, hS.F ht⟩) hS.2.2 dX0_addRow_11
theorem dX0_findPreds_0 : decode cX0_findPreds 0 = .ok (.iconst 0, 1) := by decide +kernel
theorem dX0_findPreds_1 : decode cX0_findPreds 1 = .ok (.istore_n 1, 1) := by decide +kernel
theorem dX0_findPreds_2 : decode cX0_findPreds 2 = .ok (.iload_n 1, 1) := by decide +kernel
theorem dX0_findPreds_3 : decode cX0_findPreds 3 = .ok (.aload_n 0, 1) := by decide +kernel
theorem dX0_findPreds_4 : decode cX0_findPreds 4 = .ok (.getfield 9, 3) := by decide +kernel
theorem dX0_findPreds_7 : decode cX0_findPreds 7 = .ok (.if_icmp .gt 16, 3) := by decide +kernel
theorem dX0_findPreds_23 : decode cX0_findPreds 23 = .ok (.iconst 0, 1) := by decide +kernel
theorem dX0_findPreds_24 : decode cX0_findPreds 24 = .ok (.istore_n 1, 1) := by decide +kernel
theorem dX0_findPreds_25 : decode cX0_findPreds 25 = .ok (.iload_n 1, 1) := by decide +kernel
theorem dX0_findPreds_26 : decode cX0_findPreds 26 = .ok (.aload_n 0, 1) := by decide +kernel
theorem dX0_findPreds_27 : decode cX0_findPreds 27 = .ok (.getfield 9, 3) := by decide +kernel
theorem dX0_findPreds_30 : decode cX0_findPreds 30 = .ok (.if_icmp .ge 41, 3) := by decide +kernel
theorem dX0_findPreds_71 : decode cX0_findPreds 71 = .ok (.iconst 0, 1) := by decide +kernel
theorem dX0_findPreds_72 : decode cX0_findPreds 72 = .ok (.istore_n 1, 1) := by decide +kernel
theorem dX0_findPreds_73 : decode cX0_findPreds 73 = .ok (.iconst 0, 1) := by decide +kernel
theorem dX0_findPreds_74 : decode cX0_findPreds 74 = .ok (.istore_n 2, 1) := by decide +kernel
theorem dX0_findPreds_75 : decode cX0_findPreds 75 = .ok (.iload_n 2, 1) := by decide +kernel
theorem dX0_findPreds_76 : decode cX0_findPreds 76 = .ok (.aload_n 0, 1) := by decide +kernel
theorem dX0_findPreds_77 : decode cX0_findPreds 77 = .ok (.getfield 9, 3) := by decide +kernel
theorem dX0_findPreds_80 : decode cX0_findPreds 80 = .ok (.if_icmp .gt 27, 3) := by decide +kernel
theorem dX0_findPreds_107 : decode cX0_findPreds 107 = .ok (.iconst 0, 1) := by decide +kernel
theorem dX0_findPreds_108 : decode cX0_findPreds 108 = .ok (.istore_n 2, 1) := by decide +kernel
theorem dX0_findPreds_109 : decode cX0_findPreds 109 = .ok (.iload_n 2, 1) := by decide +kernel
theorem dX0_findPreds_110 : decode cX0_findPreds 110 = .ok (.aload_n 0, 1) := by decide +kernel
theorem dX0_findPreds_111 : decode cX0_findPreds 111 = .ok (.getfield 9, 3) := by decide +kernel
theorem dX0_findPreds_114 : decode cX0_findPreds 114 = .ok (.if_icmp .ge 58, 3) := by decide +kernel
theorem dX0_findPreds_172 : decode cX0_findPreds 172 = .ok (.aload_n 0, 1) := by decide +kernel
theorem dX0_findPreds_173 : decode cX0_findPreds 173 = .ok (.getfield 9, 3) := by decide +kernel
theorem dX0_findPreds_176 : decode cX0_findPreds 176 = .ok (.istore_n 2, 1) := by decide +kernel
theorem dX0_findPreds_177 : decode cX0_findPreds 177 = .ok (.iload_n 2, 1) := by decide +kernel
theorem dX0_findPreds_178 : decode cX0_findPreds 178 = .ok (.ifCond .le 23, 3) := by decide +kernel
theorem dX0_findPreds_201 : decode cX0_findPreds 201 = .ok (.aload_n 0, 1) := by decide +kernel
theorem dX0_findPreds_202 : decode cX0_findPreds 202 = .ok (.getfield 53, 3) := by decide +kernel
theorem dX0_findPreds_205 : decode cX0_findPreds 205 = .ok (.iconst 0, 1) := by decide +kernel
theorem dX0_findPreds_206 : decode cX0_findPreds 206 = .ok (.iconst 0, 1) := by decide +kernel
theorem dX0_findPreds_207 : decode cX0_findPreds 207 = .ok (.iastore, 1) := by decide +kernel
theorem dX0_findPreds_208 : decode cX0_findPreds 208 = .ok (.return_, 1) := by decide +kernel
theorem dX0_findPreds_181 : decode cX0_findPreds 181 = .ok (.aload_n 0, 1) := by decide +kernel
theorem dX0_findPreds_182 : decode cX0_findPreds 182 = .ok (.getfield 53, 3) := by decide +kernel
theorem dX0_findPreds_185 : decode cX0_findPreds 185 = .ok (.iload_n 2, 1) := by decide +kernel
theorem dX0_findPreds_186 : decode cX0_findPreds 186 = .ok (.aload_n 0, 1) := by decide +kernel
theorem dX0_findPreds_187 : decode cX0_findPreds 187 = .ok (.getfield 53, 3) := by decide +kernel
theorem dX0_findPreds_190 : decode cX0_findPreds 190 = .ok (.iload_n 2, 1) := by decide +kernel
theorem dX0_findPreds_191 : decode cX0_findPreds 191 = .ok (.iconst 1, 1) := by decide +kernel
theorem dX0_findPreds_192 : decode cX0_findPreds 192 = .ok (.isub, 1) := by decide +kernel
theorem dX0_findPreds_193 : decode cX0_findPreds 193 = .ok (.iaload, 1) := by decide +kernel
theorem dX0_findPreds_194 : decode cX0_findPreds 194 = .ok (.iastore, 1) := by decide +kernel
theorem dX0_findPreds_195 : decode cX0_findPreds 195 = .ok (.iinc 2 (-1), 3) := by decide +kernel
theorem dX0_findPreds_198 : decode cX0_findPreds 198 = .ok (.goto (-21), 3) := by decide +kernel
theorem dX0_findPreds_117 : decode cX0_findPreds 117 = .ok (.iconst 0, 1) := by decide +kernel
theorem dX0_findPreds_118 : decode cX0_findPreds 118 = .ok (.istore_n 3, 1) := by decide +kernel
theorem dX0_findPreds_119 : decode cX0_findPreds 119 = .ok (.iload_n 3, 1) := by decide +kernel
theorem dX0_findPreds_120 : decode cX0_findPreds 120 = .ok (.aload_n 0, 1) := by decide +kernel
theorem dX0_findPreds_121 : decode cX0_findPreds 121 = .ok (.iload_n 2, 1) := by decide +kernel
theorem dX0_findPreds_122 : decode cX0_findPreds 122 = .ok (.invokevirtual 89, 3) := by decide +kernel
theorem dX0_findPreds_125 : decode cX0_findPreds 125 = .ok (.if_icmp .ge 41, 3) := by decide +kernel
theorem dX0_findPreds_166 : decode cX0_findPreds 166 = .ok (.iinc 2 1, 3) := by decide +kernel
theorem dX0_findPreds_169 : decode cX0_findPreds 169 = .ok (.goto (-60), 3) := by decide +kernel
theorem dX0_findPreds_128 : decode cX0_findPreds 128 = .ok (.aload_n 0, 1) := by decide +kernel
theorem dX0_findPreds_129 : decode cX0_findPreds 129 = .ok (.iload_n 2, 1) := by decide +kernel
theorem dX0_findPreds_130 : decode cX0_findPreds 130 = .ok (.iload_n 3, 1) := by decide +kernel
theorem dX0_findPreds_131 : decode cX0_findPreds 131 = .ok (.invokevirtual 93, 3) := by decide +kernel
theorem dX0_findPreds_134 : decode cX0_findPreds 134 = .ok (.istore 4, 2) := by decide +kernel
theorem dX0_findPreds_136 : decode cX0_findPreds 136 = .ok (.aload_n 0, 1) := by decide +kernel
theorem dX0_findPreds_137 : decode cX0_findPreds 137 = .ok (.getfield 56, 3) := by decide +kernel
theorem dX0_findPreds_140 : decode cX0_findPreds 140 = .ok (.aload_n 0, 1) := by decide +kernel
theorem dX0_findPreds_141 : decode cX0_findPreds 141 = .ok (.getfield 53, 3) := by decide +kernel
theorem dX0_findPreds_144 : decode cX0_findPreds 144 = .ok (.iload 4, 2) := by decide +kernel
theorem dX0_findPreds_146 : decode cX0_findPreds 146 = .ok (.iaload, 1) := by decide +kernel
theorem dX0_findPreds_147 : decode cX0_findPreds 147 = .ok (.iload_n 2, 1) := by decide +kernel
theorem dX0_findPreds_148 : decode cX0_findPreds 148 = .ok (.iastore, 1) := by decide +kernel
theorem dX0_findPreds_149 : decode cX0_findPreds 149 = .ok (.aload_n 0, 1) := by decide +kernel
theorem dX0_findPreds_150 : decode cX0_findPreds 150 = .ok (.getfield 53, 3) := by decide +kernel
theorem dX0_findPreds_153 : decode cX0_findPreds 153 = .ok (.iload 4, 2) := by decide +kernel
theorem dX0_findPreds_155 : decode cX0_findPreds 155 = .ok (.dup2, 1) := by decide +kernel
theorem dX0_findPreds_156 : decode cX0_findPreds 156 = .ok (.iaload, 1) := by decide +kernel
theorem dX0_findPreds_157 : decode cX0_findPreds 157 = .ok (.iconst 1, 1) := by decide +kernel
theorem dX0_findPreds_158 : decode cX0_findPreds 158 = .ok (.iadd, 1) := by decide +kernel
theorem dX0_findPreds_159 : decode cX0_findPreds 159 = .ok (.iastore, 1) := by decide +kernel
theorem dX0_findPreds_160 : decode cX0_findPreds 160 = .ok (.iinc 3 1, 3) := by decide +kernel
theorem dX0_findPreds_163 : decode cX0_findPreds 163 = .ok (.goto (-44), 3) := by decide +kernel
theorem dX0_findPreds_83 : decode cX0_findPreds 83 = .ok (.aload_n 0, 1) := by decide +kernel
theorem dX0_findPreds_84 : decode cX0_findPreds 84 = .ok (.getfield 53, 3) := by decide +kernel
theorem dX0_findPreds_87 : decode cX0_findPreds 87 = .ok (.iload_n 2, 1) := by decide +kernel
theorem dX0_findPreds_88 : decode cX0_findPreds 88 = .ok (.iaload, 1) := by decide +kernel
theorem dX0_findPreds_89 : decode cX0_findPreds 89 = .ok (.istore_n 3, 1) := by decide +kernel
theorem dX0_findPreds_90 : decode cX0_findPreds 90 = .ok (.aload_n 0, 1) := by decide +kernel
theorem dX0_findPreds_91 : decode cX0_findPreds 91 = .ok (.getfield 53, 3) := by decide +kernel
theorem dX0_findPreds_94 : decode cX0_findPreds 94 = .ok (.iload_n 2, 1) := by decide +kernel
theorem dX0_findPreds_95 : decode cX0_findPreds 95 = .ok (.iload_n 1, 1) := by decide +kernel
theorem dX0_findPreds_96 : decode cX0_findPreds 96 = .ok (.iastore, 1) := by decide +kernel
theorem dX0_findPreds_97 : decode cX0_findPreds 97 = .ok (.iload_n 1, 1) := by decide +kernel
theorem dX0_findPreds_98 : decode cX0_findPreds 98 = .ok (.iload_n 3, 1) := by decide +kernel
theorem dX0_findPreds_99 : decode cX0_findPreds 99 = .ok (.iadd, 1) := by decide +kernel
theorem dX0_findPreds_100 : decode cX0_findPreds 100 = .ok (.istore_n 1, 1) := by decide +kernel
theorem dX0_findPreds_101 : decode cX0_findPreds 101 = .ok (.iinc 2 1, 3) := by decide +kernel
theorem dX0_findPreds_104 : decode cX0_findPreds 104 = .ok (.goto (-29), 3) := by decide +kernel
theorem dX0_findPreds_33 : decode cX0_findPreds 33 = .ok (.iconst 0, 1) := by decide +kernel
theorem dX0_findPreds_34 : decode cX0_findPreds 34 = .ok (.istore_n 2, 1) := by decide +kernel
theorem dX0_findPreds_35 : decode cX0_findPreds 35 = .ok (.iload_n 2, 1) := by decide +kernel
theorem dX0_findPreds_36 : decode cX0_findPreds 36 = .ok (.aload_n 0, 1) := by decide +kernel
theorem dX0_findPreds_37 : decode cX0_findPreds 37 = .ok (.iload_n 1, 1) := by decide +kernel
theorem dX0_findPreds_38 : decode cX0_findPreds 38 = .ok (.invokevirtual 89, 3) := by decide +kernel
theorem dX0_findPreds_41 : decode cX0_findPreds 41 = .ok (.if_icmp .ge 24, 3) := by decide +kernel
theorem dX0_findPreds_65 : decode cX0_findPreds 65 = .ok (.iinc 1 1, 3) := by decide +kernel
theorem dX0_findPreds_68 : decode cX0_findPreds 68 = .ok (.goto (-43), 3) := by decide +kernel
theorem dX0_findPreds_44 : decode cX0_findPreds 44 = .ok (.aload_n 0, 1) := by decide +kernel
theorem dX0_findPreds_45 : decode cX0_findPreds 45 = .ok (.getfield 53, 3) := by decide +kernel
theorem dX0_findPreds_48 : decode cX0_findPreds 48 = .ok (.aload_n 0, 1) := by decide +kernel
theorem dX0_findPreds_49 : decode cX0_findPreds 49 = .ok (.iload_n 1, 1) := by decide +kernel
theorem dX0_findPreds_50 : decode cX0_findPreds 50 = .ok (.iload_n 2, 1) := by decide +kernel
theorem dX0_findPreds_51 : decode cX0_findPreds 51 = .ok (.invokevirtual 93, 3) := by decide +kernel
theorem dX0_findPreds_54 : decode cX0_findPreds 54 = .ok (.dup2, 1) := by decide +kernel
theorem dX0_findPreds_55 : decode cX0_findPreds 55 = .ok (.iaload, 1) := by decide +kernel
theorem dX0_findPreds_56 : decode cX0_findPreds 56 = .ok (.iconst 1, 1) := by decide +kernel
theorem dX0_findPreds_57 : decode cX0_findPreds 57 = .ok (.iadd, 1) := by decide +kernel
theorem dX0_findPreds_58 : decode cX0_findPreds 58 = .ok (.iastore, 1) := by decide +kernel
theorem dX0_findPreds_59 : decode cX0_findPreds 59 = .ok (.iinc 2 1, 3) := by decide +kernel
theorem dX0_findPreds_62 : decode cX0_findPreds 62 = .ok (.goto (-27), 3) := by decide +kernel
theorem dX0_findPreds_10 : decode cX0_findPreds 10 = .ok (.aload_n 0, 1) := by decide +kernel
theorem dX0_findPreds_11 : decode cX0_findPreds 11 = .ok (.getfield 53, 3) := by decide +kernel
theorem dX0_findPreds_14 : decode cX0_findPreds 14 = .ok (.iload_n 1, 1) := by decide +kernel
theorem dX0_findPreds_15 : decode cX0_findPreds 15 = .ok (.iconst 0, 1) := by decide +kernel
theorem dX0_findPreds_16 : decode cX0_findPreds 16 = .ok (.iastore, 1) := by decide +kernel
theorem dX0_findPreds_17 : decode cX0_findPreds 17 = .ok (.iinc 1 1, 3) := by decide +kernel
theorem dX0_findPreds_20 : decode cX0_findPreds 20 = .ok (.goto (-18), 3) := by decide +kernel
def o_X0_findPreds : List Cond := [.fieldLink RX0 9 "SsaForge$Code" "blocks" "I", .fieldLink RX0 53 "SsaForge$Code" "predStart" "[I", .methodLink RX0 89 yX0_goalCount, .instanceMethod yX0_goalCount, .selects RX0 yX0_goalCount yX0_goalCount, .initialized RX0, .methodLink RX0 93 yX0_goal, .instanceMethod yX0_goal, .selects RX0 yX0_goal yX0_goal, .fieldLink RX0 56 "SsaForge$Code" "preds" "[I"]
def v_X0_findPreds : List Cond := .code yX0_findPreds cX0_findPreds 5 none :: (o_X0_findPreds ++ (wsX00 ++ (v_X0_goalCount ++ (v_X0_goal ++ []))))
theorem mow_X0_findPreds : ∀ w ∈ o_X0_findPreds, w ∈ v_X0_findPreds := fun _ h => List.mem_cons_of_mem _ (List.mem_append_left _ h)
theorem mem_X0_findPreds_0 : ∀ w ∈ wsX00, w ∈ v_X0_findPreds := fun _ h => List.mem_cons_of_mem _ (List.mem_append_right _ (List.mem_append_left _ h))
theorem mem_X0_findPreds_1 : ∀ w ∈ v_X0_goalCount, w ∈ v_X0_findPreds := fun _ h => List.mem_cons_of_mem _ (List.mem_append_right _ (List.mem_append_right _ (List.mem_append_left _ h)))
theorem mem_X0_findPreds_2 : ∀ w ∈ v_X0_goal, w ∈ v_X0_findPreds := fun _ h => List.mem_cons_of_mem _ (List.mem_append_right _ (List.mem_append_right _ (List.mem_append_right _ (List.mem_append_left _ h))))
set_option maxRecDepth 20000 in
theorem gw_X0_findPreds : v_X0_findPreds.all goodWord = true := by decide +kernel
set_option maxRecDepth 20000 in
theorem g_X0_findPreds_X0_goalCount : GoodIn v_X0_findPreds (wsV RX0 89 RX0 yX0_goalCount v_X0_goalCount) := goodIn_app (goodIn_sub (fun w h => mow_X0_findPreds w (by revert w h; decide +kernel)) (by decide +kernel)) (goodIn_sub mem_X0_findPreds_1 gw_X0_goalCount)
set_option maxRecDepth 20000 in
theorem g_X0_findPreds_X0_goal : GoodIn v_X0_findPreds (wsV RX0 93 RX0 yX0_goal v_X0_goal) := goodIn_app (goodIn_sub (fun w h => mow_X0_findPreds w (by revert w h; decide +kernel)) (by decide +kernel)) (goodIn_sub mem_X0_findPreds_2 gw_X0_goal)
set_option maxHeartbeats 4000000 in
set_option maxRecDepth 100000 in
theorem c_X0_findPreds (l : Launch) (dC : Nat → ClassId) (dI : Nat → Nat → Nat) (h0 : Nat) (B1 : Int) (v_1 : Value) (v_2 : Value) (v_3 : Value) (v_4 : Value) (v_5 : Value) (v_6 : Value) (v_7 : Value) (v_8 : Value) (q_709 : Nat) (cA_709 : ClassId) (a_9 : Int → Int) (v_10 : Value) (q_711 : Nat) (cA_711 : ClassId) (a_11 : Int → Int) (q_712 : Nat) (cA_712 : ClassId) (a_12 : Int → Int) (q_713 : Nat) (cA_713 : ClassId) (a_13 : Int → Int) (q_714 : Nat) (cA_714 : ClassId) (a_14 : Int → Int) (v_15 : Value) (v_16 : Value) (v_17 : Value) (v_18 : Value) (hNB1 : 0 ≤ B1 ∧ B1 ≤ 300) (hR_a_9 : ∀ j : Int, 0 ≤ a_9 j ∧ a_9 j ≤ 2) (hR_a_11 : ∀ j : Int, 0 ≤ a_11 j ∧ a_11 j ≤ 299) (hR_a_12 : ∀ j : Int, 0 ≤ a_12 j ∧ a_12 j ≤ 299) (hR_a_13 : ∀ j : Int, 0 ≤ a_13 j ∧ a_13 j ≤ 600) (hR_a_14 : ∀ j : Int, 0 ≤ a_14 j ∧ a_14 j ≤ 299) (hX_G : ∀ b : Int, 0 ≤ b → b < B1 → ¬ a_9 b = 2 → a_11 b < B1 ∧ a_12 b < B1) (sz : Nat) : Met l yX0_findPreds v_X0_findPreds ({ frames := 1, cells := 0, slots := 0, locals := 22 }) (va_Pc [.ref h0] (fun U => U.heap.size = sz ∧ va_P (dC, dI) vwP [(h0, .inr (0, [.int (zI (B1)), v_1, v_2, v_3, v_4, v_5, v_6, v_7, v_8, .ref q_709, v_10, .ref q_711, .ref q_712, .ref q_713, .ref q_714, v_15, v_16, v_17, v_18])), (q_709, .inl (cA_709, 300, .inl (fun j : Nat => zI (a_9 (j : Int))))), (q_711, .inl (cA_711, 300, .inl (fun j : Nat => zI (a_11 (j : Int))))), (q_712, .inl (cA_712, 300, .inl (fun j : Nat => zI (a_12 (j : Int))))), (q_713, .inl (cA_713, 301, .inl (fun j : Nat => zI (a_13 (j : Int))))), (q_714, .inl (cA_714, 600, .inl (fun j : Nat => zI (a_14 (j : Int)))))] U.heap ∧ va_K (dC, dI) vwP [(cA_709, .int), (cA_711, .int), (cA_712, .int), (cA_713, .int), (cA_714, .int)] U ∧ va_D (fun _ => True) [(h0, .inr (0, [.int (zI (B1)), v_1, v_2, v_3, v_4, v_5, v_6, v_7, v_8, .ref q_709, v_10, .ref q_711, .ref q_712, .ref q_713, .ref q_714, v_15, v_16, v_17, v_18])), (q_709, .inl (cA_709, 300, .inl (fun j : Nat => zI (a_9 (j : Int))))), (q_711, .inl (cA_711, 300, .inl (fun j : Nat => zI (a_11 (j : Int))))), (q_712, .inl (cA_712, 300, .inl (fun j : Nat => zI (a_12 (j : Int))))), (q_713, .inl (cA_713, 301, .inl (fun j : Nat => zI (a_13 (j : Int))))), (q_714, .inl (cA_714, 600, .inl (fun j : Nat => zI (a_14 (j : Int)))))])) (va_Qv (fun _ : Unit => True) (fun (_ : Unit) (t : State) => ∃ (a0_9 : Int → Int) (a1_9 : Int → Int), ((∀ j : Int, 0 ≤ a0_9 j ∧ a0_9 j ≤ 600) ∧ (∀ j : Int, 0 ≤ a1_9 j ∧ a1_9 j ≤ 299)) ∧ va_P (dC, dI) vwP [(h0, .inr (0, [.int (zI (B1)), v_1, v_2, v_3, v_4, v_5, v_6, v_7, v_8, .ref q_709, v_10, .ref q_711, .ref q_712, .ref q_713, .ref q_714, v_15, v_16, v_17, v_18])), (q_709, .inl (cA_709, 300, .inl (fun j : Nat => zI (a_9 (j : Int))))), (q_711, .inl (cA_711, 300, .inl (fun j : Nat => zI (a_11 (j : Int))))), (q_712, .inl (cA_712, 300, .inl (fun j : Nat => zI (a_12 (j : Int))))), (q_713, .inl (cA_713, 301, .inl (fun j : Nat => zI (a0_9 (j : Int))))), (q_714, .inl (cA_714, 600, .inl (fun j : Nat => zI (a1_9 (j : Int)))))] t.heap ∧ va_K (dC, dI) vwP [(cA_709, .int), (cA_711, .int), (cA_712, .int), (cA_713, .int), (cA_714, .int)] t ∧ va_D (va_A [(h0, .inr (0, [.int (zI (B1)), v_1, v_2, v_3, v_4, v_5, v_6, v_7, v_8, .ref q_709, v_10, .ref q_711, .ref q_712, .ref q_713, .ref q_714, v_15, v_16, v_17, v_18])), (q_709, .inl (cA_709, 300, .inl (fun j : Nat => zI (a_9 (j : Int))))), (q_711, .inl (cA_711, 300, .inl (fun j : Nat => zI (a_11 (j : Int))))), (q_712, .inl (cA_712, 300, .inl (fun j : Nat => zI (a_12 (j : Int))))), (q_713, .inl (cA_713, 301, .inl (fun j : Nat => zI (a_13 (j : Int))))), (q_714, .inl (cA_714, 600, .inl (fun j : Nat => zI (a_14 (j : Int)))))] sz) [(h0, .inr (0, [.int (zI (B1)), v_1, v_2, v_3, v_4, v_5, v_6, v_7, v_8, .ref q_709, v_10, .ref q_711, .ref q_712, .ref q_713, .ref q_714, v_15, v_16, v_17, v_18])), (q_709, .inl (cA_709, 300, .inl (fun j : Nat => zI (a_9 (j : Int))))), (q_711, .inl (cA_711, 300, .inl (fun j : Nat => zI (a_11 (j : Int))))), (q_712, .inl (cA_712, 300, .inl (fun j : Nat => zI (a_12 (j : Int))))), (q_713, .inl (cA_713, 301, .inl (fun j : Nat => zI (a0_9 (j : Int))))), (q_714, .inl (cA_714, 600, .inl (fun j : Nat => zI (a1_9 (j : Int)))))]) (va_A [(h0, .inr (0, [.int (zI (B1)), v_1, v_2, v_3, v_4, v_5, v_6, v_7, v_8, .ref q_709, v_10, .ref q_711, .ref q_712, .ref q_713, .ref q_714, v_15, v_16, v_17, v_18])), (q_709, .inl (cA_709, 300, .inl (fun j : Nat => zI (a_9 (j : Int))))), (q_711, .inl (cA_711, 300, .inl (fun j : Nat => zI (a_11 (j : Int))))), (q_712, .inl (cA_712, 300, .inl (fun j : Nat => zI (a_12 (j : Int))))), (q_713, .inl (cA_713, 301, .inl (fun j : Nat => zI (a_13 (j : Int))))), (q_714, .inl (cA_714, 600, .inl (fun j : Nat => zI (a_14 (j : Int)))))] sz)) 0 0 (va_A [(h0, .inr (0, [.int (zI (B1)), v_1, v_2, v_3, v_4, v_5, v_6, v_7, v_8, .ref q_709, v_10, .ref q_711, .ref q_712, .ref q_713, .ref q_714, v_15, v_16, v_17, v_18])), (q_709, .inl (cA_709, 300, .inl (fun j : Nat => zI (a_9 (j : Int))))), (q_711, .inl (cA_711, 300, .inl (fun j : Nat => zI (a_11 (j : Int))))), (q_712, .inl (cA_712, 300, .inl (fun j : Nat => zI (a_12 (j : Int))))), (q_713, .inl (cA_713, 301, .inl (fun j : Nat => zI (a_13 (j : Int))))), (q_714, .inl (cA_714, 600, .inl (fun j : Nat => zI (a_14 (j : Int)))))] sz) := by
  refine Met.ofW (cc := cX0_findPreds) (maxL := 5) (ret := none) (by decide) rfl ?_
  intro p e s m args below meth c s₁ B hml hv
  obtain ⟨rfl, hsz, hP, hK, hD0⟩ := hv
  have hx := B.exec
  have hb := B.bytes
  have hr := B.returns
  have hts := atoms_spec (ws := v_X0_findPreds) B.pre
  have hown : s.vm.findClass RX0 = some m.cls := findClass_of_methodNamed B.named
  have hlocks := B.notSynchronized
  have ow : ∀ {k : Nat} {w : Cond}, o_X0_findPreds[k]? = some w → w.before ([.ref h0] : List Value).toArray s = true := fun h => hts _ (mow_X0_findPreds _ (List.mem_of_getElem? h))
  subst hsz
  have hD := hD0.self (sz := s.heap.size)
  generalize hAe : va_A [(h0, .inr (0, [.int (zI (B1)), v_1, v_2, v_3, v_4, v_5, v_6, v_7, v_8, .ref q_709, v_10, .ref q_711, .ref q_712, .ref q_713, .ref q_714, v_15, v_16, v_17, v_18])), (q_709, .inl (cA_709, 300, .inl (fun j : Nat => zI (a_9 (j : Int))))), (q_711, .inl (cA_711, 300, .inl (fun j : Nat => zI (a_11 (j : Int))))), (q_712, .inl (cA_712, 300, .inl (fun j : Nat => zI (a_12 (j : Int))))), (q_713, .inl (cA_713, 301, .inl (fun j : Nat => zI (a_13 (j : Int))))), (q_714, .inl (cA_714, 600, .inl (fun j : Nat => zI (a_14 (j : Int)))))] s.heap.size = A at hD ⊢
  have hA : ∀ q : Nat, s.heap.size ≤ q → A q := fun q h => by rw [← hAe]; exact Or.inr h
  have hS : va_S A s.heap s.heap [] := va_S.rf
  have hP : va_P (dC, dI) vwP [(h0, .inr (0, [.int (zI (B1)), v_1, v_2, v_3, v_4, v_5, v_6, v_7, v_8, .ref q_709, v_10, .ref q_711, .ref q_712, .ref q_713, .ref q_714, v_15, v_16, v_17, v_18])), (q_709, .inl (cA_709, 300, .inl (fun j : Nat => zI (a_9 (j : Int))))), (q_711, .inl (cA_711, 300, .inl (fun j : Nat => zI (a_11 (j : Int))))), (q_712, .inl (cA_712, 300, .inl (fun j : Nat => zI (a_12 (j : Int))))), (q_713, .inl (cA_713, 301, .inl (fun j : Nat => zI (a_13 (j : Int))))), (q_714, .inl (cA_714, 600, .inl (fun j : Nat => zI (a_14 (j : Int)))))] s.heap := hP
  have hl := lv_entry ([.ref h0]) (n := 5) (Nat.le_of_ble_eq_true rfl)
  rw [lg_entry_eq]
  generalize (lg_sl ([.ref h0]) ++ List.replicate (5 - (lg_sl ([.ref h0])).length) Slot.unset).toArray = ls at hl ⊢
  have hl : lv_has ls 5 [(0, .ref h0)] := hl
  obtain ⟨H, hH⟩ : ∃ H, H = s.heap := ⟨_, rfl⟩
  rw [← hH] at hP
  have hS : va_S A s.heap H [] := by rw [hH]; exact hS
  rw [← hH]
  refine zW_cap (fun Q hQ => ?_)
  refine lv_iconst (v := 0) hx hb dX0_findPreds_0 (by decide) ?_
  refine lv_istore_n (lv' := [(1, .int 0), (0, .ref h0)]) hx hb dX0_findPreds_1 rfl hl (by decide) rfl (fun ls hl => ?_)
  have key2 : ∀ n2 : Nat, ∀ (i : Int) (w : Int → Int) (ls : Array Slot) (H : Heap) (locs : List Loc), (∀ j : Int, 0 ≤ w j ∧ w j ≤ 600) → (0 ≤ i ∧ i ≤ B1 + 1) → (∀ j : Int, 0 ≤ j → j < i → w j = 0) → ((B1 + 1 - i : Int).toNat) < n2 → lv_has ls 5 [(0, .ref h0), (1, .int (zI (i)))] → va_P (dC, dI) vwP [(h0, .inr (0, [.int (zI (B1)), v_1, v_2, v_3, v_4, v_5, v_6, v_7, v_8, .ref q_709, v_10, .ref q_711, .ref q_712, .ref q_713, .ref q_714, v_15, v_16, v_17, v_18])), (q_709, .inl (cA_709, 300, .inl (fun j : Nat => zI (a_9 (j : Int))))), (q_711, .inl (cA_711, 300, .inl (fun j : Nat => zI (a_11 (j : Int))))), (q_712, .inl (cA_712, 300, .inl (fun j : Nat => zI (a_12 (j : Int))))), (q_713, .inl (cA_713, 301, .inl (fun j : Nat => zI (w (j : Int))))), (q_714, .inl (cA_714, 600, .inl (fun j : Nat => zI (a_14 (j : Int)))))] H → va_D A [(h0, .inr (0, [.int (zI (B1)), v_1, v_2, v_3, v_4, v_5, v_6, v_7, v_8, .ref q_709, v_10, .ref q_711, .ref q_712, .ref q_713, .ref q_714, v_15, v_16, v_17, v_18])), (q_709, .inl (cA_709, 300, .inl (fun j : Nat => zI (a_9 (j : Int))))), (q_711, .inl (cA_711, 300, .inl (fun j : Nat => zI (a_11 (j : Int))))), (q_712, .inl (cA_712, 300, .inl (fun j : Nat => zI (a_12 (j : Int))))), (q_713, .inl (cA_713, 301, .inl (fun j : Nat => zI (w (j : Int))))), (q_714, .inl (cA_714, 600, .inl (fun j : Nat => zI (a_14 (j : Int)))))] → va_S A s.heap H locs → W p l e (headSpec v_X0_findPreds ({ frames := 1, cells := 0, slots := 0, locals := 22 })).room s m ([.ref h0] : List Value).toArray below meth c H locs 0 0 Q (F0 m 2 ls []) := by
    intro n2
    induction n2 with
    | zero => intro i w ls H locs jw ji jW hm2; exact absurd hm2 (by omega)
    | succ n2 ih2 =>
      intro i w ls H locs jw ji jW hm2 hl hP hD hS
      refine lv_iload_n hx hb dX0_findPreds_2 rfl (lv_at hl 1 rfl) ?_
      refine lv_aload_n hx hb dX0_findPreds_3 rfl (lv_at hl 0 rfl) ?_
      refine va_get (D := (dC, dI)) (ci := 0) (v := .int (zI (B1))) (C := RX0) (T := TX0) (N := 19) hx hb hts mem_X0_findPreds_0 hown hK hP 0 rfl rfl 0 (by decide) (ow (k := 0) rfl) (fun _ h9 => h9) rfl dX0_findPreds_4 ?_
      refine lv_icmp_gt (tgt := 23) hx hb dX0_findPreds_7 (by decide) (fun b7 => ?_) (fun b7 => ?_)
      · have yb7 : (B1 : Int) < (i : Int) := (zI_lt (a := B1) (b := i) (by omega) (by omega) (by omega) (by omega)).mp b7
        refine lv_iconst (v := 0) hx hb dX0_findPreds_23 (by decide) ?_
        refine lv_istore_n (lv' := [(1, .int 0), (0, .ref h0)]) hx hb dX0_findPreds_24 rfl hl (by decide) rfl (fun ls hl => ?_)
        have key25 : ∀ n25 : Nat, ∀ (b : Int) (w : Int → Int) (ls : Array Slot) (H : Heap) (locs : List Loc), (∀ j : Int, 0 ≤ w j ∧ w j ≤ 600) → (0 ≤ b ∧ b ≤ B1) → (∀ j : Int, 0 ≤ j → j ≤ B1 → w j = 0 + cn a_9 a_11 a_12 j b.toNat) → ((B1 - b : Int).toNat) < n25 → lv_has ls 5 [(0, .ref h0), (1, .int (zI (b)))] → va_P (dC, dI) vwP [(h0, .inr (0, [.int (zI (B1)), v_1, v_2, v_3, v_4, v_5, v_6, v_7, v_8, .ref q_709, v_10, .ref q_711, .ref q_712, .ref q_713, .ref q_714, v_15, v_16, v_17, v_18])), (q_709, .inl (cA_709, 300, .inl (fun j : Nat => zI (a_9 (j : Int))))), (q_711, .inl (cA_711, 300, .inl (fun j : Nat => zI (a_11 (j : Int))))), (q_712, .inl (cA_712, 300, .inl (fun j : Nat => zI (a_12 (j : Int))))), (q_713, .inl (cA_713, 301, .inl (fun j : Nat => zI (w (j : Int))))), (q_714, .inl (cA_714, 600, .inl (fun j : Nat => zI (a_14 (j : Int)))))] H → va_D A [(h0, .inr (0, [.int (zI (B1)), v_1, v_2, v_3, v_4, v_5, v_6, v_7, v_8, .ref q_709, v_10, .ref q_711, .ref q_712, .ref q_713, .ref q_714, v_15, v_16, v_17, v_18])), (q_709, .inl (cA_709, 300, .inl (fun j : Nat => zI (a_9 (j : Int))))), (q_711, .inl (cA_711, 300, .inl (fun j : Nat => zI (a_11 (j : Int))))), (q_712, .inl (cA_712, 300, .inl (fun j : Nat => zI (a_12 (j : Int))))), (q_713, .inl (cA_713, 301, .inl (fun j : Nat => zI (w (j : Int))))), (q_714, .inl (cA_714, 600, .inl (fun j : Nat => zI (a_14 (j : Int)))))] → va_S A s.heap H locs → W p l e (headSpec v_X0_findPreds ({ frames := 1, cells := 0, slots := 0, locals := 22 })).room s m ([.ref h0] : List Value).toArray below meth c H locs 0 0 Q (F0 m 25 ls []) := by
          intro n25
          induction n25 with
          | zero => intro b w ls H locs jw jb jW hm25; exact absurd hm25 (by omega)
          | succ n25 ih25 =>
            intro b w ls H locs jw jb jW hm25 hl hP hD hS
            refine lv_iload_n hx hb dX0_findPreds_25 rfl (lv_at hl 1 rfl) ?_
            refine lv_aload_n hx hb dX0_findPreds_26 rfl (lv_at hl 0 rfl) ?_
            refine va_get (D := (dC, dI)) (ci := 0) (v := .int (zI (B1))) (C := RX0) (T := TX0) (N := 19) hx hb hts mem_X0_findPreds_0 hown hK hP 0 rfl rfl 0 (by decide) (ow (k := 0) rfl) (fun _ h9 => h9) rfl dX0_findPreds_27 ?_
            refine lv_icmp_ge (tgt := 71) hx hb dX0_findPreds_30 (by decide) (fun b30 => ?_) (fun b30 => ?_)
            · have yb30 : (B1 : Int) ≤ (b : Int) := (zI_le (a := B1) (b := b) (by omega) (by omega) (by omega) (by omega)).mp b30
              refine lv_iconst (v := 0) hx hb dX0_findPreds_71 (by decide) ?_
              refine lv_istore_n (lv' := [(1, .int 0), (0, .ref h0)]) hx hb dX0_findPreds_72 rfl hl (by decide) rfl (fun ls hl => ?_)
              refine lv_iconst (v := 0) hx hb dX0_findPreds_73 (by decide) ?_
              refine lv_istore_n (lv' := [(2, .int 0), (1, .int 0), (0, .ref h0)]) hx hb dX0_findPreds_74 rfl hl (by decide) rfl (fun ls hl => ?_)
              have key75 : ∀ n75 : Nat, ∀ (S : Int) (b : Int) (w : Int → Int) (ls : Array Slot) (H : Heap) (locs : List Loc), (∀ j : Int, 0 ≤ w j ∧ w j ≤ 600) → (0 ≤ b ∧ b ≤ B1 + 1) → (S = psF a_9 a_11 a_12 B1.toNat b.toNat) → (∀ j : Int, 0 ≤ j → j < b → w j = psF a_9 a_11 a_12 B1.toNat j.toNat) → (∀ j : Int, b ≤ j → j ≤ B1 → w j = cn a_9 a_11 a_12 j B1.toNat) → ((B1 + 1 - b : Int).toNat) < n75 → lv_has ls 5 [(0, .ref h0), (1, .int (zI (S))), (2, .int (zI (b)))] → va_P (dC, dI) vwP [(h0, .inr (0, [.int (zI (B1)), v_1, v_2, v_3, v_4, v_5, v_6, v_7, v_8, .ref q_709, v_10, .ref q_711, .ref q_712, .ref q_713, .ref q_714, v_15, v_16, v_17, v_18])), (q_709, .inl (cA_709, 300, .inl (fun j : Nat => zI (a_9 (j : Int))))), (q_711, .inl (cA_711, 300, .inl (fun j : Nat => zI (a_11 (j : Int))))), (q_712, .inl (cA_712, 300, .inl (fun j : Nat => zI (a_12 (j : Int))))), (q_713, .inl (cA_713, 301, .inl (fun j : Nat => zI (w (j : Int))))), (q_714, .inl (cA_714, 600, .inl (fun j : Nat => zI (a_14 (j : Int)))))] H → va_D A [(h0, .inr (0, [.int (zI (B1)), v_1, v_2, v_3, v_4, v_5, v_6, v_7, v_8, .ref q_709, v_10, .ref q_711, .ref q_712, .ref q_713, .ref q_714, v_15, v_16, v_17, v_18])), (q_709, .inl (cA_709, 300, .inl (fun j : Nat => zI (a_9 (j : Int))))), (q_711, .inl (cA_711, 300, .inl (fun j : Nat => zI (a_11 (j : Int))))), (q_712, .inl (cA_712, 300, .inl (fun j : Nat => zI (a_12 (j : Int))))), (q_713, .inl (cA_713, 301, .inl (fun j : Nat => zI (w (j : Int))))), (q_714, .inl (cA_714, 600, .inl (fun j : Nat => zI (a_14 (j : Int)))))] → va_S A s.heap H locs → W p l e (headSpec v_X0_findPreds ({ frames := 1, cells := 0, slots := 0, locals := 22 })).room s m ([.ref h0] : List Value).toArray below meth c H locs 0 0 Q (F0 m 75 ls []) := by
                intro n75
                induction n75 with
                | zero => intro S b w ls H locs jw jb jS jW jV hm75; exact absurd hm75 (by omega)
                | succ n75 ih75 =>
                  intro S b w ls H locs jw jb jS jW jV hm75 hl hP hD hS
                  refine lv_iload_n hx hb dX0_findPreds_75 rfl (lv_at hl 2 rfl) ?_
                  refine lv_aload_n hx hb dX0_findPreds_76 rfl (lv_at hl 0 rfl) ?_
                  refine va_get (D := (dC, dI)) (ci := 0) (v := .int (zI (B1))) (C := RX0) (T := TX0) (N := 19) hx hb hts mem_X0_findPreds_0 hown hK hP 0 rfl rfl 0 (by decide) (ow (k := 0) rfl) (fun _ h9 => h9) rfl dX0_findPreds_77 ?_
                  refine lv_icmp_gt (tgt := 107) hx hb dX0_findPreds_80 (by decide) (fun b80 => ?_) (fun b80 => ?_)
                  · have yb80 : (B1 : Int) < (b : Int) := (zI_lt (a := B1) (b := b) (by omega) (by omega) (by omega) (by omega)).mp b80
                    refine lv_iconst (v := 0) hx hb dX0_findPreds_107 (by decide) ?_
                    refine lv_istore_n (lv' := [(2, .int 0), (0, .ref h0), (1, .int (zI (S)))]) hx hb dX0_findPreds_108 rfl hl (by decide) rfl (fun ls hl => ?_)
                    have key109 : ∀ n109 : Nat, ∀ (b : Int) (w : Int → Int) (uu : Int → Int) (ls : Array Slot) (H : Heap) (locs : List Loc), (∀ j : Int, 0 ≤ w j ∧ w j ≤ 600) → (∀ j : Int, 0 ≤ uu j ∧ uu j ≤ 299) → (0 ≤ b ∧ b ≤ B1) → (∀ j : Int, 0 ≤ j → j ≤ B1 → w j = psF a_9 a_11 a_12 B1.toNat j.toNat + cn a_9 a_11 a_12 j b.toNat) → ((B1 - b : Int).toNat) < n109 → lv_has ls 5 [(0, .ref h0), (2, .int (zI (b)))] → va_P (dC, dI) vwP [(h0, .inr (0, [.int (zI (B1)), v_1, v_2, v_3, v_4, v_5, v_6, v_7, v_8, .ref q_709, v_10, .ref q_711, .ref q_712, .ref q_713, .ref q_714, v_15, v_16, v_17, v_18])), (q_709, .inl (cA_709, 300, .inl (fun j : Nat => zI (a_9 (j : Int))))), (q_711, .inl (cA_711, 300, .inl (fun j : Nat => zI (a_11 (j : Int))))), (q_712, .inl (cA_712, 300, .inl (fun j : Nat => zI (a_12 (j : Int))))), (q_713, .inl (cA_713, 301, .inl (fun j : Nat => zI (w (j : Int))))), (q_714, .inl (cA_714, 600, .inl (fun j : Nat => zI (uu (j : Int)))))] H → va_D A [(h0, .inr (0, [.int (zI (B1)), v_1, v_2, v_3, v_4, v_5, v_6, v_7, v_8, .ref q_709, v_10, .ref q_711, .ref q_712, .ref q_713, .ref q_714, v_15, v_16, v_17, v_18])), (q_709, .inl (cA_709, 300, .inl (fun j : Nat => zI (a_9 (j : Int))))), (q_711, .inl (cA_711, 300, .inl (fun j : Nat => zI (a_11 (j : Int))))), (q_712, .inl (cA_712, 300, .inl (fun j : Nat => zI (a_12 (j : Int))))), (q_713, .inl (cA_713, 301, .inl (fun j : Nat => zI (w (j : Int))))), (q_714, .inl (cA_714, 600, .inl (fun j : Nat => zI (uu (j : Int)))))] → va_S A s.heap H locs → W p l e (headSpec v_X0_findPreds ({ frames := 1, cells := 0, slots := 0, locals := 22 })).room s m ([.ref h0] : List Value).toArray below meth c H locs 0 0 Q (F0 m 109 ls []) := by
                      intro n109
                      induction n109 with
                      | zero => intro b w uu ls H locs jw ju jb jW hm109; exact absurd hm109 (by omega)
                      | succ n109 ih109 =>
                        intro b w uu ls H locs jw ju jb jW hm109 hl hP hD hS
                        refine lv_iload_n hx hb dX0_findPreds_109 rfl (lv_at hl 1 rfl) ?_
                        refine lv_aload_n hx hb dX0_findPreds_110 rfl (lv_at hl 0 rfl) ?_
                        refine va_get (D := (dC, dI)) (ci := 0) (v := .int (zI (B1))) (C := RX0) (T := TX0) (N := 19) hx hb hts mem_X0_findPreds_0 hown hK hP 0 rfl rfl 0 (by decide) (ow (k := 0) rfl) (fun _ h9 => h9) rfl dX0_findPreds_111 ?_
                        refine lv_icmp_ge (tgt := 172) hx hb dX0_findPreds_114 (by decide) (fun b114 => ?_) (fun b114 => ?_)
                        · have yb114 : (B1 : Int) ≤ (b : Int) := (zI_le (a := B1) (b := b) (by omega) (by omega) (by omega) (by omega)).mp b114
                          refine lv_aload_n hx hb dX0_findPreds_172 rfl (lv_at hl 0 rfl) ?_
                          refine va_get (D := (dC, dI)) (ci := 0) (v := .int (zI (B1))) (C := RX0) (T := TX0) (N := 19) hx hb hts mem_X0_findPreds_0 hown hK hP 0 rfl rfl 0 (by decide) (ow (k := 0) rfl) (fun _ h9 => h9) rfl dX0_findPreds_173 ?_
                          refine lv_istore_n (lv' := [(2, .int (zI (B1))), (0, .ref h0)]) hx hb dX0_findPreds_176 rfl hl (by decide) rfl (fun ls hl => ?_)
                          have key177 : ∀ n177 : Nat, ∀ (b : Int) (w : Int → Int) (ls : Array Slot) (H : Heap) (locs : List Loc), (∀ j : Int, 0 ≤ w j ∧ w j ≤ 600) → (0 ≤ b ∧ b ≤ B1) → (∀ j : Int, b < j → j ≤ B1 → w j = psF a_9 a_11 a_12 B1.toNat j.toNat) → (∀ j : Int, 0 ≤ j → j ≤ b → w j = psF a_9 a_11 a_12 B1.toNat j.toNat + cn a_9 a_11 a_12 j B1.toNat) → ((b : Int).toNat) < n177 → lv_has ls 5 [(0, .ref h0), (2, .int (zI (b)))] → va_P (dC, dI) vwP [(h0, .inr (0, [.int (zI (B1)), v_1, v_2, v_3, v_4, v_5, v_6, v_7, v_8, .ref q_709, v_10, .ref q_711, .ref q_712, .ref q_713, .ref q_714, v_15, v_16, v_17, v_18])), (q_709, .inl (cA_709, 300, .inl (fun j : Nat => zI (a_9 (j : Int))))), (q_711, .inl (cA_711, 300, .inl (fun j : Nat => zI (a_11 (j : Int))))), (q_712, .inl (cA_712, 300, .inl (fun j : Nat => zI (a_12 (j : Int))))), (q_713, .inl (cA_713, 301, .inl (fun j : Nat => zI (w (j : Int))))), (q_714, .inl (cA_714, 600, .inl (fun j : Nat => zI (uu (j : Int)))))] H → va_D A [(h0, .inr (0, [.int (zI (B1)), v_1, v_2, v_3, v_4, v_5, v_6, v_7, v_8, .ref q_709, v_10, .ref q_711, .ref q_712, .ref q_713, .ref q_714, v_15, v_16, v_17, v_18])), (q_709, .inl (cA_709, 300, .inl (fun j : Nat => zI (a_9 (j : Int))))), (q_711, .inl (cA_711, 300, .inl (fun j : Nat => zI (a_11 (j : Int))))), (q_712, .inl (cA_712, 300, .inl (fun j : Nat => zI (a_12 (j : Int))))), (q_713, .inl (cA_713, 301, .inl (fun j : Nat => zI (w (j : Int))))), (q_714, .inl (cA_714, 600, .inl (fun j : Nat => zI (uu (j : Int)))))] → va_S A s.heap H locs → W p l e (headSpec v_X0_findPreds ({ frames := 1, cells := 0, slots := 0, locals := 22 })).room s m ([.ref h0] : List Value).toArray below meth c H locs 0 0 Q (F0 m 177 ls []) := by
                            intro n177
                            induction n177 with
                            | zero => intro b w ls H locs jw jb jW jV hm177; exact absurd hm177 (by omega)
                            | succ n177 ih177 =>
                              intro b w ls H locs jw jb jW jV hm177 hl hP hD hS
                              refine lv_iload_n hx hb dX0_findPreds_177 rfl (lv_at hl 1 rfl) ?_
                              refine lv_if_le (tgt := 201) hx hb dX0_findPreds_178 (by decide) (fun b178 => ?_) (fun b178 => ?_)
                              · have yb178 : (b : Int) ≤ (0 : Int) := (zI_le (a := b) (b := 0) (by omega) (by omega) (by omega) (by omega)).mp b178
                                refine lv_aload_n hx hb dX0_findPreds_201 rfl (lv_at hl 0 rfl) ?_
                                refine va_get (D := (dC, dI)) (ci := 0) (v := .ref q_713) (C := RX0) (T := TX0) (N := 19) hx hb hts mem_X0_findPreds_0 hown hK hP 0 rfl rfl 13 (by decide) (ow (k := 1) rfl) (fun _ h9 => h9) rfl dX0_findPreds_202 ?_
                                refine lv_iconst (v := 0) hx hb dX0_findPreds_205 (by decide) ?_
                                refine lv_iconst (v := 0) hx hb dX0_findPreds_206 (by decide) ?_
                                refine va_iast (i := zI (0)) hx hb hK hP hD hS 4 3 rfl rfl (zI_in (a := 0) (n := 301) (by omega) (by omega) (by decide)) dX0_findPreds_207 (fun H locs hP hD hS => ?_)
                                have eQ : upd (fun j : Nat => zI (w (j : Int))) (zI (0)).toNatClampNeg 0 = (fun j : Nat => zI (zup w (0) (0) (j : Int))) := zI_st w (e := 0) (v := 0) (by omega) (by omega)
                                rw [eQ] at hP hD
                                clear eQ
                                have ra_2001 : ∀ j : Int, 0 ≤ zup w (0) (0) j ∧ zup w (0) (0) j ≤ 600 := zup_P (P := fun x9 => 0 ≤ x9 ∧ x9 ≤ 600) jw (show 0 ≤ (0) ∧ (0) ≤ 600 by omega)
                                obtain ⟨a_2001, ea_2001⟩ : ∃ a9 : Int → Int, a9 = zup w (0) (0) := ⟨_, rfl⟩
                                rw [← ea_2001] at hP hD ra_2001
                                have hP : va_P (dC, dI) vwP [(h0, .inr (0, [.int (zI (B1)), v_1, v_2, v_3, v_4, v_5, v_6, v_7, v_8, .ref q_709, v_10, .ref q_711, .ref q_712, .ref q_713, .ref q_714, v_15, v_16, v_17, v_18])), (q_709, .inl (cA_709, 300, .inl (fun j : Nat => zI (a_9 (j : Int))))), (q_711, .inl (cA_711, 300, .inl (fun j : Nat => zI (a_11 (j : Int))))), (q_712, .inl (cA_712, 300, .inl (fun j : Nat => zI (a_12 (j : Int))))), (q_713, .inl (cA_713, 301, .inl (fun j : Nat => zI (a_2001 (j : Int))))), (q_714, .inl (cA_714, 600, .inl (fun j : Nat => zI (uu (j : Int)))))] H := hP
                                have hD : va_D A [(h0, .inr (0, [.int (zI (B1)), v_1, v_2, v_3, v_4, v_5, v_6, v_7, v_8, .ref q_709, v_10, .ref q_711, .ref q_712, .ref q_713, .ref q_714, v_15, v_16, v_17, v_18])), (q_709, .inl (cA_709, 300, .inl (fun j : Nat => zI (a_9 (j : Int))))), (q_711, .inl (cA_711, 300, .inl (fun j : Nat => zI (a_11 (j : Int))))), (q_712, .inl (cA_712, 300, .inl (fun j : Nat => zI (a_12 (j : Int))))), (q_713, .inl (cA_713, 301, .inl (fun j : Nat => zI (a_2001 (j : Int))))), (q_714, .inl (cA_714, 600, .inl (fun j : Nat => zI (uu (j : Int)))))] := hD
                                subst hQ
                                refine W.widen (k := 0) (n := 0) (Nat.le_of_ble_eq_true rfl) (Nat.le_of_ble_eq_true rfl) ?_
                                exact W.vret hx hb hr (fun t ht hW => ⟨⟨(), rfl, trivial, a_2001, uu, ⟨ra_2001, ju⟩, by rw [ht]; exact hP, va_K.moved hW.alike hK, hD⟩, hS.F ht⟩) hS.2.2 dX0_findPreds_208
                              · have yb178 : ¬ (b : Int) ≤ (0 : Int) := fun q => b178 ((zI_le (a := b) (b := 0) (by omega) (by omega) (by omega) (by omega)).mpr q)
                                refine lv_aload_n hx hb dX0_findPreds_181 rfl (lv_at hl 0 rfl) ?_
                                refine va_get (D := (dC, dI)) (ci := 0) (v := .ref q_713) (C := RX0) (T := TX0) (N := 19) hx hb hts mem_X0_findPreds_0 hown hK hP 0 rfl rfl 13 (by decide) (ow (k := 1) rfl) (fun _ h9 => h9) rfl dX0_findPreds_182 ?_
                                refine lv_iload_n hx hb dX0_findPreds_185 rfl (lv_at hl 1 rfl) ?_
                                refine lv_aload_n hx hb dX0_findPreds_186 rfl (lv_at hl 0 rfl) ?_
                                refine va_get (D := (dC, dI)) (ci := 0) (v := .ref q_713) (C := RX0) (T := TX0) (N := 19) hx hb hts mem_X0_findPreds_0 hown hK hP 0 rfl rfl 13 (by decide) (ow (k := 1) rfl) (fun _ h9 => h9) rfl dX0_findPreds_187 ?_
                                refine lv_iload_n hx hb dX0_findPreds_190 rfl (lv_at hl 1 rfl) ?_
                                refine lv_iconst (v := 1) hx hb dX0_findPreds_191 (by decide) ?_
                                refine lv_isub hx hb dX0_findPreds_192 ?_
                                refine lv_topi (fun z ez => ?_)
                                obtain rfl : z = zI (b - 1) := ez.trans (zI_sub (b) (1))
                                refine va_iald hx hb hK hP 4 3 rfl rfl (zI_in (a := b - 1) (n := 301) (by omega) (by omega) (by decide)) dX0_findPreds_193 ?_
                                refine lv_topi (fun z ez => ?_)
                                obtain rfl : z = zI (w (b - 1)) := ez.trans (zI_ld (w) (by omega) (by omega))
                                have k1 := jw (b - 1)
                                refine va_iast (i := zI (b)) hx hb hK hP hD hS 4 3 rfl rfl (zI_in (a := b) (n := 301) (by omega) (by omega) (by decide)) dX0_findPreds_194 (fun H locs hP hD hS => ?_)
                                have eQ : upd (fun j : Nat => zI (w (j : Int))) (zI (b)).toNatClampNeg (zI (w (b - 1))) = (fun j : Nat => zI (zup w (b) (w (b - 1)) (j : Int))) := zI_st w (e := b) (v := w (b - 1)) (by omega) (by omega)
                                rw [eQ] at hP hD
                                clear eQ
                                have ra_2002 : ∀ j : Int, 0 ≤ zup w (b) (w (b - 1)) j ∧ zup w (b) (w (b - 1)) j ≤ 600 := zup_P (P := fun x9 => 0 ≤ x9 ∧ x9 ≤ 600) jw (show 0 ≤ (w (b - 1)) ∧ (w (b - 1)) ≤ 600 by omega)
                                obtain ⟨a_2002, ea_2002⟩ : ∃ a9 : Int → Int, a9 = zup w (b) (w (b - 1)) := ⟨_, rfl⟩
                                rw [← ea_2002] at hP hD ra_2002
                                have hP : va_P (dC, dI) vwP [(h0, .inr (0, [.int (zI (B1)), v_1, v_2, v_3, v_4, v_5, v_6, v_7, v_8, .ref q_709, v_10, .ref q_711, .ref q_712, .ref q_713, .ref q_714, v_15, v_16, v_17, v_18])), (q_709, .inl (cA_709, 300, .inl (fun j : Nat => zI (a_9 (j : Int))))), (q_711, .inl (cA_711, 300, .inl (fun j : Nat => zI (a_11 (j : Int))))), (q_712, .inl (cA_712, 300, .inl (fun j : Nat => zI (a_12 (j : Int))))), (q_713, .inl (cA_713, 301, .inl (fun j : Nat => zI (a_2002 (j : Int))))), (q_714, .inl (cA_714, 600, .inl (fun j : Nat => zI (uu (j : Int)))))] H := hP
                                have hD : va_D A [(h0, .inr (0, [.int (zI (B1)), v_1, v_2, v_3, v_4, v_5, v_6, v_7, v_8, .ref q_709, v_10, .ref q_711, .ref q_712, .ref q_713, .ref q_714, v_15, v_16, v_17, v_18])), (q_709, .inl (cA_709, 300, .inl (fun j : Nat => zI (a_9 (j : Int))))), (q_711, .inl (cA_711, 300, .inl (fun j : Nat => zI (a_11 (j : Int))))), (q_712, .inl (cA_712, 300, .inl (fun j : Nat => zI (a_12 (j : Int))))), (q_713, .inl (cA_713, 301, .inl (fun j : Nat => zI (a_2002 (j : Int))))), (q_714, .inl (cA_714, 600, .inl (fun j : Nat => zI (uu (j : Int)))))] := hD
                                refine lv_iinc (v := zI (b - 1)) (lv' := [(2, .int (zI (b - 1))), (0, .ref h0)]) hx hb dX0_findPreds_195 hl (k := 1) rfl (zI_dec (b) (1)) (by decide) rfl (fun ls hl => ?_)
                                refine lv_goto (tgt := 177) hx hb dX0_findPreds_198 (by decide) ?_
                                exact ih177 (b - 1) a_2002 ls H _ ra_2002 (by omega) (fun j h1 h2 => by rw [ea_2002]; unfold zup; split; rename_i h; rw [h, jV (b - 1) (by omega) (by omega), ← psF_succ a_9 a_11 a_12 B1.toNat (by omega), show b - 1 + 1 = b by omega]; exact jW j (by omega) h2) (fun j h1 h2 => by rw [ea_2002]; unfold zup; rw [if_neg (by omega)]; exact jV j h1 (by omega)) (by omega) (lv_sub hl [1, 0] rfl) hP hD hS
                          exact key177 ((B1 : Int).toNat + 1) B1 w ls H _ jw (by omega) (fun j h1 h2 => by omega) (fun j h1 h2 => by rw [jW j h1 (by omega), show b = B1 by omega]) (by omega) (lv_sub hl [1, 0] rfl) hP hD hS
                        · have yb114 : ¬ (B1 : Int) ≤ (b : Int) := fun q => b114 ((zI_le (a := B1) (b := b) (by omega) (by omega) (by omega) (by omega)).mpr q)
                          refine lv_iconst (v := 0) hx hb dX0_findPreds_117 (by decide) ?_
                          refine lv_istore_n (lv' := [(3, .int 0), (0, .ref h0), (2, .int (zI (b)))]) hx hb dX0_findPreds_118 rfl hl (by decide) rfl (fun ls hl => ?_)
                          have key119 : ∀ n119 : Nat, ∀ (i : Int) (w : Int → Int) (uu : Int → Int) (ls : Array Slot) (H : Heap) (locs : List Loc), (∀ j : Int, 0 ≤ w j ∧ w j ≤ 600) → (∀ j : Int, 0 ≤ uu j ∧ uu j ≤ 299) → (0 ≤ i ∧ i ≤ gcF a_9 a_11 a_12 b) → (∀ j : Int, 0 ≤ j → j ≤ B1 → w j = psF a_9 a_11 a_12 B1.toNat j.toNat + cni a_9 a_11 a_12 j b i) → ((gcF a_9 a_11 a_12 b - i : Int).toNat) < n119 → lv_has ls 5 [(0, .ref h0), (2, .int (zI (b))), (3, .int (zI (i)))] → va_P (dC, dI) vwP [(h0, .inr (0, [.int (zI (B1)), v_1, v_2, v_3, v_4, v_5, v_6, v_7, v_8, .ref q_709, v_10, .ref q_711, .ref q_712, .ref q_713, .ref q_714, v_15, v_16, v_17, v_18])), (q_709, .inl (cA_709, 300, .inl (fun j : Nat => zI (a_9 (j : Int))))), (q_711, .inl (cA_711, 300, .inl (fun j : Nat => zI (a_11 (j : Int))))), (q_712, .inl (cA_712, 300, .inl (fun j : Nat => zI (a_12 (j : Int))))), (q_713, .inl (cA_713, 301, .inl (fun j : Nat => zI (w (j : Int))))), (q_714, .inl (cA_714, 600, .inl (fun j : Nat => zI (uu (j : Int)))))] H → va_D A [(h0, .inr (0, [.int (zI (B1)), v_1, v_2, v_3, v_4, v_5, v_6, v_7, v_8, .ref q_709, v_10, .ref q_711, .ref q_712, .ref q_713, .ref q_714, v_15, v_16, v_17, v_18])), (q_709, .inl (cA_709, 300, .inl (fun j : Nat => zI (a_9 (j : Int))))), (q_711, .inl (cA_711, 300, .inl (fun j : Nat => zI (a_11 (j : Int))))), (q_712, .inl (cA_712, 300, .inl (fun j : Nat => zI (a_12 (j : Int))))), (q_713, .inl (cA_713, 301, .inl (fun j : Nat => zI (w (j : Int))))), (q_714, .inl (cA_714, 600, .inl (fun j : Nat => zI (uu (j : Int)))))] → va_S A s.heap H locs → W p l e (headSpec v_X0_findPreds ({ frames := 1, cells := 0, slots := 0, locals := 22 })).room s m ([.ref h0] : List Value).toArray below meth c H locs 0 0 Q (F0 m 119 ls []) := by
                            intro n119
                            induction n119 with
                            | zero => intro i w uu ls H locs jw ju ji jW hm119; exact absurd hm119 (by omega)
                            | succ n119 ih119 =>
                              intro i w uu ls H locs jw ju ji jW hm119 hl hP hD hS
                              refine lv_iload_n hx hb dX0_findPreds_119 rfl (lv_at hl 2 rfl) ?_
                              refine lv_aload_n hx hb dX0_findPreds_120 rfl (lv_at hl 0 rfl) ?_
                              refine lv_iload_n hx hb dX0_findPreds_121 rfl (lv_at hl 1 rfl) ?_
                              have hPc := hP.sub (ws' := [(h0, .inr (0, [.int (zI (B1)), v_1, v_2, v_3, v_4, v_5, v_6, v_7, v_8, .ref q_709, v_10, .ref q_711, .ref q_712, .ref q_713, .ref q_714, v_15, v_16, v_17, v_18])), (q_709, .inl (cA_709, 300, .inl (fun j : Nat => zI (a_9 (j : Int))))), (q_711, .inl (cA_711, 300, .inl (fun j : Nat => zI (a_11 (j : Int))))), (q_712, .inl (cA_712, 300, .inl (fun j : Nat => zI (a_12 (j : Int)))))]) [0, 1, 2, 3] rfl
                              have hDc := hD.sub (ws' := [(h0, .inr (0, [.int (zI (B1)), v_1, v_2, v_3, v_4, v_5, v_6, v_7, v_8, .ref q_709, v_10, .ref q_711, .ref q_712, .ref q_713, .ref q_714, v_15, v_16, v_17, v_18])), (q_709, .inl (cA_709, 300, .inl (fun j : Nat => zI (a_9 (j : Int))))), (q_711, .inl (cA_711, 300, .inl (fun j : Nat => zI (a_11 (j : Int))))), (q_712, .inl (cA_712, 300, .inl (fun j : Nat => zI (a_12 (j : Int)))))]) [0, 1, 2, 3] (by decide) rfl
                              have hKc := hK.sub (tys' := [(cA_709, .int), (cA_711, .int), (cA_712, .int)]) [0, 1, 2] rfl
                              have hFc := va_free (wc := [(h0, .inr (0, [.int (zI (B1)), v_1, v_2, v_3, v_4, v_5, v_6, v_7, v_8, .ref q_709, v_10, .ref q_711, .ref q_712, .ref q_713, .ref q_714, v_15, v_16, v_17, v_18])), (q_709, .inl (cA_709, 300, .inl (fun j : Nat => zI (a_9 (j : Int))))), (q_711, .inl (cA_711, 300, .inl (fun j : Nat => zI (a_11 (j : Int))))), (q_712, .inl (cA_712, 300, .inl (fun j : Nat => zI (a_12 (j : Int)))))]) hD hS hA [0, 1, 2, 3] rfl
                              refine va_calli (va_runV (As := [.int (zI (b))]) (rest := [.int (zI (i))]) ⟨hx, hb, hml, hown, hts⟩ (c_X0_goalCount l dC dI h0 (.int (zI (B1))) v_1 v_2 v_3 v_4 v_5 v_6 v_7 v_8 q_709 cA_709 a_9 v_10 q_711 cA_711 a_11 q_712 cA_712 a_12 (.ref q_713) (.ref q_714) v_15 v_16 v_17 v_18 b hR_a_9 hR_a_11 hR_a_12 (by omega) H.size) (cwV 1 hts g_X0_findPreds_X0_goalCount rfl rfl rfl (by decide +kernel) ⟨(Nat.le_of_ble_eq_true rfl), (Nat.le_of_ble_eq_true rfl)⟩) ⟨fun a U g mk q => by obtain ⟨q0, q1, qP, qK, qD⟩ := q; exact ⟨q0, q1, qP, va_K.moved (u := U) (U := U.calling g mk a) (Vm.Alike.refl U.vm) qK, qD⟩, va_recv hKc hPc (ci := 0) (q0 := 0) rfl rfl, fun U hU hW => ⟨rfl, by rw [hU], by rw [hU]; exact hPc, va_K.moved hW.alike hKc, hDc.weaken (fun _ _ _ _ => trivial)⟩⟩ rfl rfl hl.1 rfl (lv_room (Nat.le_of_ble_eq_true rfl)) dX0_findPreds_122 ⟨(Nat.le_of_ble_eq_true rfl), (Nat.le_of_ble_eq_true rfl)⟩) hS (fun q _ h => hFc q h) hFc (fun r_2003 u t H1 locs ht hvm hw hB hz1 hk1 hS => ?_)
                              obtain ⟨hP1, hK1, hD1⟩ := hB
                              rw [ht] at hP1
                              have hK1 := va_K.moved hvm.symm hK1
                              obtain ⟨hP, hD⟩ := va_join (wr := [(q_713, .inl (cA_713, 301, .inl (fun j : Nat => zI (w (j : Int))))), (q_714, .inl (cA_714, 600, .inl (fun j : Nat => zI (uu (j : Int)))))]) (w1 := [(h0, .inr (0, [.int (zI (B1)), v_1, v_2, v_3, v_4, v_5, v_6, v_7, v_8, .ref q_709, v_10, .ref q_711, .ref q_712, .ref q_713, .ref q_714, v_15, v_16, v_17, v_18])), (q_709, .inl (cA_709, 300, .inl (fun j : Nat => zI (a_9 (j : Int))))), (q_711, .inl (cA_711, 300, .inl (fun j : Nat => zI (a_11 (j : Int))))), (q_712, .inl (cA_712, 300, .inl (fun j : Nat => zI (a_12 (j : Int)))))]) hP hD [0, 1, 2, 3] [4, 5] rfl rfl (by decide) (by decide) hk1 hFc hP1 hD1
                              have hK := (hK.sub (tys' := [(cA_713, .int), (cA_714, .int)]) [3, 4] rfl).app hK1
                              generalize H1 = H at hP hS ⊢
                              have hP : va_P (dC, dI) vwP [(q_713, .inl (cA_713, 301, .inl (fun j : Nat => zI (w (j : Int))))), (q_714, .inl (cA_714, 600, .inl (fun j : Nat => zI (uu (j : Int))))), (h0, .inr (0, [.int (zI (B1)), v_1, v_2, v_3, v_4, v_5, v_6, v_7, v_8, .ref q_709, v_10, .ref q_711, .ref q_712, .ref q_713, .ref q_714, v_15, v_16, v_17, v_18])), (q_709, .inl (cA_709, 300, .inl (fun j : Nat => zI (a_9 (j : Int))))), (q_711, .inl (cA_711, 300, .inl (fun j : Nat => zI (a_11 (j : Int))))), (q_712, .inl (cA_712, 300, .inl (fun j : Nat => zI (a_12 (j : Int)))))] H := hP
                              have hD : va_D A [(q_713, .inl (cA_713, 301, .inl (fun j : Nat => zI (w (j : Int))))), (q_714, .inl (cA_714, 600, .inl (fun j : Nat => zI (uu (j : Int))))), (h0, .inr (0, [.int (zI (B1)), v_1, v_2, v_3, v_4, v_5, v_6, v_7, v_8, .ref q_709, v_10, .ref q_711, .ref q_712, .ref q_713, .ref q_714, v_15, v_16, v_17, v_18])), (q_709, .inl (cA_709, 300, .inl (fun j : Nat => zI (a_9 (j : Int))))), (q_711, .inl (cA_711, 300, .inl (fun j : Nat => zI (a_11 (j : Int))))), (q_712, .inl (cA_712, 300, .inl (fun j : Nat => zI (a_12 (j : Int)))))] := hD
                              have hK : va_K (dC, dI) vwP [(cA_713, .int), (cA_714, .int), (cA_709, .int), (cA_711, .int), (cA_712, .int)] s := hK
                              refine W.widen (k := 0) (n := 0) (Nat.le_of_ble_eq_true rfl) (Nat.le_of_ble_eq_true rfl) ?_
                              obtain rfl : r_2003 = (zI (gcF a_9 a_11 a_12 b)) := hw
                              have := gcF_rng a_9 a_11 a_12 (b)
                              refine lv_icmp_ge (tgt := 166) hx hb dX0_findPreds_125 (by decide) (fun b125 => ?_) (fun b125 => ?_)
                              · have yb125 : (gcF a_9 a_11 a_12 b : Int) ≤ (i : Int) := (zI_le (a := gcF a_9 a_11 a_12 b) (b := i) (by omega) (by omega) (by omega) (by omega)).mp b125
                                refine lv_iinc (v := zI (b + 1)) (lv' := [(2, .int (zI (b + 1))), (0, .ref h0), (3, .int (zI (i)))]) hx hb dX0_findPreds_166 hl (k := 1) rfl (zI_add (b) (1)) (by decide) rfl (fun ls hl => ?_)
                                refine lv_goto (tgt := 109) hx hb dX0_findPreds_169 (by decide) ?_
                                have hP := hP.sub (ws' := [(h0, .inr (0, [.int (zI (B1)), v_1, v_2, v_3, v_4, v_5, v_6, v_7, v_8, .ref q_709, v_10, .ref q_711, .ref q_712, .ref q_713, .ref q_714, v_15, v_16, v_17, v_18])), (q_709, .inl (cA_709, 300, .inl (fun j : Nat => zI (a_9 (j : Int))))), (q_711, .inl (cA_711, 300, .inl (fun j : Nat => zI (a_11 (j : Int))))), (q_712, .inl (cA_712, 300, .inl (fun j : Nat => zI (a_12 (j : Int))))), (q_713, .inl (cA_713, 301, .inl (fun j : Nat => zI (w (j : Int))))), (q_714, .inl (cA_714, 600, .inl (fun j : Nat => zI (uu (j : Int)))))]) [2, 3, 4, 5, 0, 1] rfl
                                have hD := hD.sub (ws' := [(h0, .inr (0, [.int (zI (B1)), v_1, v_2, v_3, v_4, v_5, v_6, v_7, v_8, .ref q_709, v_10, .ref q_711, .ref q_712, .ref q_713, .ref q_714, v_15, v_16, v_17, v_18])), (q_709, .inl (cA_709, 300, .inl (fun j : Nat => zI (a_9 (j : Int))))), (q_711, .inl (cA_711, 300, .inl (fun j : Nat => zI (a_11 (j : Int))))), (q_712, .inl (cA_712, 300, .inl (fun j : Nat => zI (a_12 (j : Int))))), (q_713, .inl (cA_713, 301, .inl (fun j : Nat => zI (w (j : Int))))), (q_714, .inl (cA_714, 600, .inl (fun j : Nat => zI (uu (j : Int)))))]) [2, 3, 4, 5, 0, 1] (by decide) rfl
                                exact ih109 (b + 1) w uu ls H _ jw ju (by omega) (fun j h1 h2 => by rw [cn_succ a_9 a_11 a_12 j (by omega), jW j h1 h2, show i = gcF a_9 a_11 a_12 b by omega]) (by omega) (lv_sub hl [1, 0] rfl) hP hD hS
                              · have yb125 : ¬ (gcF a_9 a_11 a_12 b : Int) ≤ (i : Int) := fun q => b125 ((zI_le (a := gcF a_9 a_11 a_12 b) (b := i) (by omega) (by omega) (by omega) (by omega)).mpr q)
                                refine lv_aload_n hx hb dX0_findPreds_128 rfl (lv_at hl 0 rfl) ?_
                                refine lv_iload_n hx hb dX0_findPreds_129 rfl (lv_at hl 1 rfl) ?_
                                refine lv_iload_n hx hb dX0_findPreds_130 rfl (lv_at hl 2 rfl) ?_
                                have hPc := hP.sub (ws' := [(h0, .inr (0, [.int (zI (B1)), v_1, v_2, v_3, v_4, v_5, v_6, v_7, v_8, .ref q_709, v_10, .ref q_711, .ref q_712, .ref q_713, .ref q_714, v_15, v_16, v_17, v_18])), (q_711, .inl (cA_711, 300, .inl (fun j : Nat => zI (a_11 (j : Int))))), (q_712, .inl (cA_712, 300, .inl (fun j : Nat => zI (a_12 (j : Int)))))]) [2, 4, 5] rfl
                                have hDc := hD.sub (ws' := [(h0, .inr (0, [.int (zI (B1)), v_1, v_2, v_3, v_4, v_5, v_6, v_7, v_8, .ref q_709, v_10, .ref q_711, .ref q_712, .ref q_713, .ref q_714, v_15, v_16, v_17, v_18])), (q_711, .inl (cA_711, 300, .inl (fun j : Nat => zI (a_11 (j : Int))))), (q_712, .inl (cA_712, 300, .inl (fun j : Nat => zI (a_12 (j : Int)))))]) [2, 4, 5] (by decide) rfl
                                have hKc := hK.sub (tys' := [(cA_711, .int), (cA_712, .int)]) [3, 4] rfl
                                have hFc := va_free (wc := [(h0, .inr (0, [.int (zI (B1)), v_1, v_2, v_3, v_4, v_5, v_6, v_7, v_8, .ref q_709, v_10, .ref q_711, .ref q_712, .ref q_713, .ref q_714, v_15, v_16, v_17, v_18])), (q_711, .inl (cA_711, 300, .inl (fun j : Nat => zI (a_11 (j : Int))))), (q_712, .inl (cA_712, 300, .inl (fun j : Nat => zI (a_12 (j : Int)))))]) hD hS hA [2, 4, 5] rfl
                                refine va_calli (va_runV (As := [.int (zI (b)), .int (zI (i))]) (rest := []) ⟨hx, hb, hml, hown, hts⟩ (c_X0_goal l dC dI h0 (.int (zI (B1))) v_1 v_2 v_3 v_4 v_5 v_6 v_7 v_8 (.ref q_709) v_10 q_711 cA_711 a_11 q_712 cA_712 a_12 (.ref q_713) (.ref q_714) v_15 v_16 v_17 v_18 b i hR_a_11 hR_a_12 (by omega) (by omega) H.size) (cwV 2 hts g_X0_findPreds_X0_goal rfl rfl rfl (by decide +kernel) ⟨(Nat.le_of_ble_eq_true rfl), (Nat.le_of_ble_eq_true rfl)⟩) ⟨fun a U g mk q => by obtain ⟨q0, q1, qP, qK, qD⟩ := q; exact ⟨q0, q1, qP, va_K.moved (u := U) (U := U.calling g mk a) (Vm.Alike.refl U.vm) qK, qD⟩, va_recv hKc hPc (ci := 0) (q0 := 0) rfl rfl, fun U hU hW => ⟨rfl, by rw [hU], by rw [hU]; exact hPc, va_K.moved hW.alike hKc, hDc.weaken (fun _ _ _ _ => trivial)⟩⟩ rfl rfl hl.1 rfl (lv_room (Nat.le_of_ble_eq_true rfl)) dX0_findPreds_131 ⟨(Nat.le_of_ble_eq_true rfl), (Nat.le_of_ble_eq_true rfl)⟩) hS (fun q _ h => hFc q h) hFc (fun r_2004 u t H1 locs ht hvm hw hB hz1 hk1 hS => ?_)
                                obtain ⟨hP1, hK1, hD1⟩ := hB
                                rw [ht] at hP1
                                have hK1 := va_K.moved hvm.symm hK1
                                obtain ⟨hP, hD⟩ := va_join (wr := [(q_713, .inl (cA_713, 301, .inl (fun j : Nat => zI (w (j : Int))))), (q_714, .inl (cA_714, 600, .inl (fun j : Nat => zI (uu (j : Int))))), (q_709, .inl (cA_709, 300, .inl (fun j : Nat => zI (a_9 (j : Int)))))]) (w1 := [(h0, .inr (0, [.int (zI (B1)), v_1, v_2, v_3, v_4, v_5, v_6, v_7, v_8, .ref q_709, v_10, .ref q_711, .ref q_712, .ref q_713, .ref q_714, v_15, v_16, v_17, v_18])), (q_711, .inl (cA_711, 300, .inl (fun j : Nat => zI (a_11 (j : Int))))), (q_712, .inl (cA_712, 300, .inl (fun j : Nat => zI (a_12 (j : Int)))))]) hP hD [2, 4, 5] [0, 1, 3] rfl rfl (by decide) (by decide) hk1 hFc hP1 hD1
                                have hK := (hK.sub (tys' := [(cA_713, .int), (cA_714, .int), (cA_709, .int)]) [0, 1, 2] rfl).app hK1
                                generalize H1 = H at hP hS ⊢
                                have hP : va_P (dC, dI) vwP [(q_713, .inl (cA_713, 301, .inl (fun j : Nat => zI (w (j : Int))))), (q_714, .inl (cA_714, 600, .inl (fun j : Nat => zI (uu (j : Int))))), (q_709, .inl (cA_709, 300, .inl (fun j : Nat => zI (a_9 (j : Int))))), (h0, .inr (0, [.int (zI (B1)), v_1, v_2, v_3, v_4, v_5, v_6, v_7, v_8, .ref q_709, v_10, .ref q_711, .ref q_712, .ref q_713, .ref q_714, v_15, v_16, v_17, v_18])), (q_711, .inl (cA_711, 300, .inl (fun j : Nat => zI (a_11 (j : Int))))), (q_712, .inl (cA_712, 300, .inl (fun j : Nat => zI (a_12 (j : Int)))))] H := hP
                                have hD : va_D A [(q_713, .inl (cA_713, 301, .inl (fun j : Nat => zI (w (j : Int))))), (q_714, .inl (cA_714, 600, .inl (fun j : Nat => zI (uu (j : Int))))), (q_709, .inl (cA_709, 300, .inl (fun j : Nat => zI (a_9 (j : Int))))), (h0, .inr (0, [.int (zI (B1)), v_1, v_2, v_3, v_4, v_5, v_6, v_7, v_8, .ref q_709, v_10, .ref q_711, .ref q_712, .ref q_713, .ref q_714, v_15, v_16, v_17, v_18])), (q_711, .inl (cA_711, 300, .inl (fun j : Nat => zI (a_11 (j : Int))))), (q_712, .inl (cA_712, 300, .inl (fun j : Nat => zI (a_12 (j : Int)))))] := hD
                                have hK : va_K (dC, dI) vwP [(cA_713, .int), (cA_714, .int), (cA_709, .int), (cA_711, .int), (cA_712, .int)] s := hK
                                refine W.widen (k := 0) (n := 0) (Nat.le_of_ble_eq_true rfl) (Nat.le_of_ble_eq_true rfl) ?_
                                obtain rfl : r_2004 = (zI (glF a_11 a_12 b i)) := hw
                                refine lv_istore (lv' := [(4, .int (zI (glF a_11 a_12 b i))), (0, .ref h0), (2, .int (zI (b))), (3, .int (zI (i)))]) hx hb dX0_findPreds_134 hl (by decide) rfl (fun ls hl => ?_)
                                have hg := gl_lt hX_G hR_a_11 hR_a_12 (b := b) (i := i) (by omega) (by omega) (by omega) (by omega)
                                have c1 := ps_lt a_9 a_11 a_12 (B := B1) (b := b) (i := i) (by omega) (by omega) (by omega) (by omega) (by omega)
                                have c2 := jW (glF a_11 a_12 b i) (by omega) (by omega)
                                have c3 := (cni_b a_9 a_11 a_12 (b := b) (i := i) (by omega) (by omega) (by omega)).2.2
                                refine lv_aload_n hx hb dX0_findPreds_136 rfl (lv_at hl 1 rfl) ?_
                                refine va_get (D := (dC, dI)) (ci := 0) (v := .ref q_714) (C := RX0) (T := TX0) (N := 19) hx hb hts mem_X0_findPreds_0 hown hK hP 3 rfl rfl 14 (by decide) (ow (k := 9) rfl) (fun _ h9 => h9) rfl dX0_findPreds_137 ?_
                                refine lv_aload_n hx hb dX0_findPreds_140 rfl (lv_at hl 1 rfl) ?_
                                refine va_get (D := (dC, dI)) (ci := 0) (v := .ref q_713) (C := RX0) (T := TX0) (N := 19) hx hb hts mem_X0_findPreds_0 hown hK hP 3 rfl rfl 13 (by decide) (ow (k := 1) rfl) (fun _ h9 => h9) rfl dX0_findPreds_141 ?_
                                refine lv_iload hx hb dX0_findPreds_144 (lv_at hl 0 rfl) ?_
                                refine va_iald hx hb hK hP 0 0 rfl rfl (zI_in (a := glF a_11 a_12 b i) (n := 301) (by omega) (by omega) (by decide)) dX0_findPreds_146 ?_
                                refine lv_topi (fun z ez => ?_)
                                obtain rfl : z = zI (w (glF a_11 a_12 b i)) := ez.trans (zI_ld (w) (by omega) (by omega))
                                have k2 := jw (glF a_11 a_12 b i)
                                refine lv_iload_n hx hb dX0_findPreds_147 rfl (lv_at hl 2 rfl) ?_
                                refine va_iast (i := zI (w (glF a_11 a_12 b i))) hx hb hK hP hD hS 1 1 rfl rfl (zI_in (a := w (glF a_11 a_12 b i)) (n := 600) (by omega) (by omega) (by decide)) dX0_findPreds_148 (fun H locs hP hD hS => ?_)
                                have eQ : upd (fun j : Nat => zI (uu (j : Int))) (zI (w (glF a_11 a_12 b i))).toNatClampNeg (zI (b)) = (fun j : Nat => zI (zup uu (w (glF a_11 a_12 b i)) (b) (j : Int))) := zI_st uu (e := w (glF a_11 a_12 b i)) (v := b) (by omega) (by omega)
                                rw [eQ] at hP hD
                                clear eQ
                                have ra_2005 : ∀ j : Int, 0 ≤ zup uu (w (glF a_11 a_12 b i)) (b) j ∧ zup uu (w (glF a_11 a_12 b i)) (b) j ≤ 299 := zup_P (P := fun x9 => 0 ≤ x9 ∧ x9 ≤ 299) ju (show 0 ≤ (b) ∧ (b) ≤ 299 by omega)
                                generalize zup uu (w (glF a_11 a_12 b i)) (b) = a_2005 at hP hD ra_2005
                                have hP : va_P (dC, dI) vwP [(q_713, .inl (cA_713, 301, .inl (fun j : Nat => zI (w (j : Int))))), (q_714, .inl (cA_714, 600, .inl (fun j : Nat => zI (a_2005 (j : Int))))), (q_709, .inl (cA_709, 300, .inl (fun j : Nat => zI (a_9 (j : Int))))), (h0, .inr (0, [.int (zI (B1)), v_1, v_2, v_3, v_4, v_5, v_6, v_7, v_8, .ref q_709, v_10, .ref q_711, .ref q_712, .ref q_713, .ref q_714, v_15, v_16, v_17, v_18])), (q_711, .inl (cA_711, 300, .inl (fun j : Nat => zI (a_11 (j : Int))))), (q_712, .inl (cA_712, 300, .inl (fun j : Nat => zI (a_12 (j : Int)))))] H := hP
                                have hD : va_D A [(q_713, .inl (cA_713, 301, .inl (fun j : Nat => zI (w (j : Int))))), (q_714, .inl (cA_714, 600, .inl (fun j : Nat => zI (a_2005 (j : Int))))), (q_709, .inl (cA_709, 300, .inl (fun j : Nat => zI (a_9 (j : Int))))), (h0, .inr (0, [.int (zI (B1)), v_1, v_2, v_3, v_4, v_5, v_6, v_7, v_8, .ref q_709, v_10, .ref q_711, .ref q_712, .ref q_713, .ref q_714, v_15, v_16, v_17, v_18])), (q_711, .inl (cA_711, 300, .inl (fun j : Nat => zI (a_11 (j : Int))))), (q_712, .inl (cA_712, 300, .inl (fun j : Nat => zI (a_12 (j : Int)))))] := hD
                                refine lv_aload_n hx hb dX0_findPreds_149 rfl (lv_at hl 1 rfl) ?_
                                refine va_get (D := (dC, dI)) (ci := 0) (v := .ref q_713) (C := RX0) (T := TX0) (N := 19) hx hb hts mem_X0_findPreds_0 hown hK hP 3 rfl rfl 13 (by decide) (ow (k := 1) rfl) (fun _ h9 => h9) rfl dX0_findPreds_150 ?_
                                refine lv_iload hx hb dX0_findPreds_153 (lv_at hl 0 rfl) ?_
                                refine lv_dup2_11 hx hb dX0_findPreds_155 rfl rfl ?_
                                refine va_iald hx hb hK hP 0 0 rfl rfl (zI_in (a := glF a_11 a_12 b i) (n := 301) (by omega) (by omega) (by decide)) dX0_findPreds_156 ?_
                                refine lv_topi (fun z ez => ?_)
                                obtain rfl : z = zI (w (glF a_11 a_12 b i)) := ez.trans (zI_ld (w) (by omega) (by omega))
                                have k3 := jw (glF a_11 a_12 b i)
                                refine lv_iconst (v := 1) hx hb dX0_findPreds_157 (by decide) ?_
                                refine lv_iadd hx hb dX0_findPreds_158 ?_
                                refine lv_topi (fun z ez => ?_)
                                obtain rfl : z = zI ((w (glF a_11 a_12 b i)) + 1) := ez.trans (zI_add (w (glF a_11 a_12 b i)) (1))
                                refine va_iast (i := zI (glF a_11 a_12 b i)) hx hb hK hP hD hS 0 0 rfl rfl (zI_in (a := glF a_11 a_12 b i) (n := 301) (by omega) (by omega) (by decide)) dX0_findPreds_159 (fun H locs hP hD hS => ?_)
                                have eQ : upd (fun j : Nat => zI (w (j : Int))) (zI (glF a_11 a_12 b i)).toNatClampNeg (zI ((w (glF a_11 a_12 b i)) + 1)) = (fun j : Nat => zI (zup w (glF a_11 a_12 b i) ((w (glF a_11 a_12 b i)) + 1) (j : Int))) := zI_st w (e := glF a_11 a_12 b i) (v := (w (glF a_11 a_12 b i)) + 1) (by omega) (by omega)
                                rw [eQ] at hP hD
                                clear eQ
                                have ra_2006 : ∀ j : Int, 0 ≤ zup w (glF a_11 a_12 b i) ((w (glF a_11 a_12 b i)) + 1) j ∧ zup w (glF a_11 a_12 b i) ((w (glF a_11 a_12 b i)) + 1) j ≤ 600 := zup_P (P := fun x9 => 0 ≤ x9 ∧ x9 ≤ 600) jw (show 0 ≤ ((w (glF a_11 a_12 b i)) + 1) ∧ ((w (glF a_11 a_12 b i)) + 1) ≤ 600 by omega)
                                obtain ⟨a_2006, ea_2006⟩ : ∃ a9 : Int → Int, a9 = zup w (glF a_11 a_12 b i) ((w (glF a_11 a_12 b i)) + 1) := ⟨_, rfl⟩
                                rw [← ea_2006] at hP hD ra_2006
                                have hP : va_P (dC, dI) vwP [(q_713, .inl (cA_713, 301, .inl (fun j : Nat => zI (a_2006 (j : Int))))), (q_714, .inl (cA_714, 600, .inl (fun j : Nat => zI (a_2005 (j : Int))))), (q_709, .inl (cA_709, 300, .inl (fun j : Nat => zI (a_9 (j : Int))))), (h0, .inr (0, [.int (zI (B1)), v_1, v_2, v_3, v_4, v_5, v_6, v_7, v_8, .ref q_709, v_10, .ref q_711, .ref q_712, .ref q_713, .ref q_714, v_15, v_16, v_17, v_18])), (q_711, .inl (cA_711, 300, .inl (fun j : Nat => zI (a_11 (j : Int))))), (q_712, .inl (cA_712, 300, .inl (fun j : Nat => zI (a_12 (j : Int)))))] H := hP
                                have hD : va_D A [(q_713, .inl (cA_713, 301, .inl (fun j : Nat => zI (a_2006 (j : Int))))), (q_714, .inl (cA_714, 600, .inl (fun j : Nat => zI (a_2005 (j : Int))))), (q_709, .inl (cA_709, 300, .inl (fun j : Nat => zI (a_9 (j : Int))))), (h0, .inr (0, [.int (zI (B1)), v_1, v_2, v_3, v_4, v_5, v_6, v_7, v_8, .ref q_709, v_10, .ref q_711, .ref q_712, .ref q_713, .ref q_714, v_15, v_16, v_17, v_18])), (q_711, .inl (cA_711, 300, .inl (fun j : Nat => zI (a_11 (j : Int))))), (q_712, .inl (cA_712, 300, .inl (fun j : Nat => zI (a_12 (j : Int)))))] := hD
                                refine lv_iinc (v := zI (i + 1)) (lv' := [(3, .int (zI (i + 1))), (4, .int (zI (glF a_11 a_12 b i))), (0, .ref h0), (2, .int (zI (b)))]) hx hb dX0_findPreds_160 hl (k := 3) rfl (zI_add (i) (1)) (by decide) rfl (fun ls hl => ?_)
                                refine lv_goto (tgt := 119) hx hb dX0_findPreds_163 (by decide) ?_
                                have hP := hP.sub (ws' := [(h0, .inr (0, [.int (zI (B1)), v_1, v_2, v_3, v_4, v_5, v_6, v_7, v_8, .ref q_709, v_10, .ref q_711, .ref q_712, .ref q_713, .ref q_714, v_15, v_16, v_17, v_18])), (q_709, .inl (cA_709, 300, .inl (fun j : Nat => zI (a_9 (j : Int))))), (q_711, .inl (cA_711, 300, .inl (fun j : Nat => zI (a_11 (j : Int))))), (q_712, .inl (cA_712, 300, .inl (fun j : Nat => zI (a_12 (j : Int))))), (q_713, .inl (cA_713, 301, .inl (fun j : Nat => zI (a_2006 (j : Int))))), (q_714, .inl (cA_714, 600, .inl (fun j : Nat => zI (a_2005 (j : Int)))))]) [3, 2, 4, 5, 0, 1] rfl
                                have hD := hD.sub (ws' := [(h0, .inr (0, [.int (zI (B1)), v_1, v_2, v_3, v_4, v_5, v_6, v_7, v_8, .ref q_709, v_10, .ref q_711, .ref q_712, .ref q_713, .ref q_714, v_15, v_16, v_17, v_18])), (q_709, .inl (cA_709, 300, .inl (fun j : Nat => zI (a_9 (j : Int))))), (q_711, .inl (cA_711, 300, .inl (fun j : Nat => zI (a_11 (j : Int))))), (q_712, .inl (cA_712, 300, .inl (fun j : Nat => zI (a_12 (j : Int))))), (q_713, .inl (cA_713, 301, .inl (fun j : Nat => zI (a_2006 (j : Int))))), (q_714, .inl (cA_714, 600, .inl (fun j : Nat => zI (a_2005 (j : Int)))))]) [3, 2, 4, 5, 0, 1] (by decide) rfl
                                exact ih119 (i + 1) a_2006 a_2005 ls H _ ra_2006 ra_2005 (by have := gcF_rng a_9 a_11 a_12 b; omega) (by rw [ea_2006]; exact cni_step (p := fun j => psF a_9 a_11 a_12 B1.toNat j.toNat) jW (by omega) (by omega)) (by omega) (lv_sub hl [2, 3, 0] rfl) hP hD hS
                          exact key119 ((gcF a_9 a_11 a_12 b - 0 : Int).toNat + 1) 0 w uu ls H _ jw ju (by have := gcF_rng a_9 a_11 a_12 b; omega) (fun j h1 h2 => by rw [jW j h1 h2, cni_0]) (by omega) (lv_sub hl [1, 2, 0] rfl) hP hD hS
                    exact key109 ((B1 - 0 : Int).toNat + 1) 0 w a_14 ls H _ jw hR_a_14 (by omega) (fun j h1 h2 => by rw [jW j h1 (by omega)]; exact (Int.add_zero _).symm) (by omega) (lv_sub hl [1, 0] rfl) hP hD hS
                  · have yb80 : ¬ (B1 : Int) < (b : Int) := fun q => b80 ((zI_lt (a := B1) (b := b) (by omega) (by omega) (by omega) (by omega)).mpr q)
                    refine lv_aload_n hx hb dX0_findPreds_83 rfl (lv_at hl 0 rfl) ?_
                    refine va_get (D := (dC, dI)) (ci := 0) (v := .ref q_713) (C := RX0) (T := TX0) (N := 19) hx hb hts mem_X0_findPreds_0 hown hK hP 0 rfl rfl 13 (by decide) (ow (k := 1) rfl) (fun _ h9 => h9) rfl dX0_findPreds_84 ?_
                    refine lv_iload_n hx hb dX0_findPreds_87 rfl (lv_at hl 2 rfl) ?_
                    have c1 := psF_le a_9 a_11 a_12 B1.toNat (b).toNat
                    have c2 := psF_nn a_9 a_11 a_12 B1.toNat (b).toNat
                    refine va_iald hx hb hK hP 4 3 rfl rfl (zI_in (a := b) (n := 301) (by omega) (by omega) (by decide)) dX0_findPreds_88 ?_
                    refine lv_topi (fun z ez => ?_)
                    obtain rfl : z = zI (w (b)) := ez.trans (zI_ld (w) (by omega) (by omega))
                    have k4 := jw (b)
                    refine lv_istore_n (lv' := [(3, .int (zI (w (b)))), (0, .ref h0), (1, .int (zI (S))), (2, .int (zI (b)))]) hx hb dX0_findPreds_89 rfl hl (by decide) rfl (fun ls hl => ?_)
                    refine lv_aload_n hx hb dX0_findPreds_90 rfl (lv_at hl 1 rfl) ?_
                    refine va_get (D := (dC, dI)) (ci := 0) (v := .ref q_713) (C := RX0) (T := TX0) (N := 19) hx hb hts mem_X0_findPreds_0 hown hK hP 0 rfl rfl 13 (by decide) (ow (k := 1) rfl) (fun _ h9 => h9) rfl dX0_findPreds_91 ?_
                    refine lv_iload_n hx hb dX0_findPreds_94 rfl (lv_at hl 3 rfl) ?_
                    refine lv_iload_n hx hb dX0_findPreds_95 rfl (lv_at hl 2 rfl) ?_
                    refine va_iast (i := zI (b)) hx hb hK hP hD hS 4 3 rfl rfl (zI_in (a := b) (n := 301) (by omega) (by omega) (by decide)) dX0_findPreds_96 (fun H locs hP hD hS => ?_)
                    have eQ : upd (fun j : Nat => zI (w (j : Int))) (zI (b)).toNatClampNeg (zI (S)) = (fun j : Nat => zI (zup w (b) (S) (j : Int))) := zI_st w (e := b) (v := S) (by omega) (by omega)
                    rw [eQ] at hP hD
                    clear eQ
                    have ra_2007 : ∀ j : Int, 0 ≤ zup w (b) (S) j ∧ zup w (b) (S) j ≤ 600 := zup_P (P := fun x9 => 0 ≤ x9 ∧ x9 ≤ 600) jw (show 0 ≤ (S) ∧ (S) ≤ 600 by omega)
                    obtain ⟨a_2007, ea_2007⟩ : ∃ a9 : Int → Int, a9 = zup w (b) (S) := ⟨_, rfl⟩
                    rw [← ea_2007] at hP hD ra_2007
                    have hP : va_P (dC, dI) vwP [(h0, .inr (0, [.int (zI (B1)), v_1, v_2, v_3, v_4, v_5, v_6, v_7, v_8, .ref q_709, v_10, .ref q_711, .ref q_712, .ref q_713, .ref q_714, v_15, v_16, v_17, v_18])), (q_709, .inl (cA_709, 300, .inl (fun j : Nat => zI (a_9 (j : Int))))), (q_711, .inl (cA_711, 300, .inl (fun j : Nat => zI (a_11 (j : Int))))), (q_712, .inl (cA_712, 300, .inl (fun j : Nat => zI (a_12 (j : Int))))), (q_713, .inl (cA_713, 301, .inl (fun j : Nat => zI (a_2007 (j : Int))))), (q_714, .inl (cA_714, 600, .inl (fun j : Nat => zI (a_14 (j : Int)))))] H := hP
                    have hD : va_D A [(h0, .inr (0, [.int (zI (B1)), v_1, v_2, v_3, v_4, v_5, v_6, v_7, v_8, .ref q_709, v_10, .ref q_711, .ref q_712, .ref q_713, .ref q_714, v_15, v_16, v_17, v_18])), (q_709, .inl (cA_709, 300, .inl (fun j : Nat => zI (a_9 (j : Int))))), (q_711, .inl (cA_711, 300, .inl (fun j : Nat => zI (a_11 (j : Int))))), (q_712, .inl (cA_712, 300, .inl (fun j : Nat => zI (a_12 (j : Int))))), (q_713, .inl (cA_713, 301, .inl (fun j : Nat => zI (a_2007 (j : Int))))), (q_714, .inl (cA_714, 600, .inl (fun j : Nat => zI (a_14 (j : Int)))))] := hD
                    refine lv_iload_n hx hb dX0_findPreds_97 rfl (lv_at hl 2 rfl) ?_
                    refine lv_iload_n hx hb dX0_findPreds_98 rfl (lv_at hl 0 rfl) ?_
                    refine lv_iadd hx hb dX0_findPreds_99 ?_
                    refine lv_topi (fun z ez => ?_)
                    obtain rfl : z = zI (S + (w (b))) := ez.trans (zI_add (S) (w (b)))
                    refine lv_istore_n (lv' := [(1, .int (zI (S + (w (b))))), (3, .int (zI (w (b)))), (0, .ref h0), (2, .int (zI (b)))]) hx hb dX0_findPreds_100 rfl hl (by decide) rfl (fun ls hl => ?_)
                    refine lv_iinc (v := zI (b + 1)) (lv' := [(2, .int (zI (b + 1))), (1, .int (zI (S + (w (b))))), (3, .int (zI (w (b)))), (0, .ref h0)]) hx hb dX0_findPreds_101 hl (k := 3) rfl (zI_add (b) (1)) (by decide) rfl (fun ls hl => ?_)
                    refine lv_goto (tgt := 75) hx hb dX0_findPreds_104 (by decide) ?_
                    exact ih75 (S + (w (b))) (b + 1) a_2007 ls H _ ra_2007 (by omega) (by rw [psF_succ a_9 a_11 a_12 B1.toNat (by omega), ← jS, ← jV b (by omega) (by omega)]) (fun j h1 h2 => by rw [ea_2007]; unfold zup; split; rename_i h; rw [h]; exact jS; exact jW j h1 (by omega)) (fun j h1 h2 => by rw [ea_2007]; unfold zup; rw [if_neg (by omega)]; exact jV j (by omega) h2) (by omega) (lv_sub hl [3, 1, 0] rfl) hP hD hS
              exact key75 ((B1 + 1 - 0 : Int).toNat + 1) 0 0 w ls H _ jw (by omega) rfl (fun j h1 h2 => by omega) (fun j h1 h2 => by rw [jW j (by omega) h2, show b = B1 by omega]; omega) (by omega) (lv_sub hl [2, 1, 0] rfl) hP hD hS
            · have yb30 : ¬ (B1 : Int) ≤ (b : Int) := fun q => b30 ((zI_le (a := B1) (b := b) (by omega) (by omega) (by omega) (by omega)).mpr q)
              refine lv_iconst (v := 0) hx hb dX0_findPreds_33 (by decide) ?_
              refine lv_istore_n (lv' := [(2, .int 0), (0, .ref h0), (1, .int (zI (b)))]) hx hb dX0_findPreds_34 rfl hl (by decide) rfl (fun ls hl => ?_)
              have key35 : ∀ n35 : Nat, ∀ (i : Int) (w : Int → Int) (ls : Array Slot) (H : Heap) (locs : List Loc), (∀ j : Int, 0 ≤ w j ∧ w j ≤ 600) → (0 ≤ i ∧ i ≤ gcF a_9 a_11 a_12 b) → (∀ j : Int, 0 ≤ j → j ≤ B1 → w j = 0 + cni a_9 a_11 a_12 j b i) → ((gcF a_9 a_11 a_12 b - i : Int).toNat) < n35 → lv_has ls 5 [(0, .ref h0), (1, .int (zI (b))), (2, .int (zI (i)))] → va_P (dC, dI) vwP [(h0, .inr (0, [.int (zI (B1)), v_1, v_2, v_3, v_4, v_5, v_6, v_7, v_8, .ref q_709, v_10, .ref q_711, .ref q_712, .ref q_713, .ref q_714, v_15, v_16, v_17, v_18])), (q_709, .inl (cA_709, 300, .inl (fun j : Nat => zI (a_9 (j : Int))))), (q_711, .inl (cA_711, 300, .inl (fun j : Nat => zI (a_11 (j : Int))))), (q_712, .inl (cA_712, 300, .inl (fun j : Nat => zI (a_12 (j : Int))))), (q_713, .inl (cA_713, 301, .inl (fun j : Nat => zI (w (j : Int))))), (q_714, .inl (cA_714, 600, .inl (fun j : Nat => zI (a_14 (j : Int)))))] H → va_D A [(h0, .inr (0, [.int (zI (B1)), v_1, v_2, v_3, v_4, v_5, v_6, v_7, v_8, .ref q_709, v_10, .ref q_711, .ref q_712, .ref q_713, .ref q_714, v_15, v_16, v_17, v_18])), (q_709, .inl (cA_709, 300, .inl (fun j : Nat => zI (a_9 (j : Int))))), (q_711, .inl (cA_711, 300, .inl (fun j : Nat => zI (a_11 (j : Int))))), (q_712, .inl (cA_712, 300, .inl (fun j : Nat => zI (a_12 (j : Int))))), (q_713, .inl (cA_713, 301, .inl (fun j : Nat => zI (w (j : Int))))), (q_714, .inl (cA_714, 600, .inl (fun j : Nat => zI (a_14 (j : Int)))))] → va_S A s.heap H locs → W p l e (headSpec v_X0_findPreds ({ frames := 1, cells := 0, slots := 0, locals := 22 })).room s m ([.ref h0] : List Value).toArray below meth c H locs 0 0 Q (F0 m 35 ls []) := by
                intro n35
                induction n35 with
                | zero => intro i w ls H locs jw ji jW hm35; exact absurd hm35 (by omega)
                | succ n35 ih35 =>
                  intro i w ls H locs jw ji jW hm35 hl hP hD hS
                  refine lv_iload_n hx hb dX0_findPreds_35 rfl (lv_at hl 2 rfl) ?_
                  refine lv_aload_n hx hb dX0_findPreds_36 rfl (lv_at hl 0 rfl) ?_
                  refine lv_iload_n hx hb dX0_findPreds_37 rfl (lv_at hl 1 rfl) ?_
                  have hPc := hP.sub (ws' := [(h0, .inr (0, [.int (zI (B1)), v_1, v_2, v_3, v_4, v_5, v_6, v_7, v_8, .ref q_709, v_10, .ref q_711, .ref q_712, .ref q_713, .ref q_714, v_15, v_16, v_17, v_18])), (q_709, .inl (cA_709, 300, .inl (fun j : Nat => zI (a_9 (j : Int))))), (q_711, .inl (cA_711, 300, .inl (fun j : Nat => zI (a_11 (j : Int))))), (q_712, .inl (cA_712, 300, .inl (fun j : Nat => zI (a_12 (j : Int)))))]) [0, 1, 2, 3] rfl
                  have hDc := hD.sub (ws' := [(h0, .inr (0, [.int (zI (B1)), v_1, v_2, v_3, v_4, v_5, v_6, v_7, v_8, .ref q_709, v_10, .ref q_711, .ref q_712, .ref q_713, .ref q_714, v_15, v_16, v_17, v_18])), (q_709, .inl (cA_709, 300, .inl (fun j : Nat => zI (a_9 (j : Int))))), (q_711, .inl (cA_711, 300, .inl (fun j : Nat => zI (a_11 (j : Int))))), (q_712, .inl (cA_712, 300, .inl (fun j : Nat => zI (a_12 (j : Int)))))]) [0, 1, 2, 3] (by decide) rfl
                  have hKc := hK.sub (tys' := [(cA_709, .int), (cA_711, .int), (cA_712, .int)]) [0, 1, 2] rfl
                  have hFc := va_free (wc := [(h0, .inr (0, [.int (zI (B1)), v_1, v_2, v_3, v_4, v_5, v_6, v_7, v_8, .ref q_709, v_10, .ref q_711, .ref q_712, .ref q_713, .ref q_714, v_15, v_16, v_17, v_18])), (q_709, .inl (cA_709, 300, .inl (fun j : Nat => zI (a_9 (j : Int))))), (q_711, .inl (cA_711, 300, .inl (fun j : Nat => zI (a_11 (j : Int))))), (q_712, .inl (cA_712, 300, .inl (fun j : Nat => zI (a_12 (j : Int)))))]) hD hS hA [0, 1, 2, 3] rfl
                  refine va_calli (va_runV (As := [.int (zI (b))]) (rest := [.int (zI (i))]) ⟨hx, hb, hml, hown, hts⟩ (c_X0_goalCount l dC dI h0 (.int (zI (B1))) v_1 v_2 v_3 v_4 v_5 v_6 v_7 v_8 q_709 cA_709 a_9 v_10 q_711 cA_711 a_11 q_712 cA_712 a_12 (.ref q_713) (.ref q_714) v_15 v_16 v_17 v_18 b hR_a_9 hR_a_11 hR_a_12 (by omega) H.size) (cwV 1 hts g_X0_findPreds_X0_goalCount rfl rfl rfl (by decide +kernel) ⟨(Nat.le_of_ble_eq_true rfl), (Nat.le_of_ble_eq_true rfl)⟩) ⟨fun a U g mk q => by obtain ⟨q0, q1, qP, qK, qD⟩ := q; exact ⟨q0, q1, qP, va_K.moved (u := U) (U := U.calling g mk a) (Vm.Alike.refl U.vm) qK, qD⟩, va_recv hKc hPc (ci := 0) (q0 := 0) rfl rfl, fun U hU hW => ⟨rfl, by rw [hU], by rw [hU]; exact hPc, va_K.moved hW.alike hKc, hDc.weaken (fun _ _ _ _ => trivial)⟩⟩ rfl rfl hl.1 rfl (lv_room (Nat.le_of_ble_eq_true rfl)) dX0_findPreds_38 ⟨(Nat.le_of_ble_eq_true rfl), (Nat.le_of_ble_eq_true rfl)⟩) hS (fun q _ h => hFc q h) hFc (fun r_2008 u t H1 locs ht hvm hw hB hz1 hk1 hS => ?_)
                  obtain ⟨hP1, hK1, hD1⟩ := hB
                  rw [ht] at hP1
                  have hK1 := va_K.moved hvm.symm hK1
                  obtain ⟨hP, hD⟩ := va_join (wr := [(q_713, .inl (cA_713, 301, .inl (fun j : Nat => zI (w (j : Int))))), (q_714, .inl (cA_714, 600, .inl (fun j : Nat => zI (a_14 (j : Int)))))]) (w1 := [(h0, .inr (0, [.int (zI (B1)), v_1, v_2, v_3, v_4, v_5, v_6, v_7, v_8, .ref q_709, v_10, .ref q_711, .ref q_712, .ref q_713, .ref q_714, v_15, v_16, v_17, v_18])), (q_709, .inl (cA_709, 300, .inl (fun j : Nat => zI (a_9 (j : Int))))), (q_711, .inl (cA_711, 300, .inl (fun j : Nat => zI (a_11 (j : Int))))), (q_712, .inl (cA_712, 300, .inl (fun j : Nat => zI (a_12 (j : Int)))))]) hP hD [0, 1, 2, 3] [4, 5] rfl rfl (by decide) (by decide) hk1 hFc hP1 hD1
                  have hK := (hK.sub (tys' := [(cA_713, .int), (cA_714, .int)]) [3, 4] rfl).app hK1
                  generalize H1 = H at hP hS ⊢
                  have hP : va_P (dC, dI) vwP [(q_713, .inl (cA_713, 301, .inl (fun j : Nat => zI (w (j : Int))))), (q_714, .inl (cA_714, 600, .inl (fun j : Nat => zI (a_14 (j : Int))))), (h0, .inr (0, [.int (zI (B1)), v_1, v_2, v_3, v_4, v_5, v_6, v_7, v_8, .ref q_709, v_10, .ref q_711, .ref q_712, .ref q_713, .ref q_714, v_15, v_16, v_17, v_18])), (q_709, .inl (cA_709, 300, .inl (fun j : Nat => zI (a_9 (j : Int))))), (q_711, .inl (cA_711, 300, .inl (fun j : Nat => zI (a_11 (j : Int))))), (q_712, .inl (cA_712, 300, .inl (fun j : Nat => zI (a_12 (j : Int)))))] H := hP
                  have hD : va_D A [(q_713, .inl (cA_713, 301, .inl (fun j : Nat => zI (w (j : Int))))), (q_714, .inl (cA_714, 600, .inl (fun j : Nat => zI (a_14 (j : Int))))), (h0, .inr (0, [.int (zI (B1)), v_1, v_2, v_3, v_4, v_5, v_6, v_7, v_8, .ref q_709, v_10, .ref q_711, .ref q_712, .ref q_713, .ref q_714, v_15, v_16, v_17, v_18])), (q_709, .inl (cA_709, 300, .inl (fun j : Nat => zI (a_9 (j : Int))))), (q_711, .inl (cA_711, 300, .inl (fun j : Nat => zI (a_11 (j : Int))))), (q_712, .inl (cA_712, 300, .inl (fun j : Nat => zI (a_12 (j : Int)))))] := hD
                  have hK : va_K (dC, dI) vwP [(cA_713, .int), (cA_714, .int), (cA_709, .int), (cA_711, .int), (cA_712, .int)] s := hK
                  refine W.widen (k := 0) (n := 0) (Nat.le_of_ble_eq_true rfl) (Nat.le_of_ble_eq_true rfl) ?_
                  obtain rfl : r_2008 = (zI (gcF a_9 a_11 a_12 b)) := hw
                  have := gcF_rng a_9 a_11 a_12 (b)
                  refine lv_icmp_ge (tgt := 65) hx hb dX0_findPreds_41 (by decide) (fun b41 => ?_) (fun b41 => ?_)
                  · have yb41 : (gcF a_9 a_11 a_12 b : Int) ≤ (i : Int) := (zI_le (a := gcF a_9 a_11 a_12 b) (b := i) (by omega) (by omega) (by omega) (by omega)).mp b41
                    refine lv_iinc (v := zI (b + 1)) (lv' := [(1, .int (zI (b + 1))), (0, .ref h0), (2, .int (zI (i)))]) hx hb dX0_findPreds_65 hl (k := 1) rfl (zI_add (b) (1)) (by decide) rfl (fun ls hl => ?_)
                    refine lv_goto (tgt := 25) hx hb dX0_findPreds_68 (by decide) ?_
                    have hP := hP.sub (ws' := [(h0, .inr (0, [.int (zI (B1)), v_1, v_2, v_3, v_4, v_5, v_6, v_7, v_8, .ref q_709, v_10, .ref q_711, .ref q_712, .ref q_713, .ref q_714, v_15, v_16, v_17, v_18])), (q_709, .inl (cA_709, 300, .inl (fun j : Nat => zI (a_9 (j : Int))))), (q_711, .inl (cA_711, 300, .inl (fun j : Nat => zI (a_11 (j : Int))))), (q_712, .inl (cA_712, 300, .inl (fun j : Nat => zI (a_12 (j : Int))))), (q_713, .inl (cA_713, 301, .inl (fun j : Nat => zI (w (j : Int))))), (q_714, .inl (cA_714, 600, .inl (fun j : Nat => zI (a_14 (j : Int)))))]) [2, 3, 4, 5, 0, 1] rfl
                    have hD := hD.sub (ws' := [(h0, .inr (0, [.int (zI (B1)), v_1, v_2, v_3, v_4, v_5, v_6, v_7, v_8, .ref q_709, v_10, .ref q_711, .ref q_712, .ref q_713, .ref q_714, v_15, v_16, v_17, v_18])), (q_709, .inl (cA_709, 300, .inl (fun j : Nat => zI (a_9 (j : Int))))), (q_711, .inl (cA_711, 300, .inl (fun j : Nat => zI (a_11 (j : Int))))), (q_712, .inl (cA_712, 300, .inl (fun j : Nat => zI (a_12 (j : Int))))), (q_713, .inl (cA_713, 301, .inl (fun j : Nat => zI (w (j : Int))))), (q_714, .inl (cA_714, 600, .inl (fun j : Nat => zI (a_14 (j : Int)))))]) [2, 3, 4, 5, 0, 1] (by decide) rfl
                    exact ih25 (b + 1) w ls H _ jw (by omega) (fun j h1 h2 => by rw [cn_succ a_9 a_11 a_12 j (by omega), jW j h1 h2, show i = gcF a_9 a_11 a_12 b by omega]) (by omega) (lv_sub hl [1, 0] rfl) hP hD hS
                  · have yb41 : ¬ (gcF a_9 a_11 a_12 b : Int) ≤ (i : Int) := fun q => b41 ((zI_le (a := gcF a_9 a_11 a_12 b) (b := i) (by omega) (by omega) (by omega) (by omega)).mpr q)
                    refine lv_aload_n hx hb dX0_findPreds_44 rfl (lv_at hl 0 rfl) ?_
                    refine va_get (D := (dC, dI)) (ci := 0) (v := .ref q_713) (C := RX0) (T := TX0) (N := 19) hx hb hts mem_X0_findPreds_0 hown hK hP 2 rfl rfl 13 (by decide) (ow (k := 1) rfl) (fun _ h9 => h9) rfl dX0_findPreds_45 ?_
                    refine lv_aload_n hx hb dX0_findPreds_48 rfl (lv_at hl 0 rfl) ?_
                    refine lv_iload_n hx hb dX0_findPreds_49 rfl (lv_at hl 1 rfl) ?_
                    refine lv_iload_n hx hb dX0_findPreds_50 rfl (lv_at hl 2 rfl) ?_
                    have hPc := hP.sub (ws' := [(h0, .inr (0, [.int (zI (B1)), v_1, v_2, v_3, v_4, v_5, v_6, v_7, v_8, .ref q_709, v_10, .ref q_711, .ref q_712, .ref q_713, .ref q_714, v_15, v_16, v_17, v_18])), (q_711, .inl (cA_711, 300, .inl (fun j : Nat => zI (a_11 (j : Int))))), (q_712, .inl (cA_712, 300, .inl (fun j : Nat => zI (a_12 (j : Int)))))]) [2, 4, 5] rfl
                    have hDc := hD.sub (ws' := [(h0, .inr (0, [.int (zI (B1)), v_1, v_2, v_3, v_4, v_5, v_6, v_7, v_8, .ref q_709, v_10, .ref q_711, .ref q_712, .ref q_713, .ref q_714, v_15, v_16, v_17, v_18])), (q_711, .inl (cA_711, 300, .inl (fun j : Nat => zI (a_11 (j : Int))))), (q_712, .inl (cA_712, 300, .inl (fun j : Nat => zI (a_12 (j : Int)))))]) [2, 4, 5] (by decide) rfl
                    have hKc := hK.sub (tys' := [(cA_711, .int), (cA_712, .int)]) [3, 4] rfl
                    have hFc := va_free (wc := [(h0, .inr (0, [.int (zI (B1)), v_1, v_2, v_3, v_4, v_5, v_6, v_7, v_8, .ref q_709, v_10, .ref q_711, .ref q_712, .ref q_713, .ref q_714, v_15, v_16, v_17, v_18])), (q_711, .inl (cA_711, 300, .inl (fun j : Nat => zI (a_11 (j : Int))))), (q_712, .inl (cA_712, 300, .inl (fun j : Nat => zI (a_12 (j : Int)))))]) hD hS hA [2, 4, 5] rfl
                    refine va_calli (va_runV (As := [.int (zI (b)), .int (zI (i))]) (rest := [.ref q_713]) ⟨hx, hb, hml, hown, hts⟩ (c_X0_goal l dC dI h0 (.int (zI (B1))) v_1 v_2 v_3 v_4 v_5 v_6 v_7 v_8 (.ref q_709) v_10 q_711 cA_711 a_11 q_712 cA_712 a_12 (.ref q_713) (.ref q_714) v_15 v_16 v_17 v_18 b i hR_a_11 hR_a_12 (by omega) (by omega) H.size) (cwV 2 hts g_X0_findPreds_X0_goal rfl rfl rfl (by decide +kernel) ⟨(Nat.le_of_ble_eq_true rfl), (Nat.le_of_ble_eq_true rfl)⟩) ⟨fun a U g mk q => by obtain ⟨q0, q1, qP, qK, qD⟩ := q; exact ⟨q0, q1, qP, va_K.moved (u := U) (U := U.calling g mk a) (Vm.Alike.refl U.vm) qK, qD⟩, va_recv hKc hPc (ci := 0) (q0 := 0) rfl rfl, fun U hU hW => ⟨rfl, by rw [hU], by rw [hU]; exact hPc, va_K.moved hW.alike hKc, hDc.weaken (fun _ _ _ _ => trivial)⟩⟩ rfl rfl hl.1 rfl (lv_room (Nat.le_of_ble_eq_true rfl)) dX0_findPreds_51 ⟨(Nat.le_of_ble_eq_true rfl), (Nat.le_of_ble_eq_true rfl)⟩) hS (fun q _ h => hFc q h) hFc (fun r_2009 u t H1 locs ht hvm hw hB hz1 hk1 hS => ?_)
                    obtain ⟨hP1, hK1, hD1⟩ := hB
                    rw [ht] at hP1
                    have hK1 := va_K.moved hvm.symm hK1
                    obtain ⟨hP, hD⟩ := va_join (wr := [(q_713, .inl (cA_713, 301, .inl (fun j : Nat => zI (w (j : Int))))), (q_714, .inl (cA_714, 600, .inl (fun j : Nat => zI (a_14 (j : Int))))), (q_709, .inl (cA_709, 300, .inl (fun j : Nat => zI (a_9 (j : Int)))))]) (w1 := [(h0, .inr (0, [.int (zI (B1)), v_1, v_2, v_3, v_4, v_5, v_6, v_7, v_8, .ref q_709, v_10, .ref q_711, .ref q_712, .ref q_713, .ref q_714, v_15, v_16, v_17, v_18])), (q_711, .inl (cA_711, 300, .inl (fun j : Nat => zI (a_11 (j : Int))))), (q_712, .inl (cA_712, 300, .inl (fun j : Nat => zI (a_12 (j : Int)))))]) hP hD [2, 4, 5] [0, 1, 3] rfl rfl (by decide) (by decide) hk1 hFc hP1 hD1
                    have hK := (hK.sub (tys' := [(cA_713, .int), (cA_714, .int), (cA_709, .int)]) [0, 1, 2] rfl).app hK1
                    generalize H1 = H at hP hS ⊢
                    have hP : va_P (dC, dI) vwP [(q_713, .inl (cA_713, 301, .inl (fun j : Nat => zI (w (j : Int))))), (q_714, .inl (cA_714, 600, .inl (fun j : Nat => zI (a_14 (j : Int))))), (q_709, .inl (cA_709, 300, .inl (fun j : Nat => zI (a_9 (j : Int))))), (h0, .inr (0, [.int (zI (B1)), v_1, v_2, v_3, v_4, v_5, v_6, v_7, v_8, .ref q_709, v_10, .ref q_711, .ref q_712, .ref q_713, .ref q_714, v_15, v_16, v_17, v_18])), (q_711, .inl (cA_711, 300, .inl (fun j : Nat => zI (a_11 (j : Int))))), (q_712, .inl (cA_712, 300, .inl (fun j : Nat => zI (a_12 (j : Int)))))] H := hP
                    have hD : va_D A [(q_713, .inl (cA_713, 301, .inl (fun j : Nat => zI (w (j : Int))))), (q_714, .inl (cA_714, 600, .inl (fun j : Nat => zI (a_14 (j : Int))))), (q_709, .inl (cA_709, 300, .inl (fun j : Nat => zI (a_9 (j : Int))))), (h0, .inr (0, [.int (zI (B1)), v_1, v_2, v_3, v_4, v_5, v_6, v_7, v_8, .ref q_709, v_10, .ref q_711, .ref q_712, .ref q_713, .ref q_714, v_15, v_16, v_17, v_18])), (q_711, .inl (cA_711, 300, .inl (fun j : Nat => zI (a_11 (j : Int))))), (q_712, .inl (cA_712, 300, .inl (fun j : Nat => zI (a_12 (j : Int)))))] := hD
                    have hK : va_K (dC, dI) vwP [(cA_713, .int), (cA_714, .int), (cA_709, .int), (cA_711, .int), (cA_712, .int)] s := hK
                    refine W.widen (k := 0) (n := 0) (Nat.le_of_ble_eq_true rfl) (Nat.le_of_ble_eq_true rfl) ?_
                    obtain rfl : r_2009 = (zI (glF a_11 a_12 b i)) := hw
                    have hg := gl_lt hX_G hR_a_11 hR_a_12 (b := b) (i := i) (by omega) (by omega) (by omega) (by omega)
                    have c1 := cni_b a_9 a_11 a_12 (b := b) (i := i) (by omega) (by omega) (by omega)
                    have c2 := jW (glF a_11 a_12 b i) (by omega) (by omega)
                    refine lv_dup2_11 hx hb dX0_findPreds_54 rfl rfl ?_
                    refine va_iald hx hb hK hP 0 0 rfl rfl (zI_in (a := glF a_11 a_12 b i) (n := 301) (by omega) (by omega) (by decide)) dX0_findPreds_55 ?_
                    refine lv_topi (fun z ez => ?_)
                    obtain rfl : z = zI (w (glF a_11 a_12 b i)) := ez.trans (zI_ld (w) (by omega) (by omega))
                    have k5 := jw (glF a_11 a_12 b i)
                    refine lv_iconst (v := 1) hx hb dX0_findPreds_56 (by decide) ?_
                    refine lv_iadd hx hb dX0_findPreds_57 ?_
                    refine lv_topi (fun z ez => ?_)
                    obtain rfl : z = zI ((w (glF a_11 a_12 b i)) + 1) := ez.trans (zI_add (w (glF a_11 a_12 b i)) (1))
                    refine va_iast (i := zI (glF a_11 a_12 b i)) hx hb hK hP hD hS 0 0 rfl rfl (zI_in (a := glF a_11 a_12 b i) (n := 301) (by omega) (by omega) (by decide)) dX0_findPreds_58 (fun H locs hP hD hS => ?_)
                    have eQ : upd (fun j : Nat => zI (w (j : Int))) (zI (glF a_11 a_12 b i)).toNatClampNeg (zI ((w (glF a_11 a_12 b i)) + 1)) = (fun j : Nat => zI (zup w (glF a_11 a_12 b i) ((w (glF a_11 a_12 b i)) + 1) (j : Int))) := zI_st w (e := glF a_11 a_12 b i) (v := (w (glF a_11 a_12 b i)) + 1) (by omega) (by omega)
                    rw [eQ] at hP hD
                    clear eQ
                    have ra_2010 : ∀ j : Int, 0 ≤ zup w (glF a_11 a_12 b i) ((w (glF a_11 a_12 b i)) + 1) j ∧ zup w (glF a_11 a_12 b i) ((w (glF a_11 a_12 b i)) + 1) j ≤ 600 := zup_P (P := fun x9 => 0 ≤ x9 ∧ x9 ≤ 600) jw (show 0 ≤ ((w (glF a_11 a_12 b i)) + 1) ∧ ((w (glF a_11 a_12 b i)) + 1) ≤ 600 by omega)
                    obtain ⟨a_2010, ea_2010⟩ : ∃ a9 : Int → Int, a9 = zup w (glF a_11 a_12 b i) ((w (glF a_11 a_12 b i)) + 1) := ⟨_, rfl⟩
                    rw [← ea_2010] at hP hD ra_2010
                    have hP : va_P (dC, dI) vwP [(q_713, .inl (cA_713, 301, .inl (fun j : Nat => zI (a_2010 (j : Int))))), (q_714, .inl (cA_714, 600, .inl (fun j : Nat => zI (a_14 (j : Int))))), (q_709, .inl (cA_709, 300, .inl (fun j : Nat => zI (a_9 (j : Int))))), (h0, .inr (0, [.int (zI (B1)), v_1, v_2, v_3, v_4, v_5, v_6, v_7, v_8, .ref q_709, v_10, .ref q_711, .ref q_712, .ref q_713, .ref q_714, v_15, v_16, v_17, v_18])), (q_711, .inl (cA_711, 300, .inl (fun j : Nat => zI (a_11 (j : Int))))), (q_712, .inl (cA_712, 300, .inl (fun j : Nat => zI (a_12 (j : Int)))))] H := hP
                    have hD : va_D A [(q_713, .inl (cA_713, 301, .inl (fun j : Nat => zI (a_2010 (j : Int))))), (q_714, .inl (cA_714, 600, .inl (fun j : Nat => zI (a_14 (j : Int))))), (q_709, .inl (cA_709, 300, .inl (fun j : Nat => zI (a_9 (j : Int))))), (h0, .inr (0, [.int (zI (B1)), v_1, v_2, v_3, v_4, v_5, v_6, v_7, v_8, .ref q_709, v_10, .ref q_711, .ref q_712, .ref q_713, .ref q_714, v_15, v_16, v_17, v_18])), (q_711, .inl (cA_711, 300, .inl (fun j : Nat => zI (a_11 (j : Int))))), (q_712, .inl (cA_712, 300, .inl (fun j : Nat => zI (a_12 (j : Int)))))] := hD
                    refine lv_iinc (v := zI (i + 1)) (lv' := [(2, .int (zI (i + 1))), (0, .ref h0), (1, .int (zI (b)))]) hx hb dX0_findPreds_59 hl (k := 2) rfl (zI_add (i) (1)) (by decide) rfl (fun ls hl => ?_)
                    refine lv_goto (tgt := 35) hx hb dX0_findPreds_62 (by decide) ?_
                    have hP := hP.sub (ws' := [(h0, .inr (0, [.int (zI (B1)), v_1, v_2, v_3, v_4, v_5, v_6, v_7, v_8, .ref q_709, v_10, .ref q_711, .ref q_712, .ref q_713, .ref q_714, v_15, v_16, v_17, v_18])), (q_709, .inl (cA_709, 300, .inl (fun j : Nat => zI (a_9 (j : Int))))), (q_711, .inl (cA_711, 300, .inl (fun j : Nat => zI (a_11 (j : Int))))), (q_712, .inl (cA_712, 300, .inl (fun j : Nat => zI (a_12 (j : Int))))), (q_713, .inl (cA_713, 301, .inl (fun j : Nat => zI (a_2010 (j : Int))))), (q_714, .inl (cA_714, 600, .inl (fun j : Nat => zI (a_14 (j : Int)))))]) [3, 2, 4, 5, 0, 1] rfl
                    have hD := hD.sub (ws' := [(h0, .inr (0, [.int (zI (B1)), v_1, v_2, v_3, v_4, v_5, v_6, v_7, v_8, .ref q_709, v_10, .ref q_711, .ref q_712, .ref q_713, .ref q_714, v_15, v_16, v_17, v_18])), (q_709, .inl (cA_709, 300, .inl (fun j : Nat => zI (a_9 (j : Int))))), (q_711, .inl (cA_711, 300, .inl (fun j : Nat => zI (a_11 (j : Int))))), (q_712, .inl (cA_712, 300, .inl (fun j : Nat => zI (a_12 (j : Int))))), (q_713, .inl (cA_713, 301, .inl (fun j : Nat => zI (a_2010 (j : Int))))), (q_714, .inl (cA_714, 600, .inl (fun j : Nat => zI (a_14 (j : Int)))))]) [3, 2, 4, 5, 0, 1] (by decide) rfl
                    exact ih35 (i + 1) a_2010 ls H _ ra_2010 (by have := gcF_rng a_9 a_11 a_12 b; omega) (by rw [ea_2010]; exact cni_step (p := fun _ => 0) jW (by omega) (by omega)) (by omega) (lv_sub hl [1, 2, 0] rfl) hP hD hS
              exact key35 ((gcF a_9 a_11 a_12 b - 0 : Int).toNat + 1) 0 w ls H _ jw (by have := gcF_rng a_9 a_11 a_12 b; omega) (fun j h1 h2 => by rw [jW j h1 h2, cni_0]) (by omega) (lv_sub hl [1, 2, 0] rfl) hP hD hS
        exact key25 ((B1 - 0 : Int).toNat + 1) 0 w ls H _ jw (by omega) (fun j h1 h2 => by rw [jW j h1 (by omega)]; rfl) (by omega) (lv_sub hl [1, 0] rfl) hP hD hS
      · have yb7 : ¬ (B1 : Int) < (i : Int) := fun q => b7 ((zI_lt (a := B1) (b := i) (by omega) (by omega) (by omega) (by omega)).mpr q)
        refine lv_aload_n hx hb dX0_findPreds_10 rfl (lv_at hl 0 rfl) ?_
        refine va_get (D := (dC, dI)) (ci := 0) (v := .ref q_713) (C := RX0) (T := TX0) (N := 19) hx hb hts mem_X0_findPreds_0 hown hK hP 0 rfl rfl 13 (by decide) (ow (k := 1) rfl) (fun _ h9 => h9) rfl dX0_findPreds_11 ?_
        refine lv_iload_n hx hb dX0_findPreds_14 rfl (lv_at hl 1 rfl) ?_
        refine lv_iconst (v := 0) hx hb dX0_findPreds_15 (by decide) ?_
        refine va_iast (i := zI (i)) hx hb hK hP hD hS 4 3 rfl rfl (zI_in (a := i) (n := 301) (by omega) (by omega) (by decide)) dX0_findPreds_16 (fun H locs hP hD hS => ?_)
        have eQ : upd (fun j : Nat => zI (w (j : Int))) (zI (i)).toNatClampNeg 0 = (fun j : Nat => zI (zup w (i) (0) (j : Int))) := zI_st w (e := i) (v := 0) (by omega) (by omega)
        rw [eQ] at hP hD
        clear eQ
        have ra_2011 : ∀ j : Int, 0 ≤ zup w (i) (0) j ∧ zup w (i) (0) j ≤ 600 := zup_P (P := fun x9 => 0 ≤ x9 ∧ x9 ≤ 600) jw (show 0 ≤ (0) ∧ (0) ≤ 600 by omega)
        obtain ⟨a_2011, ea_2011⟩ : ∃ a9 : Int → Int, a9 = zup w (i) (0) := ⟨_, rfl⟩
        rw [← ea_2011] at hP hD ra_2011
        have hP : va_P (dC, dI) vwP [(h0, .inr (0, [.int (zI (B1)), v_1, v_2, v_3, v_4, v_5, v_6, v_7, v_8, .ref q_709, v_10, .ref q_711, .ref q_712, .ref q_713, .ref q_714, v_15, v_16, v_17, v_18])), (q_709, .inl (cA_709, 300, .inl (fun j : Nat => zI (a_9 (j : Int))))), (q_711, .inl (cA_711, 300, .inl (fun j : Nat => zI (a_11 (j : Int))))), (q_712, .inl (cA_712, 300, .inl (fun j : Nat => zI (a_12 (j : Int))))), (q_713, .inl (cA_713, 301, .inl (fun j : Nat => zI (a_2011 (j : Int))))), (q_714, .inl (cA_714, 600, .inl (fun j : Nat => zI (a_14 (j : Int)))))] H := hP
        have hD : va_D A [(h0, .inr (0, [.int (zI (B1)), v_1, v_2, v_3, v_4, v_5, v_6, v_7, v_8, .ref q_709, v_10, .ref q_711, .ref q_712, .ref q_713, .ref q_714, v_15, v_16, v_17, v_18])), (q_709, .inl (cA_709, 300, .inl (fun j : Nat => zI (a_9 (j : Int))))), (q_711, .inl (cA_711, 300, .inl (fun j : Nat => zI (a_11 (j : Int))))), (q_712, .inl (cA_712, 300, .inl (fun j : Nat => zI (a_12 (j : Int))))), (q_713, .inl (cA_713, 301, .inl (fun j : Nat => zI (a_2011 (j : Int))))), (q_714, .inl (cA_714, 600, .inl (fun j : Nat => zI (a_14 (j : Int)))))] := hD
        refine lv_iinc (v := zI (i + 1)) (lv' := [(1, .int (zI (i + 1))), (0, .ref h0)]) hx hb dX0_findPreds_17 hl (k := 1) rfl (zI_add (i) (1)) (by decide) rfl (fun ls hl => ?_)
        refine lv_goto (tgt := 2) hx hb dX0_findPreds_20 (by decide) ?_
        exact ih2 (i + 1) a_2011 ls H _ ra_2011 (by omega) (fun j h1 h2 => by rw [ea_2011]; unfold zup; split; rfl; exact jW j h1 (by omega)) (by omega) (lv_sub hl [1, 0] rfl) hP hD hS
  exact key2 ((B1 + 1 - 0 : Int).toNat + 1) 0 a_13 ls H _ hR_a_13 (by omega) (fun j h1 h2 => by omega) (by omega) (lv_sub hl [1, 0] rfl) hP hD hS
