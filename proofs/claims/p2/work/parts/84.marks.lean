def o_X11_dividesL : List Cond := []
def v_X11_dividesL : List Cond := .code yX11_divides cX11_divides 1 (some .boolean) :: (o_X11_dividesL ++ [])
theorem mow_X11_dividesL : ∀ w ∈ o_X11_dividesL, w ∈ v_X11_dividesL := fun _ h => List.mem_cons_of_mem _ (List.mem_append_left _ h)
set_option maxRecDepth 20000 in
theorem gw_X11_dividesL : v_X11_dividesL.all goodWord = true := by decide +kernel
set_option maxHeartbeats 4000000 in
set_option maxRecDepth 100000 in
theorem c_X11_dividesL (l : Launch) (dC : Nat → ClassId) (dI : Nat → Nat → Nat) (o : Int) (hNo : -1 ≤ o ∧ o ≤ 100) (sz : Nat) : Met l yX11_divides v_X11_dividesL ({ frames := 0, cells := 0, slots := 0, locals := 0 }) (va_Pc [.int (zI (o))] (fun U => U.heap.size = sz ∧ va_P (dC, dI) vwP [] U.heap ∧ va_K (dC, dI) vwP [] U ∧ va_D (fun _ => True) [])) (va_Qi (fun (r : Int32) (_ : Unit) => r = zI (dvF (o))) (fun (_ : Unit) (t : State) => va_P (dC, dI) vwP [] t.heap ∧ va_K (dC, dI) vwP [] t ∧ va_D (va_A [] sz) []) (va_A [] sz)) 0 0 (va_A [] sz) := by
  refine Met.ofW (cc := cX11_divides) (maxL := 1) (ret := (some .boolean)) (by decide) rfl ?_
  intro p e s m args below meth c s₁ B hml hv
  obtain ⟨rfl, hsz, hP, hK, hD0⟩ := hv
  have hx := B.exec
  have hb := B.bytes
  have hr := B.returns
  have hts := atoms_spec (ws := v_X11_dividesL) B.pre
  have hown : s.vm.findClass RX11 = some m.cls := findClass_of_methodNamed B.named
  have hlocks := B.notSynchronized
  have ow : ∀ {k : Nat} {w : Cond}, o_X11_dividesL[k]? = some w → w.before ([.int (zI (o))] : List Value).toArray s = true := fun h => hts _ (mow_X11_dividesL _ (List.mem_of_getElem? h))
  subst hsz
  have hD := hD0.self (sz := s.heap.size)
  generalize hAe : va_A [] s.heap.size = A at hD ⊢
  have hA : ∀ q : Nat, s.heap.size ≤ q → A q := fun q h => by rw [← hAe]; exact Or.inr h
  have hS : va_S A s.heap s.heap [] := va_S.rf
  have hP : va_P (dC, dI) vwP [] s.heap := hP
  have hl := lv_entry ([.int (zI (o))]) (n := 1) (Nat.le_of_ble_eq_true rfl)
  rw [lg_entry_eq]
  generalize (lg_sl ([.int (zI (o))]) ++ List.replicate (1 - (lg_sl ([.int (zI (o))])).length) Slot.unset).toArray = ls at hl ⊢
  have hl : lv_has ls 1 [(0, .int (zI (o)))] := hl
  obtain ⟨H, hH⟩ : ∃ H, H = s.heap := ⟨_, rfl⟩
  rw [← hH] at hP
  have hS : va_S A s.heap H [] := by rw [hH]; exact hS
  rw [← hH]
  refine zW_cap (fun Q hQ => ?_)
  refine lv_iload_n hx hb dX11_divides_0 rfl (lv_at hl 0 rfl) ?_
  refine lv_bipush (v := 6) hx hb dX11_divides_1 (by decide) ?_
  refine lv_icmp_eq (tgt := 12) hx hb dX11_divides_3 (by decide) (fun b3 => ?_) (fun b3 => ?_)
  · have yb3 : (o : Int) = (6 : Int) := (zI_eq (a := o) (b := 6) (by omega) (by omega) (by omega) (by omega)).mp b3
    refine lv_iconst (v := 1) hx hb dX11_divides_12 (by decide) ?_
    refine lv_goto (tgt := 17) hx hb dX11_divides_13 (by decide) ?_
    subst hQ
    refine W.widen (k := 0) (n := 0) (Nat.le_of_ble_eq_true rfl) (Nat.le_of_ble_eq_true rfl) ?_
    exact W.zret (v := 1) hx hb hr (by decide) (fun t ht hW => ⟨⟨1, (), rfl, (congrArg zI (show (1 : Int) = dvF (o) by unfold dvF; (repeat' split) <;> omega)), by rw [ht]; exact hP, va_K.moved hW.alike hK, hD⟩, hS.F ht⟩) hS.2.2 dX11_divides_17
  · have yb3 : ¬ (o : Int) = (6 : Int) := fun q => b3 ((zI_eq (a := o) (b := 6) (by omega) (by omega) (by omega) (by omega)).mpr q)
    refine lv_iload_n hx hb dX11_divides_6 rfl (lv_at hl 0 rfl) ?_
    refine lv_bipush (v := 7) hx hb dX11_divides_7 (by decide) ?_
    refine lv_icmp_ne (tgt := 16) hx hb dX11_divides_9 (by decide) (fun b9 => ?_) (fun b9 => ?_)
    · have yb9 : ¬ (o : Int) = (7 : Int) := fun q => b9 ((zI_eq (a := o) (b := 7) (by omega) (by omega) (by omega) (by omega)).mpr q)
      refine lv_iconst (v := 0) hx hb dX11_divides_16 (by decide) ?_
      subst hQ
      refine W.widen (k := 0) (n := 0) (Nat.le_of_ble_eq_true rfl) (Nat.le_of_ble_eq_true rfl) ?_
      exact W.zret (v := 0) hx hb hr (by decide) (fun t ht hW => ⟨⟨0, (), rfl, (congrArg zI (show (0 : Int) = dvF (o) by unfold dvF; (repeat' split) <;> omega)), by rw [ht]; exact hP, va_K.moved hW.alike hK, hD⟩, hS.F ht⟩) hS.2.2 dX11_divides_17
    · have yb9 : (o : Int) = (7 : Int) := (zI_eq (a := o) (b := 7) (by omega) (by omega) (by omega) (by omega)).mp b9
      refine lv_iconst (v := 1) hx hb dX11_divides_12 (by decide) ?_
      refine lv_goto (tgt := 17) hx hb dX11_divides_13 (by decide) ?_
      subst hQ
      refine W.widen (k := 0) (n := 0) (Nat.le_of_ble_eq_true rfl) (Nat.le_of_ble_eq_true rfl) ?_
      exact W.zret (v := 1) hx hb hr (by decide) (fun t ht hW => ⟨⟨1, (), rfl, (congrArg zI (show (1 : Int) = dvF (o) by unfold dvF; (repeat' split) <;> omega)), by rw [ht]; exact hP, va_K.moved hW.alike hK, hD⟩, hS.F ht⟩) hS.2.2 dX11_divides_17
def o_X11_mayFailL : List Cond := [.methodLink RX11 322 yX11_divides, .static yX11_divides, .initialized RX11, .methodLink RX11 326 yX11_isRegister, .static yX11_isRegister]
def v_X11_mayFailL : List Cond := .code yX11_mayFail cX11_mayFail 3 (some .boolean) :: (o_X11_mayFailL ++ (v_X11_dividesL ++ (v_X11_isRegister ++ [])))
theorem mow_X11_mayFailL : ∀ w ∈ o_X11_mayFailL, w ∈ v_X11_mayFailL := fun _ h => List.mem_cons_of_mem _ (List.mem_append_left _ h)
theorem mem_X11_mayFailL_0 : ∀ w ∈ v_X11_dividesL, w ∈ v_X11_mayFailL := fun _ h => List.mem_cons_of_mem _ (List.mem_append_right _ (List.mem_append_left _ h))
theorem mem_X11_mayFailL_1 : ∀ w ∈ v_X11_isRegister, w ∈ v_X11_mayFailL := fun _ h => List.mem_cons_of_mem _ (List.mem_append_right _ (List.mem_append_right _ (List.mem_append_left _ h)))
set_option maxRecDepth 20000 in
theorem gw_X11_mayFailL : v_X11_mayFailL.all goodWord = true := by decide +kernel
set_option maxRecDepth 20000 in
theorem g_X11_mayFailL_X11_dividesL : GoodIn v_X11_mayFailL (wsS RX11 322 yX11_divides v_X11_dividesL) := goodIn_app (goodIn_sub (fun w h => mow_X11_mayFailL w (by revert w h; decide +kernel)) (by decide +kernel)) (goodIn_sub mem_X11_mayFailL_0 gw_X11_dividesL)
set_option maxRecDepth 20000 in
theorem g_X11_mayFailL_X11_isRegister : GoodIn v_X11_mayFailL (wsS RX11 326 yX11_isRegister v_X11_isRegister) := goodIn_app (goodIn_sub (fun w h => mow_X11_mayFailL w (by revert w h; decide +kernel)) (by decide +kernel)) (goodIn_sub mem_X11_mayFailL_1 gw_X11_isRegister)
set_option maxHeartbeats 4000000 in
set_option maxRecDepth 100000 in
theorem c_X11_mayFailL (l : Launch) (dC : Nat → ClassId) (dI : Nat → Nat → Nat) (o : Int) (x : Int) (hNo : -1 ≤ o ∧ o ≤ 100) (hNx : -4611686018427387904 ≤ x ∧ x ≤ 4611686018427387904) (sz : Nat) : Met l yX11_mayFail v_X11_mayFailL ({ frames := 1, cells := 0, slots := 0, locals := 21 }) (va_Pc [.int (zI (o)), .long (lI (x))] (fun U => U.heap.size = sz ∧ va_P (dC, dI) vwP [] U.heap ∧ va_K (dC, dI) vwP [] U ∧ va_D (fun _ => True) [])) (va_Qi (fun (r : Int32) (_ : Unit) => r = zI (mfF (o) (x))) (fun (_ : Unit) (t : State) => va_P (dC, dI) vwP [] t.heap ∧ va_K (dC, dI) vwP [] t ∧ va_D (va_A [] sz) []) (va_A [] sz)) 0 0 (va_A [] sz) := by
  refine Met.ofW (cc := cX11_mayFail) (maxL := 3) (ret := (some .boolean)) (by decide) rfl ?_
  intro p e s m args below meth c s₁ B hml hv
  obtain ⟨rfl, hsz, hP, hK, hD0⟩ := hv
  have hx := B.exec
  have hb := B.bytes
  have hr := B.returns
  have hts := atoms_spec (ws := v_X11_mayFailL) B.pre
  have hown : s.vm.findClass RX11 = some m.cls := findClass_of_methodNamed B.named
  have hlocks := B.notSynchronized
  have ow : ∀ {k : Nat} {w : Cond}, o_X11_mayFailL[k]? = some w → w.before ([.int (zI (o)), .long (lI (x))] : List Value).toArray s = true := fun h => hts _ (mow_X11_mayFailL _ (List.mem_of_getElem? h))
  subst hsz
  have hD := hD0.self (sz := s.heap.size)
  generalize hAe : va_A [] s.heap.size = A at hD ⊢
  have hA : ∀ q : Nat, s.heap.size ≤ q → A q := fun q h => by rw [← hAe]; exact Or.inr h
  have hS : va_S A s.heap s.heap [] := va_S.rf
  have hP : va_P (dC, dI) vwP [] s.heap := hP
  have hl := lv_entry ([.int (zI (o)), .long (lI (x))]) (n := 3) (Nat.le_of_ble_eq_true rfl)
  rw [lg_entry_eq]
  generalize (lg_sl ([.int (zI (o)), .long (lI (x))]) ++ List.replicate (3 - (lg_sl ([.int (zI (o)), .long (lI (x))])).length) Slot.unset).toArray = ls at hl ⊢
  have hl : lv_has ls 3 [(0, .int (zI (o))), (1, .long (lI (x)))] := hl
  obtain ⟨H, hH⟩ : ∃ H, H = s.heap := ⟨_, rfl⟩
  rw [← hH] at hP
  have hS : va_S A s.heap H [] := by rw [hH]; exact hS
  rw [← hH]
  refine zW_cap (fun Q hQ => ?_)
  refine lv_iload_n hx hb dX11_mayFail_0 rfl (lv_at hl 0 rfl) ?_
  have hPc := hP.sub (ws' := []) [] rfl
  have hDc := hD.sub (ws' := []) [] (by decide) rfl
  have hKc := hK.sub (tys' := []) [] rfl
  have hFc := va_free (wc := []) hD hS hA [] rfl
  refine va_calli (va_runS (As := [.int (zI (o))]) (rest := []) ⟨hx, hb, hml, hown, hts⟩ (c_X11_dividesL l dC dI o (by omega) H.size) (cwS 1 hts g_X11_mayFailL_X11_dividesL rfl rfl rfl (by decide +kernel) ⟨(Nat.le_of_ble_eq_true rfl), (Nat.le_of_ble_eq_true rfl)⟩) ⟨fun a U g mk q => by obtain ⟨q0, q1, qP, qK, qD⟩ := q; exact ⟨q0, q1, qP, va_K.moved (u := U) (U := U.calling g mk a) (Vm.Alike.refl U.vm) qK, qD⟩, fun U hU hW => ⟨rfl, by rw [hU], by rw [hU]; exact hPc, va_K.moved hW.alike hKc, hDc.weaken (fun _ _ _ _ => trivial)⟩⟩ rfl rfl hl.1 rfl (lv_room (Nat.le_of_ble_eq_true rfl)) dX11_mayFail_1 ⟨(Nat.le_of_ble_eq_true rfl), (Nat.le_of_ble_eq_true rfl)⟩) hS (fun q _ h => hFc q h) hFc (fun r_1 u t H1 locs ht hvm hw hB hz1 hk1 hS => ?_)
  obtain ⟨hP1, hK1, hD1⟩ := hB
  rw [ht] at hP1
  have hK1 := va_K.moved hvm.symm hK1
  obtain ⟨hP, hD⟩ := va_join (wr := []) (w1 := []) hP hD [] [] rfl rfl (by decide) (by decide) hk1 hFc hP1 hD1
  have hK := (hK.sub (tys' := []) [] rfl).app hK1
  generalize H1 = H at hP hS ⊢
  have hP : va_P (dC, dI) vwP [] H := hP
  have hD : va_D A [] := hD
  have hK : va_K (dC, dI) vwP [] s := hK
  refine W.widen (k := 0) (n := 0) (Nat.le_of_ble_eq_true rfl) (Nat.le_of_ble_eq_true rfl) ?_
  obtain rfl : r_1 = (zI (dvF (o))) := hw
  have := dvF_spec (o)
  refine lv_if_eq (tgt := 24) hx hb dX11_mayFail_4 (by decide) (fun b4 => ?_) (fun b4 => ?_)
  · have yb4 : (dvF (o) : Int) = (0 : Int) := (zI_eq (a := dvF (o)) (b := 0) (by omega) (by omega) (by omega) (by omega)).mp b4
    refine lv_iconst (v := 0) hx hb dX11_mayFail_24 (by decide) ?_
    subst hQ
    refine W.widen (k := 0) (n := 0) (Nat.le_of_ble_eq_true rfl) (Nat.le_of_ble_eq_true rfl) ?_
    exact W.zret (v := 0) hx hb hr (by decide) (fun t ht hW => ⟨⟨0, (), rfl, (congrArg zI (show (0 : Int) = mfF (o) (x) by have q9 := mfF_spec (o) (x); omega)), by rw [ht]; exact hP, va_K.moved hW.alike hK, hD⟩, hS.F ht⟩) hS.2.2 dX11_mayFail_25
  · have yb4 : ¬ (dvF (o) : Int) = (0 : Int) := fun q => b4 ((zI_eq (a := dvF (o)) (b := 0) (by omega) (by omega) (by omega) (by omega)).mpr q)
    refine lv_lload_n hx hb dX11_mayFail_7 rfl (lv_at hl 1 rfl) ?_
    refine lv_lconst (v := lI (0)) hx hb dX11_mayFail_8 (by decide) ?_
    refine W.lcmp hx hb dX11_mayFail_9 ?_
    refine lv_if_eq (tgt := 20) hx hb dX11_mayFail_10 (by decide) (fun b10 => ?_) (fun b10 => ?_)
    · have yb10 : (x : Int) = 0 := (lc_eq (a := x) (b := 0) (by omega) (by omega) (by omega) (by omega)).mp b10
      refine lv_iconst (v := 1) hx hb dX11_mayFail_20 (by decide) ?_
      refine lv_goto (tgt := 25) hx hb dX11_mayFail_21 (by decide) ?_
      subst hQ
      refine W.widen (k := 0) (n := 0) (Nat.le_of_ble_eq_true rfl) (Nat.le_of_ble_eq_true rfl) ?_
      exact W.zret (v := 1) hx hb hr (by decide) (fun t ht hW => ⟨⟨1, (), rfl, (congrArg zI (show (1 : Int) = mfF (o) (x) by have q9 := mfF_spec (o) (x); omega)), by rw [ht]; exact hP, va_K.moved hW.alike hK, hD⟩, hS.F ht⟩) hS.2.2 dX11_mayFail_25
    · have yb10 : ¬ (x : Int) = 0 := fun q => b10 ((lc_eq (a := x) (b := 0) (by omega) (by omega) (by omega) (by omega)).mpr q)
      refine lv_lload_n hx hb dX11_mayFail_13 rfl (lv_at hl 1 rfl) ?_
      have hPc := hP.sub (ws' := []) [] rfl
      have hDc := hD.sub (ws' := []) [] (by decide) rfl
      have hKc := hK.sub (tys' := []) [] rfl
      have hFc := va_free (wc := []) hD hS hA [] rfl
      refine va_calli (va_runS (As := [.long (lI (x))]) (rest := []) ⟨hx, hb, hml, hown, hts⟩ (c_X11_isRegister l dC dI x (by omega) H.size) (cwS 1 hts g_X11_mayFailL_X11_isRegister rfl rfl rfl (by decide +kernel) ⟨(Nat.le_of_ble_eq_true rfl), (Nat.le_of_ble_eq_true rfl)⟩) ⟨fun a U g mk q => by obtain ⟨q0, q1, qP, qK, qD⟩ := q; exact ⟨q0, q1, qP, va_K.moved (u := U) (U := U.calling g mk a) (Vm.Alike.refl U.vm) qK, qD⟩, fun U hU hW => ⟨rfl, by rw [hU], by rw [hU]; exact hPc, va_K.moved hW.alike hKc, hDc.weaken (fun _ _ _ _ => trivial)⟩⟩ rfl rfl hl.1 rfl (lv_room (Nat.le_of_ble_eq_true rfl)) dX11_mayFail_14 ⟨(Nat.le_of_ble_eq_true rfl), (Nat.le_of_ble_eq_true rfl)⟩) hS (fun q _ h => hFc q h) hFc (fun r_2 u t H1 locs ht hvm hw hB hz1 hk1 hS => ?_)
      obtain ⟨hP1, hK1, hD1⟩ := hB
      rw [ht] at hP1
      have hK1 := va_K.moved hvm.symm hK1
      obtain ⟨hP, hD⟩ := va_join (wr := []) (w1 := []) hP hD [] [] rfl rfl (by decide) (by decide) hk1 hFc hP1 hD1
      have hK := (hK.sub (tys' := []) [] rfl).app hK1
      generalize H1 = H at hP hS ⊢
      have hP : va_P (dC, dI) vwP [] H := hP
      have hD : va_D A [] := hD
      have hK : va_K (dC, dI) vwP [] s := hK
      refine W.widen (k := 0) (n := 0) (Nat.le_of_ble_eq_true rfl) (Nat.le_of_ble_eq_true rfl) ?_
      obtain rfl : r_2 = (zI (isR (x))) := hw
      have := isR_spec (x)
      refine lv_if_eq (tgt := 24) hx hb dX11_mayFail_17 (by decide) (fun b17 => ?_) (fun b17 => ?_)
      · have yb17 : (isR (x) : Int) = (0 : Int) := (zI_eq (a := isR (x)) (b := 0) (by omega) (by omega) (by omega) (by omega)).mp b17
        refine lv_iconst (v := 0) hx hb dX11_mayFail_24 (by decide) ?_
        subst hQ
        refine W.widen (k := 0) (n := 0) (Nat.le_of_ble_eq_true rfl) (Nat.le_of_ble_eq_true rfl) ?_
        exact W.zret (v := 0) hx hb hr (by decide) (fun t ht hW => ⟨⟨0, (), rfl, (congrArg zI (show (0 : Int) = mfF (o) (x) by have q9 := mfF_spec (o) (x); omega)), by rw [ht]; exact hP, va_K.moved hW.alike hK, hD⟩, hS.F ht⟩) hS.2.2 dX11_mayFail_25
      · have yb17 : ¬ (isR (x) : Int) = (0 : Int) := fun q => b17 ((zI_eq (a := isR (x)) (b := 0) (by omega) (by omega) (by omega) (by omega)).mpr q)
        refine lv_iconst (v := 1) hx hb dX11_mayFail_20 (by decide) ?_
        refine lv_goto (tgt := 25) hx hb dX11_mayFail_21 (by decide) ?_
        subst hQ
        refine W.widen (k := 0) (n := 0) (Nat.le_of_ble_eq_true rfl) (Nat.le_of_ble_eq_true rfl) ?_
        exact W.zret (v := 1) hx hb hr (by decide) (fun t ht hW => ⟨⟨1, (), rfl, (congrArg zI (show (1 : Int) = mfF (o) (x) by have q9 := mfF_spec (o) (x); omega)), by rw [ht]; exact hP, va_K.moved hW.alike hK, hD⟩, hS.F ht⟩) hS.2.2 dX11_mayFail_25
def o_X9_clearMarksL : List Cond := [.fieldLink RX9 28 "SsaForge$Tidier" "marked" "[Z"]
def v_X9_clearMarksL : List Cond := .code yX9_clearMarks cX9_clearMarks 2 none :: (o_X9_clearMarksL ++ (wsX90 ++ []))
theorem mow_X9_clearMarksL : ∀ w ∈ o_X9_clearMarksL, w ∈ v_X9_clearMarksL := fun _ h => List.mem_cons_of_mem _ (List.mem_append_left _ h)
theorem mem_X9_clearMarksL_0 : ∀ w ∈ wsX90, w ∈ v_X9_clearMarksL := fun _ h => List.mem_cons_of_mem _ (List.mem_append_right _ (List.mem_append_left _ h))
set_option maxRecDepth 20000 in
theorem gw_X9_clearMarksL : v_X9_clearMarksL.all goodWord = true := by decide +kernel
set_option maxHeartbeats 4000000 in
set_option maxRecDepth 100000 in
theorem c_X9_clearMarksL (l : Launch) (dC : Nat → ClassId) (dI : Nat → Nat → Nat) (h0 : Nat) (v9_0 : Value) (v9_1 : Value) (v9_2 : Value) (v9_3 : Value) (v9_4 : Value) (q_905 : Nat) (cA_905 : ClassId) (a9_marked : Int → Int) (v9_6 : Value) (v9_7 : Value) (v9_8 : Value) (hR_a9_marked : ∀ j : Int, 0 ≤ a9_marked j ∧ a9_marked j ≤ 1) (sz : Nat) : Met l yX9_clearMarks v_X9_clearMarksL ({ frames := 0, cells := 0, slots := 0, locals := 0 }) (va_Pc [.ref h0] (fun U => U.heap.size = sz ∧ va_P (dC, dI) vwP [(h0, .inr (9, [v9_0, v9_1, v9_2, v9_3, v9_4, .ref q_905, v9_6, v9_7, v9_8])), (q_905, .inl (cA_905, 1024, .inl (fun j : Nat => zI (a9_marked (j : Int)))))] U.heap ∧ va_K (dC, dI) vwP [(cA_905, .boolean)] U ∧ va_D (fun _ => True) [(h0, .inr (9, [v9_0, v9_1, v9_2, v9_3, v9_4, .ref q_905, v9_6, v9_7, v9_8])), (q_905, .inl (cA_905, 1024, .inl (fun j : Nat => zI (a9_marked (j : Int)))))])) (va_Qv (fun _ : Unit => True) (fun (_ : Unit) (t : State) => ∃ (a0_9 : Int → Int), ((∀ j : Int, 0 ≤ a0_9 j ∧ a0_9 j ≤ 1) ∧ (∀ r : Int, 0 ≤ r → r < 1024 → a0_9 r = 0)) ∧ va_P (dC, dI) vwP [(h0, .inr (9, [v9_0, v9_1, v9_2, v9_3, v9_4, .ref q_905, v9_6, v9_7, v9_8])), (q_905, .inl (cA_905, 1024, .inl (fun j : Nat => zI (a0_9 (j : Int)))))] t.heap ∧ va_K (dC, dI) vwP [(cA_905, .boolean)] t ∧ va_D (va_A [(h0, .inr (9, [v9_0, v9_1, v9_2, v9_3, v9_4, .ref q_905, v9_6, v9_7, v9_8])), (q_905, .inl (cA_905, 1024, .inl (fun j : Nat => zI (a9_marked (j : Int)))))] sz) [(h0, .inr (9, [v9_0, v9_1, v9_2, v9_3, v9_4, .ref q_905, v9_6, v9_7, v9_8])), (q_905, .inl (cA_905, 1024, .inl (fun j : Nat => zI (a0_9 (j : Int)))))]) (va_A [(h0, .inr (9, [v9_0, v9_1, v9_2, v9_3, v9_4, .ref q_905, v9_6, v9_7, v9_8])), (q_905, .inl (cA_905, 1024, .inl (fun j : Nat => zI (a9_marked (j : Int)))))] sz)) 0 0 (va_A [(h0, .inr (9, [v9_0, v9_1, v9_2, v9_3, v9_4, .ref q_905, v9_6, v9_7, v9_8])), (q_905, .inl (cA_905, 1024, .inl (fun j : Nat => zI (a9_marked (j : Int)))))] sz) := by
  refine Met.ofW (cc := cX9_clearMarks) (maxL := 2) (ret := none) (by decide) rfl ?_
  intro p e s m args below meth c s₁ B hml hv
  obtain ⟨rfl, hsz, hP, hK, hD0⟩ := hv
  have hx := B.exec
  have hb := B.bytes
  have hr := B.returns
  have hts := atoms_spec (ws := v_X9_clearMarksL) B.pre
  have hown : s.vm.findClass RX9 = some m.cls := findClass_of_methodNamed B.named
  have hlocks := B.notSynchronized
  have ow : ∀ {k : Nat} {w : Cond}, o_X9_clearMarksL[k]? = some w → w.before ([.ref h0] : List Value).toArray s = true := fun h => hts _ (mow_X9_clearMarksL _ (List.mem_of_getElem? h))
  subst hsz
  have hD := hD0.self (sz := s.heap.size)
  generalize hAe : va_A [(h0, .inr (9, [v9_0, v9_1, v9_2, v9_3, v9_4, .ref q_905, v9_6, v9_7, v9_8])), (q_905, .inl (cA_905, 1024, .inl (fun j : Nat => zI (a9_marked (j : Int)))))] s.heap.size = A at hD ⊢
  have hA : ∀ q : Nat, s.heap.size ≤ q → A q := fun q h => by rw [← hAe]; exact Or.inr h
  have hS : va_S A s.heap s.heap [] := va_S.rf
  have hP : va_P (dC, dI) vwP [(h0, .inr (9, [v9_0, v9_1, v9_2, v9_3, v9_4, .ref q_905, v9_6, v9_7, v9_8])), (q_905, .inl (cA_905, 1024, .inl (fun j : Nat => zI (a9_marked (j : Int)))))] s.heap := hP
  have hl := lv_entry ([.ref h0]) (n := 2) (Nat.le_of_ble_eq_true rfl)
  rw [lg_entry_eq]
  generalize (lg_sl ([.ref h0]) ++ List.replicate (2 - (lg_sl ([.ref h0])).length) Slot.unset).toArray = ls at hl ⊢
  have hl : lv_has ls 2 [(0, .ref h0)] := hl
  obtain ⟨H, hH⟩ : ∃ H, H = s.heap := ⟨_, rfl⟩
  rw [← hH] at hP
  have hS : va_S A s.heap H [] := by rw [hH]; exact hS
  rw [← hH]
  refine zW_cap (fun Q hQ => ?_)
  refine lv_iconst (v := 0) hx hb dX9_clearMarks_0 (by decide) ?_
  refine lv_istore_n (lv' := [(1, .int 0), (0, .ref h0)]) hx hb dX9_clearMarks_1 rfl hl (by decide) rfl (fun ls hl => ?_)
  have key2 : ∀ n2 : Nat, ∀ (d2_1 : Int) (w2_905 : Int → Int) (ls : Array Slot) (H : Heap) (locs : List Loc), (0 ≤ d2_1 ∧ d2_1 ≤ 1000000000) → (∀ j : Int, 0 ≤ w2_905 j ∧ w2_905 j ≤ 1) → (∀ j : Int, 0 ≤ j → j < d2_1 → w2_905 j = 0) → (((1024) - (d2_1) : Int).toNat) < n2 → lv_has ls 2 [(0, .ref h0), (1, .int (zI (d2_1)))] → va_P (dC, dI) vwP [(h0, .inr (9, [v9_0, v9_1, v9_2, v9_3, v9_4, .ref q_905, v9_6, v9_7, v9_8])), (q_905, .inl (cA_905, 1024, .inl (fun j : Nat => zI (w2_905 (j : Int)))))] H → va_D A [(h0, .inr (9, [v9_0, v9_1, v9_2, v9_3, v9_4, .ref q_905, v9_6, v9_7, v9_8])), (q_905, .inl (cA_905, 1024, .inl (fun j : Nat => zI (w2_905 (j : Int)))))] → va_S A s.heap H locs → W p l e (headSpec v_X9_clearMarksL ({ frames := 0, cells := 0, slots := 0, locals := 0 })).room s m ([.ref h0] : List Value).toArray below meth c H locs 0 0 Q (F0 m 2 ls []) := by
    intro n2
    induction n2 with
    | zero => intro d2_1 w2_905 ls H locs jd2_1 jw2_905 jm hm2; exact absurd hm2 (by omega)
    | succ n2 ih2 =>
      intro d2_1 w2_905 ls H locs jd2_1 jw2_905 jm hm2 hl hP hD hS
      refine lv_iload_n hx hb dX9_clearMarks_2 rfl (lv_at hl 1 rfl) ?_
      refine lv_sipush (v := 1024) hx hb dX9_clearMarks_3 (by decide) ?_
      refine lv_icmp_ge (tgt := 22) hx hb dX9_clearMarks_6 (by decide) (fun b6 => ?_) (fun b6 => ?_)
      · have yb6 : (1024 : Int) ≤ (d2_1 : Int) := (zI_le (a := 1024) (b := d2_1) (by omega) (by omega) (by omega) (by omega)).mp b6
        subst hQ
        refine W.widen (k := 0) (n := 0) (Nat.le_of_ble_eq_true rfl) (Nat.le_of_ble_eq_true rfl) ?_
        exact W.vret hx hb hr (fun t ht hW => ⟨⟨(), rfl, trivial, w2_905, ⟨jw2_905, (fun r h1 h2 => jm r h1 (by omega))⟩, by rw [ht]; exact hP, va_K.moved hW.alike hK, hD⟩, hS.F ht⟩) hS.2.2 dX9_clearMarks_22
      · have yb6 : ¬ (1024 : Int) ≤ (d2_1 : Int) := fun q => b6 ((zI_le (a := 1024) (b := d2_1) (by omega) (by omega) (by omega) (by omega)).mpr q)
        refine lv_aload_n hx hb dX9_clearMarks_9 rfl (lv_at hl 0 rfl) ?_
        refine va_get (D := (dC, dI)) (ci := 9) (v := .ref q_905) (C := RX9) (T := TX9) (N := 9) hx hb hts mem_X9_clearMarksL_0 hown hK hP 0 rfl rfl 5 (by decide) (ow (k := 0) rfl) (fun _ h9 => h9) rfl dX9_clearMarks_10 ?_
        refine lv_iload_n hx hb dX9_clearMarks_13 rfl (lv_at hl 1 rfl) ?_
        refine lv_iconst (v := 0) hx hb dX9_clearMarks_14 (by decide) ?_
        refine va_zast (i := zI (d2_1)) hx hb hK hP hD hS 1 0 rfl rfl (zI_in (a := d2_1) (n := 1024) (by omega) (by omega) (by decide)) dX9_clearMarks_15 (fun H locs hP hD hS => ?_)
        rw [show vp_nar .boolean 0 = 0 from zI_nar (a := 0) (by omega) (by omega)] at hP hD
        have eQ : upd (fun j : Nat => zI (w2_905 (j : Int))) (zI (d2_1)).toNatClampNeg 0 = (fun j : Nat => zI (zup w2_905 (d2_1) (0) (j : Int))) := zI_st w2_905 (e := d2_1) (v := 0) (by omega) (by omega)
        rw [eQ] at hP hD
        clear eQ
        have ra_2001 : ∀ j : Int, 0 ≤ zup w2_905 (d2_1) (0) j ∧ zup w2_905 (d2_1) (0) j ≤ 1 := zup_P (P := fun x9 => 0 ≤ x9 ∧ x9 ≤ 1) jw2_905 (show 0 ≤ (0) ∧ (0) ≤ 1 by omega)
        obtain ⟨a_2001, ea_2001⟩ : ∃ a9 : Int → Int, a9 = zup w2_905 (d2_1) (0) := ⟨_, rfl⟩
        rw [← ea_2001] at hP hD ra_2001
        have hP : va_P (dC, dI) vwP [(h0, .inr (9, [v9_0, v9_1, v9_2, v9_3, v9_4, .ref q_905, v9_6, v9_7, v9_8])), (q_905, .inl (cA_905, 1024, .inl (fun j : Nat => zI (a_2001 (j : Int)))))] H := hP
        have hD : va_D A [(h0, .inr (9, [v9_0, v9_1, v9_2, v9_3, v9_4, .ref q_905, v9_6, v9_7, v9_8])), (q_905, .inl (cA_905, 1024, .inl (fun j : Nat => zI (a_2001 (j : Int)))))] := hD
        refine lv_iinc (v := zI (d2_1 + 1)) (lv' := [(1, .int (zI (d2_1 + 1))), (0, .ref h0)]) hx hb dX9_clearMarks_16 hl (k := 1) rfl (zI_add (d2_1) (1)) (by decide) rfl (fun ls hl => ?_)
        refine lv_goto (tgt := 2) hx hb dX9_clearMarks_19 (by decide) ?_
        exact ih2 (d2_1 + 1) a_2001 ls H _ (by omega) ra_2001 (fun j h1 h2 => by rw [ea_2001]; unfold zup; split; rfl; exact jm j h1 (by omega)) (by omega) (lv_sub hl [1, 0] rfl) hP hD hS
  exact key2 (((1024) - (0) : Int).toNat + 1) 0 a9_marked ls H _ (by omega) hR_a9_marked (fun j h1 h2 => by omega) (by omega) (lv_sub hl [1, 0] rfl) hP hD hS
def o_X9_markL : List Cond := [.initialized RX11, .static yX11_isRegister, .fieldLink RX9 28 "SsaForge$Tidier" "marked" "[Z", .static yX11_registerOf, .fieldLink RX9 35 "SsaForge$Tidier" "changed" "Z"]
def v_X9_markL : List Cond := .code yX9_mark cX9_mark 3 none :: (o_X9_markL ++ (v_X11_isRegister ++ (wsX90 ++ (v_X11_registerOf ++ []))))
theorem mow_X9_markL : ∀ w ∈ o_X9_markL, w ∈ v_X9_markL := fun _ h => List.mem_cons_of_mem _ (List.mem_append_left _ h)
theorem mem_X9_markL_0 : ∀ w ∈ v_X11_isRegister, w ∈ v_X9_markL := fun _ h => List.mem_cons_of_mem _ (List.mem_append_right _ (List.mem_append_left _ h))
theorem mem_X9_markL_1 : ∀ w ∈ wsX90, w ∈ v_X9_markL := fun _ h => List.mem_cons_of_mem _ (List.mem_append_right _ (List.mem_append_right _ (List.mem_append_left _ h)))
theorem mem_X9_markL_2 : ∀ w ∈ v_X11_registerOf, w ∈ v_X9_markL := fun _ h => List.mem_cons_of_mem _ (List.mem_append_right _ (List.mem_append_right _ (List.mem_append_right _ (List.mem_append_left _ h))))
set_option maxRecDepth 20000 in
theorem gw_X9_markL : v_X9_markL.all goodWord = true := by decide +kernel
set_option maxHeartbeats 4000000 in
set_option maxRecDepth 100000 in
theorem c_X9_markL (l : Launch) (dC : Nat → ClassId) (dI : Nat → Nat → Nat) (h0 : Nat) (v9_0 : Value) (v9_1 : Value) (v9_2 : Value) (v9_3 : Value) (v9_4 : Value) (q_905 : Nat) (cA_905 : ClassId) (a9_marked : Int → Int) (v9_6 : Value) (z9_changed : Int) (v9_8 : Value) (x : Int) (hR_a9_marked : ∀ j : Int, 0 ≤ a9_marked j ∧ a9_marked j ≤ 1) (hNz9_changed : 0 ≤ z9_changed ∧ z9_changed ≤ 1) (hNx : ((-2147483648 ≤ x ∧ x ≤ 4294968319) ∨ x = 1099511627776)) (sz : Nat) : Met l yX9_mark v_X9_markL ({ frames := 1, cells := 0, slots := 0, locals := 21 }) (va_Pc [.ref h0, .long (lI (x))] (fun U => U.heap.size = sz ∧ va_P (dC, dI) vwP [(h0, .inr (9, [v9_0, v9_1, v9_2, v9_3, v9_4, .ref q_905, v9_6, .int (zI (z9_changed)), v9_8])), (q_905, .inl (cA_905, 1024, .inl (fun j : Nat => zI (a9_marked (j : Int)))))] U.heap ∧ va_K (dC, dI) vwP [(cA_905, .boolean)] U ∧ va_D (fun _ => True) [(h0, .inr (9, [v9_0, v9_1, v9_2, v9_3, v9_4, .ref q_905, v9_6, .int (zI (z9_changed)), v9_8])), (q_905, .inl (cA_905, 1024, .inl (fun j : Nat => zI (a9_marked (j : Int)))))] ∧ va_Nw (.methodLinkNest RX9 83 yX11_isRegister "SsaForge") U ∧ va_Nw (.methodLinkNest RX9 87 yX11_registerOf "SsaForge") U)) (va_Qv (fun _ : Unit => True) (fun (_ : Unit) (t : State) => ∃ (z0_9 : Int) (a1_9 : Int → Int), ((0 ≤ z0_9 ∧ z0_9 ≤ 1) ∧ (∀ j : Int, 0 ≤ a1_9 j ∧ a1_9 j ≤ 1) ∧ (MKS a9_marked a1_9 z9_changed z0_9 ∧ OPM a1_9 (x))) ∧ va_P (dC, dI) vwP [(h0, .inr (9, [v9_0, v9_1, v9_2, v9_3, v9_4, .ref q_905, v9_6, .int (zI (z0_9)), v9_8])), (q_905, .inl (cA_905, 1024, .inl (fun j : Nat => zI (a1_9 (j : Int)))))] t.heap ∧ va_K (dC, dI) vwP [(cA_905, .boolean)] t ∧ va_D (va_A [(h0, .inr (9, [v9_0, v9_1, v9_2, v9_3, v9_4, .ref q_905, v9_6, .int (zI (z9_changed)), v9_8])), (q_905, .inl (cA_905, 1024, .inl (fun j : Nat => zI (a9_marked (j : Int)))))] sz) [(h0, .inr (9, [v9_0, v9_1, v9_2, v9_3, v9_4, .ref q_905, v9_6, .int (zI (z0_9)), v9_8])), (q_905, .inl (cA_905, 1024, .inl (fun j : Nat => zI (a1_9 (j : Int)))))]) (va_A [(h0, .inr (9, [v9_0, v9_1, v9_2, v9_3, v9_4, .ref q_905, v9_6, .int (zI (z9_changed)), v9_8])), (q_905, .inl (cA_905, 1024, .inl (fun j : Nat => zI (a9_marked (j : Int)))))] sz)) 0 0 (va_A [(h0, .inr (9, [v9_0, v9_1, v9_2, v9_3, v9_4, .ref q_905, v9_6, .int (zI (z9_changed)), v9_8])), (q_905, .inl (cA_905, 1024, .inl (fun j : Nat => zI (a9_marked (j : Int)))))] sz) := by
  refine Met.ofW (cc := cX9_mark) (maxL := 3) (ret := none) (by decide) rfl ?_
  intro p e s m args below meth c s₁ B hml hv
  obtain ⟨rfl, hsz, hP, hK, hD0, hp0, hp1⟩ := hv
  have hx := B.exec
  have hb := B.bytes
  have hr := B.returns
  have hts := atoms_spec (ws := v_X9_markL) B.pre
  have hown : s.vm.findClass RX9 = some m.cls := findClass_of_methodNamed B.named
  have hlocks := B.notSynchronized
  have ow : ∀ {k : Nat} {w : Cond}, o_X9_markL[k]? = some w → w.before ([.ref h0, .long (lI (x))] : List Value).toArray s = true := fun h => hts _ (mow_X9_markL _ (List.mem_of_getElem? h))
  subst hsz
  have hD := hD0.self (sz := s.heap.size)
  generalize hAe : va_A [(h0, .inr (9, [v9_0, v9_1, v9_2, v9_3, v9_4, .ref q_905, v9_6, .int (zI (z9_changed)), v9_8])), (q_905, .inl (cA_905, 1024, .inl (fun j : Nat => zI (a9_marked (j : Int)))))] s.heap.size = A at hD ⊢
  have hA : ∀ q : Nat, s.heap.size ≤ q → A q := fun q h => by rw [← hAe]; exact Or.inr h
  have hS : va_S A s.heap s.heap [] := va_S.rf
  have hP : va_P (dC, dI) vwP [(h0, .inr (9, [v9_0, v9_1, v9_2, v9_3, v9_4, .ref q_905, v9_6, .int (zI (z9_changed)), v9_8])), (q_905, .inl (cA_905, 1024, .inl (fun j : Nat => zI (a9_marked (j : Int)))))] s.heap := hP
  have hl := lv_entry ([.ref h0, .long (lI (x))]) (n := 3) (Nat.le_of_ble_eq_true rfl)
  rw [lg_entry_eq]
  generalize (lg_sl ([.ref h0, .long (lI (x))]) ++ List.replicate (3 - (lg_sl ([.ref h0, .long (lI (x))])).length) Slot.unset).toArray = ls at hl ⊢
  have hl : lv_has ls 3 [(0, .ref h0), (1, .long (lI (x)))] := hl
  obtain ⟨H, hH⟩ : ∃ H, H = s.heap := ⟨_, rfl⟩
  rw [← hH] at hP
  have hS : va_S A s.heap H [] := by rw [hH]; exact hS
  rw [← hH]
  refine zW_cap (fun Q hQ => ?_)
  refine lv_lload_n hx hb dX9_mark_0 rfl (lv_at hl 1 rfl) ?_
  have hPc := hP.sub (ws' := []) [] rfl
  have hDc := hD.sub (ws' := []) [] (by decide) rfl
  have hKc := hK.sub (tys' := []) [] rfl
  have hFc := va_free (wc := []) hD hS hA [] rfl
  refine va_calli (va_runSN (As := [.long (lI (x))]) (rest := []) ⟨hx, hb, hml, hown, hts⟩ (c_X11_isRegister l dC dI x (by omega) H.size) ⟨va_cnB 1 hts (goodIn_sub mem_X9_markL_0 gw_X11_isRegister) rfl rfl rfl hp0 (ow (k := 0) rfl) (by decide +kernel) ⟨(Nat.le_of_ble_eq_true rfl), (Nat.le_of_ble_eq_true rfl)⟩, (ow (k := 1) rfl), trivial⟩ ⟨fun a U g mk q => by obtain ⟨q0, q1, qP, qK, qD⟩ := q; exact ⟨q0, q1, qP, va_K.moved (u := U) (U := U.calling g mk a) (Vm.Alike.refl U.vm) qK, qD⟩, fun U hU hW => ⟨rfl, by rw [hU], by rw [hU]; exact hPc, va_K.moved hW.alike hKc, hDc.weaken (fun _ _ _ _ => trivial)⟩⟩ rfl rfl hl.1 rfl (lv_room (Nat.le_of_ble_eq_true rfl)) dX9_mark_1 ⟨(Nat.le_of_ble_eq_true rfl), (Nat.le_of_ble_eq_true rfl)⟩) hS (fun q _ h => hFc q h) hFc (fun r_2001 u t H1 locs ht hvm hw hB hz1 hk1 hS => ?_)
  obtain ⟨hP1, hK1, hD1⟩ := hB
  rw [ht] at hP1
  have hK1 := va_K.moved hvm.symm hK1
  obtain ⟨hP, hD⟩ := va_join (wr := [(h0, .inr (9, [v9_0, v9_1, v9_2, v9_3, v9_4, .ref q_905, v9_6, .int (zI (z9_changed)), v9_8])), (q_905, .inl (cA_905, 1024, .inl (fun j : Nat => zI (a9_marked (j : Int)))))]) (w1 := []) hP hD [] [0, 1] rfl rfl (by decide) (by decide) hk1 hFc hP1 hD1
  have hK := (hK.sub (tys' := [(cA_905, .boolean)]) [0] rfl).app hK1
  generalize H1 = H at hP hS ⊢
  have hP : va_P (dC, dI) vwP [(h0, .inr (9, [v9_0, v9_1, v9_2, v9_3, v9_4, .ref q_905, v9_6, .int (zI (z9_changed)), v9_8])), (q_905, .inl (cA_905, 1024, .inl (fun j : Nat => zI (a9_marked (j : Int)))))] H := hP
  have hD : va_D A [(h0, .inr (9, [v9_0, v9_1, v9_2, v9_3, v9_4, .ref q_905, v9_6, .int (zI (z9_changed)), v9_8])), (q_905, .inl (cA_905, 1024, .inl (fun j : Nat => zI (a9_marked (j : Int)))))] := hD
  have hK : va_K (dC, dI) vwP [(cA_905, .boolean)] s := hK
  refine W.widen (k := 0) (n := 0) (Nat.le_of_ble_eq_true rfl) (Nat.le_of_ble_eq_true rfl) ?_
  obtain rfl : r_2001 = (zI (isR (x))) := hw
  have := isR_spec (x)
  refine lv_if_eq (tgt := 34) hx hb dX9_mark_4 (by decide) (fun b4 => ?_) (fun b4 => ?_)
  · have yb4 : (isR (x) : Int) = (0 : Int) := (zI_eq (a := isR (x)) (b := 0) (by omega) (by omega) (by omega) (by omega)).mp b4
    subst hQ
    refine W.widen (k := 0) (n := 0) (Nat.le_of_ble_eq_true rfl) (Nat.le_of_ble_eq_true rfl) ?_
    exact W.vret hx hb hr (fun t ht hW => ⟨⟨(), rfl, trivial, z9_changed, a9_marked, ⟨(by omega), hR_a9_marked, ⟨MKS.refl _ _, (fun g9 => by unfold isg at g9; omega)⟩⟩, by rw [ht]; exact hP, va_K.moved hW.alike hK, hD⟩, hS.F ht⟩) hS.2.2 dX9_mark_34
  · have yb4 : ¬ (isR (x) : Int) = (0 : Int) := fun q => b4 ((zI_eq (a := isR (x)) (b := 0) (by omega) (by omega) (by omega) (by omega)).mpr q)
    refine lv_aload_n hx hb dX9_mark_7 rfl (lv_at hl 0 rfl) ?_
    refine va_get (D := (dC, dI)) (ci := 9) (v := .ref q_905) (C := RX9) (T := TX9) (N := 9) hx hb hts mem_X9_markL_1 hown hK hP 0 rfl rfl 5 (by decide) (ow (k := 2) rfl) (fun _ h9 => h9) rfl dX9_mark_8 ?_
    refine lv_lload_n hx hb dX9_mark_11 rfl (lv_at hl 1 rfl) ?_
    have hPc := hP.sub (ws' := []) [] rfl
    have hDc := hD.sub (ws' := []) [] (by decide) rfl
    have hKc := hK.sub (tys' := []) [] rfl
    have hFc := va_free (wc := []) hD hS hA [] rfl
    refine va_calli (va_runSN (As := [.long (lI (x))]) (rest := [.ref q_905]) ⟨hx, hb, hml, hown, hts⟩ (c_X11_registerOf l dC dI x (by omega) H.size) ⟨va_cnB 1 hts (goodIn_sub mem_X9_markL_2 gw_X11_registerOf) rfl rfl rfl hp1 (ow (k := 0) rfl) (by decide +kernel) ⟨(Nat.le_of_ble_eq_true rfl), (Nat.le_of_ble_eq_true rfl)⟩, (ow (k := 3) rfl), trivial⟩ ⟨fun a U g mk q => by obtain ⟨q0, q1, qP, qK, qD⟩ := q; exact ⟨q0, q1, qP, va_K.moved (u := U) (U := U.calling g mk a) (Vm.Alike.refl U.vm) qK, qD⟩, fun U hU hW => ⟨rfl, by rw [hU], by rw [hU]; exact hPc, va_K.moved hW.alike hKc, hDc.weaken (fun _ _ _ _ => trivial)⟩⟩ rfl rfl hl.1 rfl (lv_room (Nat.le_of_ble_eq_true rfl)) dX9_mark_12 ⟨(Nat.le_of_ble_eq_true rfl), (Nat.le_of_ble_eq_true rfl)⟩) hS (fun q _ h => hFc q h) hFc (fun r_2002 u t H1 locs ht hvm hw hB hz1 hk1 hS => ?_)
    obtain ⟨hP1, hK1, hD1⟩ := hB
    rw [ht] at hP1
    have hK1 := va_K.moved hvm.symm hK1
    obtain ⟨hP, hD⟩ := va_join (wr := [(h0, .inr (9, [v9_0, v9_1, v9_2, v9_3, v9_4, .ref q_905, v9_6, .int (zI (z9_changed)), v9_8])), (q_905, .inl (cA_905, 1024, .inl (fun j : Nat => zI (a9_marked (j : Int)))))]) (w1 := []) hP hD [] [0, 1] rfl rfl (by decide) (by decide) hk1 hFc hP1 hD1
    have hK := (hK.sub (tys' := [(cA_905, .boolean)]) [0] rfl).app hK1
    generalize H1 = H at hP hS ⊢
    have hP : va_P (dC, dI) vwP [(h0, .inr (9, [v9_0, v9_1, v9_2, v9_3, v9_4, .ref q_905, v9_6, .int (zI (z9_changed)), v9_8])), (q_905, .inl (cA_905, 1024, .inl (fun j : Nat => zI (a9_marked (j : Int)))))] H := hP
    have hD : va_D A [(h0, .inr (9, [v9_0, v9_1, v9_2, v9_3, v9_4, .ref q_905, v9_6, .int (zI (z9_changed)), v9_8])), (q_905, .inl (cA_905, 1024, .inl (fun j : Nat => zI (a9_marked (j : Int)))))] := hD
    have hK : va_K (dC, dI) vwP [(cA_905, .boolean)] s := hK
    refine W.widen (k := 0) (n := 0) (Nat.le_of_ble_eq_true rfl) (Nat.le_of_ble_eq_true rfl) ?_
    obtain rfl : r_2002 = (zI (x - 4294967296)) := hw
    refine va_zald hx hb hK hP 1 0 rfl rfl (zI_in (a := x - 4294967296) (n := 1024) (by omega) (by omega) (by decide)) dX9_mark_15 ?_
    refine lv_topi (fun z ez => ?_)
    obtain rfl : z = zI (a9_marked (x - 4294967296)) := ez.trans (zI_ld (a9_marked) (by omega) (by omega))
    have k1 := hR_a9_marked (x - 4294967296)
    refine lv_if_ne (tgt := 34) hx hb dX9_mark_16 (by decide) (fun b16 => ?_) (fun b16 => ?_)
    · have yb16 : ¬ (a9_marked (x - 4294967296) : Int) = (0 : Int) := fun q => b16 ((zI_eq (a := a9_marked (x - 4294967296)) (b := 0) (by omega) (by omega) (by omega) (by omega)).mpr q)
      subst hQ
      refine W.widen (k := 0) (n := 0) (Nat.le_of_ble_eq_true rfl) (Nat.le_of_ble_eq_true rfl) ?_
      exact W.vret hx hb hr (fun t ht hW => ⟨⟨(), rfl, trivial, z9_changed, a9_marked, ⟨(by omega), hR_a9_marked, ⟨MKS.refl _ _, (fun g9 => by unfold isg at g9; omega)⟩⟩, by rw [ht]; exact hP, va_K.moved hW.alike hK, hD⟩, hS.F ht⟩) hS.2.2 dX9_mark_34
    · have yb16 : (a9_marked (x - 4294967296) : Int) = (0 : Int) := (zI_eq (a := a9_marked (x - 4294967296)) (b := 0) (by omega) (by omega) (by omega) (by omega)).mp b16
      refine lv_aload_n hx hb dX9_mark_19 rfl (lv_at hl 0 rfl) ?_
      refine va_get (D := (dC, dI)) (ci := 9) (v := .ref q_905) (C := RX9) (T := TX9) (N := 9) hx hb hts mem_X9_markL_1 hown hK hP 0 rfl rfl 5 (by decide) (ow (k := 2) rfl) (fun _ h9 => h9) rfl dX9_mark_20 ?_
      refine lv_lload_n hx hb dX9_mark_23 rfl (lv_at hl 1 rfl) ?_
      have hPc := hP.sub (ws' := []) [] rfl
      have hDc := hD.sub (ws' := []) [] (by decide) rfl
      have hKc := hK.sub (tys' := []) [] rfl
      have hFc := va_free (wc := []) hD hS hA [] rfl
      refine va_calli (va_runSN (As := [.long (lI (x))]) (rest := [.ref q_905]) ⟨hx, hb, hml, hown, hts⟩ (c_X11_registerOf l dC dI x (by omega) H.size) ⟨va_cnB 1 hts (goodIn_sub mem_X9_markL_2 gw_X11_registerOf) rfl rfl rfl hp1 (ow (k := 0) rfl) (by decide +kernel) ⟨(Nat.le_of_ble_eq_true rfl), (Nat.le_of_ble_eq_true rfl)⟩, (ow (k := 3) rfl), trivial⟩ ⟨fun a U g mk q => by obtain ⟨q0, q1, qP, qK, qD⟩ := q; exact ⟨q0, q1, qP, va_K.moved (u := U) (U := U.calling g mk a) (Vm.Alike.refl U.vm) qK, qD⟩, fun U hU hW => ⟨rfl, by rw [hU], by rw [hU]; exact hPc, va_K.moved hW.alike hKc, hDc.weaken (fun _ _ _ _ => trivial)⟩⟩ rfl rfl hl.1 rfl (lv_room (Nat.le_of_ble_eq_true rfl)) dX9_mark_24 ⟨(Nat.le_of_ble_eq_true rfl), (Nat.le_of_ble_eq_true rfl)⟩) hS (fun q _ h => hFc q h) hFc (fun r_2003 u t H1 locs ht hvm hw hB hz1 hk1 hS => ?_)
      obtain ⟨hP1, hK1, hD1⟩ := hB
      rw [ht] at hP1
      have hK1 := va_K.moved hvm.symm hK1
      obtain ⟨hP, hD⟩ := va_join (wr := [(h0, .inr (9, [v9_0, v9_1, v9_2, v9_3, v9_4, .ref q_905, v9_6, .int (zI (z9_changed)), v9_8])), (q_905, .inl (cA_905, 1024, .inl (fun j : Nat => zI (a9_marked (j : Int)))))]) (w1 := []) hP hD [] [0, 1] rfl rfl (by decide) (by decide) hk1 hFc hP1 hD1
      have hK := (hK.sub (tys' := [(cA_905, .boolean)]) [0] rfl).app hK1
      generalize H1 = H at hP hS ⊢
      have hP : va_P (dC, dI) vwP [(h0, .inr (9, [v9_0, v9_1, v9_2, v9_3, v9_4, .ref q_905, v9_6, .int (zI (z9_changed)), v9_8])), (q_905, .inl (cA_905, 1024, .inl (fun j : Nat => zI (a9_marked (j : Int)))))] H := hP
      have hD : va_D A [(h0, .inr (9, [v9_0, v9_1, v9_2, v9_3, v9_4, .ref q_905, v9_6, .int (zI (z9_changed)), v9_8])), (q_905, .inl (cA_905, 1024, .inl (fun j : Nat => zI (a9_marked (j : Int)))))] := hD
      have hK : va_K (dC, dI) vwP [(cA_905, .boolean)] s := hK
      refine W.widen (k := 0) (n := 0) (Nat.le_of_ble_eq_true rfl) (Nat.le_of_ble_eq_true rfl) ?_
      obtain rfl : r_2003 = (zI (x - 4294967296)) := hw
      refine lv_iconst (v := 1) hx hb dX9_mark_27 (by decide) ?_
      refine va_zast (i := zI (x - 4294967296)) hx hb hK hP hD hS 1 0 rfl rfl (zI_in (a := x - 4294967296) (n := 1024) (by omega) (by omega) (by decide)) dX9_mark_28 (fun H locs hP hD hS => ?_)
      rw [show vp_nar .boolean 1 = 1 from zI_nar (a := 1) (by omega) (by omega)] at hP hD
      have eQ : upd (fun j : Nat => zI (a9_marked (j : Int))) (zI (x - 4294967296)).toNatClampNeg 1 = (fun j : Nat => zI (zup a9_marked (x - 4294967296) (1) (j : Int))) := zI_st a9_marked (e := x - 4294967296) (v := 1) (by omega) (by omega)
      rw [eQ] at hP hD
      clear eQ
      have ra_2004 : ∀ j : Int, 0 ≤ zup a9_marked (x - 4294967296) (1) j ∧ zup a9_marked (x - 4294967296) (1) j ≤ 1 := zup_P (P := fun x9 => 0 ≤ x9 ∧ x9 ≤ 1) hR_a9_marked (show 0 ≤ (1) ∧ (1) ≤ 1 by omega)
      obtain ⟨a_2004, ea_2004⟩ : ∃ a9 : Int → Int, a9 = zup a9_marked (x - 4294967296) (1) := ⟨_, rfl⟩
      rw [← ea_2004] at hP hD ra_2004
      have hP : va_P (dC, dI) vwP [(h0, .inr (9, [v9_0, v9_1, v9_2, v9_3, v9_4, .ref q_905, v9_6, .int (zI (z9_changed)), v9_8])), (q_905, .inl (cA_905, 1024, .inl (fun j : Nat => zI (a_2004 (j : Int)))))] H := hP
      have hD : va_D A [(h0, .inr (9, [v9_0, v9_1, v9_2, v9_3, v9_4, .ref q_905, v9_6, .int (zI (z9_changed)), v9_8])), (q_905, .inl (cA_905, 1024, .inl (fun j : Nat => zI (a_2004 (j : Int)))))] := hD
      refine lv_aload_n hx hb dX9_mark_29 rfl (lv_at hl 0 rfl) ?_
      refine lv_iconst (v := 1) hx hb dX9_mark_30 (by decide) ?_
      refine va_put (D := (dC, dI)) (ci := 9) (v := .int 1) (ty := .boolean) (C := RX9) (T := TX9) (N := 9) hx hb hts mem_X9_markL_1 tyX9 tyX9_ok nmX9 hown hK hP hD hS 0 rfl rfl 7 (by decide) (ow (k := 4) rfl) (fun _ h9 => h9) rfl (by decide +kernel) rfl rfl (Nat.le_of_ble_eq_true rfl) dX9_mark_31 (fun H locs hP hD hS => ?_)
      have hP : va_P (dC, dI) vwP [(h0, .inr (9, [v9_0, v9_1, v9_2, v9_3, v9_4, .ref q_905, v9_6, .int 1, v9_8])), (q_905, .inl (cA_905, 1024, .inl (fun j : Nat => zI (a_2004 (j : Int)))))] H := hP
      have hD : va_D A [(h0, .inr (9, [v9_0, v9_1, v9_2, v9_3, v9_4, .ref q_905, v9_6, .int 1, v9_8])), (q_905, .inl (cA_905, 1024, .inl (fun j : Nat => zI (a_2004 (j : Int)))))] := hD
      subst hQ
      refine W.widen (k := 0) (n := 0) (Nat.le_of_ble_eq_true rfl) (Nat.le_of_ble_eq_true rfl) ?_
      exact W.vret hx hb hr (fun t ht hW => ⟨⟨(), rfl, trivial, 1, a_2004, ⟨(by omega), ra_2004, ⟨(by rw [ea_2004]; exact MKS.set (by omega) (by omega) (by omega) (by omega) (by omega)), (fun g9 => by rw [ea_2004]; exact zup_eq _ _ _)⟩⟩, by rw [ht]; exact hP, va_K.moved hW.alike hK, hD⟩, hS.F ht⟩) hS.2.2 dX9_mark_34
