def o_X16_breaksK : List Cond := [.fieldLink RX16 17 "SsaForgeModel$Reader" "rulePlace" "I", .fieldLink RX16 140 "SsaForgeModel$Reader" "rule" "I"]
def v_X16_breaksK : List Cond := .code yX16_breaks cX16_breaks 3 none :: (o_X16_breaksK ++ (wsX160 ++ []))
theorem mow_X16_breaksK : ∀ w ∈ o_X16_breaksK, w ∈ v_X16_breaksK := fun _ h => List.mem_cons_of_mem _ (List.mem_append_left _ h)
theorem mem_X16_breaksK_0 : ∀ w ∈ wsX160, w ∈ v_X16_breaksK := fun _ h => List.mem_cons_of_mem _ (List.mem_append_right _ (List.mem_append_left _ h))
set_option maxRecDepth 20000 in
theorem gw_X16_breaksK : v_X16_breaksK.all goodWord = true := by decide +kernel
set_option maxHeartbeats 4000000 in
set_option maxRecDepth 100000 in
theorem c_X16_breaksK (l : Launch) (dC : Nat → ClassId) (dI : Nat → Nat → Nat) (h0 : Nat) (v16_0 : Value) (v16_1 : Value) (v16_2 : Value) (v16_3 : Value) (v16_4 : Value) (v16_5 : Value) (v16_6 : Value) (v16_7 : Value) (z16_rulePlace : Int) (z16_rule : Int) (v16_10 : Value) (v16_11 : Value) (v16_12 : Value) (v16_13 : Value) (w0 : Int) (p0 : Int) (hNz16_rulePlace : -1 ≤ z16_rulePlace ∧ z16_rulePlace ≤ 8192) (hNz16_rule : 0 ≤ z16_rule ∧ z16_rule ≤ 4) (hNw : 1 ≤ w0 ∧ w0 ≤ 4 ∧ 0 ≤ p0 ∧ p0 ≤ 8192) (sz : Nat) : Met l yX16_breaks v_X16_breaksK ({ frames := 0, cells := 0, slots := 0, locals := 0 }) (va_Pc [.ref h0, .int (zI (w0)), .int (zI (p0))] (fun U => U.heap.size = sz ∧ va_P (dC, dI) vwQ [(h0, .inr (14, [v16_0, v16_1, v16_2, v16_3, v16_4, v16_5, v16_6, v16_7, .int (zI (z16_rulePlace)), .int (zI (z16_rule)), v16_10, v16_11, v16_12, v16_13]))] U.heap ∧ va_K (dC, dI) vwQ [] U ∧ va_D (fun _ => True) [(h0, .inr (14, [v16_0, v16_1, v16_2, v16_3, v16_4, v16_5, v16_6, v16_7, .int (zI (z16_rulePlace)), .int (zI (z16_rule)), v16_10, v16_11, v16_12, v16_13]))])) (va_Qv (fun _ : Unit => True) (fun (_ : Unit) (t : State) => ∃ (z0_9 : Int) (z1_9 : Int), ((-1 ≤ z0_9 ∧ z0_9 ≤ 8192) ∧ (0 ≤ z1_9 ∧ z1_9 ≤ 4) ∧ (0 ≤ z0_9)) ∧ va_P (dC, dI) vwQ [(h0, .inr (14, [v16_0, v16_1, v16_2, v16_3, v16_4, v16_5, v16_6, v16_7, .int (zI (z0_9)), .int (zI (z1_9)), v16_10, v16_11, v16_12, v16_13]))] t.heap ∧ va_K (dC, dI) vwQ [] t ∧ va_D (va_A [(h0, .inr (14, [v16_0, v16_1, v16_2, v16_3, v16_4, v16_5, v16_6, v16_7, .int (zI (z16_rulePlace)), .int (zI (z16_rule)), v16_10, v16_11, v16_12, v16_13]))] sz) [(h0, .inr (14, [v16_0, v16_1, v16_2, v16_3, v16_4, v16_5, v16_6, v16_7, .int (zI (z0_9)), .int (zI (z1_9)), v16_10, v16_11, v16_12, v16_13]))]) (va_A [(h0, .inr (14, [v16_0, v16_1, v16_2, v16_3, v16_4, v16_5, v16_6, v16_7, .int (zI (z16_rulePlace)), .int (zI (z16_rule)), v16_10, v16_11, v16_12, v16_13]))] sz)) 0 0 (va_A [(h0, .inr (14, [v16_0, v16_1, v16_2, v16_3, v16_4, v16_5, v16_6, v16_7, .int (zI (z16_rulePlace)), .int (zI (z16_rule)), v16_10, v16_11, v16_12, v16_13]))] sz) := by
  refine Met.ofW (cc := cX16_breaks) (maxL := 3) (ret := none) (by decide) rfl ?_
  intro p e s m args below meth c s₁ B hml hv
  obtain ⟨rfl, hsz, hP, hK, hD0⟩ := hv
  have hx := B.exec
  have hb := B.bytes
  have hr := B.returns
  have hts := atoms_spec (ws := v_X16_breaksK) B.pre
  have hown : s.vm.findClass RX16 = some m.cls := findClass_of_methodNamed B.named
  have hlocks := B.notSynchronized
  have ow : ∀ {k : Nat} {w : Cond}, o_X16_breaksK[k]? = some w → w.before ([.ref h0, .int (zI (w0)), .int (zI (p0))] : List Value).toArray s = true := fun h => hts _ (mow_X16_breaksK _ (List.mem_of_getElem? h))
  subst hsz
  have hD := hD0.self (sz := s.heap.size)
  generalize hAe : va_A [(h0, .inr (14, [v16_0, v16_1, v16_2, v16_3, v16_4, v16_5, v16_6, v16_7, .int (zI (z16_rulePlace)), .int (zI (z16_rule)), v16_10, v16_11, v16_12, v16_13]))] s.heap.size = A at hD ⊢
  have hA : ∀ q : Nat, s.heap.size ≤ q → A q := fun q h => by rw [← hAe]; exact Or.inr h
  have hS : va_S A s.heap s.heap [] := va_S.rf
  have hP : va_P (dC, dI) vwQ [(h0, .inr (14, [v16_0, v16_1, v16_2, v16_3, v16_4, v16_5, v16_6, v16_7, .int (zI (z16_rulePlace)), .int (zI (z16_rule)), v16_10, v16_11, v16_12, v16_13]))] s.heap := hP
  have hl := lv_entry ([.ref h0, .int (zI (w0)), .int (zI (p0))]) (n := 3) (Nat.le_of_ble_eq_true rfl)
  rw [lg_entry_eq]
  generalize (lg_sl ([.ref h0, .int (zI (w0)), .int (zI (p0))]) ++ List.replicate (3 - (lg_sl ([.ref h0, .int (zI (w0)), .int (zI (p0))])).length) Slot.unset).toArray = ls at hl ⊢
  have hl : lv_has ls 3 [(0, .ref h0), (1, .int (zI (w0))), (2, .int (zI (p0)))] := hl
  obtain ⟨H, hH⟩ : ∃ H, H = s.heap := ⟨_, rfl⟩
  rw [← hH] at hP
  have hS : va_S A s.heap H [] := by rw [hH]; exact hS
  rw [← hH]
  refine zW_cap (fun Q hQ => ?_)
  refine lv_aload_n hx hb dX16_breaks_0 rfl (lv_at hl 0 rfl) ?_
  refine va_get (D := (dC, dI)) (ci := 14) (v := .int (zI (z16_rulePlace))) (C := RX16) (T := TX16) (N := 14) hx hb hts mem_X16_breaksK_0 hown hK hP 0 rfl rfl 8 (by decide) (ow (k := 0) rfl) (fun _ h9 => h9) rfl dX16_breaks_1 ?_
  refine lv_if_lt (tgt := 31) hx hb dX16_breaks_4 (by decide) (fun b4 => ?_) (fun b4 => ?_)
  · have yb4 : (z16_rulePlace : Int) < (0 : Int) := (zI_lt (a := z16_rulePlace) (b := 0) (by omega) (by omega) (by omega) (by omega)).mp b4
    refine lv_aload_n hx hb dX16_breaks_31 rfl (lv_at hl 0 rfl) ?_
    refine lv_iload_n hx hb dX16_breaks_32 rfl (lv_at hl 2 rfl) ?_
    refine va_put (D := (dC, dI)) (ci := 14) (v := .int (zI (p0))) (ty := .int) (C := RX16) (T := TX16) (N := 14) hx hb hts mem_X16_breaksK_0 tyX16 tyX16_ok nmX16 hown hK hP hD hS 0 rfl rfl 8 (by decide) (ow (k := 0) rfl) (fun _ h9 => h9) rfl (by decide +kernel) rfl rfl (Nat.le_of_ble_eq_true rfl) dX16_breaks_33 (fun H locs hP hD hS => ?_)
    have hP : va_P (dC, dI) vwQ [(h0, .inr (14, [v16_0, v16_1, v16_2, v16_3, v16_4, v16_5, v16_6, v16_7, .int (zI (p0)), .int (zI (z16_rule)), v16_10, v16_11, v16_12, v16_13]))] H := hP
    have hD : va_D A [(h0, .inr (14, [v16_0, v16_1, v16_2, v16_3, v16_4, v16_5, v16_6, v16_7, .int (zI (p0)), .int (zI (z16_rule)), v16_10, v16_11, v16_12, v16_13]))] := hD
    refine lv_aload_n hx hb dX16_breaks_36 rfl (lv_at hl 0 rfl) ?_
    refine lv_iload_n hx hb dX16_breaks_37 rfl (lv_at hl 1 rfl) ?_
    refine va_put (D := (dC, dI)) (ci := 14) (v := .int (zI (w0))) (ty := .int) (C := RX16) (T := TX16) (N := 14) hx hb hts mem_X16_breaksK_0 tyX16 tyX16_ok nmX16 hown hK hP hD hS 0 rfl rfl 9 (by decide) (ow (k := 1) rfl) (fun _ h9 => h9) rfl (by decide +kernel) rfl rfl (Nat.le_of_ble_eq_true rfl) dX16_breaks_38 (fun H locs hP hD hS => ?_)
    have hP : va_P (dC, dI) vwQ [(h0, .inr (14, [v16_0, v16_1, v16_2, v16_3, v16_4, v16_5, v16_6, v16_7, .int (zI (p0)), .int (zI (w0)), v16_10, v16_11, v16_12, v16_13]))] H := hP
    have hD : va_D A [(h0, .inr (14, [v16_0, v16_1, v16_2, v16_3, v16_4, v16_5, v16_6, v16_7, .int (zI (p0)), .int (zI (w0)), v16_10, v16_11, v16_12, v16_13]))] := hD
    subst hQ
    refine W.widen (k := 0) (n := 0) (Nat.le_of_ble_eq_true rfl) (Nat.le_of_ble_eq_true rfl) ?_
    exact W.vret hx hb hr (fun t ht hW => ⟨⟨(), rfl, trivial, p0, w0, ⟨(by omega), (by omega), (by omega)⟩, by rw [ht]; exact hP, va_K.moved hW.alike hK, hD⟩, hS.F ht⟩) hS.2.2 dX16_breaks_41
  · have yb4 : ¬ (z16_rulePlace : Int) < (0 : Int) := fun q => b4 ((zI_lt (a := z16_rulePlace) (b := 0) (by omega) (by omega) (by omega) (by omega)).mpr q)
    refine lv_iload_n hx hb dX16_breaks_7 rfl (lv_at hl 2 rfl) ?_
    refine lv_aload_n hx hb dX16_breaks_8 rfl (lv_at hl 0 rfl) ?_
    refine va_get (D := (dC, dI)) (ci := 14) (v := .int (zI (z16_rulePlace))) (C := RX16) (T := TX16) (N := 14) hx hb hts mem_X16_breaksK_0 hown hK hP 0 rfl rfl 8 (by decide) (ow (k := 0) rfl) (fun _ h9 => h9) rfl dX16_breaks_9 ?_
    refine lv_icmp_lt (tgt := 31) hx hb dX16_breaks_12 (by decide) (fun b12 => ?_) (fun b12 => ?_)
    · have yb12 : (p0 : Int) < (z16_rulePlace : Int) := (zI_lt (a := p0) (b := z16_rulePlace) (by omega) (by omega) (by omega) (by omega)).mp b12
      refine lv_aload_n hx hb dX16_breaks_31 rfl (lv_at hl 0 rfl) ?_
      refine lv_iload_n hx hb dX16_breaks_32 rfl (lv_at hl 2 rfl) ?_
      refine va_put (D := (dC, dI)) (ci := 14) (v := .int (zI (p0))) (ty := .int) (C := RX16) (T := TX16) (N := 14) hx hb hts mem_X16_breaksK_0 tyX16 tyX16_ok nmX16 hown hK hP hD hS 0 rfl rfl 8 (by decide) (ow (k := 0) rfl) (fun _ h9 => h9) rfl (by decide +kernel) rfl rfl (Nat.le_of_ble_eq_true rfl) dX16_breaks_33 (fun H locs hP hD hS => ?_)
      have hP : va_P (dC, dI) vwQ [(h0, .inr (14, [v16_0, v16_1, v16_2, v16_3, v16_4, v16_5, v16_6, v16_7, .int (zI (p0)), .int (zI (z16_rule)), v16_10, v16_11, v16_12, v16_13]))] H := hP
      have hD : va_D A [(h0, .inr (14, [v16_0, v16_1, v16_2, v16_3, v16_4, v16_5, v16_6, v16_7, .int (zI (p0)), .int (zI (z16_rule)), v16_10, v16_11, v16_12, v16_13]))] := hD
      refine lv_aload_n hx hb dX16_breaks_36 rfl (lv_at hl 0 rfl) ?_
      refine lv_iload_n hx hb dX16_breaks_37 rfl (lv_at hl 1 rfl) ?_
      refine va_put (D := (dC, dI)) (ci := 14) (v := .int (zI (w0))) (ty := .int) (C := RX16) (T := TX16) (N := 14) hx hb hts mem_X16_breaksK_0 tyX16 tyX16_ok nmX16 hown hK hP hD hS 0 rfl rfl 9 (by decide) (ow (k := 1) rfl) (fun _ h9 => h9) rfl (by decide +kernel) rfl rfl (Nat.le_of_ble_eq_true rfl) dX16_breaks_38 (fun H locs hP hD hS => ?_)
      have hP : va_P (dC, dI) vwQ [(h0, .inr (14, [v16_0, v16_1, v16_2, v16_3, v16_4, v16_5, v16_6, v16_7, .int (zI (p0)), .int (zI (w0)), v16_10, v16_11, v16_12, v16_13]))] H := hP
      have hD : va_D A [(h0, .inr (14, [v16_0, v16_1, v16_2, v16_3, v16_4, v16_5, v16_6, v16_7, .int (zI (p0)), .int (zI (w0)), v16_10, v16_11, v16_12, v16_13]))] := hD
      subst hQ
      refine W.widen (k := 0) (n := 0) (Nat.le_of_ble_eq_true rfl) (Nat.le_of_ble_eq_true rfl) ?_
      exact W.vret hx hb hr (fun t ht hW => ⟨⟨(), rfl, trivial, p0, w0, ⟨(by omega), (by omega), (by omega)⟩, by rw [ht]; exact hP, va_K.moved hW.alike hK, hD⟩, hS.F ht⟩) hS.2.2 dX16_breaks_41
    · have yb12 : ¬ (p0 : Int) < (z16_rulePlace : Int) := fun q => b12 ((zI_lt (a := p0) (b := z16_rulePlace) (by omega) (by omega) (by omega) (by omega)).mpr q)
      refine lv_iload_n hx hb dX16_breaks_15 rfl (lv_at hl 2 rfl) ?_
      refine lv_aload_n hx hb dX16_breaks_16 rfl (lv_at hl 0 rfl) ?_
      refine va_get (D := (dC, dI)) (ci := 14) (v := .int (zI (z16_rulePlace))) (C := RX16) (T := TX16) (N := 14) hx hb hts mem_X16_breaksK_0 hown hK hP 0 rfl rfl 8 (by decide) (ow (k := 0) rfl) (fun _ h9 => h9) rfl dX16_breaks_17 ?_
      refine lv_icmp_ne (tgt := 41) hx hb dX16_breaks_20 (by decide) (fun b20 => ?_) (fun b20 => ?_)
      · have yb20 : ¬ (p0 : Int) = (z16_rulePlace : Int) := fun q => b20 ((zI_eq (a := p0) (b := z16_rulePlace) (by omega) (by omega) (by omega) (by omega)).mpr q)
        subst hQ
        refine W.widen (k := 0) (n := 0) (Nat.le_of_ble_eq_true rfl) (Nat.le_of_ble_eq_true rfl) ?_
        exact W.vret hx hb hr (fun t ht hW => ⟨⟨(), rfl, trivial, z16_rulePlace, z16_rule, ⟨(by omega), (by omega), (by omega)⟩, by rw [ht]; exact hP, va_K.moved hW.alike hK, hD⟩, hS.F ht⟩) hS.2.2 dX16_breaks_41
      · have yb20 : (p0 : Int) = (z16_rulePlace : Int) := (zI_eq (a := p0) (b := z16_rulePlace) (by omega) (by omega) (by omega) (by omega)).mp b20
        refine lv_iload_n hx hb dX16_breaks_23 rfl (lv_at hl 1 rfl) ?_
        refine lv_aload_n hx hb dX16_breaks_24 rfl (lv_at hl 0 rfl) ?_
        refine va_get (D := (dC, dI)) (ci := 14) (v := .int (zI (z16_rule))) (C := RX16) (T := TX16) (N := 14) hx hb hts mem_X16_breaksK_0 hown hK hP 0 rfl rfl 9 (by decide) (ow (k := 1) rfl) (fun _ h9 => h9) rfl dX16_breaks_25 ?_
        refine lv_icmp_ge (tgt := 41) hx hb dX16_breaks_28 (by decide) (fun b28 => ?_) (fun b28 => ?_)
        · have yb28 : (z16_rule : Int) ≤ (w0 : Int) := (zI_le (a := z16_rule) (b := w0) (by omega) (by omega) (by omega) (by omega)).mp b28
          subst hQ
          refine W.widen (k := 0) (n := 0) (Nat.le_of_ble_eq_true rfl) (Nat.le_of_ble_eq_true rfl) ?_
          exact W.vret hx hb hr (fun t ht hW => ⟨⟨(), rfl, trivial, z16_rulePlace, z16_rule, ⟨(by omega), (by omega), (by omega)⟩, by rw [ht]; exact hP, va_K.moved hW.alike hK, hD⟩, hS.F ht⟩) hS.2.2 dX16_breaks_41
        · have yb28 : ¬ (z16_rule : Int) ≤ (w0 : Int) := fun q => b28 ((zI_le (a := z16_rule) (b := w0) (by omega) (by omega) (by omega) (by omega)).mpr q)
          refine lv_aload_n hx hb dX16_breaks_31 rfl (lv_at hl 0 rfl) ?_
          refine lv_iload_n hx hb dX16_breaks_32 rfl (lv_at hl 2 rfl) ?_
          refine va_put (D := (dC, dI)) (ci := 14) (v := .int (zI (p0))) (ty := .int) (C := RX16) (T := TX16) (N := 14) hx hb hts mem_X16_breaksK_0 tyX16 tyX16_ok nmX16 hown hK hP hD hS 0 rfl rfl 8 (by decide) (ow (k := 0) rfl) (fun _ h9 => h9) rfl (by decide +kernel) rfl rfl (Nat.le_of_ble_eq_true rfl) dX16_breaks_33 (fun H locs hP hD hS => ?_)
          have hP : va_P (dC, dI) vwQ [(h0, .inr (14, [v16_0, v16_1, v16_2, v16_3, v16_4, v16_5, v16_6, v16_7, .int (zI (p0)), .int (zI (z16_rule)), v16_10, v16_11, v16_12, v16_13]))] H := hP
          have hD : va_D A [(h0, .inr (14, [v16_0, v16_1, v16_2, v16_3, v16_4, v16_5, v16_6, v16_7, .int (zI (p0)), .int (zI (z16_rule)), v16_10, v16_11, v16_12, v16_13]))] := hD
          refine lv_aload_n hx hb dX16_breaks_36 rfl (lv_at hl 0 rfl) ?_
          refine lv_iload_n hx hb dX16_breaks_37 rfl (lv_at hl 1 rfl) ?_
          refine va_put (D := (dC, dI)) (ci := 14) (v := .int (zI (w0))) (ty := .int) (C := RX16) (T := TX16) (N := 14) hx hb hts mem_X16_breaksK_0 tyX16 tyX16_ok nmX16 hown hK hP hD hS 0 rfl rfl 9 (by decide) (ow (k := 1) rfl) (fun _ h9 => h9) rfl (by decide +kernel) rfl rfl (Nat.le_of_ble_eq_true rfl) dX16_breaks_38 (fun H locs hP hD hS => ?_)
          have hP : va_P (dC, dI) vwQ [(h0, .inr (14, [v16_0, v16_1, v16_2, v16_3, v16_4, v16_5, v16_6, v16_7, .int (zI (p0)), .int (zI (w0)), v16_10, v16_11, v16_12, v16_13]))] H := hP
          have hD : va_D A [(h0, .inr (14, [v16_0, v16_1, v16_2, v16_3, v16_4, v16_5, v16_6, v16_7, .int (zI (p0)), .int (zI (w0)), v16_10, v16_11, v16_12, v16_13]))] := hD
          subst hQ
          refine W.widen (k := 0) (n := 0) (Nat.le_of_ble_eq_true rfl) (Nat.le_of_ble_eq_true rfl) ?_
          exact W.vret hx hb hr (fun t ht hW => ⟨⟨(), rfl, trivial, p0, w0, ⟨(by omega), (by omega), (by omega)⟩, by rw [ht]; exact hP, va_K.moved hW.alike hK, hD⟩, hS.F ht⟩) hS.2.2 dX16_breaks_41
