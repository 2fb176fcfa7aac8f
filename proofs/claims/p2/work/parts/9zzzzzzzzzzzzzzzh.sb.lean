def o_J6_stringSizeD : List Cond := []
def v_J6_stringSizeD : List Cond := .code yJ6_stringSize_0f7a4 cJ6_stringSize_0f7a4 4 (some .int) :: (o_J6_stringSizeD ++ [])
theorem mow_J6_stringSizeD : ∀ w ∈ o_J6_stringSizeD, w ∈ v_J6_stringSizeD := fun _ h => List.mem_cons_of_mem _ (List.mem_append_left _ h)
set_option maxRecDepth 20000 in
theorem gw_J6_stringSizeD : v_J6_stringSizeD.all goodWord = true := by decide +kernel
set_option maxHeartbeats 4000000 in
set_option maxRecDepth 100000 in
theorem c_J6_stringSizeD (l : Launch) (dC : Nat → ClassId) (dI : Nat → Nat → Nat) (x0 : Int) (hNx : -2147483648 ≤ x0 ∧ x0 ≤ 2147483647) (sz : Nat) : Met l yJ6_stringSize_0f7a4 v_J6_stringSizeD ({ frames := 0, cells := 0, slots := 0, locals := 0 }) (va_Pc [.int (zI (x0))] (fun U => U.heap.size = sz ∧ va_P (dC, dI) vwQ [] U.heap ∧ va_K (dC, dI) vwQ [] U ∧ va_D (fun _ => True) [])) (va_Qi (fun (r : Int32) (_ : Unit) => ∃ z : Int, r = zI z ∧ (∃ k9 : Int, z = k9 + rSg (x0) ∧ k9 ≤ 10 ∧ DGT (rAb (x0)) k9 ∧ (k9 ≤ 3 ∨ 1000 ≤ rAb (x0)))) (fun (_ : Unit) (t : State) => va_P (dC, dI) vwQ [] t.heap ∧ va_K (dC, dI) vwQ [] t ∧ va_D (va_A [] sz) []) (va_A [] sz)) 0 0 (va_A [] sz) := by
  refine Met.ofW (cc := cJ6_stringSize_0f7a4) (maxL := 4) (ret := (some .int)) (by decide) rfl ?_
  intro p e s m args below meth c s₁ B hml hv
  obtain ⟨rfl, hsz, hP, hK, hD0⟩ := hv
  have hx := B.exec
  have hb := B.bytes
  have hr := B.returns
  have hts := atoms_spec (ws := v_J6_stringSizeD) B.pre
  have hown : s.vm.findClass RJ6 = some m.cls := findClass_of_methodNamed B.named
  have hlocks := B.notSynchronized
  have ow : ∀ {k : Nat} {w : Cond}, o_J6_stringSizeD[k]? = some w → w.before ([.int (zI (x0))] : List Value).toArray s = true := fun h => hts _ (mow_J6_stringSizeD _ (List.mem_of_getElem? h))
  subst hsz
  have hD := hD0.self (sz := s.heap.size)
  generalize hAe : va_A [] s.heap.size = A at hD ⊢
  have hA : ∀ q : Nat, s.heap.size ≤ q → A q := fun q h => by rw [← hAe]; exact Or.inr h
  have hS : va_S A s.heap s.heap [] := va_S.rf
  have hP : va_P (dC, dI) vwQ [] s.heap := hP
  have hl := lv_entry ([.int (zI (x0))]) (n := 4) (Nat.le_of_ble_eq_true rfl)
  rw [lg_entry_eq]
  generalize (lg_sl ([.int (zI (x0))]) ++ List.replicate (4 - (lg_sl ([.int (zI (x0))])).length) Slot.unset).toArray = ls at hl ⊢
  have hl : lv_has ls 4 [(0, .int (zI (x0)))] := hl
  obtain ⟨H, hH⟩ : ∃ H, H = s.heap := ⟨_, rfl⟩
  rw [← hH] at hP
  have hS : va_S A s.heap H [] := by rw [hH]; exact hS
  rw [← hH]
  refine zW_cap (fun Q hQ => ?_)
  refine lv_iconst (v := 1) hx hb dJ6_stringSize_0f7a4_0 (by decide) ?_
  refine lv_istore_n (lv' := [(1, .int 1), (0, .int (zI (x0)))]) hx hb dJ6_stringSize_0f7a4_1 rfl hl (by decide) rfl (fun ls hl => ?_)
  refine lv_iload_n hx hb dJ6_stringSize_0f7a4_2 rfl (lv_at hl 1 rfl) ?_
  refine lv_if_lt (tgt := 11) hx hb dJ6_stringSize_0f7a4_3 (by decide) (fun b3 => ?_) (fun b3 => ?_)
  · have yb3 : (x0 : Int) < (0 : Int) := (zI_lt (a := x0) (b := 0) (by omega) (by omega) (by omega) (by omega)).mp b3
    have hp1 := P10_1
    refine lv_bipush (v := (-10)) hx hb dJ6_stringSize_0f7a4_11 (by decide) ?_
    refine lv_istore_n (lv' := [(2, .int (-10)), (1, .int 1), (0, .int (zI (x0)))]) hx hb dJ6_stringSize_0f7a4_13 rfl hl (by decide) rfl (fun ls hl => ?_)
    refine lv_iconst (v := 1) hx hb dJ6_stringSize_0f7a4_14 (by decide) ?_
    refine lv_istore_n (lv' := [(3, .int 1), (2, .int (-10)), (1, .int 1), (0, .int (zI (x0)))]) hx hb dJ6_stringSize_0f7a4_15 rfl hl (by decide) rfl (fun ls hl => ?_)
    have key16 : ∀ n16 : Nat, ∀ (d16_3 : Int) (d16_2 : Int) (ls : Array Slot) (H : Heap) (locs : List Loc), (1 ≤ d16_3 ∧ d16_3 ≤ 10) → (d16_2 = -(P10 d16_3)) → (d16_3 ≤ 3 ∨ 1000 ≤ rAb (x0)) → ((10 - d16_3 : Int).toNat) < n16 → lv_has ls 4 [(0, .int (zI (x0))), (1, .int 1), (2, .int (zI (d16_2))), (3, .int (zI (d16_3)))] → va_P (dC, dI) vwQ [] H → va_D A [] → va_S A s.heap H locs → W p l e (headSpec v_J6_stringSizeD ({ frames := 0, cells := 0, slots := 0, locals := 0 })).room s m ([.int (zI (x0))] : List Value).toArray below meth c H locs 0 0 Q (F0 m 16 ls []) := by
      intro n16
      induction n16 with
      | zero => intro d16_3 d16_2 ls H locs jd16_3 jd16_2 jm16 hm16; exact absurd hm16 (by omega)
      | succ n16 ih16 =>
        intro d16_3 d16_2 ls H locs jd16_3 jd16_2 jm16 hm16 hl hP hD hS
        refine lv_iload_n hx hb dJ6_stringSize_0f7a4_16 rfl (lv_at hl 3 rfl) ?_
        refine lv_bipush (v := 10) hx hb dJ6_stringSize_0f7a4_17 (by decide) ?_
        refine lv_icmp_ge (tgt := 42) hx hb dJ6_stringSize_0f7a4_19 (by decide) (fun b19 => ?_) (fun b19 => ?_)
        · have yb19 : (10 : Int) ≤ (d16_3 : Int) := (zI_le (a := 10) (b := d16_3) (by omega) (by omega) (by omega) (by omega)).mp b19
          have hpt := P10_10
          refine lv_bipush (v := 10) hx hb dJ6_stringSize_0f7a4_42 (by decide) ?_
          refine lv_iload_n hx hb dJ6_stringSize_0f7a4_44 rfl (lv_at hl 1 rfl) ?_
          refine lv_iadd hx hb dJ6_stringSize_0f7a4_45 ?_
          refine lv_topi (fun z ez => ?_)
          obtain rfl : z = 11 := by rw [ez]; decide
          subst hQ
          refine W.widen (k := 0) (n := 0) (Nat.le_of_ble_eq_true rfl) (Nat.le_of_ble_eq_true rfl) ?_
          exact W.iret (v := 11) hx hb hr (fun t ht hW => ⟨⟨11, (), rfl, ⟨11, rfl, (by have q9 := rSg_spec (x0); first | exact ⟨d16_3, by omega, by omega, DGT.of (by omega) (by omega) (by omega), by omega⟩ | exact ⟨10, by omega, by omega, DGT.of (by omega) (by omega) (by omega), by omega⟩)⟩, by rw [ht]; exact hP, va_K.moved hW.alike hK, hD⟩, hS.F ht⟩) hS.2.2 dJ6_stringSize_0f7a4_46
        · have yb19 : ¬ (10 : Int) ≤ (d16_3 : Int) := fun q => b19 ((zI_le (a := 10) (b := d16_3) (by omega) (by omega) (by omega) (by omega)).mpr q)
          have hpl := P10_le (k := d16_3) (by omega)
          have hpp := P10_pos d16_3
          refine lv_iload_n hx hb dJ6_stringSize_0f7a4_22 rfl (lv_at hl 0 rfl) ?_
          refine lv_iload_n hx hb dJ6_stringSize_0f7a4_23 rfl (lv_at hl 2 rfl) ?_
          refine lv_icmp_le (tgt := 31) hx hb dJ6_stringSize_0f7a4_24 (by decide) (fun b24 => ?_) (fun b24 => ?_)
          · have yb24 : (x0 : Int) ≤ (d16_2 : Int) := (zI_le (a := x0) (b := d16_2) (by omega) (by omega) (by omega) (by omega)).mp b24
            have hps := P10_s (k := d16_3) (by omega)
            refine lv_bipush (v := 10) hx hb dJ6_stringSize_0f7a4_31 (by decide) ?_
            refine lv_iload_n hx hb dJ6_stringSize_0f7a4_33 rfl (lv_at hl 2 rfl) ?_
            refine lv_imul hx hb dJ6_stringSize_0f7a4_34 ?_
            refine lv_topi (fun z ez => ?_)
            obtain rfl : z = zI (10 * d16_2) := ez.trans (zI_mul (10) (d16_2))
            refine lv_istore_n (lv' := [(2, .int (zI (10 * d16_2))), (0, .int (zI (x0))), (1, .int 1), (3, .int (zI (d16_3)))]) hx hb dJ6_stringSize_0f7a4_35 rfl hl (by decide) rfl (fun ls hl => ?_)
            refine lv_iinc (v := zI (d16_3 + 1)) (lv' := [(3, .int (zI (d16_3 + 1))), (2, .int (zI (10 * d16_2))), (0, .int (zI (x0))), (1, .int 1)]) hx hb dJ6_stringSize_0f7a4_36 hl (k := 3) rfl (zI_add (d16_3) (1)) (by decide) rfl (fun ls hl => ?_)
            refine lv_goto (tgt := 16) hx hb dJ6_stringSize_0f7a4_39 (by decide) ?_
            exact ih16 (d16_3 + 1) (10 * d16_2) ls H _ (by omega) (by omega) (by have q9 := rSg_spec (x0); by_cases q8 : d16_3 + 1 ≤ 3; exact Or.inl q8; (have q7 := p10_3 (k := d16_3) (by omega) (by omega); exact Or.inr (by omega))) (by omega) (lv_sub hl [2, 3, 1, 0] rfl) hP hD hS
          · have yb24 : ¬ (x0 : Int) ≤ (d16_2 : Int) := fun q => b24 ((zI_le (a := x0) (b := d16_2) (by omega) (by omega) (by omega) (by omega)).mpr q)
            refine lv_iload_n hx hb dJ6_stringSize_0f7a4_27 rfl (lv_at hl 3 rfl) ?_
            refine lv_iload_n hx hb dJ6_stringSize_0f7a4_28 rfl (lv_at hl 1 rfl) ?_
            refine lv_iadd hx hb dJ6_stringSize_0f7a4_29 ?_
            refine lv_topi (fun z ez => ?_)
            obtain rfl : z = zI (d16_3 + 1) := ez.trans (zI_add (d16_3) (1))
            subst hQ
            refine W.widen (k := 0) (n := 0) (Nat.le_of_ble_eq_true rfl) (Nat.le_of_ble_eq_true rfl) ?_
            exact W.iret (v := (zI (d16_3 + 1))) hx hb hr (fun t ht hW => ⟨⟨(zI (d16_3 + 1)), (), rfl, ⟨d16_3 + 1, rfl, (by have q9 := rSg_spec (x0); first | exact ⟨d16_3, by omega, by omega, DGT.of (by omega) (by omega) (by omega), by omega⟩ | exact ⟨10, by omega, by omega, DGT.of (by omega) (by omega) (by omega), by omega⟩)⟩, by rw [ht]; exact hP, va_K.moved hW.alike hK, hD⟩, hS.F ht⟩) hS.2.2 dJ6_stringSize_0f7a4_30
    exact key16 ((10 - 1 : Int).toNat + 1) 1 (-10) ls H _ (by omega) (by omega) (Or.inl (by omega)) (by omega) (lv_sub hl [3, 2, 1, 0] rfl) hP hD hS
  · have yb3 : ¬ (x0 : Int) < (0 : Int) := fun q => b3 ((zI_lt (a := x0) (b := 0) (by omega) (by omega) (by omega) (by omega)).mpr q)
    refine lv_iconst (v := 0) hx hb dJ6_stringSize_0f7a4_6 (by decide) ?_
    refine lv_istore_n (lv' := [(1, .int 0), (0, .int (zI (x0)))]) hx hb dJ6_stringSize_0f7a4_7 rfl hl (by decide) rfl (fun ls hl => ?_)
    refine lv_iload_n hx hb dJ6_stringSize_0f7a4_8 rfl (lv_at hl 1 rfl) ?_
    refine lv_ineg hx hb dJ6_stringSize_0f7a4_9 ?_
    refine lv_topi (fun z ez => ?_)
    obtain rfl : z = zI (-(x0)) := ez.trans (zI_neg (x0))
    refine lv_istore_n (lv' := [(0, .int (zI (-(x0)))), (1, .int 0)]) hx hb dJ6_stringSize_0f7a4_10 rfl hl (by decide) rfl (fun ls hl => ?_)
    have hp1 := P10_1
    refine lv_bipush (v := (-10)) hx hb dJ6_stringSize_0f7a4_11 (by decide) ?_
    refine lv_istore_n (lv' := [(2, .int (-10)), (0, .int (zI (-(x0)))), (1, .int 0)]) hx hb dJ6_stringSize_0f7a4_13 rfl hl (by decide) rfl (fun ls hl => ?_)
    refine lv_iconst (v := 1) hx hb dJ6_stringSize_0f7a4_14 (by decide) ?_
    refine lv_istore_n (lv' := [(3, .int 1), (2, .int (-10)), (0, .int (zI (-(x0)))), (1, .int 0)]) hx hb dJ6_stringSize_0f7a4_15 rfl hl (by decide) rfl (fun ls hl => ?_)
    have key16 : ∀ n16 : Nat, ∀ (d16_3 : Int) (d16_2 : Int) (ls : Array Slot) (H : Heap) (locs : List Loc), (1 ≤ d16_3 ∧ d16_3 ≤ 10) → (d16_2 = -(P10 d16_3)) → (d16_3 ≤ 3 ∨ 1000 ≤ rAb (x0)) → ((10 - d16_3 : Int).toNat) < n16 → lv_has ls 4 [(0, .int (zI (-(x0)))), (1, .int 0), (2, .int (zI (d16_2))), (3, .int (zI (d16_3)))] → va_P (dC, dI) vwQ [] H → va_D A [] → va_S A s.heap H locs → W p l e (headSpec v_J6_stringSizeD ({ frames := 0, cells := 0, slots := 0, locals := 0 })).room s m ([.int (zI (x0))] : List Value).toArray below meth c H locs 0 0 Q (F0 m 16 ls []) := by
      intro n16
      induction n16 with
      | zero => intro d16_3 d16_2 ls H locs jd16_3 jd16_2 jm16 hm16; exact absurd hm16 (by omega)
      | succ n16 ih16 =>
        intro d16_3 d16_2 ls H locs jd16_3 jd16_2 jm16 hm16 hl hP hD hS
        refine lv_iload_n hx hb dJ6_stringSize_0f7a4_16 rfl (lv_at hl 3 rfl) ?_
        refine lv_bipush (v := 10) hx hb dJ6_stringSize_0f7a4_17 (by decide) ?_
        refine lv_icmp_ge (tgt := 42) hx hb dJ6_stringSize_0f7a4_19 (by decide) (fun b19 => ?_) (fun b19 => ?_)
        · have yb19 : (10 : Int) ≤ (d16_3 : Int) := (zI_le (a := 10) (b := d16_3) (by omega) (by omega) (by omega) (by omega)).mp b19
          have hpt := P10_10
          refine lv_bipush (v := 10) hx hb dJ6_stringSize_0f7a4_42 (by decide) ?_
          refine lv_iload_n hx hb dJ6_stringSize_0f7a4_44 rfl (lv_at hl 1 rfl) ?_
          refine lv_iadd hx hb dJ6_stringSize_0f7a4_45 ?_
          refine lv_topi (fun z ez => ?_)
          obtain rfl : z = 10 := by rw [ez]; decide
          subst hQ
          refine W.widen (k := 0) (n := 0) (Nat.le_of_ble_eq_true rfl) (Nat.le_of_ble_eq_true rfl) ?_
          exact W.iret (v := 10) hx hb hr (fun t ht hW => ⟨⟨10, (), rfl, ⟨10, rfl, (by have q9 := rSg_spec (x0); first | exact ⟨d16_3, by omega, by omega, DGT.of (by omega) (by omega) (by omega), by omega⟩ | exact ⟨10, by omega, by omega, DGT.of (by omega) (by omega) (by omega), by omega⟩)⟩, by rw [ht]; exact hP, va_K.moved hW.alike hK, hD⟩, hS.F ht⟩) hS.2.2 dJ6_stringSize_0f7a4_46
        · have yb19 : ¬ (10 : Int) ≤ (d16_3 : Int) := fun q => b19 ((zI_le (a := 10) (b := d16_3) (by omega) (by omega) (by omega) (by omega)).mpr q)
          have hpl := P10_le (k := d16_3) (by omega)
          have hpp := P10_pos d16_3
          refine lv_iload_n hx hb dJ6_stringSize_0f7a4_22 rfl (lv_at hl 0 rfl) ?_
          refine lv_iload_n hx hb dJ6_stringSize_0f7a4_23 rfl (lv_at hl 2 rfl) ?_
          refine lv_icmp_le (tgt := 31) hx hb dJ6_stringSize_0f7a4_24 (by decide) (fun b24 => ?_) (fun b24 => ?_)
          · have yb24 : (-(x0) : Int) ≤ (d16_2 : Int) := (zI_le (a := -(x0)) (b := d16_2) (by omega) (by omega) (by omega) (by omega)).mp b24
            have hps := P10_s (k := d16_3) (by omega)
            refine lv_bipush (v := 10) hx hb dJ6_stringSize_0f7a4_31 (by decide) ?_
            refine lv_iload_n hx hb dJ6_stringSize_0f7a4_33 rfl (lv_at hl 2 rfl) ?_
            refine lv_imul hx hb dJ6_stringSize_0f7a4_34 ?_
            refine lv_topi (fun z ez => ?_)
            obtain rfl : z = zI (10 * d16_2) := ez.trans (zI_mul (10) (d16_2))
            refine lv_istore_n (lv' := [(2, .int (zI (10 * d16_2))), (0, .int (zI (-(x0)))), (1, .int 0), (3, .int (zI (d16_3)))]) hx hb dJ6_stringSize_0f7a4_35 rfl hl (by decide) rfl (fun ls hl => ?_)
            refine lv_iinc (v := zI (d16_3 + 1)) (lv' := [(3, .int (zI (d16_3 + 1))), (2, .int (zI (10 * d16_2))), (0, .int (zI (-(x0)))), (1, .int 0)]) hx hb dJ6_stringSize_0f7a4_36 hl (k := 3) rfl (zI_add (d16_3) (1)) (by decide) rfl (fun ls hl => ?_)
            refine lv_goto (tgt := 16) hx hb dJ6_stringSize_0f7a4_39 (by decide) ?_
            exact ih16 (d16_3 + 1) (10 * d16_2) ls H _ (by omega) (by omega) (by have q9 := rSg_spec (x0); by_cases q8 : d16_3 + 1 ≤ 3; exact Or.inl q8; (have q7 := p10_3 (k := d16_3) (by omega) (by omega); exact Or.inr (by omega))) (by omega) (lv_sub hl [2, 3, 1, 0] rfl) hP hD hS
          · have yb24 : ¬ (-(x0) : Int) ≤ (d16_2 : Int) := fun q => b24 ((zI_le (a := -(x0)) (b := d16_2) (by omega) (by omega) (by omega) (by omega)).mpr q)
            refine lv_iload_n hx hb dJ6_stringSize_0f7a4_27 rfl (lv_at hl 3 rfl) ?_
            refine lv_iload_n hx hb dJ6_stringSize_0f7a4_28 rfl (lv_at hl 1 rfl) ?_
            refine lv_iadd hx hb dJ6_stringSize_0f7a4_29 ?_
            refine lv_topi (fun z ez => ?_)
            obtain rfl : z = zI (d16_3 + 0) := ez.trans (zI_add (d16_3) (0))
            subst hQ
            refine W.widen (k := 0) (n := 0) (Nat.le_of_ble_eq_true rfl) (Nat.le_of_ble_eq_true rfl) ?_
            exact W.iret (v := (zI (d16_3 + 0))) hx hb hr (fun t ht hW => ⟨⟨(zI (d16_3 + 0)), (), rfl, ⟨d16_3 + 0, rfl, (by have q9 := rSg_spec (x0); first | exact ⟨d16_3, by omega, by omega, DGT.of (by omega) (by omega) (by omega), by omega⟩ | exact ⟨10, by omega, by omega, DGT.of (by omega) (by omega) (by omega), by omega⟩)⟩, by rw [ht]; exact hP, va_K.moved hW.alike hK, hD⟩, hS.F ht⟩) hS.2.2 dJ6_stringSize_0f7a4_30
    exact key16 ((10 - 1 : Int).toNat + 1) 1 (-10) ls H _ (by omega) (by omega) (Or.inl (by omega)) (by omega) (lv_sub hl [2, 3, 1, 0] rfl) hP hD hS
