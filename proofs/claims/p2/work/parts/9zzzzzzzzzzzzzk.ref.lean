def o_X19_resultE : List Cond := [.constantLong RX19 218 (4294967295), .constantLong RX19 216 (4294967296)]
def v_X19_resultE : List Cond := .code yX19_result cX19_result 4 (some .long) :: (o_X19_resultE ++ [])
theorem mow_X19_resultE : ∀ w ∈ o_X19_resultE, w ∈ v_X19_resultE := fun _ h => List.mem_cons_of_mem _ (List.mem_append_left _ h)
set_option maxRecDepth 20000 in
theorem gw_X19_resultE : v_X19_resultE.all goodWord = true := by decide +kernel
set_option maxHeartbeats 4000000 in
set_option maxRecDepth 100000 in
theorem c_X19_resultE (l : Launch) (dC : Nat → ClassId) (dI : Nat → Nat → Nat) (o : Int) (p0 : Int32) (p1 : Int32) (hNo : 0 ≤ o ∧ o ≤ 40) (sz : Nat) : Met l yX19_result v_X19_resultE ({ frames := 0, cells := 0, slots := 0, locals := 0 }) (va_Pc [.int (zI (o)), .int p0, .int p1] (fun U => U.heap.size = sz ∧ va_P (dC, dI) vwQ [] U.heap ∧ va_K (dC, dI) vwQ [] U ∧ va_D (fun _ => True) [])) (va_Ql (fun (r : Int64) (_ : Unit) => r = RL9 (o) p0 p1) (fun (_ : Unit) (t : State) => va_P (dC, dI) vwQ [] t.heap ∧ va_K (dC, dI) vwQ [] t ∧ va_D (va_A [] sz) []) (va_A [] sz)) 0 0 (va_A [] sz) := by
  refine Met.ofW (cc := cX19_result) (maxL := 4) (ret := (some .long)) (by decide) rfl ?_
  intro p e s m args below meth c s₁ B hml hv
  obtain ⟨rfl, hsz, hP, hK, hD0⟩ := hv
  have hx := B.exec
  have hb := B.bytes
  have hr := B.returns
  have hts := atoms_spec (ws := v_X19_resultE) B.pre
  have hown : s.vm.findClass RX19 = some m.cls := findClass_of_methodNamed B.named
  have hlocks := B.notSynchronized
  have ow : ∀ {k : Nat} {w : Cond}, o_X19_resultE[k]? = some w → w.before ([.int (zI (o)), .int p0, .int p1] : List Value).toArray s = true := fun h => hts _ (mow_X19_resultE _ (List.mem_of_getElem? h))
  subst hsz
  have hD := hD0.self (sz := s.heap.size)
  generalize hAe : va_A [] s.heap.size = A at hD ⊢
  have hA : ∀ q : Nat, s.heap.size ≤ q → A q := fun q h => by rw [← hAe]; exact Or.inr h
  have hS : va_S A s.heap s.heap [] := va_S.rf
  have hP : va_P (dC, dI) vwQ [] s.heap := hP
  have hl := lv_entry ([.int (zI (o)), .int p0, .int p1]) (n := 4) (Nat.le_of_ble_eq_true rfl)
  rw [lg_entry_eq]
  generalize (lg_sl ([.int (zI (o)), .int p0, .int p1]) ++ List.replicate (4 - (lg_sl ([.int (zI (o)), .int p0, .int p1])).length) Slot.unset).toArray = ls at hl ⊢
  have hl : lv_has ls 4 [(0, .int (zI (o))), (1, .int p0), (2, .int p1)] := hl
  obtain ⟨H, hH⟩ : ∃ H, H = s.heap := ⟨_, rfl⟩
  rw [← hH] at hP
  have hS : va_S A s.heap H [] := by rw [hH]; exact hS
  rw [← hH]
  refine zW_cap (fun Q hQ => ?_)
  refine lv_iload_n hx hb dX19_result_0 rfl (lv_at hl 0 rfl) ?_
  by_cases s1_0 : o = 1
  · refine lv_tableIn (off := 67) (tgt := 68) hx hb dX19_result_1 (by rw [s1_0]; decide) (by rw [s1_0]; decide) (by rw [s1_0]; decide) (by decide) ?_
    refine lv_iload_n hx hb dX19_result_68 rfl (lv_at hl 1 rfl) ?_
    refine lv_iload_n hx hb dX19_result_69 rfl (lv_at hl 2 rfl) ?_
    refine lv_iadd hx hb dX19_result_70 ?_
    refine lv_topi (fun x_1 ex_1 => ?_)
    refine lv_istore_n (lv' := [(3, .int x_1), (0, .int (zI (o))), (1, .int p0), (2, .int p1)]) hx hb dX19_result_71 rfl hl (by decide) rfl (fun ls hl => ?_)
    refine lv_goto (tgt := 213) hx hb dX19_result_72 (by decide) ?_
    refine lv_iload_n hx hb dX19_result_213 rfl (lv_at hl 0 rfl) ?_
    refine lv_i2l (v := lI (x_1).toInt) hx hb dX19_result_214 (xI_l _) ?_
    have kx_2 := xI_rng (x_1)
    refine lv_ldc2 (v := 4294967295) hx hb hown (ow (k := 0) rfl) dX19_result_215 ?_
    refine lv_topl (fun z ez => ?_)
    obtain rfl : z = lI (4294967295) := ez
    refine lv_land hx hb dX19_result_218 ?_
    refine lv_topl (fun x_3 ex_3 => ?_)
    subst hQ
    refine W.widen (k := 0) (n := 0) (Nat.le_of_ble_eq_true rfl) (Nat.le_of_ble_eq_true rfl) ?_
    exact W.lret (v := x_3) hx hb hr (fun t ht hW => ⟨⟨x_3, (), rfl, (by first | exact RL9.o1 (by assumption) (by assumption) (by assumption) | exact RL9.o2 (by assumption) (by assumption) (by assumption) | exact RL9.o3 (by assumption) (by assumption) (by assumption) | exact RL9.o6 (by assumption) (by assumption) (by assumption) | exact RL9.o7 (by assumption) (by assumption) (by assumption) | exact RL9.o8 (by assumption) (by assumption) (by assumption) | exact RL9.o4 (by assumption) (by assumption) (by assumption) (by assumption) | exact RL9.o5 (by assumption) (by assumption) (by assumption) (by assumption) | exact RL9.o9 (by assumption) (by assumption) (by assumption) (by assumption) | exact RL9.o10 (by assumption) (by assumption) (by assumption) (by assumption) | exact RL9.z4 (by assumption) (by assumption) | exact RL9.z5 (by assumption) (by assumption) | exact RL9.a11 (by assumption) (by assumption) (by assumption) | exact RL9.b11 (by assumption) (by assumption) (by assumption) | exact RL9.a12 (by assumption) (by assumption) (by assumption) | exact RL9.b12 (by assumption) (by assumption) (by assumption) | exact RL9.a13 (by assumption) (by assumption) (by assumption) | exact RL9.b13 (by assumption) (by assumption) (by assumption) | exact RL9.a14 (by assumption) (by assumption) (by assumption) (by assumption) (by assumption) (by assumption) (by assumption) (by assumption) (by assumption) (by assumption) (by assumption) (by assumption) (by assumption) (by assumption) (by assumption) | exact RL9.b14 (by assumption) (by assumption) (by assumption) (by assumption) (by assumption) (by assumption) (by assumption) (by assumption) (by assumption) (by assumption) (by assumption) (by assumption) (by assumption) (by assumption) (by assumption)), by rw [ht]; exact hP, va_K.moved hW.alike hK, hD⟩, hS.F ht⟩) hS.2.2 dX19_result_219
  by_cases s1_1 : o = 2
  · refine lv_tableIn (off := 74) (tgt := 75) hx hb dX19_result_1 (by rw [s1_1]; decide) (by rw [s1_1]; decide) (by rw [s1_1]; decide) (by decide) ?_
    refine lv_iload_n hx hb dX19_result_75 rfl (lv_at hl 1 rfl) ?_
    refine lv_iload_n hx hb dX19_result_76 rfl (lv_at hl 2 rfl) ?_
    refine lv_isub hx hb dX19_result_77 ?_
    refine lv_topi (fun x_4 ex_4 => ?_)
    refine lv_istore_n (lv' := [(3, .int x_4), (0, .int (zI (o))), (1, .int p0), (2, .int p1)]) hx hb dX19_result_78 rfl hl (by decide) rfl (fun ls hl => ?_)
    refine lv_goto (tgt := 213) hx hb dX19_result_79 (by decide) ?_
    refine lv_iload_n hx hb dX19_result_213 rfl (lv_at hl 0 rfl) ?_
    refine lv_i2l (v := lI (x_4).toInt) hx hb dX19_result_214 (xI_l _) ?_
    have kx_5 := xI_rng (x_4)
    refine lv_ldc2 (v := 4294967295) hx hb hown (ow (k := 0) rfl) dX19_result_215 ?_
    refine lv_topl (fun z ez => ?_)
    obtain rfl : z = lI (4294967295) := ez
    refine lv_land hx hb dX19_result_218 ?_
    refine lv_topl (fun x_6 ex_6 => ?_)
    subst hQ
    refine W.widen (k := 0) (n := 0) (Nat.le_of_ble_eq_true rfl) (Nat.le_of_ble_eq_true rfl) ?_
    exact W.lret (v := x_6) hx hb hr (fun t ht hW => ⟨⟨x_6, (), rfl, (by first | exact RL9.o1 (by assumption) (by assumption) (by assumption) | exact RL9.o2 (by assumption) (by assumption) (by assumption) | exact RL9.o3 (by assumption) (by assumption) (by assumption) | exact RL9.o6 (by assumption) (by assumption) (by assumption) | exact RL9.o7 (by assumption) (by assumption) (by assumption) | exact RL9.o8 (by assumption) (by assumption) (by assumption) | exact RL9.o4 (by assumption) (by assumption) (by assumption) (by assumption) | exact RL9.o5 (by assumption) (by assumption) (by assumption) (by assumption) | exact RL9.o9 (by assumption) (by assumption) (by assumption) (by assumption) | exact RL9.o10 (by assumption) (by assumption) (by assumption) (by assumption) | exact RL9.z4 (by assumption) (by assumption) | exact RL9.z5 (by assumption) (by assumption) | exact RL9.a11 (by assumption) (by assumption) (by assumption) | exact RL9.b11 (by assumption) (by assumption) (by assumption) | exact RL9.a12 (by assumption) (by assumption) (by assumption) | exact RL9.b12 (by assumption) (by assumption) (by assumption) | exact RL9.a13 (by assumption) (by assumption) (by assumption) | exact RL9.b13 (by assumption) (by assumption) (by assumption) | exact RL9.a14 (by assumption) (by assumption) (by assumption) (by assumption) (by assumption) (by assumption) (by assumption) (by assumption) (by assumption) (by assumption) (by assumption) (by assumption) (by assumption) (by assumption) (by assumption) | exact RL9.b14 (by assumption) (by assumption) (by assumption) (by assumption) (by assumption) (by assumption) (by assumption) (by assumption) (by assumption) (by assumption) (by assumption) (by assumption) (by assumption) (by assumption) (by assumption)), by rw [ht]; exact hP, va_K.moved hW.alike hK, hD⟩, hS.F ht⟩) hS.2.2 dX19_result_219
  by_cases s1_2 : o = 3
  · refine lv_tableIn (off := 81) (tgt := 82) hx hb dX19_result_1 (by rw [s1_2]; decide) (by rw [s1_2]; decide) (by rw [s1_2]; decide) (by decide) ?_
    refine lv_iload_n hx hb dX19_result_82 rfl (lv_at hl 1 rfl) ?_
    refine lv_iload_n hx hb dX19_result_83 rfl (lv_at hl 2 rfl) ?_
    refine lv_imul hx hb dX19_result_84 ?_
    refine lv_topi (fun x_7 ex_7 => ?_)
    refine lv_istore_n (lv' := [(3, .int x_7), (0, .int (zI (o))), (1, .int p0), (2, .int p1)]) hx hb dX19_result_85 rfl hl (by decide) rfl (fun ls hl => ?_)
    refine lv_goto (tgt := 213) hx hb dX19_result_86 (by decide) ?_
    refine lv_iload_n hx hb dX19_result_213 rfl (lv_at hl 0 rfl) ?_
    refine lv_i2l (v := lI (x_7).toInt) hx hb dX19_result_214 (xI_l _) ?_
    have kx_8 := xI_rng (x_7)
    refine lv_ldc2 (v := 4294967295) hx hb hown (ow (k := 0) rfl) dX19_result_215 ?_
    refine lv_topl (fun z ez => ?_)
    obtain rfl : z = lI (4294967295) := ez
    refine lv_land hx hb dX19_result_218 ?_
    refine lv_topl (fun x_9 ex_9 => ?_)
    subst hQ
    refine W.widen (k := 0) (n := 0) (Nat.le_of_ble_eq_true rfl) (Nat.le_of_ble_eq_true rfl) ?_
    exact W.lret (v := x_9) hx hb hr (fun t ht hW => ⟨⟨x_9, (), rfl, (by first | exact RL9.o1 (by assumption) (by assumption) (by assumption) | exact RL9.o2 (by assumption) (by assumption) (by assumption) | exact RL9.o3 (by assumption) (by assumption) (by assumption) | exact RL9.o6 (by assumption) (by assumption) (by assumption) | exact RL9.o7 (by assumption) (by assumption) (by assumption) | exact RL9.o8 (by assumption) (by assumption) (by assumption) | exact RL9.o4 (by assumption) (by assumption) (by assumption) (by assumption) | exact RL9.o5 (by assumption) (by assumption) (by assumption) (by assumption) | exact RL9.o9 (by assumption) (by assumption) (by assumption) (by assumption) | exact RL9.o10 (by assumption) (by assumption) (by assumption) (by assumption) | exact RL9.z4 (by assumption) (by assumption) | exact RL9.z5 (by assumption) (by assumption) | exact RL9.a11 (by assumption) (by assumption) (by assumption) | exact RL9.b11 (by assumption) (by assumption) (by assumption) | exact RL9.a12 (by assumption) (by assumption) (by assumption) | exact RL9.b12 (by assumption) (by assumption) (by assumption) | exact RL9.a13 (by assumption) (by assumption) (by assumption) | exact RL9.b13 (by assumption) (by assumption) (by assumption) | exact RL9.a14 (by assumption) (by assumption) (by assumption) (by assumption) (by assumption) (by assumption) (by assumption) (by assumption) (by assumption) (by assumption) (by assumption) (by assumption) (by assumption) (by assumption) (by assumption) | exact RL9.b14 (by assumption) (by assumption) (by assumption) (by assumption) (by assumption) (by assumption) (by assumption) (by assumption) (by assumption) (by assumption) (by assumption) (by assumption) (by assumption) (by assumption) (by assumption)), by rw [ht]; exact hP, va_K.moved hW.alike hK, hD⟩, hS.F ht⟩) hS.2.2 dX19_result_219
  by_cases s1_3 : o = 4
  · refine lv_tableIn (off := 88) (tgt := 89) hx hb dX19_result_1 (by rw [s1_3]; decide) (by rw [s1_3]; decide) (by rw [s1_3]; decide) (by decide) ?_
    refine lv_iload_n hx hb dX19_result_89 rfl (lv_at hl 2 rfl) ?_
    refine lv_if_ne (tgt := 97) hx hb dX19_result_90 (by decide) (fun b90 => ?_) (fun b90 => ?_)
    · refine lv_iload_n hx hb dX19_result_97 rfl (lv_at hl 1 rfl) ?_
      refine lv_iload_n hx hb dX19_result_98 rfl (lv_at hl 2 rfl) ?_
      refine lv_idiv hx hb dX19_result_99 b90 ?_
      refine lv_topi (fun x_10 ex_10 => ?_)
      refine lv_istore_n (lv' := [(3, .int x_10), (0, .int (zI (o))), (1, .int p0), (2, .int p1)]) hx hb dX19_result_100 rfl hl (by decide) rfl (fun ls hl => ?_)
      refine lv_goto (tgt := 213) hx hb dX19_result_101 (by decide) ?_
      refine lv_iload_n hx hb dX19_result_213 rfl (lv_at hl 0 rfl) ?_
      refine lv_i2l (v := lI (x_10).toInt) hx hb dX19_result_214 (xI_l _) ?_
      have kx_11 := xI_rng (x_10)
      refine lv_ldc2 (v := 4294967295) hx hb hown (ow (k := 0) rfl) dX19_result_215 ?_
      refine lv_topl (fun z ez => ?_)
      obtain rfl : z = lI (4294967295) := ez
      refine lv_land hx hb dX19_result_218 ?_
      refine lv_topl (fun x_12 ex_12 => ?_)
      subst hQ
      refine W.widen (k := 0) (n := 0) (Nat.le_of_ble_eq_true rfl) (Nat.le_of_ble_eq_true rfl) ?_
      exact W.lret (v := x_12) hx hb hr (fun t ht hW => ⟨⟨x_12, (), rfl, (by first | exact RL9.o1 (by assumption) (by assumption) (by assumption) | exact RL9.o2 (by assumption) (by assumption) (by assumption) | exact RL9.o3 (by assumption) (by assumption) (by assumption) | exact RL9.o6 (by assumption) (by assumption) (by assumption) | exact RL9.o7 (by assumption) (by assumption) (by assumption) | exact RL9.o8 (by assumption) (by assumption) (by assumption) | exact RL9.o4 (by assumption) (by assumption) (by assumption) (by assumption) | exact RL9.o5 (by assumption) (by assumption) (by assumption) (by assumption) | exact RL9.o9 (by assumption) (by assumption) (by assumption) (by assumption) | exact RL9.o10 (by assumption) (by assumption) (by assumption) (by assumption) | exact RL9.z4 (by assumption) (by assumption) | exact RL9.z5 (by assumption) (by assumption) | exact RL9.a11 (by assumption) (by assumption) (by assumption) | exact RL9.b11 (by assumption) (by assumption) (by assumption) | exact RL9.a12 (by assumption) (by assumption) (by assumption) | exact RL9.b12 (by assumption) (by assumption) (by assumption) | exact RL9.a13 (by assumption) (by assumption) (by assumption) | exact RL9.b13 (by assumption) (by assumption) (by assumption) | exact RL9.a14 (by assumption) (by assumption) (by assumption) (by assumption) (by assumption) (by assumption) (by assumption) (by assumption) (by assumption) (by assumption) (by assumption) (by assumption) (by assumption) (by assumption) (by assumption) | exact RL9.b14 (by assumption) (by assumption) (by assumption) (by assumption) (by assumption) (by assumption) (by assumption) (by assumption) (by assumption) (by assumption) (by assumption) (by assumption) (by assumption) (by assumption) (by assumption)), by rw [ht]; exact hP, va_K.moved hW.alike hK, hD⟩, hS.F ht⟩) hS.2.2 dX19_result_219
    · refine lv_ldc2 (v := 4294967296) hx hb hown (ow (k := 1) rfl) dX19_result_93 ?_
      refine lv_topl (fun z ez => ?_)
      obtain rfl : z = lI (4294967296) := ez
      subst hQ
      refine W.widen (k := 0) (n := 0) (Nat.le_of_ble_eq_true rfl) (Nat.le_of_ble_eq_true rfl) ?_
      exact W.lret (v := (lI (4294967296))) hx hb hr (fun t ht hW => ⟨⟨(lI (4294967296)), (), rfl, (by first | exact RL9.o1 (by assumption) (by assumption) (by assumption) | exact RL9.o2 (by assumption) (by assumption) (by assumption) | exact RL9.o3 (by assumption) (by assumption) (by assumption) | exact RL9.o6 (by assumption) (by assumption) (by assumption) | exact RL9.o7 (by assumption) (by assumption) (by assumption) | exact RL9.o8 (by assumption) (by assumption) (by assumption) | exact RL9.o4 (by assumption) (by assumption) (by assumption) (by assumption) | exact RL9.o5 (by assumption) (by assumption) (by assumption) (by assumption) | exact RL9.o9 (by assumption) (by assumption) (by assumption) (by assumption) | exact RL9.o10 (by assumption) (by assumption) (by assumption) (by assumption) | exact RL9.z4 (by assumption) (by assumption) | exact RL9.z5 (by assumption) (by assumption) | exact RL9.a11 (by assumption) (by assumption) (by assumption) | exact RL9.b11 (by assumption) (by assumption) (by assumption) | exact RL9.a12 (by assumption) (by assumption) (by assumption) | exact RL9.b12 (by assumption) (by assumption) (by assumption) | exact RL9.a13 (by assumption) (by assumption) (by assumption) | exact RL9.b13 (by assumption) (by assumption) (by assumption) | exact RL9.a14 (by assumption) (by assumption) (by assumption) (by assumption) (by assumption) (by assumption) (by assumption) (by assumption) (by assumption) (by assumption) (by assumption) (by assumption) (by assumption) (by assumption) (by assumption) | exact RL9.b14 (by assumption) (by assumption) (by assumption) (by assumption) (by assumption) (by assumption) (by assumption) (by assumption) (by assumption) (by assumption) (by assumption) (by assumption) (by assumption) (by assumption) (by assumption)), by rw [ht]; exact hP, va_K.moved hW.alike hK, hD⟩, hS.F ht⟩) hS.2.2 dX19_result_96
  by_cases s1_4 : o = 5
  · refine lv_tableIn (off := 103) (tgt := 104) hx hb dX19_result_1 (by rw [s1_4]; decide) (by rw [s1_4]; decide) (by rw [s1_4]; decide) (by decide) ?_
    refine lv_iload_n hx hb dX19_result_104 rfl (lv_at hl 2 rfl) ?_
    refine lv_if_ne (tgt := 112) hx hb dX19_result_105 (by decide) (fun b105 => ?_) (fun b105 => ?_)
    · refine lv_iload_n hx hb dX19_result_112 rfl (lv_at hl 1 rfl) ?_
      refine lv_iload_n hx hb dX19_result_113 rfl (lv_at hl 2 rfl) ?_
      refine lv_irem hx hb dX19_result_114 b105 ?_
      refine lv_topi (fun x_13 ex_13 => ?_)
      refine lv_istore_n (lv' := [(3, .int x_13), (0, .int (zI (o))), (1, .int p0), (2, .int p1)]) hx hb dX19_result_115 rfl hl (by decide) rfl (fun ls hl => ?_)
      refine lv_goto (tgt := 213) hx hb dX19_result_116 (by decide) ?_
      refine lv_iload_n hx hb dX19_result_213 rfl (lv_at hl 0 rfl) ?_
      refine lv_i2l (v := lI (x_13).toInt) hx hb dX19_result_214 (xI_l _) ?_
      have kx_14 := xI_rng (x_13)
      refine lv_ldc2 (v := 4294967295) hx hb hown (ow (k := 0) rfl) dX19_result_215 ?_
      refine lv_topl (fun z ez => ?_)
      obtain rfl : z = lI (4294967295) := ez
      refine lv_land hx hb dX19_result_218 ?_
      refine lv_topl (fun x_15 ex_15 => ?_)
      subst hQ
      refine W.widen (k := 0) (n := 0) (Nat.le_of_ble_eq_true rfl) (Nat.le_of_ble_eq_true rfl) ?_
      exact W.lret (v := x_15) hx hb hr (fun t ht hW => ⟨⟨x_15, (), rfl, (by first | exact RL9.o1 (by assumption) (by assumption) (by assumption) | exact RL9.o2 (by assumption) (by assumption) (by assumption) | exact RL9.o3 (by assumption) (by assumption) (by assumption) | exact RL9.o6 (by assumption) (by assumption) (by assumption) | exact RL9.o7 (by assumption) (by assumption) (by assumption) | exact RL9.o8 (by assumption) (by assumption) (by assumption) | exact RL9.o4 (by assumption) (by assumption) (by assumption) (by assumption) | exact RL9.o5 (by assumption) (by assumption) (by assumption) (by assumption) | exact RL9.o9 (by assumption) (by assumption) (by assumption) (by assumption) | exact RL9.o10 (by assumption) (by assumption) (by assumption) (by assumption) | exact RL9.z4 (by assumption) (by assumption) | exact RL9.z5 (by assumption) (by assumption) | exact RL9.a11 (by assumption) (by assumption) (by assumption) | exact RL9.b11 (by assumption) (by assumption) (by assumption) | exact RL9.a12 (by assumption) (by assumption) (by assumption) | exact RL9.b12 (by assumption) (by assumption) (by assumption) | exact RL9.a13 (by assumption) (by assumption) (by assumption) | exact RL9.b13 (by assumption) (by assumption) (by assumption) | exact RL9.a14 (by assumption) (by assumption) (by assumption) (by assumption) (by assumption) (by assumption) (by assumption) (by assumption) (by assumption) (by assumption) (by assumption) (by assumption) (by assumption) (by assumption) (by assumption) | exact RL9.b14 (by assumption) (by assumption) (by assumption) (by assumption) (by assumption) (by assumption) (by assumption) (by assumption) (by assumption) (by assumption) (by assumption) (by assumption) (by assumption) (by assumption) (by assumption)), by rw [ht]; exact hP, va_K.moved hW.alike hK, hD⟩, hS.F ht⟩) hS.2.2 dX19_result_219
    · refine lv_ldc2 (v := 4294967296) hx hb hown (ow (k := 1) rfl) dX19_result_108 ?_
      refine lv_topl (fun z ez => ?_)
      obtain rfl : z = lI (4294967296) := ez
      subst hQ
      refine W.widen (k := 0) (n := 0) (Nat.le_of_ble_eq_true rfl) (Nat.le_of_ble_eq_true rfl) ?_
      exact W.lret (v := (lI (4294967296))) hx hb hr (fun t ht hW => ⟨⟨(lI (4294967296)), (), rfl, (by first | exact RL9.o1 (by assumption) (by assumption) (by assumption) | exact RL9.o2 (by assumption) (by assumption) (by assumption) | exact RL9.o3 (by assumption) (by assumption) (by assumption) | exact RL9.o6 (by assumption) (by assumption) (by assumption) | exact RL9.o7 (by assumption) (by assumption) (by assumption) | exact RL9.o8 (by assumption) (by assumption) (by assumption) | exact RL9.o4 (by assumption) (by assumption) (by assumption) (by assumption) | exact RL9.o5 (by assumption) (by assumption) (by assumption) (by assumption) | exact RL9.o9 (by assumption) (by assumption) (by assumption) (by assumption) | exact RL9.o10 (by assumption) (by assumption) (by assumption) (by assumption) | exact RL9.z4 (by assumption) (by assumption) | exact RL9.z5 (by assumption) (by assumption) | exact RL9.a11 (by assumption) (by assumption) (by assumption) | exact RL9.b11 (by assumption) (by assumption) (by assumption) | exact RL9.a12 (by assumption) (by assumption) (by assumption) | exact RL9.b12 (by assumption) (by assumption) (by assumption) | exact RL9.a13 (by assumption) (by assumption) (by assumption) | exact RL9.b13 (by assumption) (by assumption) (by assumption) | exact RL9.a14 (by assumption) (by assumption) (by assumption) (by assumption) (by assumption) (by assumption) (by assumption) (by assumption) (by assumption) (by assumption) (by assumption) (by assumption) (by assumption) (by assumption) (by assumption) | exact RL9.b14 (by assumption) (by assumption) (by assumption) (by assumption) (by assumption) (by assumption) (by assumption) (by assumption) (by assumption) (by assumption) (by assumption) (by assumption) (by assumption) (by assumption) (by assumption)), by rw [ht]; exact hP, va_K.moved hW.alike hK, hD⟩, hS.F ht⟩) hS.2.2 dX19_result_111
  by_cases s1_5 : o = 6
  · refine lv_tableIn (off := 118) (tgt := 119) hx hb dX19_result_1 (by rw [s1_5]; decide) (by rw [s1_5]; decide) (by rw [s1_5]; decide) (by decide) ?_
    refine lv_iload_n hx hb dX19_result_119 rfl (lv_at hl 1 rfl) ?_
    refine lv_iload_n hx hb dX19_result_120 rfl (lv_at hl 2 rfl) ?_
    refine lv_iand hx hb dX19_result_121 ?_
    refine lv_topi (fun x_16 ex_16 => ?_)
    refine lv_istore_n (lv' := [(3, .int x_16), (0, .int (zI (o))), (1, .int p0), (2, .int p1)]) hx hb dX19_result_122 rfl hl (by decide) rfl (fun ls hl => ?_)
    refine lv_goto (tgt := 213) hx hb dX19_result_123 (by decide) ?_
    refine lv_iload_n hx hb dX19_result_213 rfl (lv_at hl 0 rfl) ?_
    refine lv_i2l (v := lI (x_16).toInt) hx hb dX19_result_214 (xI_l _) ?_
    have kx_17 := xI_rng (x_16)
    refine lv_ldc2 (v := 4294967295) hx hb hown (ow (k := 0) rfl) dX19_result_215 ?_
    refine lv_topl (fun z ez => ?_)
    obtain rfl : z = lI (4294967295) := ez
    refine lv_land hx hb dX19_result_218 ?_
    refine lv_topl (fun x_18 ex_18 => ?_)
    subst hQ
    refine W.widen (k := 0) (n := 0) (Nat.le_of_ble_eq_true rfl) (Nat.le_of_ble_eq_true rfl) ?_
    exact W.lret (v := x_18) hx hb hr (fun t ht hW => ⟨⟨x_18, (), rfl, (by first | exact RL9.o1 (by assumption) (by assumption) (by assumption) | exact RL9.o2 (by assumption) (by assumption) (by assumption) | exact RL9.o3 (by assumption) (by assumption) (by assumption) | exact RL9.o6 (by assumption) (by assumption) (by assumption) | exact RL9.o7 (by assumption) (by assumption) (by assumption) | exact RL9.o8 (by assumption) (by assumption) (by assumption) | exact RL9.o4 (by assumption) (by assumption) (by assumption) (by assumption) | exact RL9.o5 (by assumption) (by assumption) (by assumption) (by assumption) | exact RL9.o9 (by assumption) (by assumption) (by assumption) (by assumption) | exact RL9.o10 (by assumption) (by assumption) (by assumption) (by assumption) | exact RL9.z4 (by assumption) (by assumption) | exact RL9.z5 (by assumption) (by assumption) | exact RL9.a11 (by assumption) (by assumption) (by assumption) | exact RL9.b11 (by assumption) (by assumption) (by assumption) | exact RL9.a12 (by assumption) (by assumption) (by assumption) | exact RL9.b12 (by assumption) (by assumption) (by assumption) | exact RL9.a13 (by assumption) (by assumption) (by assumption) | exact RL9.b13 (by assumption) (by assumption) (by assumption) | exact RL9.a14 (by assumption) (by assumption) (by assumption) (by assumption) (by assumption) (by assumption) (by assumption) (by assumption) (by assumption) (by assumption) (by assumption) (by assumption) (by assumption) (by assumption) (by assumption) | exact RL9.b14 (by assumption) (by assumption) (by assumption) (by assumption) (by assumption) (by assumption) (by assumption) (by assumption) (by assumption) (by assumption) (by assumption) (by assumption) (by assumption) (by assumption) (by assumption)), by rw [ht]; exact hP, va_K.moved hW.alike hK, hD⟩, hS.F ht⟩) hS.2.2 dX19_result_219
  by_cases s1_6 : o = 7
  · refine lv_tableIn (off := 125) (tgt := 126) hx hb dX19_result_1 (by rw [s1_6]; decide) (by rw [s1_6]; decide) (by rw [s1_6]; decide) (by decide) ?_
    refine lv_iload_n hx hb dX19_result_126 rfl (lv_at hl 1 rfl) ?_
    refine lv_iload_n hx hb dX19_result_127 rfl (lv_at hl 2 rfl) ?_
    refine lv_ior hx hb dX19_result_128 ?_
    refine lv_topi (fun x_19 ex_19 => ?_)
    refine lv_istore_n (lv' := [(3, .int x_19), (0, .int (zI (o))), (1, .int p0), (2, .int p1)]) hx hb dX19_result_129 rfl hl (by decide) rfl (fun ls hl => ?_)
    refine lv_goto (tgt := 213) hx hb dX19_result_130 (by decide) ?_
    refine lv_iload_n hx hb dX19_result_213 rfl (lv_at hl 0 rfl) ?_
    refine lv_i2l (v := lI (x_19).toInt) hx hb dX19_result_214 (xI_l _) ?_
    have kx_20 := xI_rng (x_19)
    refine lv_ldc2 (v := 4294967295) hx hb hown (ow (k := 0) rfl) dX19_result_215 ?_
    refine lv_topl (fun z ez => ?_)
    obtain rfl : z = lI (4294967295) := ez
    refine lv_land hx hb dX19_result_218 ?_
    refine lv_topl (fun x_21 ex_21 => ?_)
    subst hQ
    refine W.widen (k := 0) (n := 0) (Nat.le_of_ble_eq_true rfl) (Nat.le_of_ble_eq_true rfl) ?_
    exact W.lret (v := x_21) hx hb hr (fun t ht hW => ⟨⟨x_21, (), rfl, (by first | exact RL9.o1 (by assumption) (by assumption) (by assumption) | exact RL9.o2 (by assumption) (by assumption) (by assumption) | exact RL9.o3 (by assumption) (by assumption) (by assumption) | exact RL9.o6 (by assumption) (by assumption) (by assumption) | exact RL9.o7 (by assumption) (by assumption) (by assumption) | exact RL9.o8 (by assumption) (by assumption) (by assumption) | exact RL9.o4 (by assumption) (by assumption) (by assumption) (by assumption) | exact RL9.o5 (by assumption) (by assumption) (by assumption) (by assumption) | exact RL9.o9 (by assumption) (by assumption) (by assumption) (by assumption) | exact RL9.o10 (by assumption) (by assumption) (by assumption) (by assumption) | exact RL9.z4 (by assumption) (by assumption) | exact RL9.z5 (by assumption) (by assumption) | exact RL9.a11 (by assumption) (by assumption) (by assumption) | exact RL9.b11 (by assumption) (by assumption) (by assumption) | exact RL9.a12 (by assumption) (by assumption) (by assumption) | exact RL9.b12 (by assumption) (by assumption) (by assumption) | exact RL9.a13 (by assumption) (by assumption) (by assumption) | exact RL9.b13 (by assumption) (by assumption) (by assumption) | exact RL9.a14 (by assumption) (by assumption) (by assumption) (by assumption) (by assumption) (by assumption) (by assumption) (by assumption) (by assumption) (by assumption) (by assumption) (by assumption) (by assumption) (by assumption) (by assumption) | exact RL9.b14 (by assumption) (by assumption) (by assumption) (by assumption) (by assumption) (by assumption) (by assumption) (by assumption) (by assumption) (by assumption) (by assumption) (by assumption) (by assumption) (by assumption) (by assumption)), by rw [ht]; exact hP, va_K.moved hW.alike hK, hD⟩, hS.F ht⟩) hS.2.2 dX19_result_219
  by_cases s1_7 : o = 8
  · refine lv_tableIn (off := 132) (tgt := 133) hx hb dX19_result_1 (by rw [s1_7]; decide) (by rw [s1_7]; decide) (by rw [s1_7]; decide) (by decide) ?_
    refine lv_iload_n hx hb dX19_result_133 rfl (lv_at hl 1 rfl) ?_
    refine lv_iload_n hx hb dX19_result_134 rfl (lv_at hl 2 rfl) ?_
    refine lv_ixor hx hb dX19_result_135 ?_
    refine lv_topi (fun x_22 ex_22 => ?_)
    refine lv_istore_n (lv' := [(3, .int x_22), (0, .int (zI (o))), (1, .int p0), (2, .int p1)]) hx hb dX19_result_136 rfl hl (by decide) rfl (fun ls hl => ?_)
    refine lv_goto (tgt := 213) hx hb dX19_result_137 (by decide) ?_
    refine lv_iload_n hx hb dX19_result_213 rfl (lv_at hl 0 rfl) ?_
    refine lv_i2l (v := lI (x_22).toInt) hx hb dX19_result_214 (xI_l _) ?_
    have kx_23 := xI_rng (x_22)
    refine lv_ldc2 (v := 4294967295) hx hb hown (ow (k := 0) rfl) dX19_result_215 ?_
    refine lv_topl (fun z ez => ?_)
    obtain rfl : z = lI (4294967295) := ez
    refine lv_land hx hb dX19_result_218 ?_
    refine lv_topl (fun x_24 ex_24 => ?_)
    subst hQ
    refine W.widen (k := 0) (n := 0) (Nat.le_of_ble_eq_true rfl) (Nat.le_of_ble_eq_true rfl) ?_
    exact W.lret (v := x_24) hx hb hr (fun t ht hW => ⟨⟨x_24, (), rfl, (by first | exact RL9.o1 (by assumption) (by assumption) (by assumption) | exact RL9.o2 (by assumption) (by assumption) (by assumption) | exact RL9.o3 (by assumption) (by assumption) (by assumption) | exact RL9.o6 (by assumption) (by assumption) (by assumption) | exact RL9.o7 (by assumption) (by assumption) (by assumption) | exact RL9.o8 (by assumption) (by assumption) (by assumption) | exact RL9.o4 (by assumption) (by assumption) (by assumption) (by assumption) | exact RL9.o5 (by assumption) (by assumption) (by assumption) (by assumption) | exact RL9.o9 (by assumption) (by assumption) (by assumption) (by assumption) | exact RL9.o10 (by assumption) (by assumption) (by assumption) (by assumption) | exact RL9.z4 (by assumption) (by assumption) | exact RL9.z5 (by assumption) (by assumption) | exact RL9.a11 (by assumption) (by assumption) (by assumption) | exact RL9.b11 (by assumption) (by assumption) (by assumption) | exact RL9.a12 (by assumption) (by assumption) (by assumption) | exact RL9.b12 (by assumption) (by assumption) (by assumption) | exact RL9.a13 (by assumption) (by assumption) (by assumption) | exact RL9.b13 (by assumption) (by assumption) (by assumption) | exact RL9.a14 (by assumption) (by assumption) (by assumption) (by assumption) (by assumption) (by assumption) (by assumption) (by assumption) (by assumption) (by assumption) (by assumption) (by assumption) (by assumption) (by assumption) (by assumption) | exact RL9.b14 (by assumption) (by assumption) (by assumption) (by assumption) (by assumption) (by assumption) (by assumption) (by assumption) (by assumption) (by assumption) (by assumption) (by assumption) (by assumption) (by assumption) (by assumption)), by rw [ht]; exact hP, va_K.moved hW.alike hK, hD⟩, hS.F ht⟩) hS.2.2 dX19_result_219
  by_cases s1_8 : o = 9
  · refine lv_tableIn (off := 139) (tgt := 140) hx hb dX19_result_1 (by rw [s1_8]; decide) (by rw [s1_8]; decide) (by rw [s1_8]; decide) (by decide) ?_
    refine lv_iload_n hx hb dX19_result_140 rfl (lv_at hl 1 rfl) ?_
    refine lv_iload_n hx hb dX19_result_141 rfl (lv_at hl 2 rfl) ?_
    refine lv_bipush (v := 31) hx hb dX19_result_142 (by decide) ?_
    refine lv_iand hx hb dX19_result_144 ?_
    refine lv_topi (fun x_25 ex_25 => ?_)
    refine lv_ishl hx hb dX19_result_145 ?_
    refine lv_topi (fun x_26 ex_26 => ?_)
    refine lv_istore_n (lv' := [(3, .int x_26), (0, .int (zI (o))), (1, .int p0), (2, .int p1)]) hx hb dX19_result_146 rfl hl (by decide) rfl (fun ls hl => ?_)
    refine lv_goto (tgt := 213) hx hb dX19_result_147 (by decide) ?_
    refine lv_iload_n hx hb dX19_result_213 rfl (lv_at hl 0 rfl) ?_
    refine lv_i2l (v := lI (x_26).toInt) hx hb dX19_result_214 (xI_l _) ?_
    have kx_27 := xI_rng (x_26)
    refine lv_ldc2 (v := 4294967295) hx hb hown (ow (k := 0) rfl) dX19_result_215 ?_
    refine lv_topl (fun z ez => ?_)
    obtain rfl : z = lI (4294967295) := ez
    refine lv_land hx hb dX19_result_218 ?_
    refine lv_topl (fun x_28 ex_28 => ?_)
    subst hQ
    refine W.widen (k := 0) (n := 0) (Nat.le_of_ble_eq_true rfl) (Nat.le_of_ble_eq_true rfl) ?_
    exact W.lret (v := x_28) hx hb hr (fun t ht hW => ⟨⟨x_28, (), rfl, (by first | exact RL9.o1 (by assumption) (by assumption) (by assumption) | exact RL9.o2 (by assumption) (by assumption) (by assumption) | exact RL9.o3 (by assumption) (by assumption) (by assumption) | exact RL9.o6 (by assumption) (by assumption) (by assumption) | exact RL9.o7 (by assumption) (by assumption) (by assumption) | exact RL9.o8 (by assumption) (by assumption) (by assumption) | exact RL9.o4 (by assumption) (by assumption) (by assumption) (by assumption) | exact RL9.o5 (by assumption) (by assumption) (by assumption) (by assumption) | exact RL9.o9 (by assumption) (by assumption) (by assumption) (by assumption) | exact RL9.o10 (by assumption) (by assumption) (by assumption) (by assumption) | exact RL9.z4 (by assumption) (by assumption) | exact RL9.z5 (by assumption) (by assumption) | exact RL9.a11 (by assumption) (by assumption) (by assumption) | exact RL9.b11 (by assumption) (by assumption) (by assumption) | exact RL9.a12 (by assumption) (by assumption) (by assumption) | exact RL9.b12 (by assumption) (by assumption) (by assumption) | exact RL9.a13 (by assumption) (by assumption) (by assumption) | exact RL9.b13 (by assumption) (by assumption) (by assumption) | exact RL9.a14 (by assumption) (by assumption) (by assumption) (by assumption) (by assumption) (by assumption) (by assumption) (by assumption) (by assumption) (by assumption) (by assumption) (by assumption) (by assumption) (by assumption) (by assumption) | exact RL9.b14 (by assumption) (by assumption) (by assumption) (by assumption) (by assumption) (by assumption) (by assumption) (by assumption) (by assumption) (by assumption) (by assumption) (by assumption) (by assumption) (by assumption) (by assumption)), by rw [ht]; exact hP, va_K.moved hW.alike hK, hD⟩, hS.F ht⟩) hS.2.2 dX19_result_219
  by_cases s1_9 : o = 10
  · refine lv_tableIn (off := 149) (tgt := 150) hx hb dX19_result_1 (by rw [s1_9]; decide) (by rw [s1_9]; decide) (by rw [s1_9]; decide) (by decide) ?_
    refine lv_iload_n hx hb dX19_result_150 rfl (lv_at hl 1 rfl) ?_
    refine lv_iload_n hx hb dX19_result_151 rfl (lv_at hl 2 rfl) ?_
    refine lv_bipush (v := 31) hx hb dX19_result_152 (by decide) ?_
    refine lv_iand hx hb dX19_result_154 ?_
    refine lv_topi (fun x_29 ex_29 => ?_)
    refine lv_ishr hx hb dX19_result_155 ?_
    refine lv_topi (fun x_30 ex_30 => ?_)
    refine lv_istore_n (lv' := [(3, .int x_30), (0, .int (zI (o))), (1, .int p0), (2, .int p1)]) hx hb dX19_result_156 rfl hl (by decide) rfl (fun ls hl => ?_)
    refine lv_goto (tgt := 213) hx hb dX19_result_157 (by decide) ?_
    refine lv_iload_n hx hb dX19_result_213 rfl (lv_at hl 0 rfl) ?_
    refine lv_i2l (v := lI (x_30).toInt) hx hb dX19_result_214 (xI_l _) ?_
    have kx_31 := xI_rng (x_30)
    refine lv_ldc2 (v := 4294967295) hx hb hown (ow (k := 0) rfl) dX19_result_215 ?_
    refine lv_topl (fun z ez => ?_)
    obtain rfl : z = lI (4294967295) := ez
    refine lv_land hx hb dX19_result_218 ?_
    refine lv_topl (fun x_32 ex_32 => ?_)
    subst hQ
    refine W.widen (k := 0) (n := 0) (Nat.le_of_ble_eq_true rfl) (Nat.le_of_ble_eq_true rfl) ?_
    exact W.lret (v := x_32) hx hb hr (fun t ht hW => ⟨⟨x_32, (), rfl, (by first | exact RL9.o1 (by assumption) (by assumption) (by assumption) | exact RL9.o2 (by assumption) (by assumption) (by assumption) | exact RL9.o3 (by assumption) (by assumption) (by assumption) | exact RL9.o6 (by assumption) (by assumption) (by assumption) | exact RL9.o7 (by assumption) (by assumption) (by assumption) | exact RL9.o8 (by assumption) (by assumption) (by assumption) | exact RL9.o4 (by assumption) (by assumption) (by assumption) (by assumption) | exact RL9.o5 (by assumption) (by assumption) (by assumption) (by assumption) | exact RL9.o9 (by assumption) (by assumption) (by assumption) (by assumption) | exact RL9.o10 (by assumption) (by assumption) (by assumption) (by assumption) | exact RL9.z4 (by assumption) (by assumption) | exact RL9.z5 (by assumption) (by assumption) | exact RL9.a11 (by assumption) (by assumption) (by assumption) | exact RL9.b11 (by assumption) (by assumption) (by assumption) | exact RL9.a12 (by assumption) (by assumption) (by assumption) | exact RL9.b12 (by assumption) (by assumption) (by assumption) | exact RL9.a13 (by assumption) (by assumption) (by assumption) | exact RL9.b13 (by assumption) (by assumption) (by assumption) | exact RL9.a14 (by assumption) (by assumption) (by assumption) (by assumption) (by assumption) (by assumption) (by assumption) (by assumption) (by assumption) (by assumption) (by assumption) (by assumption) (by assumption) (by assumption) (by assumption) | exact RL9.b14 (by assumption) (by assumption) (by assumption) (by assumption) (by assumption) (by assumption) (by assumption) (by assumption) (by assumption) (by assumption) (by assumption) (by assumption) (by assumption) (by assumption) (by assumption)), by rw [ht]; exact hP, va_K.moved hW.alike hK, hD⟩, hS.F ht⟩) hS.2.2 dX19_result_219
  by_cases s1_10 : o = 11
  · refine lv_tableIn (off := 159) (tgt := 160) hx hb dX19_result_1 (by rw [s1_10]; decide) (by rw [s1_10]; decide) (by rw [s1_10]; decide) (by decide) ?_
    refine lv_iload_n hx hb dX19_result_160 rfl (lv_at hl 1 rfl) ?_
    refine lv_iload_n hx hb dX19_result_161 rfl (lv_at hl 2 rfl) ?_
    refine lv_icmp_ge (tgt := 169) hx hb dX19_result_162 (by decide) (fun b162 => ?_) (fun b162 => ?_)
    · refine lv_iconst (v := 0) hx hb dX19_result_169 (by decide) ?_
      refine lv_istore_n (lv' := [(3, .int 0), (0, .int (zI (o))), (1, .int p0), (2, .int p1)]) hx hb dX19_result_170 rfl hl (by decide) rfl (fun ls hl => ?_)
      refine lv_goto (tgt := 213) hx hb dX19_result_171 (by decide) ?_
      refine lv_iload_n hx hb dX19_result_213 rfl (lv_at hl 0 rfl) ?_
      refine lv_i2l (v := lI (0)) hx hb dX19_result_214 (zI_l (a := 0) (by omega) (by omega)) ?_
      refine lv_ldc2 (v := 4294967295) hx hb hown (ow (k := 0) rfl) dX19_result_215 ?_
      refine lv_topl (fun z ez => ?_)
      obtain rfl : z = lI (4294967295) := ez
      refine lv_land hx hb dX19_result_218 ?_
      refine lv_topl (fun x_33 ex_33 => ?_)
      subst hQ
      refine W.widen (k := 0) (n := 0) (Nat.le_of_ble_eq_true rfl) (Nat.le_of_ble_eq_true rfl) ?_
      exact W.lret (v := x_33) hx hb hr (fun t ht hW => ⟨⟨x_33, (), rfl, (by first | exact RL9.o1 (by assumption) (by assumption) (by assumption) | exact RL9.o2 (by assumption) (by assumption) (by assumption) | exact RL9.o3 (by assumption) (by assumption) (by assumption) | exact RL9.o6 (by assumption) (by assumption) (by assumption) | exact RL9.o7 (by assumption) (by assumption) (by assumption) | exact RL9.o8 (by assumption) (by assumption) (by assumption) | exact RL9.o4 (by assumption) (by assumption) (by assumption) (by assumption) | exact RL9.o5 (by assumption) (by assumption) (by assumption) (by assumption) | exact RL9.o9 (by assumption) (by assumption) (by assumption) (by assumption) | exact RL9.o10 (by assumption) (by assumption) (by assumption) (by assumption) | exact RL9.z4 (by assumption) (by assumption) | exact RL9.z5 (by assumption) (by assumption) | exact RL9.a11 (by assumption) (by assumption) (by assumption) | exact RL9.b11 (by assumption) (by assumption) (by assumption) | exact RL9.a12 (by assumption) (by assumption) (by assumption) | exact RL9.b12 (by assumption) (by assumption) (by assumption) | exact RL9.a13 (by assumption) (by assumption) (by assumption) | exact RL9.b13 (by assumption) (by assumption) (by assumption) | exact RL9.a14 (by assumption) (by assumption) (by assumption) (by assumption) (by assumption) (by assumption) (by assumption) (by assumption) (by assumption) (by assumption) (by assumption) (by assumption) (by assumption) (by assumption) (by assumption) | exact RL9.b14 (by assumption) (by assumption) (by assumption) (by assumption) (by assumption) (by assumption) (by assumption) (by assumption) (by assumption) (by assumption) (by assumption) (by assumption) (by assumption) (by assumption) (by assumption)), by rw [ht]; exact hP, va_K.moved hW.alike hK, hD⟩, hS.F ht⟩) hS.2.2 dX19_result_219
    · refine lv_iconst (v := 1) hx hb dX19_result_165 (by decide) ?_
      refine lv_goto (tgt := 170) hx hb dX19_result_166 (by decide) ?_
      refine lv_istore_n (lv' := [(3, .int 1), (0, .int (zI (o))), (1, .int p0), (2, .int p1)]) hx hb dX19_result_170 rfl hl (by decide) rfl (fun ls hl => ?_)
      refine lv_goto (tgt := 213) hx hb dX19_result_171 (by decide) ?_
      refine lv_iload_n hx hb dX19_result_213 rfl (lv_at hl 0 rfl) ?_
      refine lv_i2l (v := lI (1)) hx hb dX19_result_214 (zI_l (a := 1) (by omega) (by omega)) ?_
      refine lv_ldc2 (v := 4294967295) hx hb hown (ow (k := 0) rfl) dX19_result_215 ?_
      refine lv_topl (fun z ez => ?_)
      obtain rfl : z = lI (4294967295) := ez
      refine lv_land hx hb dX19_result_218 ?_
      refine lv_topl (fun x_34 ex_34 => ?_)
      subst hQ
      refine W.widen (k := 0) (n := 0) (Nat.le_of_ble_eq_true rfl) (Nat.le_of_ble_eq_true rfl) ?_
      exact W.lret (v := x_34) hx hb hr (fun t ht hW => ⟨⟨x_34, (), rfl, (by first | exact RL9.o1 (by assumption) (by assumption) (by assumption) | exact RL9.o2 (by assumption) (by assumption) (by assumption) | exact RL9.o3 (by assumption) (by assumption) (by assumption) | exact RL9.o6 (by assumption) (by assumption) (by assumption) | exact RL9.o7 (by assumption) (by assumption) (by assumption) | exact RL9.o8 (by assumption) (by assumption) (by assumption) | exact RL9.o4 (by assumption) (by assumption) (by assumption) (by assumption) | exact RL9.o5 (by assumption) (by assumption) (by assumption) (by assumption) | exact RL9.o9 (by assumption) (by assumption) (by assumption) (by assumption) | exact RL9.o10 (by assumption) (by assumption) (by assumption) (by assumption) | exact RL9.z4 (by assumption) (by assumption) | exact RL9.z5 (by assumption) (by assumption) | exact RL9.a11 (by assumption) (by assumption) (by assumption) | exact RL9.b11 (by assumption) (by assumption) (by assumption) | exact RL9.a12 (by assumption) (by assumption) (by assumption) | exact RL9.b12 (by assumption) (by assumption) (by assumption) | exact RL9.a13 (by assumption) (by assumption) (by assumption) | exact RL9.b13 (by assumption) (by assumption) (by assumption) | exact RL9.a14 (by assumption) (by assumption) (by assumption) (by assumption) (by assumption) (by assumption) (by assumption) (by assumption) (by assumption) (by assumption) (by assumption) (by assumption) (by assumption) (by assumption) (by assumption) | exact RL9.b14 (by assumption) (by assumption) (by assumption) (by assumption) (by assumption) (by assumption) (by assumption) (by assumption) (by assumption) (by assumption) (by assumption) (by assumption) (by assumption) (by assumption) (by assumption)), by rw [ht]; exact hP, va_K.moved hW.alike hK, hD⟩, hS.F ht⟩) hS.2.2 dX19_result_219
  by_cases s1_11 : o = 12
  · refine lv_tableIn (off := 173) (tgt := 174) hx hb dX19_result_1 (by rw [s1_11]; decide) (by rw [s1_11]; decide) (by rw [s1_11]; decide) (by decide) ?_
    refine lv_iload_n hx hb dX19_result_174 rfl (lv_at hl 1 rfl) ?_
    refine lv_iload_n hx hb dX19_result_175 rfl (lv_at hl 2 rfl) ?_
    refine lv_icmp_gt (tgt := 183) hx hb dX19_result_176 (by decide) (fun b176 => ?_) (fun b176 => ?_)
    · refine lv_iconst (v := 0) hx hb dX19_result_183 (by decide) ?_
      refine lv_istore_n (lv' := [(3, .int 0), (0, .int (zI (o))), (1, .int p0), (2, .int p1)]) hx hb dX19_result_184 rfl hl (by decide) rfl (fun ls hl => ?_)
      refine lv_goto (tgt := 213) hx hb dX19_result_185 (by decide) ?_
      refine lv_iload_n hx hb dX19_result_213 rfl (lv_at hl 0 rfl) ?_
      refine lv_i2l (v := lI (0)) hx hb dX19_result_214 (zI_l (a := 0) (by omega) (by omega)) ?_
      refine lv_ldc2 (v := 4294967295) hx hb hown (ow (k := 0) rfl) dX19_result_215 ?_
      refine lv_topl (fun z ez => ?_)
      obtain rfl : z = lI (4294967295) := ez
      refine lv_land hx hb dX19_result_218 ?_
      refine lv_topl (fun x_35 ex_35 => ?_)
      subst hQ
      refine W.widen (k := 0) (n := 0) (Nat.le_of_ble_eq_true rfl) (Nat.le_of_ble_eq_true rfl) ?_
      exact W.lret (v := x_35) hx hb hr (fun t ht hW => ⟨⟨x_35, (), rfl, (by first | exact RL9.o1 (by assumption) (by assumption) (by assumption) | exact RL9.o2 (by assumption) (by assumption) (by assumption) | exact RL9.o3 (by assumption) (by assumption) (by assumption) | exact RL9.o6 (by assumption) (by assumption) (by assumption) | exact RL9.o7 (by assumption) (by assumption) (by assumption) | exact RL9.o8 (by assumption) (by assumption) (by assumption) | exact RL9.o4 (by assumption) (by assumption) (by assumption) (by assumption) | exact RL9.o5 (by assumption) (by assumption) (by assumption) (by assumption) | exact RL9.o9 (by assumption) (by assumption) (by assumption) (by assumption) | exact RL9.o10 (by assumption) (by assumption) (by assumption) (by assumption) | exact RL9.z4 (by assumption) (by assumption) | exact RL9.z5 (by assumption) (by assumption) | exact RL9.a11 (by assumption) (by assumption) (by assumption) | exact RL9.b11 (by assumption) (by assumption) (by assumption) | exact RL9.a12 (by assumption) (by assumption) (by assumption) | exact RL9.b12 (by assumption) (by assumption) (by assumption) | exact RL9.a13 (by assumption) (by assumption) (by assumption) | exact RL9.b13 (by assumption) (by assumption) (by assumption) | exact RL9.a14 (by assumption) (by assumption) (by assumption) (by assumption) (by assumption) (by assumption) (by assumption) (by assumption) (by assumption) (by assumption) (by assumption) (by assumption) (by assumption) (by assumption) (by assumption) | exact RL9.b14 (by assumption) (by assumption) (by assumption) (by assumption) (by assumption) (by assumption) (by assumption) (by assumption) (by assumption) (by assumption) (by assumption) (by assumption) (by assumption) (by assumption) (by assumption)), by rw [ht]; exact hP, va_K.moved hW.alike hK, hD⟩, hS.F ht⟩) hS.2.2 dX19_result_219
    · refine lv_iconst (v := 1) hx hb dX19_result_179 (by decide) ?_
      refine lv_goto (tgt := 184) hx hb dX19_result_180 (by decide) ?_
      refine lv_istore_n (lv' := [(3, .int 1), (0, .int (zI (o))), (1, .int p0), (2, .int p1)]) hx hb dX19_result_184 rfl hl (by decide) rfl (fun ls hl => ?_)
      refine lv_goto (tgt := 213) hx hb dX19_result_185 (by decide) ?_
      refine lv_iload_n hx hb dX19_result_213 rfl (lv_at hl 0 rfl) ?_
      refine lv_i2l (v := lI (1)) hx hb dX19_result_214 (zI_l (a := 1) (by omega) (by omega)) ?_
      refine lv_ldc2 (v := 4294967295) hx hb hown (ow (k := 0) rfl) dX19_result_215 ?_
      refine lv_topl (fun z ez => ?_)
      obtain rfl : z = lI (4294967295) := ez
      refine lv_land hx hb dX19_result_218 ?_
      refine lv_topl (fun x_36 ex_36 => ?_)
      subst hQ
      refine W.widen (k := 0) (n := 0) (Nat.le_of_ble_eq_true rfl) (Nat.le_of_ble_eq_true rfl) ?_
      exact W.lret (v := x_36) hx hb hr (fun t ht hW => ⟨⟨x_36, (), rfl, (by first | exact RL9.o1 (by assumption) (by assumption) (by assumption) | exact RL9.o2 (by assumption) (by assumption) (by assumption) | exact RL9.o3 (by assumption) (by assumption) (by assumption) | exact RL9.o6 (by assumption) (by assumption) (by assumption) | exact RL9.o7 (by assumption) (by assumption) (by assumption) | exact RL9.o8 (by assumption) (by assumption) (by assumption) | exact RL9.o4 (by assumption) (by assumption) (by assumption) (by assumption) | exact RL9.o5 (by assumption) (by assumption) (by assumption) (by assumption) | exact RL9.o9 (by assumption) (by assumption) (by assumption) (by assumption) | exact RL9.o10 (by assumption) (by assumption) (by assumption) (by assumption) | exact RL9.z4 (by assumption) (by assumption) | exact RL9.z5 (by assumption) (by assumption) | exact RL9.a11 (by assumption) (by assumption) (by assumption) | exact RL9.b11 (by assumption) (by assumption) (by assumption) | exact RL9.a12 (by assumption) (by assumption) (by assumption) | exact RL9.b12 (by assumption) (by assumption) (by assumption) | exact RL9.a13 (by assumption) (by assumption) (by assumption) | exact RL9.b13 (by assumption) (by assumption) (by assumption) | exact RL9.a14 (by assumption) (by assumption) (by assumption) (by assumption) (by assumption) (by assumption) (by assumption) (by assumption) (by assumption) (by assumption) (by assumption) (by assumption) (by assumption) (by assumption) (by assumption) | exact RL9.b14 (by assumption) (by assumption) (by assumption) (by assumption) (by assumption) (by assumption) (by assumption) (by assumption) (by assumption) (by assumption) (by assumption) (by assumption) (by assumption) (by assumption) (by assumption)), by rw [ht]; exact hP, va_K.moved hW.alike hK, hD⟩, hS.F ht⟩) hS.2.2 dX19_result_219
  by_cases s1_12 : o = 13
  · refine lv_tableIn (off := 187) (tgt := 188) hx hb dX19_result_1 (by rw [s1_12]; decide) (by rw [s1_12]; decide) (by rw [s1_12]; decide) (by decide) ?_
    refine lv_iload_n hx hb dX19_result_188 rfl (lv_at hl 1 rfl) ?_
    refine lv_iload_n hx hb dX19_result_189 rfl (lv_at hl 2 rfl) ?_
    refine lv_icmp_ne (tgt := 197) hx hb dX19_result_190 (by decide) (fun b190 => ?_) (fun b190 => ?_)
    · refine lv_iconst (v := 0) hx hb dX19_result_197 (by decide) ?_
      refine lv_istore_n (lv' := [(3, .int 0), (0, .int (zI (o))), (1, .int p0), (2, .int p1)]) hx hb dX19_result_198 rfl hl (by decide) rfl (fun ls hl => ?_)
      refine lv_goto (tgt := 213) hx hb dX19_result_199 (by decide) ?_
      refine lv_iload_n hx hb dX19_result_213 rfl (lv_at hl 0 rfl) ?_
      refine lv_i2l (v := lI (0)) hx hb dX19_result_214 (zI_l (a := 0) (by omega) (by omega)) ?_
      refine lv_ldc2 (v := 4294967295) hx hb hown (ow (k := 0) rfl) dX19_result_215 ?_
      refine lv_topl (fun z ez => ?_)
      obtain rfl : z = lI (4294967295) := ez
      refine lv_land hx hb dX19_result_218 ?_
      refine lv_topl (fun x_37 ex_37 => ?_)
      subst hQ
      refine W.widen (k := 0) (n := 0) (Nat.le_of_ble_eq_true rfl) (Nat.le_of_ble_eq_true rfl) ?_
      exact W.lret (v := x_37) hx hb hr (fun t ht hW => ⟨⟨x_37, (), rfl, (by first | exact RL9.o1 (by assumption) (by assumption) (by assumption) | exact RL9.o2 (by assumption) (by assumption) (by assumption) | exact RL9.o3 (by assumption) (by assumption) (by assumption) | exact RL9.o6 (by assumption) (by assumption) (by assumption) | exact RL9.o7 (by assumption) (by assumption) (by assumption) | exact RL9.o8 (by assumption) (by assumption) (by assumption) | exact RL9.o4 (by assumption) (by assumption) (by assumption) (by assumption) | exact RL9.o5 (by assumption) (by assumption) (by assumption) (by assumption) | exact RL9.o9 (by assumption) (by assumption) (by assumption) (by assumption) | exact RL9.o10 (by assumption) (by assumption) (by assumption) (by assumption) | exact RL9.z4 (by assumption) (by assumption) | exact RL9.z5 (by assumption) (by assumption) | exact RL9.a11 (by assumption) (by assumption) (by assumption) | exact RL9.b11 (by assumption) (by assumption) (by assumption) | exact RL9.a12 (by assumption) (by assumption) (by assumption) | exact RL9.b12 (by assumption) (by assumption) (by assumption) | exact RL9.a13 (by assumption) (by assumption) (by assumption) | exact RL9.b13 (by assumption) (by assumption) (by assumption) | exact RL9.a14 (by assumption) (by assumption) (by assumption) (by assumption) (by assumption) (by assumption) (by assumption) (by assumption) (by assumption) (by assumption) (by assumption) (by assumption) (by assumption) (by assumption) (by assumption) | exact RL9.b14 (by assumption) (by assumption) (by assumption) (by assumption) (by assumption) (by assumption) (by assumption) (by assumption) (by assumption) (by assumption) (by assumption) (by assumption) (by assumption) (by assumption) (by assumption)), by rw [ht]; exact hP, va_K.moved hW.alike hK, hD⟩, hS.F ht⟩) hS.2.2 dX19_result_219
    · refine lv_iconst (v := 1) hx hb dX19_result_193 (by decide) ?_
      refine lv_goto (tgt := 198) hx hb dX19_result_194 (by decide) ?_
      refine lv_istore_n (lv' := [(3, .int 1), (0, .int (zI (o))), (1, .int p0), (2, .int p1)]) hx hb dX19_result_198 rfl hl (by decide) rfl (fun ls hl => ?_)
      refine lv_goto (tgt := 213) hx hb dX19_result_199 (by decide) ?_
      refine lv_iload_n hx hb dX19_result_213 rfl (lv_at hl 0 rfl) ?_
      refine lv_i2l (v := lI (1)) hx hb dX19_result_214 (zI_l (a := 1) (by omega) (by omega)) ?_
      refine lv_ldc2 (v := 4294967295) hx hb hown (ow (k := 0) rfl) dX19_result_215 ?_
      refine lv_topl (fun z ez => ?_)
      obtain rfl : z = lI (4294967295) := ez
      refine lv_land hx hb dX19_result_218 ?_
      refine lv_topl (fun x_38 ex_38 => ?_)
      subst hQ
      refine W.widen (k := 0) (n := 0) (Nat.le_of_ble_eq_true rfl) (Nat.le_of_ble_eq_true rfl) ?_
      exact W.lret (v := x_38) hx hb hr (fun t ht hW => ⟨⟨x_38, (), rfl, (by first | exact RL9.o1 (by assumption) (by assumption) (by assumption) | exact RL9.o2 (by assumption) (by assumption) (by assumption) | exact RL9.o3 (by assumption) (by assumption) (by assumption) | exact RL9.o6 (by assumption) (by assumption) (by assumption) | exact RL9.o7 (by assumption) (by assumption) (by assumption) | exact RL9.o8 (by assumption) (by assumption) (by assumption) | exact RL9.o4 (by assumption) (by assumption) (by assumption) (by assumption) | exact RL9.o5 (by assumption) (by assumption) (by assumption) (by assumption) | exact RL9.o9 (by assumption) (by assumption) (by assumption) (by assumption) | exact RL9.o10 (by assumption) (by assumption) (by assumption) (by assumption) | exact RL9.z4 (by assumption) (by assumption) | exact RL9.z5 (by assumption) (by assumption) | exact RL9.a11 (by assumption) (by assumption) (by assumption) | exact RL9.b11 (by assumption) (by assumption) (by assumption) | exact RL9.a12 (by assumption) (by assumption) (by assumption) | exact RL9.b12 (by assumption) (by assumption) (by assumption) | exact RL9.a13 (by assumption) (by assumption) (by assumption) | exact RL9.b13 (by assumption) (by assumption) (by assumption) | exact RL9.a14 (by assumption) (by assumption) (by assumption) (by assumption) (by assumption) (by assumption) (by assumption) (by assumption) (by assumption) (by assumption) (by assumption) (by assumption) (by assumption) (by assumption) (by assumption) | exact RL9.b14 (by assumption) (by assumption) (by assumption) (by assumption) (by assumption) (by assumption) (by assumption) (by assumption) (by assumption) (by assumption) (by assumption) (by assumption) (by assumption) (by assumption) (by assumption)), by rw [ht]; exact hP, va_K.moved hW.alike hK, hD⟩, hS.F ht⟩) hS.2.2 dX19_result_219
  refine lv_tableOut (tgt := 202) hx hb dX19_result_1 (by rw [zI_toInt (by omega) (by omega)]; omega) (by decide) ?_
  refine lv_iload_n hx hb dX19_result_202 rfl (lv_at hl 1 rfl) ?_
  refine lv_iload_n hx hb dX19_result_203 rfl (lv_at hl 2 rfl) ?_
  refine lv_icmp_eq (tgt := 211) hx hb dX19_result_204 (by decide) (fun b204 => ?_) (fun b204 => ?_)
  · refine lv_iconst (v := 0) hx hb dX19_result_211 (by decide) ?_
    refine lv_istore_n (lv' := [(3, .int 0), (0, .int (zI (o))), (1, .int p0), (2, .int p1)]) hx hb dX19_result_212 rfl hl (by decide) rfl (fun ls hl => ?_)
    refine lv_iload_n hx hb dX19_result_213 rfl (lv_at hl 0 rfl) ?_
    refine lv_i2l (v := lI (0)) hx hb dX19_result_214 (zI_l (a := 0) (by omega) (by omega)) ?_
    refine lv_ldc2 (v := 4294967295) hx hb hown (ow (k := 0) rfl) dX19_result_215 ?_
    refine lv_topl (fun z ez => ?_)
    obtain rfl : z = lI (4294967295) := ez
    refine lv_land hx hb dX19_result_218 ?_
    refine lv_topl (fun x_39 ex_39 => ?_)
    subst hQ
    refine W.widen (k := 0) (n := 0) (Nat.le_of_ble_eq_true rfl) (Nat.le_of_ble_eq_true rfl) ?_
    exact W.lret (v := x_39) hx hb hr (fun t ht hW => ⟨⟨x_39, (), rfl, (by first | exact RL9.o1 (by assumption) (by assumption) (by assumption) | exact RL9.o2 (by assumption) (by assumption) (by assumption) | exact RL9.o3 (by assumption) (by assumption) (by assumption) | exact RL9.o6 (by assumption) (by assumption) (by assumption) | exact RL9.o7 (by assumption) (by assumption) (by assumption) | exact RL9.o8 (by assumption) (by assumption) (by assumption) | exact RL9.o4 (by assumption) (by assumption) (by assumption) (by assumption) | exact RL9.o5 (by assumption) (by assumption) (by assumption) (by assumption) | exact RL9.o9 (by assumption) (by assumption) (by assumption) (by assumption) | exact RL9.o10 (by assumption) (by assumption) (by assumption) (by assumption) | exact RL9.z4 (by assumption) (by assumption) | exact RL9.z5 (by assumption) (by assumption) | exact RL9.a11 (by assumption) (by assumption) (by assumption) | exact RL9.b11 (by assumption) (by assumption) (by assumption) | exact RL9.a12 (by assumption) (by assumption) (by assumption) | exact RL9.b12 (by assumption) (by assumption) (by assumption) | exact RL9.a13 (by assumption) (by assumption) (by assumption) | exact RL9.b13 (by assumption) (by assumption) (by assumption) | exact RL9.a14 (by assumption) (by assumption) (by assumption) (by assumption) (by assumption) (by assumption) (by assumption) (by assumption) (by assumption) (by assumption) (by assumption) (by assumption) (by assumption) (by assumption) (by assumption) | exact RL9.b14 (by assumption) (by assumption) (by assumption) (by assumption) (by assumption) (by assumption) (by assumption) (by assumption) (by assumption) (by assumption) (by assumption) (by assumption) (by assumption) (by assumption) (by assumption)), by rw [ht]; exact hP, va_K.moved hW.alike hK, hD⟩, hS.F ht⟩) hS.2.2 dX19_result_219
  · refine lv_iconst (v := 1) hx hb dX19_result_207 (by decide) ?_
    refine lv_goto (tgt := 212) hx hb dX19_result_208 (by decide) ?_
    refine lv_istore_n (lv' := [(3, .int 1), (0, .int (zI (o))), (1, .int p0), (2, .int p1)]) hx hb dX19_result_212 rfl hl (by decide) rfl (fun ls hl => ?_)
    refine lv_iload_n hx hb dX19_result_213 rfl (lv_at hl 0 rfl) ?_
    refine lv_i2l (v := lI (1)) hx hb dX19_result_214 (zI_l (a := 1) (by omega) (by omega)) ?_
    refine lv_ldc2 (v := 4294967295) hx hb hown (ow (k := 0) rfl) dX19_result_215 ?_
    refine lv_topl (fun z ez => ?_)
    obtain rfl : z = lI (4294967295) := ez
    refine lv_land hx hb dX19_result_218 ?_
    refine lv_topl (fun x_40 ex_40 => ?_)
    subst hQ
    refine W.widen (k := 0) (n := 0) (Nat.le_of_ble_eq_true rfl) (Nat.le_of_ble_eq_true rfl) ?_
    exact W.lret (v := x_40) hx hb hr (fun t ht hW => ⟨⟨x_40, (), rfl, (by first | exact RL9.o1 (by assumption) (by assumption) (by assumption) | exact RL9.o2 (by assumption) (by assumption) (by assumption) | exact RL9.o3 (by assumption) (by assumption) (by assumption) | exact RL9.o6 (by assumption) (by assumption) (by assumption) | exact RL9.o7 (by assumption) (by assumption) (by assumption) | exact RL9.o8 (by assumption) (by assumption) (by assumption) | exact RL9.o4 (by assumption) (by assumption) (by assumption) (by assumption) | exact RL9.o5 (by assumption) (by assumption) (by assumption) (by assumption) | exact RL9.o9 (by assumption) (by assumption) (by assumption) (by assumption) | exact RL9.o10 (by assumption) (by assumption) (by assumption) (by assumption) | exact RL9.z4 (by assumption) (by assumption) | exact RL9.z5 (by assumption) (by assumption) | exact RL9.a11 (by assumption) (by assumption) (by assumption) | exact RL9.b11 (by assumption) (by assumption) (by assumption) | exact RL9.a12 (by assumption) (by assumption) (by assumption) | exact RL9.b12 (by assumption) (by assumption) (by assumption) | exact RL9.a13 (by assumption) (by assumption) (by assumption) | exact RL9.b13 (by assumption) (by assumption) (by assumption) | exact RL9.a14 (by assumption) (by assumption) (by assumption) (by assumption) (by assumption) (by assumption) (by assumption) (by assumption) (by assumption) (by assumption) (by assumption) (by assumption) (by assumption) (by assumption) (by assumption) | exact RL9.b14 (by assumption) (by assumption) (by assumption) (by assumption) (by assumption) (by assumption) (by assumption) (by assumption) (by assumption) (by assumption) (by assumption) (by assumption) (by assumption) (by assumption) (by assumption)), by rw [ht]; exact hP, va_K.moved hW.alike hK, hD⟩, hS.F ht⟩) hS.2.2 dX19_result_219
def o_X19_stateOfE : List Cond := [.fieldLink RX19 220 "SsaForgeModel" "state" "[I"]
def v_X19_stateOfE : List Cond := .code yX19_stateOf cX19_stateOf 3 (some .int) :: (o_X19_stateOfE ++ (wsX190 ++ []))
theorem mow_X19_stateOfE : ∀ w ∈ o_X19_stateOfE, w ∈ v_X19_stateOfE := fun _ h => List.mem_cons_of_mem _ (List.mem_append_left _ h)
theorem mem_X19_stateOfE_0 : ∀ w ∈ wsX190, w ∈ v_X19_stateOfE := fun _ h => List.mem_cons_of_mem _ (List.mem_append_right _ (List.mem_append_left _ h))
set_option maxRecDepth 20000 in
theorem gw_X19_stateOfE : v_X19_stateOfE.all goodWord = true := by decide +kernel
set_option maxHeartbeats 4000000 in
set_option maxRecDepth 100000 in
theorem c_X19_stateOfE (l : Launch) (dC : Nat → ClassId) (dI : Nat → Nat → Nat) (h0 : Nat) (v19_0 : Value) (v19_1 : Value) (v19_2 : Value) (v19_3 : Value) (v19_4 : Value) (v19_5 : Value) (v19_6 : Value) (q_1907 : Nat) (cA_1907 : ClassId) (a19_state : Int → Int) (v19_8 : Value) (v19_9 : Value) (v19_10 : Value) (v19_11 : Value) (v19_12 : Value) (v19_13 : Value) (v19_14 : Value) (v19_15 : Value) (v19_16 : Value) (v19_17 : Value) (v19_18 : Value) (v19_19 : Value) (v19_20 : Value) (v19_21 : Value) (v19_22 : Value) (v19_23 : Value) (v19_24 : Value) (v19_25 : Value) (v19_26 : Value) (v19_27 : Value) (v19_28 : Value) (v19_29 : Value) (v19_30 : Value) (v19_31 : Value) (v19_32 : Value) (v19_33 : Value) (v19_34 : Value) (v19_35 : Value) (v19_36 : Value) (v19_37 : Value) (v19_38 : Value) (v19_39 : Value) (v19_40 : Value) (g : Int) (v : Int) (hR_a19_state : ∀ j : Int, 0 ≤ a19_state j ∧ a19_state j ≤ 2) (hNg : 0 ≤ g ∧ g ≤ 1) (hNv : -2147483648 ≤ v ∧ v ≤ 2147483647) (hNr : g = 0 ∨ (0 ≤ v ∧ v ≤ 1001)) (sz : Nat) : Met l yX19_stateOf v_X19_stateOfE ({ frames := 0, cells := 0, slots := 0, locals := 0 }) (va_Pc [.ref h0, .int (zI (g)), .int (zI (v))] (fun U => U.heap.size = sz ∧ va_P (dC, dI) vwQ [(h0, .inr (16, [v19_0, v19_1, v19_2, v19_3, v19_4, v19_5, v19_6, .ref q_1907, v19_8, v19_9, v19_10, v19_11, v19_12, v19_13, v19_14, v19_15, v19_16, v19_17, v19_18, v19_19, v19_20, v19_21, v19_22, v19_23, v19_24, v19_25, v19_26, v19_27, v19_28, v19_29, v19_30, v19_31, v19_32, v19_33, v19_34, v19_35, v19_36, v19_37, v19_38, v19_39, v19_40])), (q_1907, .inl (cA_1907, 1002, .inl (fun j : Nat => zI (a19_state (j : Int)))))] U.heap ∧ va_K (dC, dI) vwQ [(cA_1907, .int)] U ∧ va_D (fun _ => True) [(h0, .inr (16, [v19_0, v19_1, v19_2, v19_3, v19_4, v19_5, v19_6, .ref q_1907, v19_8, v19_9, v19_10, v19_11, v19_12, v19_13, v19_14, v19_15, v19_16, v19_17, v19_18, v19_19, v19_20, v19_21, v19_22, v19_23, v19_24, v19_25, v19_26, v19_27, v19_28, v19_29, v19_30, v19_31, v19_32, v19_33, v19_34, v19_35, v19_36, v19_37, v19_38, v19_39, v19_40])), (q_1907, .inl (cA_1907, 1002, .inl (fun j : Nat => zI (a19_state (j : Int)))))])) (va_Qi (fun (r : Int32) (_ : Unit) => r = zI (SOF a19_state (g) (v))) (fun (_ : Unit) (t : State) => va_P (dC, dI) vwQ [(h0, .inr (16, [v19_0, v19_1, v19_2, v19_3, v19_4, v19_5, v19_6, .ref q_1907, v19_8, v19_9, v19_10, v19_11, v19_12, v19_13, v19_14, v19_15, v19_16, v19_17, v19_18, v19_19, v19_20, v19_21, v19_22, v19_23, v19_24, v19_25, v19_26, v19_27, v19_28, v19_29, v19_30, v19_31, v19_32, v19_33, v19_34, v19_35, v19_36, v19_37, v19_38, v19_39, v19_40])), (q_1907, .inl (cA_1907, 1002, .inl (fun j : Nat => zI (a19_state (j : Int)))))] t.heap ∧ va_K (dC, dI) vwQ [(cA_1907, .int)] t ∧ va_D (va_A [(h0, .inr (16, [v19_0, v19_1, v19_2, v19_3, v19_4, v19_5, v19_6, .ref q_1907, v19_8, v19_9, v19_10, v19_11, v19_12, v19_13, v19_14, v19_15, v19_16, v19_17, v19_18, v19_19, v19_20, v19_21, v19_22, v19_23, v19_24, v19_25, v19_26, v19_27, v19_28, v19_29, v19_30, v19_31, v19_32, v19_33, v19_34, v19_35, v19_36, v19_37, v19_38, v19_39, v19_40])), (q_1907, .inl (cA_1907, 1002, .inl (fun j : Nat => zI (a19_state (j : Int)))))] sz) [(h0, .inr (16, [v19_0, v19_1, v19_2, v19_3, v19_4, v19_5, v19_6, .ref q_1907, v19_8, v19_9, v19_10, v19_11, v19_12, v19_13, v19_14, v19_15, v19_16, v19_17, v19_18, v19_19, v19_20, v19_21, v19_22, v19_23, v19_24, v19_25, v19_26, v19_27, v19_28, v19_29, v19_30, v19_31, v19_32, v19_33, v19_34, v19_35, v19_36, v19_37, v19_38, v19_39, v19_40])), (q_1907, .inl (cA_1907, 1002, .inl (fun j : Nat => zI (a19_state (j : Int)))))]) (va_A [(h0, .inr (16, [v19_0, v19_1, v19_2, v19_3, v19_4, v19_5, v19_6, .ref q_1907, v19_8, v19_9, v19_10, v19_11, v19_12, v19_13, v19_14, v19_15, v19_16, v19_17, v19_18, v19_19, v19_20, v19_21, v19_22, v19_23, v19_24, v19_25, v19_26, v19_27, v19_28, v19_29, v19_30, v19_31, v19_32, v19_33, v19_34, v19_35, v19_36, v19_37, v19_38, v19_39, v19_40])), (q_1907, .inl (cA_1907, 1002, .inl (fun j : Nat => zI (a19_state (j : Int)))))] sz)) 0 0 (va_A [(h0, .inr (16, [v19_0, v19_1, v19_2, v19_3, v19_4, v19_5, v19_6, .ref q_1907, v19_8, v19_9, v19_10, v19_11, v19_12, v19_13, v19_14, v19_15, v19_16, v19_17, v19_18, v19_19, v19_20, v19_21, v19_22, v19_23, v19_24, v19_25, v19_26, v19_27, v19_28, v19_29, v19_30, v19_31, v19_32, v19_33, v19_34, v19_35, v19_36, v19_37, v19_38, v19_39, v19_40])), (q_1907, .inl (cA_1907, 1002, .inl (fun j : Nat => zI (a19_state (j : Int)))))] sz) := by
  refine Met.ofW (cc := cX19_stateOf) (maxL := 3) (ret := (some .int)) (by decide) rfl ?_
  intro p e s m args below meth c s₁ B hml hv
  obtain ⟨rfl, hsz, hP, hK, hD0⟩ := hv
  have hx := B.exec
  have hb := B.bytes
  have hr := B.returns
  have hts := atoms_spec (ws := v_X19_stateOfE) B.pre
  have hown : s.vm.findClass RX19 = some m.cls := findClass_of_methodNamed B.named
  have hlocks := B.notSynchronized
  have ow : ∀ {k : Nat} {w : Cond}, o_X19_stateOfE[k]? = some w → w.before ([.ref h0, .int (zI (g)), .int (zI (v))] : List Value).toArray s = true := fun h => hts _ (mow_X19_stateOfE _ (List.mem_of_getElem? h))
  subst hsz
  have hD := hD0.self (sz := s.heap.size)
  generalize hAe : va_A [(h0, .inr (16, [v19_0, v19_1, v19_2, v19_3, v19_4, v19_5, v19_6, .ref q_1907, v19_8, v19_9, v19_10, v19_11, v19_12, v19_13, v19_14, v19_15, v19_16, v19_17, v19_18, v19_19, v19_20, v19_21, v19_22, v19_23, v19_24, v19_25, v19_26, v19_27, v19_28, v19_29, v19_30, v19_31, v19_32, v19_33, v19_34, v19_35, v19_36, v19_37, v19_38, v19_39, v19_40])), (q_1907, .inl (cA_1907, 1002, .inl (fun j : Nat => zI (a19_state (j : Int)))))] s.heap.size = A at hD ⊢
  have hA : ∀ q : Nat, s.heap.size ≤ q → A q := fun q h => by rw [← hAe]; exact Or.inr h
  have hS : va_S A s.heap s.heap [] := va_S.rf
  have hP : va_P (dC, dI) vwQ [(h0, .inr (16, [v19_0, v19_1, v19_2, v19_3, v19_4, v19_5, v19_6, .ref q_1907, v19_8, v19_9, v19_10, v19_11, v19_12, v19_13, v19_14, v19_15, v19_16, v19_17, v19_18, v19_19, v19_20, v19_21, v19_22, v19_23, v19_24, v19_25, v19_26, v19_27, v19_28, v19_29, v19_30, v19_31, v19_32, v19_33, v19_34, v19_35, v19_36, v19_37, v19_38, v19_39, v19_40])), (q_1907, .inl (cA_1907, 1002, .inl (fun j : Nat => zI (a19_state (j : Int)))))] s.heap := hP
  have hl := lv_entry ([.ref h0, .int (zI (g)), .int (zI (v))]) (n := 3) (Nat.le_of_ble_eq_true rfl)
  rw [lg_entry_eq]
  generalize (lg_sl ([.ref h0, .int (zI (g)), .int (zI (v))]) ++ List.replicate (3 - (lg_sl ([.ref h0, .int (zI (g)), .int (zI (v))])).length) Slot.unset).toArray = ls at hl ⊢
  have hl : lv_has ls 3 [(0, .ref h0), (1, .int (zI (g))), (2, .int (zI (v)))] := hl
  obtain ⟨H, hH⟩ : ∃ H, H = s.heap := ⟨_, rfl⟩
  rw [← hH] at hP
  have hS : va_S A s.heap H [] := by rw [hH]; exact hS
  rw [← hH]
  refine zW_cap (fun Q hQ => ?_)
  refine lv_iload_n hx hb dX19_stateOf_0 rfl (lv_at hl 1 rfl) ?_
  refine lv_if_eq (tgt := 13) hx hb dX19_stateOf_1 (by decide) (fun b1 => ?_) (fun b1 => ?_)
  · have yb1 : (g : Int) = (0 : Int) := (zI_eq (a := g) (b := 0) (by omega) (by omega) (by omega) (by omega)).mp b1
    refine lv_iconst (v := 1) hx hb dX19_stateOf_13 (by decide) ?_
    subst hQ
    refine W.widen (k := 0) (n := 0) (Nat.le_of_ble_eq_true rfl) (Nat.le_of_ble_eq_true rfl) ?_
    exact W.iret (v := 1) hx hb hr (fun t ht hW => ⟨⟨1, (), rfl, (congrArg zI (show (1 : Int) = SOF a19_state (g) (v) by unfold SOF; (repeat' split) <;> omega)), by rw [ht]; exact hP, va_K.moved hW.alike hK, hD⟩, hS.F ht⟩) hS.2.2 dX19_stateOf_14
  · have yb1 : ¬ (g : Int) = (0 : Int) := fun q => b1 ((zI_eq (a := g) (b := 0) (by omega) (by omega) (by omega) (by omega)).mpr q)
    refine lv_aload_n hx hb dX19_stateOf_4 rfl (lv_at hl 0 rfl) ?_
    refine va_get (D := (dC, dI)) (ci := 16) (v := .ref q_1907) (C := RX19) (T := TX19) (N := 41) hx hb hts mem_X19_stateOfE_0 hown hK hP 0 rfl rfl 7 (by decide) (ow (k := 0) rfl) (fun _ h9 => h9) rfl dX19_stateOf_5 ?_
    refine lv_iload_n hx hb dX19_stateOf_8 rfl (lv_at hl 2 rfl) ?_
    refine va_iald hx hb hK hP 1 0 rfl rfl (zI_in (a := v) (n := 1002) (by omega) (by omega) (by decide)) dX19_stateOf_9 ?_
    refine lv_topi (fun z ez => ?_)
    obtain rfl : z = zI (a19_state (v)) := ez.trans (zI_ld (a19_state) (by omega) (by omega))
    have k1 := hR_a19_state (v)
    refine lv_goto (tgt := 14) hx hb dX19_stateOf_10 (by decide) ?_
    subst hQ
    refine W.widen (k := 0) (n := 0) (Nat.le_of_ble_eq_true rfl) (Nat.le_of_ble_eq_true rfl) ?_
    exact W.iret (v := (zI (a19_state (v)))) hx hb hr (fun t ht hW => ⟨⟨(zI (a19_state (v))), (), rfl, (congrArg zI (show (a19_state (v) : Int) = SOF a19_state (g) (v) by unfold SOF; (repeat' split) <;> omega)), by rw [ht]; exact hP, va_K.moved hW.alike hK, hD⟩, hS.F ht⟩) hS.2.2 dX19_stateOf_14
def o_X19_numberOfE : List Cond := [.fieldLink RX19 223 "SsaForgeModel" "number" "[I"]
def v_X19_numberOfE : List Cond := .code yX19_numberOf cX19_numberOf 3 (some .int) :: (o_X19_numberOfE ++ (wsX190 ++ []))
theorem mow_X19_numberOfE : ∀ w ∈ o_X19_numberOfE, w ∈ v_X19_numberOfE := fun _ h => List.mem_cons_of_mem _ (List.mem_append_left _ h)
theorem mem_X19_numberOfE_0 : ∀ w ∈ wsX190, w ∈ v_X19_numberOfE := fun _ h => List.mem_cons_of_mem _ (List.mem_append_right _ (List.mem_append_left _ h))
set_option maxRecDepth 20000 in
theorem gw_X19_numberOfE : v_X19_numberOfE.all goodWord = true := by decide +kernel
set_option maxHeartbeats 4000000 in
set_option maxRecDepth 100000 in
theorem c_X19_numberOfE (l : Launch) (dC : Nat → ClassId) (dI : Nat → Nat → Nat) (h0 : Nat) (v19_0 : Value) (v19_1 : Value) (v19_2 : Value) (v19_3 : Value) (v19_4 : Value) (v19_5 : Value) (v19_6 : Value) (v19_7 : Value) (q_1908 : Nat) (cA_1908 : ClassId) (a19_number : Int → Int) (v19_9 : Value) (v19_10 : Value) (v19_11 : Value) (v19_12 : Value) (v19_13 : Value) (v19_14 : Value) (v19_15 : Value) (v19_16 : Value) (v19_17 : Value) (v19_18 : Value) (v19_19 : Value) (v19_20 : Value) (v19_21 : Value) (v19_22 : Value) (v19_23 : Value) (v19_24 : Value) (v19_25 : Value) (v19_26 : Value) (v19_27 : Value) (v19_28 : Value) (v19_29 : Value) (v19_30 : Value) (v19_31 : Value) (v19_32 : Value) (v19_33 : Value) (v19_34 : Value) (v19_35 : Value) (v19_36 : Value) (v19_37 : Value) (v19_38 : Value) (v19_39 : Value) (v19_40 : Value) (g : Int) (v : Int) (hR_a19_number : ∀ j : Int, -2147483648 ≤ a19_number j ∧ a19_number j ≤ 2147483647) (hNg : 0 ≤ g ∧ g ≤ 1) (hNv : -2147483648 ≤ v ∧ v ≤ 2147483647) (hNr : g = 0 ∨ (0 ≤ v ∧ v ≤ 1001)) (sz : Nat) : Met l yX19_numberOf v_X19_numberOfE ({ frames := 0, cells := 0, slots := 0, locals := 0 }) (va_Pc [.ref h0, .int (zI (g)), .int (zI (v))] (fun U => U.heap.size = sz ∧ va_P (dC, dI) vwQ [(h0, .inr (16, [v19_0, v19_1, v19_2, v19_3, v19_4, v19_5, v19_6, v19_7, .ref q_1908, v19_9, v19_10, v19_11, v19_12, v19_13, v19_14, v19_15, v19_16, v19_17, v19_18, v19_19, v19_20, v19_21, v19_22, v19_23, v19_24, v19_25, v19_26, v19_27, v19_28, v19_29, v19_30, v19_31, v19_32, v19_33, v19_34, v19_35, v19_36, v19_37, v19_38, v19_39, v19_40])), (q_1908, .inl (cA_1908, 1002, .inl (fun j : Nat => zI (a19_number (j : Int)))))] U.heap ∧ va_K (dC, dI) vwQ [(cA_1908, .int)] U ∧ va_D (fun _ => True) [(h0, .inr (16, [v19_0, v19_1, v19_2, v19_3, v19_4, v19_5, v19_6, v19_7, .ref q_1908, v19_9, v19_10, v19_11, v19_12, v19_13, v19_14, v19_15, v19_16, v19_17, v19_18, v19_19, v19_20, v19_21, v19_22, v19_23, v19_24, v19_25, v19_26, v19_27, v19_28, v19_29, v19_30, v19_31, v19_32, v19_33, v19_34, v19_35, v19_36, v19_37, v19_38, v19_39, v19_40])), (q_1908, .inl (cA_1908, 1002, .inl (fun j : Nat => zI (a19_number (j : Int)))))])) (va_Qi (fun (r : Int32) (_ : Unit) => r = zI (NOF a19_number (g) (v))) (fun (_ : Unit) (t : State) => va_P (dC, dI) vwQ [(h0, .inr (16, [v19_0, v19_1, v19_2, v19_3, v19_4, v19_5, v19_6, v19_7, .ref q_1908, v19_9, v19_10, v19_11, v19_12, v19_13, v19_14, v19_15, v19_16, v19_17, v19_18, v19_19, v19_20, v19_21, v19_22, v19_23, v19_24, v19_25, v19_26, v19_27, v19_28, v19_29, v19_30, v19_31, v19_32, v19_33, v19_34, v19_35, v19_36, v19_37, v19_38, v19_39, v19_40])), (q_1908, .inl (cA_1908, 1002, .inl (fun j : Nat => zI (a19_number (j : Int)))))] t.heap ∧ va_K (dC, dI) vwQ [(cA_1908, .int)] t ∧ va_D (va_A [(h0, .inr (16, [v19_0, v19_1, v19_2, v19_3, v19_4, v19_5, v19_6, v19_7, .ref q_1908, v19_9, v19_10, v19_11, v19_12, v19_13, v19_14, v19_15, v19_16, v19_17, v19_18, v19_19, v19_20, v19_21, v19_22, v19_23, v19_24, v19_25, v19_26, v19_27, v19_28, v19_29, v19_30, v19_31, v19_32, v19_33, v19_34, v19_35, v19_36, v19_37, v19_38, v19_39, v19_40])), (q_1908, .inl (cA_1908, 1002, .inl (fun j : Nat => zI (a19_number (j : Int)))))] sz) [(h0, .inr (16, [v19_0, v19_1, v19_2, v19_3, v19_4, v19_5, v19_6, v19_7, .ref q_1908, v19_9, v19_10, v19_11, v19_12, v19_13, v19_14, v19_15, v19_16, v19_17, v19_18, v19_19, v19_20, v19_21, v19_22, v19_23, v19_24, v19_25, v19_26, v19_27, v19_28, v19_29, v19_30, v19_31, v19_32, v19_33, v19_34, v19_35, v19_36, v19_37, v19_38, v19_39, v19_40])), (q_1908, .inl (cA_1908, 1002, .inl (fun j : Nat => zI (a19_number (j : Int)))))]) (va_A [(h0, .inr (16, [v19_0, v19_1, v19_2, v19_3, v19_4, v19_5, v19_6, v19_7, .ref q_1908, v19_9, v19_10, v19_11, v19_12, v19_13, v19_14, v19_15, v19_16, v19_17, v19_18, v19_19, v19_20, v19_21, v19_22, v19_23, v19_24, v19_25, v19_26, v19_27, v19_28, v19_29, v19_30, v19_31, v19_32, v19_33, v19_34, v19_35, v19_36, v19_37, v19_38, v19_39, v19_40])), (q_1908, .inl (cA_1908, 1002, .inl (fun j : Nat => zI (a19_number (j : Int)))))] sz)) 0 0 (va_A [(h0, .inr (16, [v19_0, v19_1, v19_2, v19_3, v19_4, v19_5, v19_6, v19_7, .ref q_1908, v19_9, v19_10, v19_11, v19_12, v19_13, v19_14, v19_15, v19_16, v19_17, v19_18, v19_19, v19_20, v19_21, v19_22, v19_23, v19_24, v19_25, v19_26, v19_27, v19_28, v19_29, v19_30, v19_31, v19_32, v19_33, v19_34, v19_35, v19_36, v19_37, v19_38, v19_39, v19_40])), (q_1908, .inl (cA_1908, 1002, .inl (fun j : Nat => zI (a19_number (j : Int)))))] sz) := by
  refine Met.ofW (cc := cX19_numberOf) (maxL := 3) (ret := (some .int)) (by decide) rfl ?_
  intro p e s m args below meth c s₁ B hml hv
  obtain ⟨rfl, hsz, hP, hK, hD0⟩ := hv
  have hx := B.exec
  have hb := B.bytes
  have hr := B.returns
  have hts := atoms_spec (ws := v_X19_numberOfE) B.pre
  have hown : s.vm.findClass RX19 = some m.cls := findClass_of_methodNamed B.named
  have hlocks := B.notSynchronized
  have ow : ∀ {k : Nat} {w : Cond}, o_X19_numberOfE[k]? = some w → w.before ([.ref h0, .int (zI (g)), .int (zI (v))] : List Value).toArray s = true := fun h => hts _ (mow_X19_numberOfE _ (List.mem_of_getElem? h))
  subst hsz
  have hD := hD0.self (sz := s.heap.size)
  generalize hAe : va_A [(h0, .inr (16, [v19_0, v19_1, v19_2, v19_3, v19_4, v19_5, v19_6, v19_7, .ref q_1908, v19_9, v19_10, v19_11, v19_12, v19_13, v19_14, v19_15, v19_16, v19_17, v19_18, v19_19, v19_20, v19_21, v19_22, v19_23, v19_24, v19_25, v19_26, v19_27, v19_28, v19_29, v19_30, v19_31, v19_32, v19_33, v19_34, v19_35, v19_36, v19_37, v19_38, v19_39, v19_40])), (q_1908, .inl (cA_1908, 1002, .inl (fun j : Nat => zI (a19_number (j : Int)))))] s.heap.size = A at hD ⊢
  have hA : ∀ q : Nat, s.heap.size ≤ q → A q := fun q h => by rw [← hAe]; exact Or.inr h
  have hS : va_S A s.heap s.heap [] := va_S.rf
  have hP : va_P (dC, dI) vwQ [(h0, .inr (16, [v19_0, v19_1, v19_2, v19_3, v19_4, v19_5, v19_6, v19_7, .ref q_1908, v19_9, v19_10, v19_11, v19_12, v19_13, v19_14, v19_15, v19_16, v19_17, v19_18, v19_19, v19_20, v19_21, v19_22, v19_23, v19_24, v19_25, v19_26, v19_27, v19_28, v19_29, v19_30, v19_31, v19_32, v19_33, v19_34, v19_35, v19_36, v19_37, v19_38, v19_39, v19_40])), (q_1908, .inl (cA_1908, 1002, .inl (fun j : Nat => zI (a19_number (j : Int)))))] s.heap := hP
  have hl := lv_entry ([.ref h0, .int (zI (g)), .int (zI (v))]) (n := 3) (Nat.le_of_ble_eq_true rfl)
  rw [lg_entry_eq]
  generalize (lg_sl ([.ref h0, .int (zI (g)), .int (zI (v))]) ++ List.replicate (3 - (lg_sl ([.ref h0, .int (zI (g)), .int (zI (v))])).length) Slot.unset).toArray = ls at hl ⊢
  have hl : lv_has ls 3 [(0, .ref h0), (1, .int (zI (g))), (2, .int (zI (v)))] := hl
  obtain ⟨H, hH⟩ : ∃ H, H = s.heap := ⟨_, rfl⟩
  rw [← hH] at hP
  have hS : va_S A s.heap H [] := by rw [hH]; exact hS
  rw [← hH]
  refine zW_cap (fun Q hQ => ?_)
  refine lv_iload_n hx hb dX19_numberOf_0 rfl (lv_at hl 1 rfl) ?_
  refine lv_if_eq (tgt := 13) hx hb dX19_numberOf_1 (by decide) (fun b1 => ?_) (fun b1 => ?_)
  · have yb1 : (g : Int) = (0 : Int) := (zI_eq (a := g) (b := 0) (by omega) (by omega) (by omega) (by omega)).mp b1
    refine lv_iload_n hx hb dX19_numberOf_13 rfl (lv_at hl 2 rfl) ?_
    subst hQ
    refine W.widen (k := 0) (n := 0) (Nat.le_of_ble_eq_true rfl) (Nat.le_of_ble_eq_true rfl) ?_
    exact W.iret (v := (zI (v))) hx hb hr (fun t ht hW => ⟨⟨(zI (v)), (), rfl, (congrArg zI (show (v : Int) = NOF a19_number (g) (v) by unfold NOF; (repeat' split) <;> omega)), by rw [ht]; exact hP, va_K.moved hW.alike hK, hD⟩, hS.F ht⟩) hS.2.2 dX19_numberOf_14
  · have yb1 : ¬ (g : Int) = (0 : Int) := fun q => b1 ((zI_eq (a := g) (b := 0) (by omega) (by omega) (by omega) (by omega)).mpr q)
    refine lv_aload_n hx hb dX19_numberOf_4 rfl (lv_at hl 0 rfl) ?_
    refine va_get (D := (dC, dI)) (ci := 16) (v := .ref q_1908) (C := RX19) (T := TX19) (N := 41) hx hb hts mem_X19_numberOfE_0 hown hK hP 0 rfl rfl 8 (by decide) (ow (k := 0) rfl) (fun _ h9 => h9) rfl dX19_numberOf_5 ?_
    refine lv_iload_n hx hb dX19_numberOf_8 rfl (lv_at hl 2 rfl) ?_
    refine va_iald hx hb hK hP 1 0 rfl rfl (zI_in (a := v) (n := 1002) (by omega) (by omega) (by decide)) dX19_numberOf_9 ?_
    refine lv_topi (fun z ez => ?_)
    obtain rfl : z = zI (a19_number (v)) := ez.trans (zI_ld (a19_number) (by omega) (by omega))
    have k1 := hR_a19_number (v)
    refine lv_goto (tgt := 14) hx hb dX19_numberOf_10 (by decide) ?_
    subst hQ
    refine W.widen (k := 0) (n := 0) (Nat.le_of_ble_eq_true rfl) (Nat.le_of_ble_eq_true rfl) ?_
    exact W.iret (v := (zI (a19_number (v)))) hx hb hr (fun t ht hW => ⟨⟨(zI (a19_number (v))), (), rfl, (congrArg zI (show (a19_number (v) : Int) = NOF a19_number (g) (v) by unfold NOF; (repeat' split) <;> omega)), by rw [ht]; exact hP, va_K.moved hW.alike hK, hD⟩, hS.F ht⟩) hS.2.2 dX19_numberOf_14
def o_X19_setE : List Cond := [.fieldLink RX19 220 "SsaForgeModel" "state" "[I", .fieldLink RX19 223 "SsaForgeModel" "number" "[I", .fieldLink RX19 226 "SsaForgeModel" "changed" "Z"]
def v_X19_setE : List Cond := .code yX19_set cX19_set 4 none :: (o_X19_setE ++ (wsX190 ++ []))
theorem mow_X19_setE : ∀ w ∈ o_X19_setE, w ∈ v_X19_setE := fun _ h => List.mem_cons_of_mem _ (List.mem_append_left _ h)
theorem mem_X19_setE_0 : ∀ w ∈ wsX190, w ∈ v_X19_setE := fun _ h => List.mem_cons_of_mem _ (List.mem_append_right _ (List.mem_append_left _ h))
set_option maxRecDepth 20000 in
theorem gw_X19_setE : v_X19_setE.all goodWord = true := by decide +kernel
set_option maxHeartbeats 4000000 in
set_option maxRecDepth 100000 in
theorem c_X19_setE (l : Launch) (dC : Nat → ClassId) (dI : Nat → Nat → Nat) (h0 : Nat) (v19_0 : Value) (v19_1 : Value) (v19_2 : Value) (v19_3 : Value) (v19_4 : Value) (v19_5 : Value) (v19_6 : Value) (q_1907 : Nat) (cA_1907 : ClassId) (a19_state : Int → Int) (q_1908 : Nat) (cA_1908 : ClassId) (a19_number : Int → Int) (v19_9 : Value) (v19_10 : Value) (z19_changed : Int) (v19_12 : Value) (v19_13 : Value) (v19_14 : Value) (v19_15 : Value) (v19_16 : Value) (v19_17 : Value) (v19_18 : Value) (v19_19 : Value) (v19_20 : Value) (v19_21 : Value) (v19_22 : Value) (v19_23 : Value) (v19_24 : Value) (v19_25 : Value) (v19_26 : Value) (v19_27 : Value) (v19_28 : Value) (v19_29 : Value) (v19_30 : Value) (v19_31 : Value) (v19_32 : Value) (v19_33 : Value) (v19_34 : Value) (v19_35 : Value) (v19_36 : Value) (v19_37 : Value) (v19_38 : Value) (v19_39 : Value) (v19_40 : Value) (r0 : Int) (s0 : Int) (v : Int) (hR_a19_state : ∀ j : Int, 0 ≤ a19_state j ∧ a19_state j ≤ 2) (hR_a19_number : ∀ j : Int, -2147483648 ≤ a19_number j ∧ a19_number j ≤ 2147483647) (hNz19_changed : 0 ≤ z19_changed ∧ z19_changed ≤ 1) (hNr : 0 ≤ r0 ∧ r0 ≤ 1001) (hNs : 0 ≤ s0 ∧ s0 ≤ 2) (hNv : -2147483648 ≤ v ∧ v ≤ 2147483647) (sz : Nat) : Met l yX19_set v_X19_setE ({ frames := 0, cells := 0, slots := 0, locals := 0 }) (va_Pc [.ref h0, .int (zI (r0)), .int (zI (s0)), .int (zI (v))] (fun U => U.heap.size = sz ∧ va_P (dC, dI) vwQ [(h0, .inr (16, [v19_0, v19_1, v19_2, v19_3, v19_4, v19_5, v19_6, .ref q_1907, .ref q_1908, v19_9, v19_10, .int (zI (z19_changed)), v19_12, v19_13, v19_14, v19_15, v19_16, v19_17, v19_18, v19_19, v19_20, v19_21, v19_22, v19_23, v19_24, v19_25, v19_26, v19_27, v19_28, v19_29, v19_30, v19_31, v19_32, v19_33, v19_34, v19_35, v19_36, v19_37, v19_38, v19_39, v19_40])), (q_1907, .inl (cA_1907, 1002, .inl (fun j : Nat => zI (a19_state (j : Int))))), (q_1908, .inl (cA_1908, 1002, .inl (fun j : Nat => zI (a19_number (j : Int)))))] U.heap ∧ va_K (dC, dI) vwQ [(cA_1907, .int), (cA_1908, .int)] U ∧ va_D (fun _ => True) [(h0, .inr (16, [v19_0, v19_1, v19_2, v19_3, v19_4, v19_5, v19_6, .ref q_1907, .ref q_1908, v19_9, v19_10, .int (zI (z19_changed)), v19_12, v19_13, v19_14, v19_15, v19_16, v19_17, v19_18, v19_19, v19_20, v19_21, v19_22, v19_23, v19_24, v19_25, v19_26, v19_27, v19_28, v19_29, v19_30, v19_31, v19_32, v19_33, v19_34, v19_35, v19_36, v19_37, v19_38, v19_39, v19_40])), (q_1907, .inl (cA_1907, 1002, .inl (fun j : Nat => zI (a19_state (j : Int))))), (q_1908, .inl (cA_1908, 1002, .inl (fun j : Nat => zI (a19_number (j : Int)))))])) (va_Qv (fun _ : Unit => True) (fun (_ : Unit) (t : State) => ∃ (z0_9 : Int) (a1_9 : Int → Int) (a2_9 : Int → Int), ((0 ≤ z0_9 ∧ z0_9 ≤ 1) ∧ (∀ j : Int, 0 ≤ a1_9 j ∧ a1_9 j ≤ 2) ∧ (∀ j : Int, -2147483648 ≤ a2_9 j ∧ a2_9 j ≤ 2147483647) ∧ (SET9 a19_state a19_number a1_9 a2_9 z19_changed (z0_9) (r0) (s0) (v))) ∧ va_P (dC, dI) vwQ [(h0, .inr (16, [v19_0, v19_1, v19_2, v19_3, v19_4, v19_5, v19_6, .ref q_1907, .ref q_1908, v19_9, v19_10, .int (zI (z0_9)), v19_12, v19_13, v19_14, v19_15, v19_16, v19_17, v19_18, v19_19, v19_20, v19_21, v19_22, v19_23, v19_24, v19_25, v19_26, v19_27, v19_28, v19_29, v19_30, v19_31, v19_32, v19_33, v19_34, v19_35, v19_36, v19_37, v19_38, v19_39, v19_40])), (q_1907, .inl (cA_1907, 1002, .inl (fun j : Nat => zI (a1_9 (j : Int))))), (q_1908, .inl (cA_1908, 1002, .inl (fun j : Nat => zI (a2_9 (j : Int)))))] t.heap ∧ va_K (dC, dI) vwQ [(cA_1907, .int), (cA_1908, .int)] t ∧ va_D (va_A [(h0, .inr (16, [v19_0, v19_1, v19_2, v19_3, v19_4, v19_5, v19_6, .ref q_1907, .ref q_1908, v19_9, v19_10, .int (zI (z19_changed)), v19_12, v19_13, v19_14, v19_15, v19_16, v19_17, v19_18, v19_19, v19_20, v19_21, v19_22, v19_23, v19_24, v19_25, v19_26, v19_27, v19_28, v19_29, v19_30, v19_31, v19_32, v19_33, v19_34, v19_35, v19_36, v19_37, v19_38, v19_39, v19_40])), (q_1907, .inl (cA_1907, 1002, .inl (fun j : Nat => zI (a19_state (j : Int))))), (q_1908, .inl (cA_1908, 1002, .inl (fun j : Nat => zI (a19_number (j : Int)))))] sz) [(h0, .inr (16, [v19_0, v19_1, v19_2, v19_3, v19_4, v19_5, v19_6, .ref q_1907, .ref q_1908, v19_9, v19_10, .int (zI (z0_9)), v19_12, v19_13, v19_14, v19_15, v19_16, v19_17, v19_18, v19_19, v19_20, v19_21, v19_22, v19_23, v19_24, v19_25, v19_26, v19_27, v19_28, v19_29, v19_30, v19_31, v19_32, v19_33, v19_34, v19_35, v19_36, v19_37, v19_38, v19_39, v19_40])), (q_1907, .inl (cA_1907, 1002, .inl (fun j : Nat => zI (a1_9 (j : Int))))), (q_1908, .inl (cA_1908, 1002, .inl (fun j : Nat => zI (a2_9 (j : Int)))))]) (va_A [(h0, .inr (16, [v19_0, v19_1, v19_2, v19_3, v19_4, v19_5, v19_6, .ref q_1907, .ref q_1908, v19_9, v19_10, .int (zI (z19_changed)), v19_12, v19_13, v19_14, v19_15, v19_16, v19_17, v19_18, v19_19, v19_20, v19_21, v19_22, v19_23, v19_24, v19_25, v19_26, v19_27, v19_28, v19_29, v19_30, v19_31, v19_32, v19_33, v19_34, v19_35, v19_36, v19_37, v19_38, v19_39, v19_40])), (q_1907, .inl (cA_1907, 1002, .inl (fun j : Nat => zI (a19_state (j : Int))))), (q_1908, .inl (cA_1908, 1002, .inl (fun j : Nat => zI (a19_number (j : Int)))))] sz)) 0 0 (va_A [(h0, .inr (16, [v19_0, v19_1, v19_2, v19_3, v19_4, v19_5, v19_6, .ref q_1907, .ref q_1908, v19_9, v19_10, .int (zI (z19_changed)), v19_12, v19_13, v19_14, v19_15, v19_16, v19_17, v19_18, v19_19, v19_20, v19_21, v19_22, v19_23, v19_24, v19_25, v19_26, v19_27, v19_28, v19_29, v19_30, v19_31, v19_32, v19_33, v19_34, v19_35, v19_36, v19_37, v19_38, v19_39, v19_40])), (q_1907, .inl (cA_1907, 1002, .inl (fun j : Nat => zI (a19_state (j : Int))))), (q_1908, .inl (cA_1908, 1002, .inl (fun j : Nat => zI (a19_number (j : Int)))))] sz) := by
  refine Met.ofW (cc := cX19_set) (maxL := 4) (ret := none) (by decide) rfl ?_
  intro p e s m args below meth c s₁ B hml hv
  obtain ⟨rfl, hsz, hP, hK, hD0⟩ := hv
  have hx := B.exec
  have hb := B.bytes
  have hr := B.returns
  have hts := atoms_spec (ws := v_X19_setE) B.pre
  have hown : s.vm.findClass RX19 = some m.cls := findClass_of_methodNamed B.named
  have hlocks := B.notSynchronized
  have ow : ∀ {k : Nat} {w : Cond}, o_X19_setE[k]? = some w → w.before ([.ref h0, .int (zI (r0)), .int (zI (s0)), .int (zI (v))] : List Value).toArray s = true := fun h => hts _ (mow_X19_setE _ (List.mem_of_getElem? h))
  subst hsz
  have hD := hD0.self (sz := s.heap.size)
  generalize hAe : va_A [(h0, .inr (16, [v19_0, v19_1, v19_2, v19_3, v19_4, v19_5, v19_6, .ref q_1907, .ref q_1908, v19_9, v19_10, .int (zI (z19_changed)), v19_12, v19_13, v19_14, v19_15, v19_16, v19_17, v19_18, v19_19, v19_20, v19_21, v19_22, v19_23, v19_24, v19_25, v19_26, v19_27, v19_28, v19_29, v19_30, v19_31, v19_32, v19_33, v19_34, v19_35, v19_36, v19_37, v19_38, v19_39, v19_40])), (q_1907, .inl (cA_1907, 1002, .inl (fun j : Nat => zI (a19_state (j : Int))))), (q_1908, .inl (cA_1908, 1002, .inl (fun j : Nat => zI (a19_number (j : Int)))))] s.heap.size = A at hD ⊢
  have hA : ∀ q : Nat, s.heap.size ≤ q → A q := fun q h => by rw [← hAe]; exact Or.inr h
  have hS : va_S A s.heap s.heap [] := va_S.rf
  have hP : va_P (dC, dI) vwQ [(h0, .inr (16, [v19_0, v19_1, v19_2, v19_3, v19_4, v19_5, v19_6, .ref q_1907, .ref q_1908, v19_9, v19_10, .int (zI (z19_changed)), v19_12, v19_13, v19_14, v19_15, v19_16, v19_17, v19_18, v19_19, v19_20, v19_21, v19_22, v19_23, v19_24, v19_25, v19_26, v19_27, v19_28, v19_29, v19_30, v19_31, v19_32, v19_33, v19_34, v19_35, v19_36, v19_37, v19_38, v19_39, v19_40])), (q_1907, .inl (cA_1907, 1002, .inl (fun j : Nat => zI (a19_state (j : Int))))), (q_1908, .inl (cA_1908, 1002, .inl (fun j : Nat => zI (a19_number (j : Int)))))] s.heap := hP
  have hl := lv_entry ([.ref h0, .int (zI (r0)), .int (zI (s0)), .int (zI (v))]) (n := 4) (Nat.le_of_ble_eq_true rfl)
  rw [lg_entry_eq]
  generalize (lg_sl ([.ref h0, .int (zI (r0)), .int (zI (s0)), .int (zI (v))]) ++ List.replicate (4 - (lg_sl ([.ref h0, .int (zI (r0)), .int (zI (s0)), .int (zI (v))])).length) Slot.unset).toArray = ls at hl ⊢
  have hl : lv_has ls 4 [(0, .ref h0), (1, .int (zI (r0))), (2, .int (zI (s0))), (3, .int (zI (v)))] := hl
  obtain ⟨H, hH⟩ : ∃ H, H = s.heap := ⟨_, rfl⟩
  rw [← hH] at hP
  have hS : va_S A s.heap H [] := by rw [hH]; exact hS
  rw [← hH]
  refine zW_cap (fun Q hQ => ?_)
  refine lv_aload_n hx hb dX19_set_0 rfl (lv_at hl 0 rfl) ?_
  refine va_get (D := (dC, dI)) (ci := 16) (v := .ref q_1907) (C := RX19) (T := TX19) (N := 41) hx hb hts mem_X19_setE_0 hown hK hP 0 rfl rfl 7 (by decide) (ow (k := 0) rfl) (fun _ h9 => h9) rfl dX19_set_1 ?_
  refine lv_iload_n hx hb dX19_set_4 rfl (lv_at hl 1 rfl) ?_
  refine va_iald hx hb hK hP 1 0 rfl rfl (zI_in (a := r0) (n := 1002) (by omega) (by omega) (by decide)) dX19_set_5 ?_
  refine lv_topi (fun z ez => ?_)
  obtain rfl : z = zI (a19_state (r0)) := ez.trans (zI_ld (a19_state) (by omega) (by omega))
  have k1 := hR_a19_state (r0)
  refine lv_iload_n hx hb dX19_set_6 rfl (lv_at hl 2 rfl) ?_
  refine lv_icmp_ne (tgt := 26) hx hb dX19_set_7 (by decide) (fun b7 => ?_) (fun b7 => ?_)
  · have yb7 : ¬ (a19_state (r0) : Int) = (s0 : Int) := fun q => b7 ((zI_eq (a := a19_state (r0)) (b := s0) (by omega) (by omega) (by omega) (by omega)).mpr q)
    refine lv_aload_n hx hb dX19_set_26 rfl (lv_at hl 0 rfl) ?_
    refine va_get (D := (dC, dI)) (ci := 16) (v := .ref q_1907) (C := RX19) (T := TX19) (N := 41) hx hb hts mem_X19_setE_0 hown hK hP 0 rfl rfl 7 (by decide) (ow (k := 0) rfl) (fun _ h9 => h9) rfl dX19_set_27 ?_
    refine lv_iload_n hx hb dX19_set_30 rfl (lv_at hl 1 rfl) ?_
    refine lv_iload_n hx hb dX19_set_31 rfl (lv_at hl 2 rfl) ?_
    refine va_iast (i := zI (r0)) hx hb hK hP hD hS 1 0 rfl rfl (zI_in (a := r0) (n := 1002) (by omega) (by omega) (by decide)) dX19_set_32 (fun H locs hP hD hS => ?_)
    have eQ : upd (fun j : Nat => zI (a19_state (j : Int))) (zI (r0)).toNatClampNeg (zI (s0)) = (fun j : Nat => zI (zup a19_state (r0) (s0) (j : Int))) := zI_st a19_state (e := r0) (v := s0) (by omega) (by omega)
    rw [eQ] at hP hD
    clear eQ
    have ra_2001 : ∀ j : Int, 0 ≤ zup a19_state (r0) (s0) j ∧ zup a19_state (r0) (s0) j ≤ 2 := zup_P (P := fun x9 => 0 ≤ x9 ∧ x9 ≤ 2) hR_a19_state (show 0 ≤ (s0) ∧ (s0) ≤ 2 by omega)
    obtain ⟨a_2001, ea_2001⟩ : ∃ a9 : Int → Int, a9 = zup a19_state (r0) (s0) := ⟨_, rfl⟩
    rw [← ea_2001] at hP hD ra_2001
    have hP : va_P (dC, dI) vwQ [(h0, .inr (16, [v19_0, v19_1, v19_2, v19_3, v19_4, v19_5, v19_6, .ref q_1907, .ref q_1908, v19_9, v19_10, .int (zI (z19_changed)), v19_12, v19_13, v19_14, v19_15, v19_16, v19_17, v19_18, v19_19, v19_20, v19_21, v19_22, v19_23, v19_24, v19_25, v19_26, v19_27, v19_28, v19_29, v19_30, v19_31, v19_32, v19_33, v19_34, v19_35, v19_36, v19_37, v19_38, v19_39, v19_40])), (q_1907, .inl (cA_1907, 1002, .inl (fun j : Nat => zI (a_2001 (j : Int))))), (q_1908, .inl (cA_1908, 1002, .inl (fun j : Nat => zI (a19_number (j : Int)))))] H := hP
    have hD : va_D A [(h0, .inr (16, [v19_0, v19_1, v19_2, v19_3, v19_4, v19_5, v19_6, .ref q_1907, .ref q_1908, v19_9, v19_10, .int (zI (z19_changed)), v19_12, v19_13, v19_14, v19_15, v19_16, v19_17, v19_18, v19_19, v19_20, v19_21, v19_22, v19_23, v19_24, v19_25, v19_26, v19_27, v19_28, v19_29, v19_30, v19_31, v19_32, v19_33, v19_34, v19_35, v19_36, v19_37, v19_38, v19_39, v19_40])), (q_1907, .inl (cA_1907, 1002, .inl (fun j : Nat => zI (a_2001 (j : Int))))), (q_1908, .inl (cA_1908, 1002, .inl (fun j : Nat => zI (a19_number (j : Int)))))] := hD
    refine lv_aload_n hx hb dX19_set_33 rfl (lv_at hl 0 rfl) ?_
    refine va_get (D := (dC, dI)) (ci := 16) (v := .ref q_1908) (C := RX19) (T := TX19) (N := 41) hx hb hts mem_X19_setE_0 hown hK hP 0 rfl rfl 8 (by decide) (ow (k := 1) rfl) (fun _ h9 => h9) rfl dX19_set_34 ?_
    refine lv_iload_n hx hb dX19_set_37 rfl (lv_at hl 1 rfl) ?_
    refine lv_iload_n hx hb dX19_set_38 rfl (lv_at hl 3 rfl) ?_
    refine va_iast (i := zI (r0)) hx hb hK hP hD hS 2 1 rfl rfl (zI_in (a := r0) (n := 1002) (by omega) (by omega) (by decide)) dX19_set_39 (fun H locs hP hD hS => ?_)
    have eQ : upd (fun j : Nat => zI (a19_number (j : Int))) (zI (r0)).toNatClampNeg (zI (v)) = (fun j : Nat => zI (zup a19_number (r0) (v) (j : Int))) := zI_st a19_number (e := r0) (v := v) (by omega) (by omega)
    rw [eQ] at hP hD
    clear eQ
    have ra_2002 : ∀ j : Int, -2147483648 ≤ zup a19_number (r0) (v) j ∧ zup a19_number (r0) (v) j ≤ 2147483647 := zup_P (P := fun x9 => -2147483648 ≤ x9 ∧ x9 ≤ 2147483647) hR_a19_number (show -2147483648 ≤ (v) ∧ (v) ≤ 2147483647 by omega)
    obtain ⟨a_2002, ea_2002⟩ : ∃ a9 : Int → Int, a9 = zup a19_number (r0) (v) := ⟨_, rfl⟩
    rw [← ea_2002] at hP hD ra_2002
    have hP : va_P (dC, dI) vwQ [(h0, .inr (16, [v19_0, v19_1, v19_2, v19_3, v19_4, v19_5, v19_6, .ref q_1907, .ref q_1908, v19_9, v19_10, .int (zI (z19_changed)), v19_12, v19_13, v19_14, v19_15, v19_16, v19_17, v19_18, v19_19, v19_20, v19_21, v19_22, v19_23, v19_24, v19_25, v19_26, v19_27, v19_28, v19_29, v19_30, v19_31, v19_32, v19_33, v19_34, v19_35, v19_36, v19_37, v19_38, v19_39, v19_40])), (q_1907, .inl (cA_1907, 1002, .inl (fun j : Nat => zI (a_2001 (j : Int))))), (q_1908, .inl (cA_1908, 1002, .inl (fun j : Nat => zI (a_2002 (j : Int)))))] H := hP
    have hD : va_D A [(h0, .inr (16, [v19_0, v19_1, v19_2, v19_3, v19_4, v19_5, v19_6, .ref q_1907, .ref q_1908, v19_9, v19_10, .int (zI (z19_changed)), v19_12, v19_13, v19_14, v19_15, v19_16, v19_17, v19_18, v19_19, v19_20, v19_21, v19_22, v19_23, v19_24, v19_25, v19_26, v19_27, v19_28, v19_29, v19_30, v19_31, v19_32, v19_33, v19_34, v19_35, v19_36, v19_37, v19_38, v19_39, v19_40])), (q_1907, .inl (cA_1907, 1002, .inl (fun j : Nat => zI (a_2001 (j : Int))))), (q_1908, .inl (cA_1908, 1002, .inl (fun j : Nat => zI (a_2002 (j : Int)))))] := hD
    refine lv_aload_n hx hb dX19_set_40 rfl (lv_at hl 0 rfl) ?_
    refine lv_iconst (v := 1) hx hb dX19_set_41 (by decide) ?_
    refine va_put (D := (dC, dI)) (ci := 16) (v := .int 1) (ty := .boolean) (C := RX19) (T := TX19) (N := 41) hx hb hts mem_X19_setE_0 tyX19 tyX19_ok nmX19 hown hK hP hD hS 0 rfl rfl 11 (by decide) (ow (k := 2) rfl) (fun _ h9 => h9) rfl (by decide +kernel) rfl rfl (Nat.le_of_ble_eq_true rfl) dX19_set_42 (fun H locs hP hD hS => ?_)
    have hP : va_P (dC, dI) vwQ [(h0, .inr (16, [v19_0, v19_1, v19_2, v19_3, v19_4, v19_5, v19_6, .ref q_1907, .ref q_1908, v19_9, v19_10, .int 1, v19_12, v19_13, v19_14, v19_15, v19_16, v19_17, v19_18, v19_19, v19_20, v19_21, v19_22, v19_23, v19_24, v19_25, v19_26, v19_27, v19_28, v19_29, v19_30, v19_31, v19_32, v19_33, v19_34, v19_35, v19_36, v19_37, v19_38, v19_39, v19_40])), (q_1907, .inl (cA_1907, 1002, .inl (fun j : Nat => zI (a_2001 (j : Int))))), (q_1908, .inl (cA_1908, 1002, .inl (fun j : Nat => zI (a_2002 (j : Int)))))] H := hP
    have hD : va_D A [(h0, .inr (16, [v19_0, v19_1, v19_2, v19_3, v19_4, v19_5, v19_6, .ref q_1907, .ref q_1908, v19_9, v19_10, .int 1, v19_12, v19_13, v19_14, v19_15, v19_16, v19_17, v19_18, v19_19, v19_20, v19_21, v19_22, v19_23, v19_24, v19_25, v19_26, v19_27, v19_28, v19_29, v19_30, v19_31, v19_32, v19_33, v19_34, v19_35, v19_36, v19_37, v19_38, v19_39, v19_40])), (q_1907, .inl (cA_1907, 1002, .inl (fun j : Nat => zI (a_2001 (j : Int))))), (q_1908, .inl (cA_1908, 1002, .inl (fun j : Nat => zI (a_2002 (j : Int)))))] := hD
    subst hQ
    refine W.widen (k := 0) (n := 0) (Nat.le_of_ble_eq_true rfl) (Nat.le_of_ble_eq_true rfl) ?_
    exact W.vret hx hb hr (fun t ht hW => ⟨⟨(), rfl, trivial, 1, a_2001, a_2002, ⟨(by omega), ra_2001, ra_2002, (SET9.new (by omega) ea_2001 ea_2002 (by omega))⟩, by rw [ht]; exact hP, va_K.moved hW.alike hK, hD⟩, hS.F ht⟩) hS.2.2 dX19_set_45
  · have yb7 : (a19_state (r0) : Int) = (s0 : Int) := (zI_eq (a := a19_state (r0)) (b := s0) (by omega) (by omega) (by omega) (by omega)).mp b7
    refine lv_iload_n hx hb dX19_set_10 rfl (lv_at hl 2 rfl) ?_
    refine lv_iconst (v := 1) hx hb dX19_set_11 (by decide) ?_
    refine lv_icmp_ne (tgt := 25) hx hb dX19_set_12 (by decide) (fun b12 => ?_) (fun b12 => ?_)
    · have yb12 : ¬ (s0 : Int) = (1 : Int) := fun q => b12 ((zI_eq (a := s0) (b := 1) (by omega) (by omega) (by omega) (by omega)).mpr q)
      subst hQ
      refine W.widen (k := 0) (n := 0) (Nat.le_of_ble_eq_true rfl) (Nat.le_of_ble_eq_true rfl) ?_
      exact W.vret hx hb hr (fun t ht hW => ⟨⟨(), rfl, trivial, z19_changed, a19_state, a19_number, ⟨(by omega), hR_a19_state, hR_a19_number, (SET9.same (by omega) (by omega) (by omega))⟩, by rw [ht]; exact hP, va_K.moved hW.alike hK, hD⟩, hS.F ht⟩) hS.2.2 dX19_set_25
    · have yb12 : (s0 : Int) = (1 : Int) := (zI_eq (a := s0) (b := 1) (by omega) (by omega) (by omega) (by omega)).mp b12
      refine lv_aload_n hx hb dX19_set_15 rfl (lv_at hl 0 rfl) ?_
      refine va_get (D := (dC, dI)) (ci := 16) (v := .ref q_1908) (C := RX19) (T := TX19) (N := 41) hx hb hts mem_X19_setE_0 hown hK hP 0 rfl rfl 8 (by decide) (ow (k := 1) rfl) (fun _ h9 => h9) rfl dX19_set_16 ?_
      refine lv_iload_n hx hb dX19_set_19 rfl (lv_at hl 1 rfl) ?_
      refine va_iald hx hb hK hP 2 1 rfl rfl (zI_in (a := r0) (n := 1002) (by omega) (by omega) (by decide)) dX19_set_20 ?_
      refine lv_topi (fun z ez => ?_)
      obtain rfl : z = zI (a19_number (r0)) := ez.trans (zI_ld (a19_number) (by omega) (by omega))
      have k2 := hR_a19_number (r0)
      refine lv_iload_n hx hb dX19_set_21 rfl (lv_at hl 3 rfl) ?_
      refine lv_icmp_ne (tgt := 26) hx hb dX19_set_22 (by decide) (fun b22 => ?_) (fun b22 => ?_)
      · have yb22 : ¬ (a19_number (r0) : Int) = (v : Int) := fun q => b22 ((zI_eq (a := a19_number (r0)) (b := v) (by omega) (by omega) (by omega) (by omega)).mpr q)
        refine lv_aload_n hx hb dX19_set_26 rfl (lv_at hl 0 rfl) ?_
        refine va_get (D := (dC, dI)) (ci := 16) (v := .ref q_1907) (C := RX19) (T := TX19) (N := 41) hx hb hts mem_X19_setE_0 hown hK hP 0 rfl rfl 7 (by decide) (ow (k := 0) rfl) (fun _ h9 => h9) rfl dX19_set_27 ?_
        refine lv_iload_n hx hb dX19_set_30 rfl (lv_at hl 1 rfl) ?_
        refine lv_iload_n hx hb dX19_set_31 rfl (lv_at hl 2 rfl) ?_
        refine va_iast (i := zI (r0)) hx hb hK hP hD hS 1 0 rfl rfl (zI_in (a := r0) (n := 1002) (by omega) (by omega) (by decide)) dX19_set_32 (fun H locs hP hD hS => ?_)
        have eQ : upd (fun j : Nat => zI (a19_state (j : Int))) (zI (r0)).toNatClampNeg (zI (s0)) = (fun j : Nat => zI (zup a19_state (r0) (s0) (j : Int))) := zI_st a19_state (e := r0) (v := s0) (by omega) (by omega)
        rw [eQ] at hP hD
        clear eQ
        have ra_2003 : ∀ j : Int, 0 ≤ zup a19_state (r0) (s0) j ∧ zup a19_state (r0) (s0) j ≤ 2 := zup_P (P := fun x9 => 0 ≤ x9 ∧ x9 ≤ 2) hR_a19_state (show 0 ≤ (s0) ∧ (s0) ≤ 2 by omega)
        obtain ⟨a_2003, ea_2003⟩ : ∃ a9 : Int → Int, a9 = zup a19_state (r0) (s0) := ⟨_, rfl⟩
        rw [← ea_2003] at hP hD ra_2003
        have hP : va_P (dC, dI) vwQ [(h0, .inr (16, [v19_0, v19_1, v19_2, v19_3, v19_4, v19_5, v19_6, .ref q_1907, .ref q_1908, v19_9, v19_10, .int (zI (z19_changed)), v19_12, v19_13, v19_14, v19_15, v19_16, v19_17, v19_18, v19_19, v19_20, v19_21, v19_22, v19_23, v19_24, v19_25, v19_26, v19_27, v19_28, v19_29, v19_30, v19_31, v19_32, v19_33, v19_34, v19_35, v19_36, v19_37, v19_38, v19_39, v19_40])), (q_1907, .inl (cA_1907, 1002, .inl (fun j : Nat => zI (a_2003 (j : Int))))), (q_1908, .inl (cA_1908, 1002, .inl (fun j : Nat => zI (a19_number (j : Int)))))] H := hP
        have hD : va_D A [(h0, .inr (16, [v19_0, v19_1, v19_2, v19_3, v19_4, v19_5, v19_6, .ref q_1907, .ref q_1908, v19_9, v19_10, .int (zI (z19_changed)), v19_12, v19_13, v19_14, v19_15, v19_16, v19_17, v19_18, v19_19, v19_20, v19_21, v19_22, v19_23, v19_24, v19_25, v19_26, v19_27, v19_28, v19_29, v19_30, v19_31, v19_32, v19_33, v19_34, v19_35, v19_36, v19_37, v19_38, v19_39, v19_40])), (q_1907, .inl (cA_1907, 1002, .inl (fun j : Nat => zI (a_2003 (j : Int))))), (q_1908, .inl (cA_1908, 1002, .inl (fun j : Nat => zI (a19_number (j : Int)))))] := hD
        refine lv_aload_n hx hb dX19_set_33 rfl (lv_at hl 0 rfl) ?_
        refine va_get (D := (dC, dI)) (ci := 16) (v := .ref q_1908) (C := RX19) (T := TX19) (N := 41) hx hb hts mem_X19_setE_0 hown hK hP 0 rfl rfl 8 (by decide) (ow (k := 1) rfl) (fun _ h9 => h9) rfl dX19_set_34 ?_
        refine lv_iload_n hx hb dX19_set_37 rfl (lv_at hl 1 rfl) ?_
        refine lv_iload_n hx hb dX19_set_38 rfl (lv_at hl 3 rfl) ?_
        refine va_iast (i := zI (r0)) hx hb hK hP hD hS 2 1 rfl rfl (zI_in (a := r0) (n := 1002) (by omega) (by omega) (by decide)) dX19_set_39 (fun H locs hP hD hS => ?_)
        have eQ : upd (fun j : Nat => zI (a19_number (j : Int))) (zI (r0)).toNatClampNeg (zI (v)) = (fun j : Nat => zI (zup a19_number (r0) (v) (j : Int))) := zI_st a19_number (e := r0) (v := v) (by omega) (by omega)
        rw [eQ] at hP hD
        clear eQ
        have ra_2004 : ∀ j : Int, -2147483648 ≤ zup a19_number (r0) (v) j ∧ zup a19_number (r0) (v) j ≤ 2147483647 := zup_P (P := fun x9 => -2147483648 ≤ x9 ∧ x9 ≤ 2147483647) hR_a19_number (show -2147483648 ≤ (v) ∧ (v) ≤ 2147483647 by omega)
        obtain ⟨a_2004, ea_2004⟩ : ∃ a9 : Int → Int, a9 = zup a19_number (r0) (v) := ⟨_, rfl⟩
        rw [← ea_2004] at hP hD ra_2004
        have hP : va_P (dC, dI) vwQ [(h0, .inr (16, [v19_0, v19_1, v19_2, v19_3, v19_4, v19_5, v19_6, .ref q_1907, .ref q_1908, v19_9, v19_10, .int (zI (z19_changed)), v19_12, v19_13, v19_14, v19_15, v19_16, v19_17, v19_18, v19_19, v19_20, v19_21, v19_22, v19_23, v19_24, v19_25, v19_26, v19_27, v19_28, v19_29, v19_30, v19_31, v19_32, v19_33, v19_34, v19_35, v19_36, v19_37, v19_38, v19_39, v19_40])), (q_1907, .inl (cA_1907, 1002, .inl (fun j : Nat => zI (a_2003 (j : Int))))), (q_1908, .inl (cA_1908, 1002, .inl (fun j : Nat => zI (a_2004 (j : Int)))))] H := hP
        have hD : va_D A [(h0, .inr (16, [v19_0, v19_1, v19_2, v19_3, v19_4, v19_5, v19_6, .ref q_1907, .ref q_1908, v19_9, v19_10, .int (zI (z19_changed)), v19_12, v19_13, v19_14, v19_15, v19_16, v19_17, v19_18, v19_19, v19_20, v19_21, v19_22, v19_23, v19_24, v19_25, v19_26, v19_27, v19_28, v19_29, v19_30, v19_31, v19_32, v19_33, v19_34, v19_35, v19_36, v19_37, v19_38, v19_39, v19_40])), (q_1907, .inl (cA_1907, 1002, .inl (fun j : Nat => zI (a_2003 (j : Int))))), (q_1908, .inl (cA_1908, 1002, .inl (fun j : Nat => zI (a_2004 (j : Int)))))] := hD
        refine lv_aload_n hx hb dX19_set_40 rfl (lv_at hl 0 rfl) ?_
        refine lv_iconst (v := 1) hx hb dX19_set_41 (by decide) ?_
        refine va_put (D := (dC, dI)) (ci := 16) (v := .int 1) (ty := .boolean) (C := RX19) (T := TX19) (N := 41) hx hb hts mem_X19_setE_0 tyX19 tyX19_ok nmX19 hown hK hP hD hS 0 rfl rfl 11 (by decide) (ow (k := 2) rfl) (fun _ h9 => h9) rfl (by decide +kernel) rfl rfl (Nat.le_of_ble_eq_true rfl) dX19_set_42 (fun H locs hP hD hS => ?_)
        have hP : va_P (dC, dI) vwQ [(h0, .inr (16, [v19_0, v19_1, v19_2, v19_3, v19_4, v19_5, v19_6, .ref q_1907, .ref q_1908, v19_9, v19_10, .int 1, v19_12, v19_13, v19_14, v19_15, v19_16, v19_17, v19_18, v19_19, v19_20, v19_21, v19_22, v19_23, v19_24, v19_25, v19_26, v19_27, v19_28, v19_29, v19_30, v19_31, v19_32, v19_33, v19_34, v19_35, v19_36, v19_37, v19_38, v19_39, v19_40])), (q_1907, .inl (cA_1907, 1002, .inl (fun j : Nat => zI (a_2003 (j : Int))))), (q_1908, .inl (cA_1908, 1002, .inl (fun j : Nat => zI (a_2004 (j : Int)))))] H := hP
        have hD : va_D A [(h0, .inr (16, [v19_0, v19_1, v19_2, v19_3, v19_4, v19_5, v19_6, .ref q_1907, .ref q_1908, v19_9, v19_10, .int 1, v19_12, v19_13, v19_14, v19_15, v19_16, v19_17, v19_18, v19_19, v19_20, v19_21, v19_22, v19_23, v19_24, v19_25, v19_26, v19_27, v19_28, v19_29, v19_30, v19_31, v19_32, v19_33, v19_34, v19_35, v19_36, v19_37, v19_38, v19_39, v19_40])), (q_1907, .inl (cA_1907, 1002, .inl (fun j : Nat => zI (a_2003 (j : Int))))), (q_1908, .inl (cA_1908, 1002, .inl (fun j : Nat => zI (a_2004 (j : Int)))))] := hD
        subst hQ
        refine W.widen (k := 0) (n := 0) (Nat.le_of_ble_eq_true rfl) (Nat.le_of_ble_eq_true rfl) ?_
        exact W.vret hx hb hr (fun t ht hW => ⟨⟨(), rfl, trivial, 1, a_2003, a_2004, ⟨(by omega), ra_2003, ra_2004, (SET9.new (by omega) ea_2003 ea_2004 (by omega))⟩, by rw [ht]; exact hP, va_K.moved hW.alike hK, hD⟩, hS.F ht⟩) hS.2.2 dX19_set_45
      · have yb22 : (a19_number (r0) : Int) = (v : Int) := (zI_eq (a := a19_number (r0)) (b := v) (by omega) (by omega) (by omega) (by omega)).mp b22
        subst hQ
        refine W.widen (k := 0) (n := 0) (Nat.le_of_ble_eq_true rfl) (Nat.le_of_ble_eq_true rfl) ?_
        exact W.vret hx hb hr (fun t ht hW => ⟨⟨(), rfl, trivial, z19_changed, a19_state, a19_number, ⟨(by omega), hR_a19_state, hR_a19_number, (SET9.same (by omega) (by omega) (by omega))⟩, by rw [ht]; exact hP, va_K.moved hW.alike hK, hD⟩, hS.F ht⟩) hS.2.2 dX19_set_25
def o_X19_goE : List Cond := [.fieldLink RX19 250 "SsaForgeModel" "open" "[Z", .fieldLink RX19 256 "SsaForgeModel" "gone" "[Z", .fieldLink RX19 226 "SsaForgeModel" "changed" "Z"]
def v_X19_goE : List Cond := .code yX19_go cX19_go 4 none :: (o_X19_goE ++ (wsX190 ++ []))
theorem mow_X19_goE : ∀ w ∈ o_X19_goE, w ∈ v_X19_goE := fun _ h => List.mem_cons_of_mem _ (List.mem_append_left _ h)
theorem mem_X19_goE_0 : ∀ w ∈ wsX190, w ∈ v_X19_goE := fun _ h => List.mem_cons_of_mem _ (List.mem_append_right _ (List.mem_append_left _ h))
set_option maxRecDepth 20000 in
theorem gw_X19_goE : v_X19_goE.all goodWord = true := by decide +kernel
set_option maxHeartbeats 4000000 in
set_option maxRecDepth 100000 in
theorem c_X19_goE (l : Launch) (dC : Nat → ClassId) (dI : Nat → Nat → Nat) (h0 : Nat) (v19_0 : Value) (v19_1 : Value) (v19_2 : Value) (v19_3 : Value) (v19_4 : Value) (v19_5 : Value) (v19_6 : Value) (v19_7 : Value) (v19_8 : Value) (z19_changed : Int) (v19_12 : Value) (v19_13 : Value) (v19_14 : Value) (v19_15 : Value) (v19_16 : Value) (v19_17 : Value) (v19_18 : Value) (v19_19 : Value) (v19_20 : Value) (v19_21 : Value) (v19_22 : Value) (v19_23 : Value) (v19_24 : Value) (v19_25 : Value) (v19_26 : Value) (v19_27 : Value) (v19_28 : Value) (v19_29 : Value) (v19_30 : Value) (v19_31 : Value) (v19_32 : Value) (v19_33 : Value) (v19_34 : Value) (v19_35 : Value) (v19_36 : Value) (v19_37 : Value) (v19_38 : Value) (v19_39 : Value) (v19_40 : Value) (q_1909 : Nat) (cA_1909 : ClassId) (n19_gone : Nat) (a19_gone : Int → Int) (q_1910 : Nat) (cA_1910 : ClassId) (n19_open : Nat) (a19_open : Int → Int) (f0 : Int) (t0 : Int) (m0 : Int) (hNz19_changed : 0 ≤ z19_changed ∧ z19_changed ≤ 1) (hNn19_gone : n19_gone ≤ 1000) (hR_a19_gone : ∀ j : Int, 0 ≤ a19_gone j ∧ a19_gone j ≤ 1) (hNn19_open : n19_open ≤ 200000) (hR_a19_open : ∀ j : Int, 0 ≤ a19_open j ∧ a19_open j ≤ 1) (hNf : 0 ≤ f0 ∧ f0 < m0 ∧ 0 ≤ t0 ∧ t0 < m0 ∧ m0 ≤ 300) (hNm : 0 ≤ f0 * m0 ∧ f0 * m0 + t0 < n19_open ∧ m0 ≤ n19_gone) (sz : Nat) : Met l yX19_go v_X19_goE ({ frames := 0, cells := 0, slots := 0, locals := 0 }) (va_Pc [.ref h0, .int (zI (f0)), .int (zI (t0)), .int (zI (m0))] (fun U => U.heap.size = sz ∧ va_P (dC, dI) vwQ [(h0, .inr (16, [v19_0, v19_1, v19_2, v19_3, v19_4, v19_5, v19_6, v19_7, v19_8, .ref q_1909, .ref q_1910, .int (zI (z19_changed)), v19_12, v19_13, v19_14, v19_15, v19_16, v19_17, v19_18, v19_19, v19_20, v19_21, v19_22, v19_23, v19_24, v19_25, v19_26, v19_27, v19_28, v19_29, v19_30, v19_31, v19_32, v19_33, v19_34, v19_35, v19_36, v19_37, v19_38, v19_39, v19_40])), (q_1909, .inl (cA_1909, n19_gone, .inl (fun j : Nat => zI (a19_gone (j : Int))))), (q_1910, .inl (cA_1910, n19_open, .inl (fun j : Nat => zI (a19_open (j : Int)))))] U.heap ∧ va_K (dC, dI) vwQ [(cA_1909, .boolean), (cA_1910, .boolean)] U ∧ va_D (fun _ => True) [(h0, .inr (16, [v19_0, v19_1, v19_2, v19_3, v19_4, v19_5, v19_6, v19_7, v19_8, .ref q_1909, .ref q_1910, .int (zI (z19_changed)), v19_12, v19_13, v19_14, v19_15, v19_16, v19_17, v19_18, v19_19, v19_20, v19_21, v19_22, v19_23, v19_24, v19_25, v19_26, v19_27, v19_28, v19_29, v19_30, v19_31, v19_32, v19_33, v19_34, v19_35, v19_36, v19_37, v19_38, v19_39, v19_40])), (q_1909, .inl (cA_1909, n19_gone, .inl (fun j : Nat => zI (a19_gone (j : Int))))), (q_1910, .inl (cA_1910, n19_open, .inl (fun j : Nat => zI (a19_open (j : Int)))))])) (va_Qv (fun _ : Unit => True) (fun (_ : Unit) (t : State) => ∃ (z0_9 : Int) (a1_9 : Int → Int) (a2_9 : Int → Int), ((0 ≤ z0_9 ∧ z0_9 ≤ 1) ∧ (∀ j : Int, 0 ≤ a1_9 j ∧ a1_9 j ≤ 1) ∧ (∀ j : Int, 0 ≤ a2_9 j ∧ a2_9 j ≤ 1) ∧ (GOX a19_open a19_gone a2_9 a1_9 z19_changed (z0_9) (f0) (t0) (m0))) ∧ va_P (dC, dI) vwQ [(h0, .inr (16, [v19_0, v19_1, v19_2, v19_3, v19_4, v19_5, v19_6, v19_7, v19_8, .ref q_1909, .ref q_1910, .int (zI (z0_9)), v19_12, v19_13, v19_14, v19_15, v19_16, v19_17, v19_18, v19_19, v19_20, v19_21, v19_22, v19_23, v19_24, v19_25, v19_26, v19_27, v19_28, v19_29, v19_30, v19_31, v19_32, v19_33, v19_34, v19_35, v19_36, v19_37, v19_38, v19_39, v19_40])), (q_1909, .inl (cA_1909, n19_gone, .inl (fun j : Nat => zI (a1_9 (j : Int))))), (q_1910, .inl (cA_1910, n19_open, .inl (fun j : Nat => zI (a2_9 (j : Int)))))] t.heap ∧ va_K (dC, dI) vwQ [(cA_1909, .boolean), (cA_1910, .boolean)] t ∧ va_D (va_A [(h0, .inr (16, [v19_0, v19_1, v19_2, v19_3, v19_4, v19_5, v19_6, v19_7, v19_8, .ref q_1909, .ref q_1910, .int (zI (z19_changed)), v19_12, v19_13, v19_14, v19_15, v19_16, v19_17, v19_18, v19_19, v19_20, v19_21, v19_22, v19_23, v19_24, v19_25, v19_26, v19_27, v19_28, v19_29, v19_30, v19_31, v19_32, v19_33, v19_34, v19_35, v19_36, v19_37, v19_38, v19_39, v19_40])), (q_1909, .inl (cA_1909, n19_gone, .inl (fun j : Nat => zI (a19_gone (j : Int))))), (q_1910, .inl (cA_1910, n19_open, .inl (fun j : Nat => zI (a19_open (j : Int)))))] sz) [(h0, .inr (16, [v19_0, v19_1, v19_2, v19_3, v19_4, v19_5, v19_6, v19_7, v19_8, .ref q_1909, .ref q_1910, .int (zI (z0_9)), v19_12, v19_13, v19_14, v19_15, v19_16, v19_17, v19_18, v19_19, v19_20, v19_21, v19_22, v19_23, v19_24, v19_25, v19_26, v19_27, v19_28, v19_29, v19_30, v19_31, v19_32, v19_33, v19_34, v19_35, v19_36, v19_37, v19_38, v19_39, v19_40])), (q_1909, .inl (cA_1909, n19_gone, .inl (fun j : Nat => zI (a1_9 (j : Int))))), (q_1910, .inl (cA_1910, n19_open, .inl (fun j : Nat => zI (a2_9 (j : Int)))))]) (va_A [(h0, .inr (16, [v19_0, v19_1, v19_2, v19_3, v19_4, v19_5, v19_6, v19_7, v19_8, .ref q_1909, .ref q_1910, .int (zI (z19_changed)), v19_12, v19_13, v19_14, v19_15, v19_16, v19_17, v19_18, v19_19, v19_20, v19_21, v19_22, v19_23, v19_24, v19_25, v19_26, v19_27, v19_28, v19_29, v19_30, v19_31, v19_32, v19_33, v19_34, v19_35, v19_36, v19_37, v19_38, v19_39, v19_40])), (q_1909, .inl (cA_1909, n19_gone, .inl (fun j : Nat => zI (a19_gone (j : Int))))), (q_1910, .inl (cA_1910, n19_open, .inl (fun j : Nat => zI (a19_open (j : Int)))))] sz)) 0 0 (va_A [(h0, .inr (16, [v19_0, v19_1, v19_2, v19_3, v19_4, v19_5, v19_6, v19_7, v19_8, .ref q_1909, .ref q_1910, .int (zI (z19_changed)), v19_12, v19_13, v19_14, v19_15, v19_16, v19_17, v19_18, v19_19, v19_20, v19_21, v19_22, v19_23, v19_24, v19_25, v19_26, v19_27, v19_28, v19_29, v19_30, v19_31, v19_32, v19_33, v19_34, v19_35, v19_36, v19_37, v19_38, v19_39, v19_40])), (q_1909, .inl (cA_1909, n19_gone, .inl (fun j : Nat => zI (a19_gone (j : Int))))), (q_1910, .inl (cA_1910, n19_open, .inl (fun j : Nat => zI (a19_open (j : Int)))))] sz) := by
  refine Met.ofW (cc := cX19_go) (maxL := 4) (ret := none) (by decide) rfl ?_
  intro p e s m args below meth c s₁ B hml hv
  obtain ⟨rfl, hsz, hP, hK, hD0⟩ := hv
  have hx := B.exec
  have hb := B.bytes
  have hr := B.returns
  have hts := atoms_spec (ws := v_X19_goE) B.pre
  have hown : s.vm.findClass RX19 = some m.cls := findClass_of_methodNamed B.named
  have hlocks := B.notSynchronized
  have ow : ∀ {k : Nat} {w : Cond}, o_X19_goE[k]? = some w → w.before ([.ref h0, .int (zI (f0)), .int (zI (t0)), .int (zI (m0))] : List Value).toArray s = true := fun h => hts _ (mow_X19_goE _ (List.mem_of_getElem? h))
  subst hsz
  have hD := hD0.self (sz := s.heap.size)
  generalize hAe : va_A [(h0, .inr (16, [v19_0, v19_1, v19_2, v19_3, v19_4, v19_5, v19_6, v19_7, v19_8, .ref q_1909, .ref q_1910, .int (zI (z19_changed)), v19_12, v19_13, v19_14, v19_15, v19_16, v19_17, v19_18, v19_19, v19_20, v19_21, v19_22, v19_23, v19_24, v19_25, v19_26, v19_27, v19_28, v19_29, v19_30, v19_31, v19_32, v19_33, v19_34, v19_35, v19_36, v19_37, v19_38, v19_39, v19_40])), (q_1909, .inl (cA_1909, n19_gone, .inl (fun j : Nat => zI (a19_gone (j : Int))))), (q_1910, .inl (cA_1910, n19_open, .inl (fun j : Nat => zI (a19_open (j : Int)))))] s.heap.size = A at hD ⊢
  have hA : ∀ q : Nat, s.heap.size ≤ q → A q := fun q h => by rw [← hAe]; exact Or.inr h
  have hS : va_S A s.heap s.heap [] := va_S.rf
  have hP : va_P (dC, dI) vwQ [(h0, .inr (16, [v19_0, v19_1, v19_2, v19_3, v19_4, v19_5, v19_6, v19_7, v19_8, .ref q_1909, .ref q_1910, .int (zI (z19_changed)), v19_12, v19_13, v19_14, v19_15, v19_16, v19_17, v19_18, v19_19, v19_20, v19_21, v19_22, v19_23, v19_24, v19_25, v19_26, v19_27, v19_28, v19_29, v19_30, v19_31, v19_32, v19_33, v19_34, v19_35, v19_36, v19_37, v19_38, v19_39, v19_40])), (q_1909, .inl (cA_1909, n19_gone, .inl (fun j : Nat => zI (a19_gone (j : Int))))), (q_1910, .inl (cA_1910, n19_open, .inl (fun j : Nat => zI (a19_open (j : Int)))))] s.heap := hP
  have hl := lv_entry ([.ref h0, .int (zI (f0)), .int (zI (t0)), .int (zI (m0))]) (n := 4) (Nat.le_of_ble_eq_true rfl)
  rw [lg_entry_eq]
  generalize (lg_sl ([.ref h0, .int (zI (f0)), .int (zI (t0)), .int (zI (m0))]) ++ List.replicate (4 - (lg_sl ([.ref h0, .int (zI (f0)), .int (zI (t0)), .int (zI (m0))])).length) Slot.unset).toArray = ls at hl ⊢
  have hl : lv_has ls 4 [(0, .ref h0), (1, .int (zI (f0))), (2, .int (zI (t0))), (3, .int (zI (m0)))] := hl
  obtain ⟨H, hH⟩ : ∃ H, H = s.heap := ⟨_, rfl⟩
  rw [← hH] at hP
  have hS : va_S A s.heap H [] := by rw [hH]; exact hS
  rw [← hH]
  refine zW_cap (fun Q hQ => ?_)
  refine lv_aload_n hx hb dX19_go_0 rfl (lv_at hl 0 rfl) ?_
  refine va_get (D := (dC, dI)) (ci := 16) (v := .ref q_1910) (C := RX19) (T := TX19) (N := 41) hx hb hts mem_X19_goE_0 hown hK hP 0 rfl rfl 10 (by decide) (ow (k := 0) rfl) (fun _ h9 => h9) rfl dX19_go_1 ?_
  refine lv_iload_n hx hb dX19_go_4 rfl (lv_at hl 1 rfl) ?_
  refine lv_iload_n hx hb dX19_go_5 rfl (lv_at hl 3 rfl) ?_
  refine lv_imul hx hb dX19_go_6 ?_
  refine lv_topi (fun z ez => ?_)
  obtain rfl : z = zI (f0 * m0) := ez.trans (zI_mul (f0) (m0))
  refine lv_iload_n hx hb dX19_go_7 rfl (lv_at hl 2 rfl) ?_
  refine lv_iadd hx hb dX19_go_8 ?_
  refine lv_topi (fun z ez => ?_)
  obtain rfl : z = zI ((f0 * m0) + t0) := ez.trans (zI_add (f0 * m0) (t0))
  refine va_zald hx hb hK hP 2 1 rfl rfl (zI_in (a := (f0 * m0) + t0) (n := n19_open) (by omega) (by omega) (by omega)) dX19_go_9 ?_
  refine lv_topi (fun z ez => ?_)
  obtain rfl : z = zI (a19_open ((f0 * m0) + t0)) := ez.trans (zI_ld (a19_open) (by omega) (by omega))
  have k1 := hR_a19_open ((f0 * m0) + t0)
  refine lv_if_ne (tgt := 18) hx hb dX19_go_10 (by decide) (fun b10 => ?_) (fun b10 => ?_)
  · have yb10 : ¬ (a19_open ((f0 * m0) + t0) : Int) = (0 : Int) := fun q => b10 ((zI_eq (a := a19_open ((f0 * m0) + t0)) (b := 0) (by omega) (by omega) (by omega) (by omega)).mpr q)
    refine lv_aload_n hx hb dX19_go_18 rfl (lv_at hl 0 rfl) ?_
    refine va_get (D := (dC, dI)) (ci := 16) (v := .ref q_1910) (C := RX19) (T := TX19) (N := 41) hx hb hts mem_X19_goE_0 hown hK hP 0 rfl rfl 10 (by decide) (ow (k := 0) rfl) (fun _ h9 => h9) rfl dX19_go_19 ?_
    refine lv_iload_n hx hb dX19_go_22 rfl (lv_at hl 1 rfl) ?_
    refine lv_iload_n hx hb dX19_go_23 rfl (lv_at hl 3 rfl) ?_
    refine lv_imul hx hb dX19_go_24 ?_
    refine lv_topi (fun z ez => ?_)
    obtain rfl : z = zI (f0 * m0) := ez.trans (zI_mul (f0) (m0))
    refine lv_iload_n hx hb dX19_go_25 rfl (lv_at hl 2 rfl) ?_
    refine lv_iadd hx hb dX19_go_26 ?_
    refine lv_topi (fun z ez => ?_)
    obtain rfl : z = zI ((f0 * m0) + t0) := ez.trans (zI_add (f0 * m0) (t0))
    refine lv_iconst (v := 1) hx hb dX19_go_27 (by decide) ?_
    refine va_zast (i := zI ((f0 * m0) + t0)) hx hb hK hP hD hS 2 1 rfl rfl (zI_in (a := (f0 * m0) + t0) (n := n19_open) (by omega) (by omega) (by omega)) dX19_go_28 (fun H locs hP hD hS => ?_)
    rw [show vp_nar .boolean 1 = 1 from zI_nar (a := 1) (by omega) (by omega)] at hP hD
    have eQ : upd (fun j : Nat => zI (a19_open (j : Int))) (zI ((f0 * m0) + t0)).toNatClampNeg 1 = (fun j : Nat => zI (zup a19_open ((f0 * m0) + t0) (1) (j : Int))) := zI_st a19_open (e := (f0 * m0) + t0) (v := 1) (by omega) (by omega)
    rw [eQ] at hP hD
    clear eQ
    have ra_2001 : ∀ j : Int, 0 ≤ zup a19_open ((f0 * m0) + t0) (1) j ∧ zup a19_open ((f0 * m0) + t0) (1) j ≤ 1 := zup_P (P := fun x9 => 0 ≤ x9 ∧ x9 ≤ 1) hR_a19_open (show 0 ≤ (1) ∧ (1) ≤ 1 by omega)
    obtain ⟨a_2001, ea_2001⟩ : ∃ a9 : Int → Int, a9 = zup a19_open ((f0 * m0) + t0) (1) := ⟨_, rfl⟩
    rw [← ea_2001] at hP hD ra_2001
    have hP : va_P (dC, dI) vwQ [(h0, .inr (16, [v19_0, v19_1, v19_2, v19_3, v19_4, v19_5, v19_6, v19_7, v19_8, .ref q_1909, .ref q_1910, .int (zI (z19_changed)), v19_12, v19_13, v19_14, v19_15, v19_16, v19_17, v19_18, v19_19, v19_20, v19_21, v19_22, v19_23, v19_24, v19_25, v19_26, v19_27, v19_28, v19_29, v19_30, v19_31, v19_32, v19_33, v19_34, v19_35, v19_36, v19_37, v19_38, v19_39, v19_40])), (q_1909, .inl (cA_1909, n19_gone, .inl (fun j : Nat => zI (a19_gone (j : Int))))), (q_1910, .inl (cA_1910, n19_open, .inl (fun j : Nat => zI (a_2001 (j : Int)))))] H := hP
    have hD : va_D A [(h0, .inr (16, [v19_0, v19_1, v19_2, v19_3, v19_4, v19_5, v19_6, v19_7, v19_8, .ref q_1909, .ref q_1910, .int (zI (z19_changed)), v19_12, v19_13, v19_14, v19_15, v19_16, v19_17, v19_18, v19_19, v19_20, v19_21, v19_22, v19_23, v19_24, v19_25, v19_26, v19_27, v19_28, v19_29, v19_30, v19_31, v19_32, v19_33, v19_34, v19_35, v19_36, v19_37, v19_38, v19_39, v19_40])), (q_1909, .inl (cA_1909, n19_gone, .inl (fun j : Nat => zI (a19_gone (j : Int))))), (q_1910, .inl (cA_1910, n19_open, .inl (fun j : Nat => zI (a_2001 (j : Int)))))] := hD
    refine lv_aload_n hx hb dX19_go_29 rfl (lv_at hl 0 rfl) ?_
    refine va_get (D := (dC, dI)) (ci := 16) (v := .ref q_1909) (C := RX19) (T := TX19) (N := 41) hx hb hts mem_X19_goE_0 hown hK hP 0 rfl rfl 9 (by decide) (ow (k := 1) rfl) (fun _ h9 => h9) rfl dX19_go_30 ?_
    refine lv_iload_n hx hb dX19_go_33 rfl (lv_at hl 2 rfl) ?_
    refine va_zald hx hb hK hP 1 0 rfl rfl (zI_in (a := t0) (n := n19_gone) (by omega) (by omega) (by omega)) dX19_go_34 ?_
    refine lv_topi (fun z ez => ?_)
    obtain rfl : z = zI (a19_gone (t0)) := ez.trans (zI_ld (a19_gone) (by omega) (by omega))
    have k2 := hR_a19_gone (t0)
    refine lv_if_ne (tgt := 43) hx hb dX19_go_35 (by decide) (fun b35 => ?_) (fun b35 => ?_)
    · have yb35 : ¬ (a19_gone (t0) : Int) = (0 : Int) := fun q => b35 ((zI_eq (a := a19_gone (t0)) (b := 0) (by omega) (by omega) (by omega) (by omega)).mpr q)
      refine lv_aload_n hx hb dX19_go_43 rfl (lv_at hl 0 rfl) ?_
      refine va_get (D := (dC, dI)) (ci := 16) (v := .ref q_1909) (C := RX19) (T := TX19) (N := 41) hx hb hts mem_X19_goE_0 hown hK hP 0 rfl rfl 9 (by decide) (ow (k := 1) rfl) (fun _ h9 => h9) rfl dX19_go_44 ?_
      refine lv_iload_n hx hb dX19_go_47 rfl (lv_at hl 2 rfl) ?_
      refine lv_iconst (v := 1) hx hb dX19_go_48 (by decide) ?_
      refine va_zast (i := zI (t0)) hx hb hK hP hD hS 1 0 rfl rfl (zI_in (a := t0) (n := n19_gone) (by omega) (by omega) (by omega)) dX19_go_49 (fun H locs hP hD hS => ?_)
      rw [show vp_nar .boolean 1 = 1 from zI_nar (a := 1) (by omega) (by omega)] at hP hD
      have eQ : upd (fun j : Nat => zI (a19_gone (j : Int))) (zI (t0)).toNatClampNeg 1 = (fun j : Nat => zI (zup a19_gone (t0) (1) (j : Int))) := zI_st a19_gone (e := t0) (v := 1) (by omega) (by omega)
      rw [eQ] at hP hD
      clear eQ
      have ra_2002 : ∀ j : Int, 0 ≤ zup a19_gone (t0) (1) j ∧ zup a19_gone (t0) (1) j ≤ 1 := zup_P (P := fun x9 => 0 ≤ x9 ∧ x9 ≤ 1) hR_a19_gone (show 0 ≤ (1) ∧ (1) ≤ 1 by omega)
      obtain ⟨a_2002, ea_2002⟩ : ∃ a9 : Int → Int, a9 = zup a19_gone (t0) (1) := ⟨_, rfl⟩
      rw [← ea_2002] at hP hD ra_2002
      have hP : va_P (dC, dI) vwQ [(h0, .inr (16, [v19_0, v19_1, v19_2, v19_3, v19_4, v19_5, v19_6, v19_7, v19_8, .ref q_1909, .ref q_1910, .int (zI (z19_changed)), v19_12, v19_13, v19_14, v19_15, v19_16, v19_17, v19_18, v19_19, v19_20, v19_21, v19_22, v19_23, v19_24, v19_25, v19_26, v19_27, v19_28, v19_29, v19_30, v19_31, v19_32, v19_33, v19_34, v19_35, v19_36, v19_37, v19_38, v19_39, v19_40])), (q_1909, .inl (cA_1909, n19_gone, .inl (fun j : Nat => zI (a_2002 (j : Int))))), (q_1910, .inl (cA_1910, n19_open, .inl (fun j : Nat => zI (a_2001 (j : Int)))))] H := hP
      have hD : va_D A [(h0, .inr (16, [v19_0, v19_1, v19_2, v19_3, v19_4, v19_5, v19_6, v19_7, v19_8, .ref q_1909, .ref q_1910, .int (zI (z19_changed)), v19_12, v19_13, v19_14, v19_15, v19_16, v19_17, v19_18, v19_19, v19_20, v19_21, v19_22, v19_23, v19_24, v19_25, v19_26, v19_27, v19_28, v19_29, v19_30, v19_31, v19_32, v19_33, v19_34, v19_35, v19_36, v19_37, v19_38, v19_39, v19_40])), (q_1909, .inl (cA_1909, n19_gone, .inl (fun j : Nat => zI (a_2002 (j : Int))))), (q_1910, .inl (cA_1910, n19_open, .inl (fun j : Nat => zI (a_2001 (j : Int)))))] := hD
      subst hQ
      refine W.widen (k := 0) (n := 0) (Nat.le_of_ble_eq_true rfl) (Nat.le_of_ble_eq_true rfl) ?_
      exact W.vret hx hb hr (fun t ht hW => ⟨⟨(), rfl, trivial, z19_changed, a_2002, a_2001, ⟨(by omega), ra_2002, ra_2001, ⟨⟨ea_2001, ea_2002⟩, (by first | exact Or.inl ⟨by omega, by omega, by omega⟩ | exact Or.inr ⟨by omega, by omega⟩)⟩⟩, by rw [ht]; exact hP, va_K.moved hW.alike hK, hD⟩, hS.F ht⟩) hS.2.2 dX19_go_50
    · have yb35 : (a19_gone (t0) : Int) = (0 : Int) := (zI_eq (a := a19_gone (t0)) (b := 0) (by omega) (by omega) (by omega) (by omega)).mp b35
      refine lv_aload_n hx hb dX19_go_38 rfl (lv_at hl 0 rfl) ?_
      refine lv_iconst (v := 1) hx hb dX19_go_39 (by decide) ?_
      refine va_put (D := (dC, dI)) (ci := 16) (v := .int 1) (ty := .boolean) (C := RX19) (T := TX19) (N := 41) hx hb hts mem_X19_goE_0 tyX19 tyX19_ok nmX19 hown hK hP hD hS 0 rfl rfl 11 (by decide) (ow (k := 2) rfl) (fun _ h9 => h9) rfl (by decide +kernel) rfl rfl (Nat.le_of_ble_eq_true rfl) dX19_go_40 (fun H locs hP hD hS => ?_)
      have hP : va_P (dC, dI) vwQ [(h0, .inr (16, [v19_0, v19_1, v19_2, v19_3, v19_4, v19_5, v19_6, v19_7, v19_8, .ref q_1909, .ref q_1910, .int 1, v19_12, v19_13, v19_14, v19_15, v19_16, v19_17, v19_18, v19_19, v19_20, v19_21, v19_22, v19_23, v19_24, v19_25, v19_26, v19_27, v19_28, v19_29, v19_30, v19_31, v19_32, v19_33, v19_34, v19_35, v19_36, v19_37, v19_38, v19_39, v19_40])), (q_1909, .inl (cA_1909, n19_gone, .inl (fun j : Nat => zI (a19_gone (j : Int))))), (q_1910, .inl (cA_1910, n19_open, .inl (fun j : Nat => zI (a_2001 (j : Int)))))] H := hP
      have hD : va_D A [(h0, .inr (16, [v19_0, v19_1, v19_2, v19_3, v19_4, v19_5, v19_6, v19_7, v19_8, .ref q_1909, .ref q_1910, .int 1, v19_12, v19_13, v19_14, v19_15, v19_16, v19_17, v19_18, v19_19, v19_20, v19_21, v19_22, v19_23, v19_24, v19_25, v19_26, v19_27, v19_28, v19_29, v19_30, v19_31, v19_32, v19_33, v19_34, v19_35, v19_36, v19_37, v19_38, v19_39, v19_40])), (q_1909, .inl (cA_1909, n19_gone, .inl (fun j : Nat => zI (a19_gone (j : Int))))), (q_1910, .inl (cA_1910, n19_open, .inl (fun j : Nat => zI (a_2001 (j : Int)))))] := hD
      refine lv_aload_n hx hb dX19_go_43 rfl (lv_at hl 0 rfl) ?_
      refine va_get (D := (dC, dI)) (ci := 16) (v := .ref q_1909) (C := RX19) (T := TX19) (N := 41) hx hb hts mem_X19_goE_0 hown hK hP 0 rfl rfl 9 (by decide) (ow (k := 1) rfl) (fun _ h9 => h9) rfl dX19_go_44 ?_
      refine lv_iload_n hx hb dX19_go_47 rfl (lv_at hl 2 rfl) ?_
      refine lv_iconst (v := 1) hx hb dX19_go_48 (by decide) ?_
      refine va_zast (i := zI (t0)) hx hb hK hP hD hS 1 0 rfl rfl (zI_in (a := t0) (n := n19_gone) (by omega) (by omega) (by omega)) dX19_go_49 (fun H locs hP hD hS => ?_)
      rw [show vp_nar .boolean 1 = 1 from zI_nar (a := 1) (by omega) (by omega)] at hP hD
      have eQ : upd (fun j : Nat => zI (a19_gone (j : Int))) (zI (t0)).toNatClampNeg 1 = (fun j : Nat => zI (zup a19_gone (t0) (1) (j : Int))) := zI_st a19_gone (e := t0) (v := 1) (by omega) (by omega)
      rw [eQ] at hP hD
      clear eQ
      have ra_2003 : ∀ j : Int, 0 ≤ zup a19_gone (t0) (1) j ∧ zup a19_gone (t0) (1) j ≤ 1 := zup_P (P := fun x9 => 0 ≤ x9 ∧ x9 ≤ 1) hR_a19_gone (show 0 ≤ (1) ∧ (1) ≤ 1 by omega)
      obtain ⟨a_2003, ea_2003⟩ : ∃ a9 : Int → Int, a9 = zup a19_gone (t0) (1) := ⟨_, rfl⟩
      rw [← ea_2003] at hP hD ra_2003
      have hP : va_P (dC, dI) vwQ [(h0, .inr (16, [v19_0, v19_1, v19_2, v19_3, v19_4, v19_5, v19_6, v19_7, v19_8, .ref q_1909, .ref q_1910, .int 1, v19_12, v19_13, v19_14, v19_15, v19_16, v19_17, v19_18, v19_19, v19_20, v19_21, v19_22, v19_23, v19_24, v19_25, v19_26, v19_27, v19_28, v19_29, v19_30, v19_31, v19_32, v19_33, v19_34, v19_35, v19_36, v19_37, v19_38, v19_39, v19_40])), (q_1909, .inl (cA_1909, n19_gone, .inl (fun j : Nat => zI (a_2003 (j : Int))))), (q_1910, .inl (cA_1910, n19_open, .inl (fun j : Nat => zI (a_2001 (j : Int)))))] H := hP
      have hD : va_D A [(h0, .inr (16, [v19_0, v19_1, v19_2, v19_3, v19_4, v19_5, v19_6, v19_7, v19_8, .ref q_1909, .ref q_1910, .int 1, v19_12, v19_13, v19_14, v19_15, v19_16, v19_17, v19_18, v19_19, v19_20, v19_21, v19_22, v19_23, v19_24, v19_25, v19_26, v19_27, v19_28, v19_29, v19_30, v19_31, v19_32, v19_33, v19_34, v19_35, v19_36, v19_37, v19_38, v19_39, v19_40])), (q_1909, .inl (cA_1909, n19_gone, .inl (fun j : Nat => zI (a_2003 (j : Int))))), (q_1910, .inl (cA_1910, n19_open, .inl (fun j : Nat => zI (a_2001 (j : Int)))))] := hD
      subst hQ
      refine W.widen (k := 0) (n := 0) (Nat.le_of_ble_eq_true rfl) (Nat.le_of_ble_eq_true rfl) ?_
      exact W.vret hx hb hr (fun t ht hW => ⟨⟨(), rfl, trivial, 1, a_2003, a_2001, ⟨(by omega), ra_2003, ra_2001, ⟨⟨ea_2001, ea_2003⟩, (by first | exact Or.inl ⟨by omega, by omega, by omega⟩ | exact Or.inr ⟨by omega, by omega⟩)⟩⟩, by rw [ht]; exact hP, va_K.moved hW.alike hK, hD⟩, hS.F ht⟩) hS.2.2 dX19_go_50
  · have yb10 : (a19_open ((f0 * m0) + t0) : Int) = (0 : Int) := (zI_eq (a := a19_open ((f0 * m0) + t0)) (b := 0) (by omega) (by omega) (by omega) (by omega)).mp b10
    refine lv_aload_n hx hb dX19_go_13 rfl (lv_at hl 0 rfl) ?_
    refine lv_iconst (v := 1) hx hb dX19_go_14 (by decide) ?_
    refine va_put (D := (dC, dI)) (ci := 16) (v := .int 1) (ty := .boolean) (C := RX19) (T := TX19) (N := 41) hx hb hts mem_X19_goE_0 tyX19 tyX19_ok nmX19 hown hK hP hD hS 0 rfl rfl 11 (by decide) (ow (k := 2) rfl) (fun _ h9 => h9) rfl (by decide +kernel) rfl rfl (Nat.le_of_ble_eq_true rfl) dX19_go_15 (fun H locs hP hD hS => ?_)
    have hP : va_P (dC, dI) vwQ [(h0, .inr (16, [v19_0, v19_1, v19_2, v19_3, v19_4, v19_5, v19_6, v19_7, v19_8, .ref q_1909, .ref q_1910, .int 1, v19_12, v19_13, v19_14, v19_15, v19_16, v19_17, v19_18, v19_19, v19_20, v19_21, v19_22, v19_23, v19_24, v19_25, v19_26, v19_27, v19_28, v19_29, v19_30, v19_31, v19_32, v19_33, v19_34, v19_35, v19_36, v19_37, v19_38, v19_39, v19_40])), (q_1909, .inl (cA_1909, n19_gone, .inl (fun j : Nat => zI (a19_gone (j : Int))))), (q_1910, .inl (cA_1910, n19_open, .inl (fun j : Nat => zI (a19_open (j : Int)))))] H := hP
    have hD : va_D A [(h0, .inr (16, [v19_0, v19_1, v19_2, v19_3, v19_4, v19_5, v19_6, v19_7, v19_8, .ref q_1909, .ref q_1910, .int 1, v19_12, v19_13, v19_14, v19_15, v19_16, v19_17, v19_18, v19_19, v19_20, v19_21, v19_22, v19_23, v19_24, v19_25, v19_26, v19_27, v19_28, v19_29, v19_30, v19_31, v19_32, v19_33, v19_34, v19_35, v19_36, v19_37, v19_38, v19_39, v19_40])), (q_1909, .inl (cA_1909, n19_gone, .inl (fun j : Nat => zI (a19_gone (j : Int))))), (q_1910, .inl (cA_1910, n19_open, .inl (fun j : Nat => zI (a19_open (j : Int)))))] := hD
    refine lv_aload_n hx hb dX19_go_18 rfl (lv_at hl 0 rfl) ?_
    refine va_get (D := (dC, dI)) (ci := 16) (v := .ref q_1910) (C := RX19) (T := TX19) (N := 41) hx hb hts mem_X19_goE_0 hown hK hP 0 rfl rfl 10 (by decide) (ow (k := 0) rfl) (fun _ h9 => h9) rfl dX19_go_19 ?_
    refine lv_iload_n hx hb dX19_go_22 rfl (lv_at hl 1 rfl) ?_
    refine lv_iload_n hx hb dX19_go_23 rfl (lv_at hl 3 rfl) ?_
    refine lv_imul hx hb dX19_go_24 ?_
    refine lv_topi (fun z ez => ?_)
    obtain rfl : z = zI (f0 * m0) := ez.trans (zI_mul (f0) (m0))
    refine lv_iload_n hx hb dX19_go_25 rfl (lv_at hl 2 rfl) ?_
    refine lv_iadd hx hb dX19_go_26 ?_
    refine lv_topi (fun z ez => ?_)
    obtain rfl : z = zI ((f0 * m0) + t0) := ez.trans (zI_add (f0 * m0) (t0))
    refine lv_iconst (v := 1) hx hb dX19_go_27 (by decide) ?_
    refine va_zast (i := zI ((f0 * m0) + t0)) hx hb hK hP hD hS 2 1 rfl rfl (zI_in (a := (f0 * m0) + t0) (n := n19_open) (by omega) (by omega) (by omega)) dX19_go_28 (fun H locs hP hD hS => ?_)
    rw [show vp_nar .boolean 1 = 1 from zI_nar (a := 1) (by omega) (by omega)] at hP hD
    have eQ : upd (fun j : Nat => zI (a19_open (j : Int))) (zI ((f0 * m0) + t0)).toNatClampNeg 1 = (fun j : Nat => zI (zup a19_open ((f0 * m0) + t0) (1) (j : Int))) := zI_st a19_open (e := (f0 * m0) + t0) (v := 1) (by omega) (by omega)
    rw [eQ] at hP hD
    clear eQ
    have ra_2004 : ∀ j : Int, 0 ≤ zup a19_open ((f0 * m0) + t0) (1) j ∧ zup a19_open ((f0 * m0) + t0) (1) j ≤ 1 := zup_P (P := fun x9 => 0 ≤ x9 ∧ x9 ≤ 1) hR_a19_open (show 0 ≤ (1) ∧ (1) ≤ 1 by omega)
    obtain ⟨a_2004, ea_2004⟩ : ∃ a9 : Int → Int, a9 = zup a19_open ((f0 * m0) + t0) (1) := ⟨_, rfl⟩
    rw [← ea_2004] at hP hD ra_2004
    have hP : va_P (dC, dI) vwQ [(h0, .inr (16, [v19_0, v19_1, v19_2, v19_3, v19_4, v19_5, v19_6, v19_7, v19_8, .ref q_1909, .ref q_1910, .int 1, v19_12, v19_13, v19_14, v19_15, v19_16, v19_17, v19_18, v19_19, v19_20, v19_21, v19_22, v19_23, v19_24, v19_25, v19_26, v19_27, v19_28, v19_29, v19_30, v19_31, v19_32, v19_33, v19_34, v19_35, v19_36, v19_37, v19_38, v19_39, v19_40])), (q_1909, .inl (cA_1909, n19_gone, .inl (fun j : Nat => zI (a19_gone (j : Int))))), (q_1910, .inl (cA_1910, n19_open, .inl (fun j : Nat => zI (a_2004 (j : Int)))))] H := hP
    have hD : va_D A [(h0, .inr (16, [v19_0, v19_1, v19_2, v19_3, v19_4, v19_5, v19_6, v19_7, v19_8, .ref q_1909, .ref q_1910, .int 1, v19_12, v19_13, v19_14, v19_15, v19_16, v19_17, v19_18, v19_19, v19_20, v19_21, v19_22, v19_23, v19_24, v19_25, v19_26, v19_27, v19_28, v19_29, v19_30, v19_31, v19_32, v19_33, v19_34, v19_35, v19_36, v19_37, v19_38, v19_39, v19_40])), (q_1909, .inl (cA_1909, n19_gone, .inl (fun j : Nat => zI (a19_gone (j : Int))))), (q_1910, .inl (cA_1910, n19_open, .inl (fun j : Nat => zI (a_2004 (j : Int)))))] := hD
    refine lv_aload_n hx hb dX19_go_29 rfl (lv_at hl 0 rfl) ?_
    refine va_get (D := (dC, dI)) (ci := 16) (v := .ref q_1909) (C := RX19) (T := TX19) (N := 41) hx hb hts mem_X19_goE_0 hown hK hP 0 rfl rfl 9 (by decide) (ow (k := 1) rfl) (fun _ h9 => h9) rfl dX19_go_30 ?_
    refine lv_iload_n hx hb dX19_go_33 rfl (lv_at hl 2 rfl) ?_
    refine va_zald hx hb hK hP 1 0 rfl rfl (zI_in (a := t0) (n := n19_gone) (by omega) (by omega) (by omega)) dX19_go_34 ?_
    refine lv_topi (fun z ez => ?_)
    obtain rfl : z = zI (a19_gone (t0)) := ez.trans (zI_ld (a19_gone) (by omega) (by omega))
    have k3 := hR_a19_gone (t0)
    refine lv_if_ne (tgt := 43) hx hb dX19_go_35 (by decide) (fun b35 => ?_) (fun b35 => ?_)
    · have yb35 : ¬ (a19_gone (t0) : Int) = (0 : Int) := fun q => b35 ((zI_eq (a := a19_gone (t0)) (b := 0) (by omega) (by omega) (by omega) (by omega)).mpr q)
      refine lv_aload_n hx hb dX19_go_43 rfl (lv_at hl 0 rfl) ?_
      refine va_get (D := (dC, dI)) (ci := 16) (v := .ref q_1909) (C := RX19) (T := TX19) (N := 41) hx hb hts mem_X19_goE_0 hown hK hP 0 rfl rfl 9 (by decide) (ow (k := 1) rfl) (fun _ h9 => h9) rfl dX19_go_44 ?_
      refine lv_iload_n hx hb dX19_go_47 rfl (lv_at hl 2 rfl) ?_
      refine lv_iconst (v := 1) hx hb dX19_go_48 (by decide) ?_
      refine va_zast (i := zI (t0)) hx hb hK hP hD hS 1 0 rfl rfl (zI_in (a := t0) (n := n19_gone) (by omega) (by omega) (by omega)) dX19_go_49 (fun H locs hP hD hS => ?_)
      rw [show vp_nar .boolean 1 = 1 from zI_nar (a := 1) (by omega) (by omega)] at hP hD
      have eQ : upd (fun j : Nat => zI (a19_gone (j : Int))) (zI (t0)).toNatClampNeg 1 = (fun j : Nat => zI (zup a19_gone (t0) (1) (j : Int))) := zI_st a19_gone (e := t0) (v := 1) (by omega) (by omega)
      rw [eQ] at hP hD
      clear eQ
      have ra_2005 : ∀ j : Int, 0 ≤ zup a19_gone (t0) (1) j ∧ zup a19_gone (t0) (1) j ≤ 1 := zup_P (P := fun x9 => 0 ≤ x9 ∧ x9 ≤ 1) hR_a19_gone (show 0 ≤ (1) ∧ (1) ≤ 1 by omega)
      obtain ⟨a_2005, ea_2005⟩ : ∃ a9 : Int → Int, a9 = zup a19_gone (t0) (1) := ⟨_, rfl⟩
      rw [← ea_2005] at hP hD ra_2005
      have hP : va_P (dC, dI) vwQ [(h0, .inr (16, [v19_0, v19_1, v19_2, v19_3, v19_4, v19_5, v19_6, v19_7, v19_8, .ref q_1909, .ref q_1910, .int 1, v19_12, v19_13, v19_14, v19_15, v19_16, v19_17, v19_18, v19_19, v19_20, v19_21, v19_22, v19_23, v19_24, v19_25, v19_26, v19_27, v19_28, v19_29, v19_30, v19_31, v19_32, v19_33, v19_34, v19_35, v19_36, v19_37, v19_38, v19_39, v19_40])), (q_1909, .inl (cA_1909, n19_gone, .inl (fun j : Nat => zI (a_2005 (j : Int))))), (q_1910, .inl (cA_1910, n19_open, .inl (fun j : Nat => zI (a_2004 (j : Int)))))] H := hP
      have hD : va_D A [(h0, .inr (16, [v19_0, v19_1, v19_2, v19_3, v19_4, v19_5, v19_6, v19_7, v19_8, .ref q_1909, .ref q_1910, .int 1, v19_12, v19_13, v19_14, v19_15, v19_16, v19_17, v19_18, v19_19, v19_20, v19_21, v19_22, v19_23, v19_24, v19_25, v19_26, v19_27, v19_28, v19_29, v19_30, v19_31, v19_32, v19_33, v19_34, v19_35, v19_36, v19_37, v19_38, v19_39, v19_40])), (q_1909, .inl (cA_1909, n19_gone, .inl (fun j : Nat => zI (a_2005 (j : Int))))), (q_1910, .inl (cA_1910, n19_open, .inl (fun j : Nat => zI (a_2004 (j : Int)))))] := hD
      subst hQ
      refine W.widen (k := 0) (n := 0) (Nat.le_of_ble_eq_true rfl) (Nat.le_of_ble_eq_true rfl) ?_
      exact W.vret hx hb hr (fun t ht hW => ⟨⟨(), rfl, trivial, 1, a_2005, a_2004, ⟨(by omega), ra_2005, ra_2004, ⟨⟨ea_2004, ea_2005⟩, (by first | exact Or.inl ⟨by omega, by omega, by omega⟩ | exact Or.inr ⟨by omega, by omega⟩)⟩⟩, by rw [ht]; exact hP, va_K.moved hW.alike hK, hD⟩, hS.F ht⟩) hS.2.2 dX19_go_50
    · have yb35 : (a19_gone (t0) : Int) = (0 : Int) := (zI_eq (a := a19_gone (t0)) (b := 0) (by omega) (by omega) (by omega) (by omega)).mp b35
      refine lv_aload_n hx hb dX19_go_38 rfl (lv_at hl 0 rfl) ?_
      refine lv_iconst (v := 1) hx hb dX19_go_39 (by decide) ?_
      refine va_put (D := (dC, dI)) (ci := 16) (v := .int 1) (ty := .boolean) (C := RX19) (T := TX19) (N := 41) hx hb hts mem_X19_goE_0 tyX19 tyX19_ok nmX19 hown hK hP hD hS 0 rfl rfl 11 (by decide) (ow (k := 2) rfl) (fun _ h9 => h9) rfl (by decide +kernel) rfl rfl (Nat.le_of_ble_eq_true rfl) dX19_go_40 (fun H locs hP hD hS => ?_)
      have hP : va_P (dC, dI) vwQ [(h0, .inr (16, [v19_0, v19_1, v19_2, v19_3, v19_4, v19_5, v19_6, v19_7, v19_8, .ref q_1909, .ref q_1910, .int 1, v19_12, v19_13, v19_14, v19_15, v19_16, v19_17, v19_18, v19_19, v19_20, v19_21, v19_22, v19_23, v19_24, v19_25, v19_26, v19_27, v19_28, v19_29, v19_30, v19_31, v19_32, v19_33, v19_34, v19_35, v19_36, v19_37, v19_38, v19_39, v19_40])), (q_1909, .inl (cA_1909, n19_gone, .inl (fun j : Nat => zI (a19_gone (j : Int))))), (q_1910, .inl (cA_1910, n19_open, .inl (fun j : Nat => zI (a_2004 (j : Int)))))] H := hP
      have hD : va_D A [(h0, .inr (16, [v19_0, v19_1, v19_2, v19_3, v19_4, v19_5, v19_6, v19_7, v19_8, .ref q_1909, .ref q_1910, .int 1, v19_12, v19_13, v19_14, v19_15, v19_16, v19_17, v19_18, v19_19, v19_20, v19_21, v19_22, v19_23, v19_24, v19_25, v19_26, v19_27, v19_28, v19_29, v19_30, v19_31, v19_32, v19_33, v19_34, v19_35, v19_36, v19_37, v19_38, v19_39, v19_40])), (q_1909, .inl (cA_1909, n19_gone, .inl (fun j : Nat => zI (a19_gone (j : Int))))), (q_1910, .inl (cA_1910, n19_open, .inl (fun j : Nat => zI (a_2004 (j : Int)))))] := hD
      refine lv_aload_n hx hb dX19_go_43 rfl (lv_at hl 0 rfl) ?_
      refine va_get (D := (dC, dI)) (ci := 16) (v := .ref q_1909) (C := RX19) (T := TX19) (N := 41) hx hb hts mem_X19_goE_0 hown hK hP 0 rfl rfl 9 (by decide) (ow (k := 1) rfl) (fun _ h9 => h9) rfl dX19_go_44 ?_
      refine lv_iload_n hx hb dX19_go_47 rfl (lv_at hl 2 rfl) ?_
      refine lv_iconst (v := 1) hx hb dX19_go_48 (by decide) ?_
      refine va_zast (i := zI (t0)) hx hb hK hP hD hS 1 0 rfl rfl (zI_in (a := t0) (n := n19_gone) (by omega) (by omega) (by omega)) dX19_go_49 (fun H locs hP hD hS => ?_)
      rw [show vp_nar .boolean 1 = 1 from zI_nar (a := 1) (by omega) (by omega)] at hP hD
      have eQ : upd (fun j : Nat => zI (a19_gone (j : Int))) (zI (t0)).toNatClampNeg 1 = (fun j : Nat => zI (zup a19_gone (t0) (1) (j : Int))) := zI_st a19_gone (e := t0) (v := 1) (by omega) (by omega)
      rw [eQ] at hP hD
      clear eQ
      have ra_2006 : ∀ j : Int, 0 ≤ zup a19_gone (t0) (1) j ∧ zup a19_gone (t0) (1) j ≤ 1 := zup_P (P := fun x9 => 0 ≤ x9 ∧ x9 ≤ 1) hR_a19_gone (show 0 ≤ (1) ∧ (1) ≤ 1 by omega)
      obtain ⟨a_2006, ea_2006⟩ : ∃ a9 : Int → Int, a9 = zup a19_gone (t0) (1) := ⟨_, rfl⟩
      rw [← ea_2006] at hP hD ra_2006
      have hP : va_P (dC, dI) vwQ [(h0, .inr (16, [v19_0, v19_1, v19_2, v19_3, v19_4, v19_5, v19_6, v19_7, v19_8, .ref q_1909, .ref q_1910, .int 1, v19_12, v19_13, v19_14, v19_15, v19_16, v19_17, v19_18, v19_19, v19_20, v19_21, v19_22, v19_23, v19_24, v19_25, v19_26, v19_27, v19_28, v19_29, v19_30, v19_31, v19_32, v19_33, v19_34, v19_35, v19_36, v19_37, v19_38, v19_39, v19_40])), (q_1909, .inl (cA_1909, n19_gone, .inl (fun j : Nat => zI (a_2006 (j : Int))))), (q_1910, .inl (cA_1910, n19_open, .inl (fun j : Nat => zI (a_2004 (j : Int)))))] H := hP
      have hD : va_D A [(h0, .inr (16, [v19_0, v19_1, v19_2, v19_3, v19_4, v19_5, v19_6, v19_7, v19_8, .ref q_1909, .ref q_1910, .int 1, v19_12, v19_13, v19_14, v19_15, v19_16, v19_17, v19_18, v19_19, v19_20, v19_21, v19_22, v19_23, v19_24, v19_25, v19_26, v19_27, v19_28, v19_29, v19_30, v19_31, v19_32, v19_33, v19_34, v19_35, v19_36, v19_37, v19_38, v19_39, v19_40])), (q_1909, .inl (cA_1909, n19_gone, .inl (fun j : Nat => zI (a_2006 (j : Int))))), (q_1910, .inl (cA_1910, n19_open, .inl (fun j : Nat => zI (a_2004 (j : Int)))))] := hD
      subst hQ
      refine W.widen (k := 0) (n := 0) (Nat.le_of_ble_eq_true rfl) (Nat.le_of_ble_eq_true rfl) ?_
      exact W.vret hx hb hr (fun t ht hW => ⟨⟨(), rfl, trivial, 1, a_2006, a_2004, ⟨(by omega), ra_2006, ra_2004, ⟨⟨ea_2004, ea_2006⟩, (by first | exact Or.inl ⟨by omega, by omega, by omega⟩ | exact Or.inr ⟨by omega, by omega⟩)⟩⟩, by rw [ht]; exact hP, va_K.moved hW.alike hK, hD⟩, hS.F ht⟩) hS.2.2 dX19_go_50
