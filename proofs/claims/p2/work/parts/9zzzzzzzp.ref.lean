theorem dX19_result_0 : decode cX19_result 0 = .ok (.iload_n 0, 1) := by decide +kernel
theorem dX19_result_1 : decode cX19_result 1 = .ok (.tableswitch 201 1 13 #[67, 74, 81, 88, 103, 118, 125, 132, 139, 149, 159, 173, 187], 67) := by decide +kernel
theorem dX19_result_68 : decode cX19_result 68 = .ok (.iload_n 1, 1) := by decide +kernel
theorem dX19_result_69 : decode cX19_result 69 = .ok (.iload_n 2, 1) := by decide +kernel
theorem dX19_result_70 : decode cX19_result 70 = .ok (.iadd, 1) := by decide +kernel
theorem dX19_result_71 : decode cX19_result 71 = .ok (.istore_n 3, 1) := by decide +kernel
theorem dX19_result_72 : decode cX19_result 72 = .ok (.goto 141, 3) := by decide +kernel
theorem dX19_result_213 : decode cX19_result 213 = .ok (.iload_n 3, 1) := by decide +kernel
theorem dX19_result_214 : decode cX19_result 214 = .ok (.i2l, 1) := by decide +kernel
theorem dX19_result_215 : decode cX19_result 215 = .ok (.ldc2_w 218, 3) := by decide +kernel
theorem dX19_result_218 : decode cX19_result 218 = .ok (.land, 1) := by decide +kernel
theorem dX19_result_219 : decode cX19_result 219 = .ok (.lreturn, 1) := by decide +kernel
theorem dX19_result_75 : decode cX19_result 75 = .ok (.iload_n 1, 1) := by decide +kernel
theorem dX19_result_76 : decode cX19_result 76 = .ok (.iload_n 2, 1) := by decide +kernel
theorem dX19_result_77 : decode cX19_result 77 = .ok (.isub, 1) := by decide +kernel
theorem dX19_result_78 : decode cX19_result 78 = .ok (.istore_n 3, 1) := by decide +kernel
theorem dX19_result_79 : decode cX19_result 79 = .ok (.goto 134, 3) := by decide +kernel
theorem dX19_result_82 : decode cX19_result 82 = .ok (.iload_n 1, 1) := by decide +kernel
theorem dX19_result_83 : decode cX19_result 83 = .ok (.iload_n 2, 1) := by decide +kernel
theorem dX19_result_84 : decode cX19_result 84 = .ok (.imul, 1) := by decide +kernel
theorem dX19_result_85 : decode cX19_result 85 = .ok (.istore_n 3, 1) := by decide +kernel
theorem dX19_result_86 : decode cX19_result 86 = .ok (.goto 127, 3) := by decide +kernel
theorem dX19_result_89 : decode cX19_result 89 = .ok (.iload_n 2, 1) := by decide +kernel
theorem dX19_result_90 : decode cX19_result 90 = .ok (.ifCond .ne 7, 3) := by decide +kernel
theorem dX19_result_97 : decode cX19_result 97 = .ok (.iload_n 1, 1) := by decide +kernel
theorem dX19_result_98 : decode cX19_result 98 = .ok (.iload_n 2, 1) := by decide +kernel
theorem dX19_result_99 : decode cX19_result 99 = .ok (.idiv, 1) := by decide +kernel
theorem dX19_result_100 : decode cX19_result 100 = .ok (.istore_n 3, 1) := by decide +kernel
theorem dX19_result_101 : decode cX19_result 101 = .ok (.goto 112, 3) := by decide +kernel
theorem dX19_result_93 : decode cX19_result 93 = .ok (.ldc2_w 216, 3) := by decide +kernel
theorem dX19_result_96 : decode cX19_result 96 = .ok (.lreturn, 1) := by decide +kernel
theorem dX19_result_104 : decode cX19_result 104 = .ok (.iload_n 2, 1) := by decide +kernel
theorem dX19_result_105 : decode cX19_result 105 = .ok (.ifCond .ne 7, 3) := by decide +kernel
theorem dX19_result_112 : decode cX19_result 112 = .ok (.iload_n 1, 1) := by decide +kernel
theorem dX19_result_113 : decode cX19_result 113 = .ok (.iload_n 2, 1) := by decide +kernel
theorem dX19_result_114 : decode cX19_result 114 = .ok (.irem, 1) := by decide +kernel
theorem dX19_result_115 : decode cX19_result 115 = .ok (.istore_n 3, 1) := by decide +kernel
theorem dX19_result_116 : decode cX19_result 116 = .ok (.goto 97, 3) := by decide +kernel
theorem dX19_result_108 : decode cX19_result 108 = .ok (.ldc2_w 216, 3) := by decide +kernel
theorem dX19_result_111 : decode cX19_result 111 = .ok (.lreturn, 1) := by decide +kernel
theorem dX19_result_119 : decode cX19_result 119 = .ok (.iload_n 1, 1) := by decide +kernel
theorem dX19_result_120 : decode cX19_result 120 = .ok (.iload_n 2, 1) := by decide +kernel
theorem dX19_result_121 : decode cX19_result 121 = .ok (.iand, 1) := by decide +kernel
theorem dX19_result_122 : decode cX19_result 122 = .ok (.istore_n 3, 1) := by decide +kernel
theorem dX19_result_123 : decode cX19_result 123 = .ok (.goto 90, 3) := by decide +kernel
theorem dX19_result_126 : decode cX19_result 126 = .ok (.iload_n 1, 1) := by decide +kernel
theorem dX19_result_127 : decode cX19_result 127 = .ok (.iload_n 2, 1) := by decide +kernel
theorem dX19_result_128 : decode cX19_result 128 = .ok (.ior, 1) := by decide +kernel
theorem dX19_result_129 : decode cX19_result 129 = .ok (.istore_n 3, 1) := by decide +kernel
theorem dX19_result_130 : decode cX19_result 130 = .ok (.goto 83, 3) := by decide +kernel
theorem dX19_result_133 : decode cX19_result 133 = .ok (.iload_n 1, 1) := by decide +kernel
theorem dX19_result_134 : decode cX19_result 134 = .ok (.iload_n 2, 1) := by decide +kernel
theorem dX19_result_135 : decode cX19_result 135 = .ok (.ixor, 1) := by decide +kernel
theorem dX19_result_136 : decode cX19_result 136 = .ok (.istore_n 3, 1) := by decide +kernel
theorem dX19_result_137 : decode cX19_result 137 = .ok (.goto 76, 3) := by decide +kernel
theorem dX19_result_140 : decode cX19_result 140 = .ok (.iload_n 1, 1) := by decide +kernel
theorem dX19_result_141 : decode cX19_result 141 = .ok (.iload_n 2, 1) := by decide +kernel
theorem dX19_result_142 : decode cX19_result 142 = .ok (.bipush 31, 2) := by decide +kernel
theorem dX19_result_144 : decode cX19_result 144 = .ok (.iand, 1) := by decide +kernel
theorem dX19_result_145 : decode cX19_result 145 = .ok (.ishl, 1) := by decide +kernel
theorem dX19_result_146 : decode cX19_result 146 = .ok (.istore_n 3, 1) := by decide +kernel
theorem dX19_result_147 : decode cX19_result 147 = .ok (.goto 66, 3) := by decide +kernel
theorem dX19_result_150 : decode cX19_result 150 = .ok (.iload_n 1, 1) := by decide +kernel
theorem dX19_result_151 : decode cX19_result 151 = .ok (.iload_n 2, 1) := by decide +kernel
theorem dX19_result_152 : decode cX19_result 152 = .ok (.bipush 31, 2) := by decide +kernel
theorem dX19_result_154 : decode cX19_result 154 = .ok (.iand, 1) := by decide +kernel
theorem dX19_result_155 : decode cX19_result 155 = .ok (.ishr, 1) := by decide +kernel
theorem dX19_result_156 : decode cX19_result 156 = .ok (.istore_n 3, 1) := by decide +kernel
theorem dX19_result_157 : decode cX19_result 157 = .ok (.goto 56, 3) := by decide +kernel
theorem dX19_result_160 : decode cX19_result 160 = .ok (.iload_n 1, 1) := by decide +kernel
theorem dX19_result_161 : decode cX19_result 161 = .ok (.iload_n 2, 1) := by decide +kernel
theorem dX19_result_162 : decode cX19_result 162 = .ok (.if_icmp .ge 7, 3) := by decide +kernel
theorem dX19_result_169 : decode cX19_result 169 = .ok (.iconst 0, 1) := by decide +kernel
theorem dX19_result_170 : decode cX19_result 170 = .ok (.istore_n 3, 1) := by decide +kernel
theorem dX19_result_171 : decode cX19_result 171 = .ok (.goto 42, 3) := by decide +kernel
theorem dX19_result_165 : decode cX19_result 165 = .ok (.iconst 1, 1) := by decide +kernel
theorem dX19_result_166 : decode cX19_result 166 = .ok (.goto 4, 3) := by decide +kernel
theorem dX19_result_174 : decode cX19_result 174 = .ok (.iload_n 1, 1) := by decide +kernel
theorem dX19_result_175 : decode cX19_result 175 = .ok (.iload_n 2, 1) := by decide +kernel
theorem dX19_result_176 : decode cX19_result 176 = .ok (.if_icmp .gt 7, 3) := by decide +kernel
theorem dX19_result_183 : decode cX19_result 183 = .ok (.iconst 0, 1) := by decide +kernel
theorem dX19_result_184 : decode cX19_result 184 = .ok (.istore_n 3, 1) := by decide +kernel
theorem dX19_result_185 : decode cX19_result 185 = .ok (.goto 28, 3) := by decide +kernel
theorem dX19_result_179 : decode cX19_result 179 = .ok (.iconst 1, 1) := by decide +kernel
theorem dX19_result_180 : decode cX19_result 180 = .ok (.goto 4, 3) := by decide +kernel
theorem dX19_result_188 : decode cX19_result 188 = .ok (.iload_n 1, 1) := by decide +kernel
theorem dX19_result_189 : decode cX19_result 189 = .ok (.iload_n 2, 1) := by decide +kernel
theorem dX19_result_190 : decode cX19_result 190 = .ok (.if_icmp .ne 7, 3) := by decide +kernel
theorem dX19_result_197 : decode cX19_result 197 = .ok (.iconst 0, 1) := by decide +kernel
theorem dX19_result_198 : decode cX19_result 198 = .ok (.istore_n 3, 1) := by decide +kernel
theorem dX19_result_199 : decode cX19_result 199 = .ok (.goto 14, 3) := by decide +kernel
theorem dX19_result_193 : decode cX19_result 193 = .ok (.iconst 1, 1) := by decide +kernel
theorem dX19_result_194 : decode cX19_result 194 = .ok (.goto 4, 3) := by decide +kernel
theorem dX19_result_202 : decode cX19_result 202 = .ok (.iload_n 1, 1) := by decide +kernel
theorem dX19_result_203 : decode cX19_result 203 = .ok (.iload_n 2, 1) := by decide +kernel
theorem dX19_result_204 : decode cX19_result 204 = .ok (.if_icmp .eq 7, 3) := by decide +kernel
theorem dX19_result_211 : decode cX19_result 211 = .ok (.iconst 0, 1) := by decide +kernel
theorem dX19_result_212 : decode cX19_result 212 = .ok (.istore_n 3, 1) := by decide +kernel
theorem dX19_result_207 : decode cX19_result 207 = .ok (.iconst 1, 1) := by decide +kernel
theorem dX19_result_208 : decode cX19_result 208 = .ok (.goto 4, 3) := by decide +kernel
def o_X19_result : List Cond := [.constantLong RX19 218 (4294967295), .constantLong RX19 216 (4294967296)]
def v_X19_result : List Cond := .code yX19_result cX19_result 4 (some .long) :: (o_X19_result ++ [])
theorem mow_X19_result : ∀ w ∈ o_X19_result, w ∈ v_X19_result := fun _ h => List.mem_cons_of_mem _ (List.mem_append_left _ h)
set_option maxRecDepth 20000 in
theorem gw_X19_result : v_X19_result.all goodWord = true := by decide +kernel
set_option maxHeartbeats 4000000 in
set_option maxRecDepth 100000 in
theorem c_X19_result (l : Launch) (dC : Nat → ClassId) (dI : Nat → Nat → Nat) (o : Int) (p0 : Int32) (p1 : Int32) (hNo : 0 ≤ o ∧ o ≤ 40) (sz : Nat) : Met l yX19_result v_X19_result ({ frames := 0, cells := 0, slots := 0, locals := 0 }) (va_Pc [.int (zI (o)), .int p0, .int p1] (fun U => U.heap.size = sz ∧ va_P (dC, dI) vwQ [] U.heap ∧ va_K (dC, dI) vwQ [] U ∧ va_D (fun _ => True) [])) (va_Ql (fun (r : Int64) (_ : Unit) => True) (fun (_ : Unit) (t : State) => va_P (dC, dI) vwQ [] t.heap ∧ va_K (dC, dI) vwQ [] t ∧ va_D (va_A [] sz) []) (va_A [] sz)) 0 0 (va_A [] sz) := by
  refine Met.ofW (cc := cX19_result) (maxL := 4) (ret := (some .long)) (by decide) rfl ?_
  intro p e s m args below meth c s₁ B hml hv
  obtain ⟨rfl, hsz, hP, hK, hD0⟩ := hv
  have hx := B.exec
  have hb := B.bytes
  have hr := B.returns
  have hts := atoms_spec (ws := v_X19_result) B.pre
  have hown : s.vm.findClass RX19 = some m.cls := findClass_of_methodNamed B.named
  have hlocks := B.notSynchronized
  have ow : ∀ {k : Nat} {w : Cond}, o_X19_result[k]? = some w → w.before ([.int (zI (o)), .int p0, .int p1] : List Value).toArray s = true := fun h => hts _ (mow_X19_result _ (List.mem_of_getElem? h))
  subst hsz
  have hD := hD0.self (sz := s.heap.size)
  generalize hAe : va_A [] s.heap.size = A at hD ⊢
  have hA : ∀ q : Nat, s.heap.size ≤ q → A q := fun q h => by rw [← hAe]; exact Or.inr h
  have hS : va_S A s.heap s.heap [] := va_S.rf
  have hP : va_P (dC, dI) vwQ [] s.heap := hP
  have hl := lv_entry ([.int (zI (o)), .int p0, .int p1]) (n := 4) (Nat.le_of_ble_eq_true rfl)
  rw [lg_entry_eq]
  generalize (lg_sl ([.int (zI (o)), .int p0, .int p1]) ++ List.replicate (4 - (lg_sl ([.int (zI (o)), .int p0, .int p1])).length) Slot.unset).toArray = ls at hl ⊢
  have hl : lv_has ls 4 [(0, .int (zI (o))), (1, .int p0), (2, .int p1)] := hl
  obtain ⟨H, hH⟩ : ∃ H, H = s.heap := ⟨_, rfl⟩
  rw [← hH] at hP
  have hS : va_S A s.heap H [] := by rw [hH]; exact hS
  rw [← hH]
  refine zW_cap (fun Q hQ => ?_)
  refine lv_iload_n hx hb dX19_result_0 rfl (lv_at hl 0 rfl) ?_
  by_cases s1_0 : o = 1
  · refine lv_tableIn (off := 67) (tgt := 68) hx hb dX19_result_1 (by rw [s1_0]; decide) (by rw [s1_0]; decide) (by rw [s1_0]; decide) (by decide) ?_
    refine lv_iload_n hx hb dX19_result_68 rfl (lv_at hl 1 rfl) ?_
    refine lv_iload_n hx hb dX19_result_69 rfl (lv_at hl 2 rfl) ?_
    refine lv_iadd hx hb dX19_result_70 ?_
    refine lv_topi (fun x_1 _ => ?_)
    refine lv_istore_n (lv' := [(3, .int x_1), (0, .int (zI (o))), (1, .int p0), (2, .int p1)]) hx hb dX19_result_71 rfl hl (by decide) rfl (fun ls hl => ?_)
    refine lv_goto (tgt := 213) hx hb dX19_result_72 (by decide) ?_
    refine lv_iload_n hx hb dX19_result_213 rfl (lv_at hl 0 rfl) ?_
    refine lv_i2l (v := lI (x_1).toInt) hx hb dX19_result_214 (xI_l _) ?_
    have kx_2 := xI_rng (x_1)
    refine lv_ldc2 (v := 4294967295) hx hb hown (ow (k := 0) rfl) dX19_result_215 ?_
    refine lv_topl (fun z ez => ?_)
    obtain rfl : z = lI (4294967295) := ez
    refine lv_land hx hb dX19_result_218 ?_
    refine lv_topl (fun x_3 _ => ?_)
    subst hQ
    refine W.widen (k := 0) (n := 0) (Nat.le_of_ble_eq_true rfl) (Nat.le_of_ble_eq_true rfl) ?_
    exact W.lret (v := x_3) hx hb hr (fun t ht hW => ⟨⟨x_3, (), rfl, trivial, by rw [ht]; exact hP, va_K.moved hW.alike hK, hD⟩, hS.F ht⟩) hS.2.2 dX19_result_219
  by_cases s1_1 : o = 2
  · refine lv_tableIn (off := 74) (tgt := 75) hx hb dX19_result_1 (by rw [s1_1]; decide) (by rw [s1_1]; decide) (by rw [s1_1]; decide) (by decide) ?_
    refine lv_iload_n hx hb dX19_result_75 rfl (lv_at hl 1 rfl) ?_
    refine lv_iload_n hx hb dX19_result_76 rfl (lv_at hl 2 rfl) ?_
    refine lv_isub hx hb dX19_result_77 ?_
    refine lv_topi (fun x_4 _ => ?_)
    refine lv_istore_n (lv' := [(3, .int x_4), (0, .int (zI (o))), (1, .int p0), (2, .int p1)]) hx hb dX19_result_78 rfl hl (by decide) rfl (fun ls hl => ?_)
    refine lv_goto (tgt := 213) hx hb dX19_result_79 (by decide) ?_
    refine lv_iload_n hx hb dX19_result_213 rfl (lv_at hl 0 rfl) ?_
    refine lv_i2l (v := lI (x_4).toInt) hx hb dX19_result_214 (xI_l _) ?_
    have kx_5 := xI_rng (x_4)
    refine lv_ldc2 (v := 4294967295) hx hb hown (ow (k := 0) rfl) dX19_result_215 ?_
    refine lv_topl (fun z ez => ?_)
    obtain rfl : z = lI (4294967295) := ez
    refine lv_land hx hb dX19_result_218 ?_
    refine lv_topl (fun x_6 _ => ?_)
    subst hQ
    refine W.widen (k := 0) (n := 0) (Nat.le_of_ble_eq_true rfl) (Nat.le_of_ble_eq_true rfl) ?_
    exact W.lret (v := x_6) hx hb hr (fun t ht hW => ⟨⟨x_6, (), rfl, trivial, by rw [ht]; exact hP, va_K.moved hW.alike hK, hD⟩, hS.F ht⟩) hS.2.2 dX19_result_219
  by_cases s1_2 : o = 3
  · refine lv_tableIn (off := 81) (tgt := 82) hx hb dX19_result_1 (by rw [s1_2]; decide) (by rw [s1_2]; decide) (by rw [s1_2]; decide) (by decide) ?_
    refine lv_iload_n hx hb dX19_result_82 rfl (lv_at hl 1 rfl) ?_
    refine lv_iload_n hx hb dX19_result_83 rfl (lv_at hl 2 rfl) ?_
    refine lv_imul hx hb dX19_result_84 ?_
    refine lv_topi (fun x_7 _ => ?_)
    refine lv_istore_n (lv' := [(3, .int x_7), (0, .int (zI (o))), (1, .int p0), (2, .int p1)]) hx hb dX19_result_85 rfl hl (by decide) rfl (fun ls hl => ?_)
    refine lv_goto (tgt := 213) hx hb dX19_result_86 (by decide) ?_
    refine lv_iload_n hx hb dX19_result_213 rfl (lv_at hl 0 rfl) ?_
    refine lv_i2l (v := lI (x_7).toInt) hx hb dX19_result_214 (xI_l _) ?_
    have kx_8 := xI_rng (x_7)
    refine lv_ldc2 (v := 4294967295) hx hb hown (ow (k := 0) rfl) dX19_result_215 ?_
    refine lv_topl (fun z ez => ?_)
    obtain rfl : z = lI (4294967295) := ez
    refine lv_land hx hb dX19_result_218 ?_
    refine lv_topl (fun x_9 _ => ?_)
    subst hQ
    refine W.widen (k := 0) (n := 0) (Nat.le_of_ble_eq_true rfl) (Nat.le_of_ble_eq_true rfl) ?_
    exact W.lret (v := x_9) hx hb hr (fun t ht hW => ⟨⟨x_9, (), rfl, trivial, by rw [ht]; exact hP, va_K.moved hW.alike hK, hD⟩, hS.F ht⟩) hS.2.2 dX19_result_219
  by_cases s1_3 : o = 4
  · refine lv_tableIn (off := 88) (tgt := 89) hx hb dX19_result_1 (by rw [s1_3]; decide) (by rw [s1_3]; decide) (by rw [s1_3]; decide) (by decide) ?_
    refine lv_iload_n hx hb dX19_result_89 rfl (lv_at hl 2 rfl) ?_
    refine lv_if_ne (tgt := 97) hx hb dX19_result_90 (by decide) (fun b90 => ?_) (fun b90 => ?_)
    · refine lv_iload_n hx hb dX19_result_97 rfl (lv_at hl 1 rfl) ?_
      refine lv_iload_n hx hb dX19_result_98 rfl (lv_at hl 2 rfl) ?_
      refine lv_idiv hx hb dX19_result_99 b90 ?_
      refine lv_topi (fun x_10 _ => ?_)
      refine lv_istore_n (lv' := [(3, .int x_10), (0, .int (zI (o))), (1, .int p0), (2, .int p1)]) hx hb dX19_result_100 rfl hl (by decide) rfl (fun ls hl => ?_)
      refine lv_goto (tgt := 213) hx hb dX19_result_101 (by decide) ?_
      refine lv_iload_n hx hb dX19_result_213 rfl (lv_at hl 0 rfl) ?_
      refine lv_i2l (v := lI (x_10).toInt) hx hb dX19_result_214 (xI_l _) ?_
      have kx_11 := xI_rng (x_10)
      refine lv_ldc2 (v := 4294967295) hx hb hown (ow (k := 0) rfl) dX19_result_215 ?_
      refine lv_topl (fun z ez => ?_)
      obtain rfl : z = lI (4294967295) := ez
      refine lv_land hx hb dX19_result_218 ?_
      refine lv_topl (fun x_12 _ => ?_)
      subst hQ
      refine W.widen (k := 0) (n := 0) (Nat.le_of_ble_eq_true rfl) (Nat.le_of_ble_eq_true rfl) ?_
      exact W.lret (v := x_12) hx hb hr (fun t ht hW => ⟨⟨x_12, (), rfl, trivial, by rw [ht]; exact hP, va_K.moved hW.alike hK, hD⟩, hS.F ht⟩) hS.2.2 dX19_result_219
    · refine lv_ldc2 (v := 4294967296) hx hb hown (ow (k := 1) rfl) dX19_result_93 ?_
      refine lv_topl (fun z ez => ?_)
      obtain rfl : z = lI (4294967296) := ez
      subst hQ
      refine W.widen (k := 0) (n := 0) (Nat.le_of_ble_eq_true rfl) (Nat.le_of_ble_eq_true rfl) ?_
      exact W.lret (v := (lI (4294967296))) hx hb hr (fun t ht hW => ⟨⟨(lI (4294967296)), (), rfl, trivial, by rw [ht]; exact hP, va_K.moved hW.alike hK, hD⟩, hS.F ht⟩) hS.2.2 dX19_result_96
  by_cases s1_4 : o = 5
  · refine lv_tableIn (off := 103) (tgt := 104) hx hb dX19_result_1 (by rw [s1_4]; decide) (by rw [s1_4]; decide) (by rw [s1_4]; decide) (by decide) ?_
    refine lv_iload_n hx hb dX19_result_104 rfl (lv_at hl 2 rfl) ?_
    refine lv_if_ne (tgt := 112) hx hb dX19_result_105 (by decide) (fun b105 => ?_) (fun b105 => ?_)
    · refine lv_iload_n hx hb dX19_result_112 rfl (lv_at hl 1 rfl) ?_
      refine lv_iload_n hx hb dX19_result_113 rfl (lv_at hl 2 rfl) ?_
      refine lv_irem hx hb dX19_result_114 b105 ?_
      refine lv_topi (fun x_13 _ => ?_)
      refine lv_istore_n (lv' := [(3, .int x_13), (0, .int (zI (o))), (1, .int p0), (2, .int p1)]) hx hb dX19_result_115 rfl hl (by decide) rfl (fun ls hl => ?_)
      refine lv_goto (tgt := 213) hx hb dX19_result_116 (by decide) ?_
      refine lv_iload_n hx hb dX19_result_213 rfl (lv_at hl 0 rfl) ?_
      refine lv_i2l (v := lI (x_13).toInt) hx hb dX19_result_214 (xI_l _) ?_
      have kx_14 := xI_rng (x_13)
      refine lv_ldc2 (v := 4294967295) hx hb hown (ow (k := 0) rfl) dX19_result_215 ?_
      refine lv_topl (fun z ez => ?_)
      obtain rfl : z = lI (4294967295) := ez
      refine lv_land hx hb dX19_result_218 ?_
      refine lv_topl (fun x_15 _ => ?_)
      subst hQ
      refine W.widen (k := 0) (n := 0) (Nat.le_of_ble_eq_true rfl) (Nat.le_of_ble_eq_true rfl) ?_
      exact W.lret (v := x_15) hx hb hr (fun t ht hW => ⟨⟨x_15, (), rfl, trivial, by rw [ht]; exact hP, va_K.moved hW.alike hK, hD⟩, hS.F ht⟩) hS.2.2 dX19_result_219
    · refine lv_ldc2 (v := 4294967296) hx hb hown (ow (k := 1) rfl) dX19_result_108 ?_
      refine lv_topl (fun z ez => ?_)
      obtain rfl : z = lI (4294967296) := ez
      subst hQ
      refine W.widen (k := 0) (n := 0) (Nat.le_of_ble_eq_true rfl) (Nat.le_of_ble_eq_true rfl) ?_
      exact W.lret (v := (lI (4294967296))) hx hb hr (fun t ht hW => ⟨⟨(lI (4294967296)), (), rfl, trivial, by rw [ht]; exact hP, va_K.moved hW.alike hK, hD⟩, hS.F ht⟩) hS.2.2 dX19_result_111
  by_cases s1_5 : o = 6
  · refine lv_tableIn (off := 118) (tgt := 119) hx hb dX19_result_1 (by rw [s1_5]; decide) (by rw [s1_5]; decide) (by rw [s1_5]; decide) (by decide) ?_
    refine lv_iload_n hx hb dX19_result_119 rfl (lv_at hl 1 rfl) ?_
    refine lv_iload_n hx hb dX19_result_120 rfl (lv_at hl 2 rfl) ?_
    refine lv_iand hx hb dX19_result_121 ?_
    refine lv_topi (fun x_16 _ => ?_)
    refine lv_istore_n (lv' := [(3, .int x_16), (0, .int (zI (o))), (1, .int p0), (2, .int p1)]) hx hb dX19_result_122 rfl hl (by decide) rfl (fun ls hl => ?_)
    refine lv_goto (tgt := 213) hx hb dX19_result_123 (by decide) ?_
    refine lv_iload_n hx hb dX19_result_213 rfl (lv_at hl 0 rfl) ?_
    refine lv_i2l (v := lI (x_16).toInt) hx hb dX19_result_214 (xI_l _) ?_
    have kx_17 := xI_rng (x_16)
    refine lv_ldc2 (v := 4294967295) hx hb hown (ow (k := 0) rfl) dX19_result_215 ?_
    refine lv_topl (fun z ez => ?_)
    obtain rfl : z = lI (4294967295) := ez
    refine lv_land hx hb dX19_result_218 ?_
    refine lv_topl (fun x_18 _ => ?_)
    subst hQ
    refine W.widen (k := 0) (n := 0) (Nat.le_of_ble_eq_true rfl) (Nat.le_of_ble_eq_true rfl) ?_
    exact W.lret (v := x_18) hx hb hr (fun t ht hW => ⟨⟨x_18, (), rfl, trivial, by rw [ht]; exact hP, va_K.moved hW.alike hK, hD⟩, hS.F ht⟩) hS.2.2 dX19_result_219
  by_cases s1_6 : o = 7
  · refine lv_tableIn (off := 125) (tgt := 126) hx hb dX19_result_1 (by rw [s1_6]; decide) (by rw [s1_6]; decide) (by rw [s1_6]; decide) (by decide) ?_
    refine lv_iload_n hx hb dX19_result_126 rfl (lv_at hl 1 rfl) ?_
    refine lv_iload_n hx hb dX19_result_127 rfl (lv_at hl 2 rfl) ?_
    refine lv_ior hx hb dX19_result_128 ?_
    refine lv_topi (fun x_19 _ => ?_)
    refine lv_istore_n (lv' := [(3, .int x_19), (0, .int (zI (o))), (1, .int p0), (2, .int p1)]) hx hb dX19_result_129 rfl hl (by decide) rfl (fun ls hl => ?_)
    refine lv_goto (tgt := 213) hx hb dX19_result_130 (by decide) ?_
    refine lv_iload_n hx hb dX19_result_213 rfl (lv_at hl 0 rfl) ?_
    refine lv_i2l (v := lI (x_19).toInt) hx hb dX19_result_214 (xI_l _) ?_
    have kx_20 := xI_rng (x_19)
    refine lv_ldc2 (v := 4294967295) hx hb hown (ow (k := 0) rfl) dX19_result_215 ?_
    refine lv_topl (fun z ez => ?_)
    obtain rfl : z = lI (4294967295) := ez
    refine lv_land hx hb dX19_result_218 ?_
    refine lv_topl (fun x_21 _ => ?_)
    subst hQ
    refine W.widen (k := 0) (n := 0) (Nat.le_of_ble_eq_true rfl) (Nat.le_of_ble_eq_true rfl) ?_
    exact W.lret (v := x_21) hx hb hr (fun t ht hW => ⟨⟨x_21, (), rfl, trivial, by rw [ht]; exact hP, va_K.moved hW.alike hK, hD⟩, hS.F ht⟩) hS.2.2 dX19_result_219
  by_cases s1_7 : o = 8
  · refine lv_tableIn (off := 132) (tgt := 133) hx hb dX19_result_1 (by rw [s1_7]; decide) (by rw [s1_7]; decide) (by rw [s1_7]; decide) (by decide) ?_
    refine lv_iload_n hx hb dX19_result_133 rfl (lv_at hl 1 rfl) ?_
    refine lv_iload_n hx hb dX19_result_134 rfl (lv_at hl 2 rfl) ?_
    refine lv_ixor hx hb dX19_result_135 ?_
    refine lv_topi (fun x_22 _ => ?_)
    refine lv_istore_n (lv' := [(3, .int x_22), (0, .int (zI (o))), (1, .int p0), (2, .int p1)]) hx hb dX19_result_136 rfl hl (by decide) rfl (fun ls hl => ?_)
    refine lv_goto (tgt := 213) hx hb dX19_result_137 (by decide) ?_
    refine lv_iload_n hx hb dX19_result_213 rfl (lv_at hl 0 rfl) ?_
    refine lv_i2l (v := lI (x_22).toInt) hx hb dX19_result_214 (xI_l _) ?_
    have kx_23 := xI_rng (x_22)
    refine lv_ldc2 (v := 4294967295) hx hb hown (ow (k := 0) rfl) dX19_result_215 ?_
    refine lv_topl (fun z ez => ?_)
    obtain rfl : z = lI (4294967295) := ez
    refine lv_land hx hb dX19_result_218 ?_
    refine lv_topl (fun x_24 _ => ?_)
    subst hQ
    refine W.widen (k := 0) (n := 0) (Nat.le_of_ble_eq_true rfl) (Nat.le_of_ble_eq_true rfl) ?_
    exact W.lret (v := x_24) hx hb hr (fun t ht hW => ⟨⟨x_24, (), rfl, trivial, by rw [ht]; exact hP, va_K.moved hW.alike hK, hD⟩, hS.F ht⟩) hS.2.2 dX19_result_219
  by_cases s1_8 : o = 9
  · refine lv_tableIn (off := 139) (tgt := 140) hx hb dX19_result_1 (by rw [s1_8]; decide) (by rw [s1_8]; decide) (by rw [s1_8]; decide) (by decide) ?_
    refine lv_iload_n hx hb dX19_result_140 rfl (lv_at hl 1 rfl) ?_
    refine lv_iload_n hx hb dX19_result_141 rfl (lv_at hl 2 rfl) ?_
    refine lv_bipush (v := 31) hx hb dX19_result_142 (by decide) ?_
    refine lv_iand hx hb dX19_result_144 ?_
    refine lv_topi (fun z9 ez => ?_)
    obtain ⟨z_25, rfl, hzz_25⟩ := zI_and 5 (m := 31) (by decide) (by decide) ez
    refine lv_ishl hx hb dX19_result_145 ?_
    refine lv_topi (fun x_26 _ => ?_)
    refine lv_istore_n (lv' := [(3, .int x_26), (0, .int (zI (o))), (1, .int p0), (2, .int p1)]) hx hb dX19_result_146 rfl hl (by decide) rfl (fun ls hl => ?_)
    refine lv_goto (tgt := 213) hx hb dX19_result_147 (by decide) ?_
    refine lv_iload_n hx hb dX19_result_213 rfl (lv_at hl 0 rfl) ?_
    refine lv_i2l (v := lI (x_26).toInt) hx hb dX19_result_214 (xI_l _) ?_
    have kx_27 := xI_rng (x_26)
    refine lv_ldc2 (v := 4294967295) hx hb hown (ow (k := 0) rfl) dX19_result_215 ?_
    refine lv_topl (fun z ez => ?_)
    obtain rfl : z = lI (4294967295) := ez
    refine lv_land hx hb dX19_result_218 ?_
    refine lv_topl (fun x_28 _ => ?_)
    subst hQ
    refine W.widen (k := 0) (n := 0) (Nat.le_of_ble_eq_true rfl) (Nat.le_of_ble_eq_true rfl) ?_
    exact W.lret (v := x_28) hx hb hr (fun t ht hW => ⟨⟨x_28, (), rfl, trivial, by rw [ht]; exact hP, va_K.moved hW.alike hK, hD⟩, hS.F ht⟩) hS.2.2 dX19_result_219
  by_cases s1_9 : o = 10
  · refine lv_tableIn (off := 149) (tgt := 150) hx hb dX19_result_1 (by rw [s1_9]; decide) (by rw [s1_9]; decide) (by rw [s1_9]; decide) (by decide) ?_
    refine lv_iload_n hx hb dX19_result_150 rfl (lv_at hl 1 rfl) ?_
    refine lv_iload_n hx hb dX19_result_151 rfl (lv_at hl 2 rfl) ?_
    refine lv_bipush (v := 31) hx hb dX19_result_152 (by decide) ?_
    refine lv_iand hx hb dX19_result_154 ?_
    refine lv_topi (fun z9 ez => ?_)
    obtain ⟨z_29, rfl, hzz_29⟩ := zI_and 5 (m := 31) (by decide) (by decide) ez
    refine lv_ishr hx hb dX19_result_155 ?_
    refine lv_topi (fun x_30 _ => ?_)
    refine lv_istore_n (lv' := [(3, .int x_30), (0, .int (zI (o))), (1, .int p0), (2, .int p1)]) hx hb dX19_result_156 rfl hl (by decide) rfl (fun ls hl => ?_)
    refine lv_goto (tgt := 213) hx hb dX19_result_157 (by decide) ?_
    refine lv_iload_n hx hb dX19_result_213 rfl (lv_at hl 0 rfl) ?_
    refine lv_i2l (v := lI (x_30).toInt) hx hb dX19_result_214 (xI_l _) ?_
    have kx_31 := xI_rng (x_30)
    refine lv_ldc2 (v := 4294967295) hx hb hown (ow (k := 0) rfl) dX19_result_215 ?_
    refine lv_topl (fun z ez => ?_)
    obtain rfl : z = lI (4294967295) := ez
    refine lv_land hx hb dX19_result_218 ?_
    refine lv_topl (fun x_32 _ => ?_)
    subst hQ
    refine W.widen (k := 0) (n := 0) (Nat.le_of_ble_eq_true rfl) (Nat.le_of_ble_eq_true rfl) ?_
    exact W.lret (v := x_32) hx hb hr (fun t ht hW => ⟨⟨x_32, (), rfl, trivial, by rw [ht]; exact hP, va_K.moved hW.alike hK, hD⟩, hS.F ht⟩) hS.2.2 dX19_result_219
  by_cases s1_10 : o = 11
  · refine lv_tableIn (off := 159) (tgt := 160) hx hb dX19_result_1 (by rw [s1_10]; decide) (by rw [s1_10]; decide) (by rw [s1_10]; decide) (by decide) ?_
    refine lv_iload_n hx hb dX19_result_160 rfl (lv_at hl 1 rfl) ?_
    refine lv_iload_n hx hb dX19_result_161 rfl (lv_at hl 2 rfl) ?_
    refine lv_icmp_ge (tgt := 169) hx hb dX19_result_162 (by decide) (fun b162 => ?_) (fun b162 => ?_)
    · refine lv_iconst (v := 0) hx hb dX19_result_169 (by decide) ?_
      refine lv_istore_n (lv' := [(3, .int 0), (0, .int (zI (o))), (1, .int p0), (2, .int p1)]) hx hb dX19_result_170 rfl hl (by decide) rfl (fun ls hl => ?_)
      refine lv_goto (tgt := 213) hx hb dX19_result_171 (by decide) ?_
      refine lv_iload_n hx hb dX19_result_213 rfl (lv_at hl 0 rfl) ?_
      refine lv_i2l (v := lI (0)) hx hb dX19_result_214 (zI_l (a := 0) (by omega) (by omega)) ?_
      refine lv_ldc2 (v := 4294967295) hx hb hown (ow (k := 0) rfl) dX19_result_215 ?_
      refine lv_topl (fun z ez => ?_)
      obtain rfl : z = lI (4294967295) := ez
      refine lv_land hx hb dX19_result_218 ?_
      refine lv_topl (fun x_33 _ => ?_)
      subst hQ
      refine W.widen (k := 0) (n := 0) (Nat.le_of_ble_eq_true rfl) (Nat.le_of_ble_eq_true rfl) ?_
      exact W.lret (v := x_33) hx hb hr (fun t ht hW => ⟨⟨x_33, (), rfl, trivial, by rw [ht]; exact hP, va_K.moved hW.alike hK, hD⟩, hS.F ht⟩) hS.2.2 dX19_result_219
    · refine lv_iconst (v := 1) hx hb dX19_result_165 (by decide) ?_
      refine lv_goto (tgt := 170) hx hb dX19_result_166 (by decide) ?_
      refine lv_istore_n (lv' := [(3, .int 1), (0, .int (zI (o))), (1, .int p0), (2, .int p1)]) hx hb dX19_result_170 rfl hl (by decide) rfl (fun ls hl => ?_)
      refine lv_goto (tgt := 213) hx hb dX19_result_171 (by decide) ?_
      refine lv_iload_n hx hb dX19_result_213 rfl (lv_at hl 0 rfl) ?_
      refine lv_i2l (v := lI (1)) hx hb dX19_result_214 (zI_l (a := 1) (by omega) (by omega)) ?_
      refine lv_ldc2 (v := 4294967295) hx hb hown (ow (k := 0) rfl) dX19_result_215 ?_
      refine lv_topl (fun z ez => ?_)
      obtain rfl : z = lI (4294967295) := ez
      refine lv_land hx hb dX19_result_218 ?_
      refine lv_topl (fun x_34 _ => ?_)
      subst hQ
      refine W.widen (k := 0) (n := 0) (Nat.le_of_ble_eq_true rfl) (Nat.le_of_ble_eq_true rfl) ?_
      exact W.lret (v := x_34) hx hb hr (fun t ht hW => ⟨⟨x_34, (), rfl, trivial, by rw [ht]; exact hP, va_K.moved hW.alike hK, hD⟩, hS.F ht⟩) hS.2.2 dX19_result_219
  by_cases s1_11 : o = 12
  · refine lv_tableIn (off := 173) (tgt := 174) hx hb dX19_result_1 (by rw [s1_11]; decide) (by rw [s1_11]; decide) (by rw [s1_11]; decide) (by decide) ?_
    refine lv_iload_n hx hb dX19_result_174 rfl (lv_at hl 1 rfl) ?_
    refine lv_iload_n hx hb dX19_result_175 rfl (lv_at hl 2 rfl) ?_
    refine lv_icmp_gt (tgt := 183) hx hb dX19_result_176 (by decide) (fun b176 => ?_) (fun b176 => ?_)
    · refine lv_iconst (v := 0) hx hb dX19_result_183 (by decide) ?_
      refine lv_istore_n (lv' := [(3, .int 0), (0, .int (zI (o))), (1, .int p0), (2, .int p1)]) hx hb dX19_result_184 rfl hl (by decide) rfl (fun ls hl => ?_)
      refine lv_goto (tgt := 213) hx hb dX19_result_185 (by decide) ?_
      refine lv_iload_n hx hb dX19_result_213 rfl (lv_at hl 0 rfl) ?_
      refine lv_i2l (v := lI (0)) hx hb dX19_result_214 (zI_l (a := 0) (by omega) (by omega)) ?_
      refine lv_ldc2 (v := 4294967295) hx hb hown (ow (k := 0) rfl) dX19_result_215 ?_
      refine lv_topl (fun z ez => ?_)
      obtain rfl : z = lI (4294967295) := ez
      refine lv_land hx hb dX19_result_218 ?_
      refine lv_topl (fun x_35 _ => ?_)
      subst hQ
      refine W.widen (k := 0) (n := 0) (Nat.le_of_ble_eq_true rfl) (Nat.le_of_ble_eq_true rfl) ?_
      exact W.lret (v := x_35) hx hb hr (fun t ht hW => ⟨⟨x_35, (), rfl, trivial, by rw [ht]; exact hP, va_K.moved hW.alike hK, hD⟩, hS.F ht⟩) hS.2.2 dX19_result_219
    · refine lv_iconst (v := 1) hx hb dX19_result_179 (by decide) ?_
      refine lv_goto (tgt := 184) hx hb dX19_result_180 (by decide) ?_
      refine lv_istore_n (lv' := [(3, .int 1), (0, .int (zI (o))), (1, .int p0), (2, .int p1)]) hx hb dX19_result_184 rfl hl (by decide) rfl (fun ls hl => ?_)
      refine lv_goto (tgt := 213) hx hb dX19_result_185 (by decide) ?_
      refine lv_iload_n hx hb dX19_result_213 rfl (lv_at hl 0 rfl) ?_
      refine lv_i2l (v := lI (1)) hx hb dX19_result_214 (zI_l (a := 1) (by omega) (by omega)) ?_
      refine lv_ldc2 (v := 4294967295) hx hb hown (ow (k := 0) rfl) dX19_result_215 ?_
      refine lv_topl (fun z ez => ?_)
      obtain rfl : z = lI (4294967295) := ez
      refine lv_land hx hb dX19_result_218 ?_
      refine lv_topl (fun x_36 _ => ?_)
      subst hQ
      refine W.widen (k := 0) (n := 0) (Nat.le_of_ble_eq_true rfl) (Nat.le_of_ble_eq_true rfl) ?_
      exact W.lret (v := x_36) hx hb hr (fun t ht hW => ⟨⟨x_36, (), rfl, trivial, by rw [ht]; exact hP, va_K.moved hW.alike hK, hD⟩, hS.F ht⟩) hS.2.2 dX19_result_219
  by_cases s1_12 : o = 13
  · refine lv_tableIn (off := 187) (tgt := 188) hx hb dX19_result_1 (by rw [s1_12]; decide) (by rw [s1_12]; decide) (by rw [s1_12]; decide) (by decide) ?_
    refine lv_iload_n hx hb dX19_result_188 rfl (lv_at hl 1 rfl) ?_
    refine lv_iload_n hx hb dX19_result_189 rfl (lv_at hl 2 rfl) ?_
    refine lv_icmp_ne (tgt := 197) hx hb dX19_result_190 (by decide) (fun b190 => ?_) (fun b190 => ?_)
    · refine lv_iconst (v := 0) hx hb dX19_result_197 (by decide) ?_
      refine lv_istore_n (lv' := [(3, .int 0), (0, .int (zI (o))), (1, .int p0), (2, .int p1)]) hx hb dX19_result_198 rfl hl (by decide) rfl (fun ls hl => ?_)
      refine lv_goto (tgt := 213) hx hb dX19_result_199 (by decide) ?_
      refine lv_iload_n hx hb dX19_result_213 rfl (lv_at hl 0 rfl) ?_
      refine lv_i2l (v := lI (0)) hx hb dX19_result_214 (zI_l (a := 0) (by omega) (by omega)) ?_
      refine lv_ldc2 (v := 4294967295) hx hb hown (ow (k := 0) rfl) dX19_result_215 ?_
      refine lv_topl (fun z ez => ?_)
      obtain rfl : z = lI (4294967295) := ez
      refine lv_land hx hb dX19_result_218 ?_
      refine lv_topl (fun x_37 _ => ?_)
      subst hQ
      refine W.widen (k := 0) (n := 0) (Nat.le_of_ble_eq_true rfl) (Nat.le_of_ble_eq_true rfl) ?_
      exact W.lret (v := x_37) hx hb hr (fun t ht hW => ⟨⟨x_37, (), rfl, trivial, by rw [ht]; exact hP, va_K.moved hW.alike hK, hD⟩, hS.F ht⟩) hS.2.2 dX19_result_219
    · refine lv_iconst (v := 1) hx hb dX19_result_193 (by decide) ?_
      refine lv_goto (tgt := 198) hx hb dX19_result_194 (by decide) ?_
      refine lv_istore_n (lv' := [(3, .int 1), (0, .int (zI (o))), (1, .int p0), (2, .int p1)]) hx hb dX19_result_198 rfl hl (by decide) rfl (fun ls hl => ?_)
      refine lv_goto (tgt := 213) hx hb dX19_result_199 (by decide) ?_
      refine lv_iload_n hx hb dX19_result_213 rfl (lv_at hl 0 rfl) ?_
      refine lv_i2l (v := lI (1)) hx hb dX19_result_214 (zI_l (a := 1) (by omega) (by omega)) ?_
      refine lv_ldc2 (v := 4294967295) hx hb hown (ow (k := 0) rfl) dX19_result_215 ?_
      refine lv_topl (fun z ez => ?_)
      obtain rfl : z = lI (4294967295) := ez
      refine lv_land hx hb dX19_result_218 ?_
      refine lv_topl (fun x_38 _ => ?_)
      subst hQ
      refine W.widen (k := 0) (n := 0) (Nat.le_of_ble_eq_true rfl) (Nat.le_of_ble_eq_true rfl) ?_
      exact W.lret (v := x_38) hx hb hr (fun t ht hW => ⟨⟨x_38, (), rfl, trivial, by rw [ht]; exact hP, va_K.moved hW.alike hK, hD⟩, hS.F ht⟩) hS.2.2 dX19_result_219
  refine lv_tableOut (tgt := 202) hx hb dX19_result_1 (by rw [zI_toInt (by omega) (by omega)]; omega) (by decide) ?_
  refine lv_iload_n hx hb dX19_result_202 rfl (lv_at hl 1 rfl) ?_
  refine lv_iload_n hx hb dX19_result_203 rfl (lv_at hl 2 rfl) ?_
  refine lv_icmp_eq (tgt := 211) hx hb dX19_result_204 (by decide) (fun b204 => ?_) (fun b204 => ?_)
  · refine lv_iconst (v := 0) hx hb dX19_result_211 (by decide) ?_
    refine lv_istore_n (lv' := [(3, .int 0), (0, .int (zI (o))), (1, .int p0), (2, .int p1)]) hx hb dX19_result_212 rfl hl (by decide) rfl (fun ls hl => ?_)
    refine lv_iload_n hx hb dX19_result_213 rfl (lv_at hl 0 rfl) ?_
    refine lv_i2l (v := lI (0)) hx hb dX19_result_214 (zI_l (a := 0) (by omega) (by omega)) ?_
    refine lv_ldc2 (v := 4294967295) hx hb hown (ow (k := 0) rfl) dX19_result_215 ?_
    refine lv_topl (fun z ez => ?_)
    obtain rfl : z = lI (4294967295) := ez
    refine lv_land hx hb dX19_result_218 ?_
    refine lv_topl (fun x_39 _ => ?_)
    subst hQ
    refine W.widen (k := 0) (n := 0) (Nat.le_of_ble_eq_true rfl) (Nat.le_of_ble_eq_true rfl) ?_
    exact W.lret (v := x_39) hx hb hr (fun t ht hW => ⟨⟨x_39, (), rfl, trivial, by rw [ht]; exact hP, va_K.moved hW.alike hK, hD⟩, hS.F ht⟩) hS.2.2 dX19_result_219
  · refine lv_iconst (v := 1) hx hb dX19_result_207 (by decide) ?_
    refine lv_goto (tgt := 212) hx hb dX19_result_208 (by decide) ?_
    refine lv_istore_n (lv' := [(3, .int 1), (0, .int (zI (o))), (1, .int p0), (2, .int p1)]) hx hb dX19_result_212 rfl hl (by decide) rfl (fun ls hl => ?_)
    refine lv_iload_n hx hb dX19_result_213 rfl (lv_at hl 0 rfl) ?_
    refine lv_i2l (v := lI (1)) hx hb dX19_result_214 (zI_l (a := 1) (by omega) (by omega)) ?_
    refine lv_ldc2 (v := 4294967295) hx hb hown (ow (k := 0) rfl) dX19_result_215 ?_
    refine lv_topl (fun z ez => ?_)
    obtain rfl : z = lI (4294967295) := ez
    refine lv_land hx hb dX19_result_218 ?_
    refine lv_topl (fun x_40 _ => ?_)
    subst hQ
    refine W.widen (k := 0) (n := 0) (Nat.le_of_ble_eq_true rfl) (Nat.le_of_ble_eq_true rfl) ?_
    exact W.lret (v := x_40) hx hb hr (fun t ht hW => ⟨⟨x_40, (), rfl, trivial, by rw [ht]; exact hP, va_K.moved hW.alike hK, hD⟩, hS.F ht⟩) hS.2.2 dX19_result_219
theorem dX19_go_0 : decode cX19_go 0 = .ok (.aload_n 0, 1) := by decide +kernel
theorem dX19_go_1 : decode cX19_go 1 = .ok (.getfield 250, 3) := by decide +kernel
theorem dX19_go_4 : decode cX19_go 4 = .ok (.iload_n 1, 1) := by decide +kernel
theorem dX19_go_5 : decode cX19_go 5 = .ok (.iload_n 3, 1) := by decide +kernel
theorem dX19_go_6 : decode cX19_go 6 = .ok (.imul, 1) := by decide +kernel
theorem dX19_go_7 : decode cX19_go 7 = .ok (.iload_n 2, 1) := by decide +kernel
theorem dX19_go_8 : decode cX19_go 8 = .ok (.iadd, 1) := by decide +kernel
theorem dX19_go_9 : decode cX19_go 9 = .ok (.baload, 1) := by decide +kernel
theorem dX19_go_10 : decode cX19_go 10 = .ok (.ifCond .ne 8, 3) := by decide +kernel
theorem dX19_go_18 : decode cX19_go 18 = .ok (.aload_n 0, 1) := by decide +kernel
theorem dX19_go_19 : decode cX19_go 19 = .ok (.getfield 250, 3) := by decide +kernel
theorem dX19_go_22 : decode cX19_go 22 = .ok (.iload_n 1, 1) := by decide +kernel
theorem dX19_go_23 : decode cX19_go 23 = .ok (.iload_n 3, 1) := by decide +kernel
theorem dX19_go_24 : decode cX19_go 24 = .ok (.imul, 1) := by decide +kernel
theorem dX19_go_25 : decode cX19_go 25 = .ok (.iload_n 2, 1) := by decide +kernel
theorem dX19_go_26 : decode cX19_go 26 = .ok (.iadd, 1) := by decide +kernel
theorem dX19_go_27 : decode cX19_go 27 = .ok (.iconst 1, 1) := by decide +kernel
theorem dX19_go_28 : decode cX19_go 28 = .ok (.bastore, 1) := by decide +kernel
theorem dX19_go_29 : decode cX19_go 29 = .ok (.aload_n 0, 1) := by decide +kernel
theorem dX19_go_30 : decode cX19_go 30 = .ok (.getfield 256, 3) := by decide +kernel
theorem dX19_go_33 : decode cX19_go 33 = .ok (.iload_n 2, 1) := by decide +kernel
theorem dX19_go_34 : decode cX19_go 34 = .ok (.baload, 1) := by decide +kernel
theorem dX19_go_35 : decode cX19_go 35 = .ok (.ifCond .ne 8, 3) := by decide +kernel
theorem dX19_go_43 : decode cX19_go 43 = .ok (.aload_n 0, 1) := by decide +kernel
theorem dX19_go_44 : decode cX19_go 44 = .ok (.getfield 256, 3) := by decide +kernel
theorem dX19_go_47 : decode cX19_go 47 = .ok (.iload_n 2, 1) := by decide +kernel
theorem dX19_go_48 : decode cX19_go 48 = .ok (.iconst 1, 1) := by decide +kernel
theorem dX19_go_49 : decode cX19_go 49 = .ok (.bastore, 1) := by decide +kernel
theorem dX19_go_50 : decode cX19_go 50 = .ok (.return_, 1) := by decide +kernel
theorem dX19_go_38 : decode cX19_go 38 = .ok (.aload_n 0, 1) := by decide +kernel
theorem dX19_go_39 : decode cX19_go 39 = .ok (.iconst 1, 1) := by decide +kernel
theorem dX19_go_40 : decode cX19_go 40 = .ok (.putfield 226, 3) := by decide +kernel
theorem dX19_go_13 : decode cX19_go 13 = .ok (.aload_n 0, 1) := by decide +kernel
theorem dX19_go_14 : decode cX19_go 14 = .ok (.iconst 1, 1) := by decide +kernel
theorem dX19_go_15 : decode cX19_go 15 = .ok (.putfield 226, 3) := by decide +kernel
def o_X19_go : List Cond := [.fieldLink RX19 250 "SsaForgeModel" "open" "[Z", .fieldLink RX19 256 "SsaForgeModel" "gone" "[Z", .fieldLink RX19 226 "SsaForgeModel" "changed" "Z"]
def v_X19_go : List Cond := .code yX19_go cX19_go 4 none :: (o_X19_go ++ (wsX190 ++ []))
theorem mow_X19_go : ∀ w ∈ o_X19_go, w ∈ v_X19_go := fun _ h => List.mem_cons_of_mem _ (List.mem_append_left _ h)
theorem mem_X19_go_0 : ∀ w ∈ wsX190, w ∈ v_X19_go := fun _ h => List.mem_cons_of_mem _ (List.mem_append_right _ (List.mem_append_left _ h))
set_option maxRecDepth 20000 in
theorem gw_X19_go : v_X19_go.all goodWord = true := by decide +kernel
set_option maxHeartbeats 4000000 in
set_option maxRecDepth 100000 in
theorem c_X19_go (l : Launch) (dC : Nat → ClassId) (dI : Nat → Nat → Nat) (h0 : Nat) (v19_0 : Value) (v19_1 : Value) (v19_2 : Value) (v19_3 : Value) (v19_4 : Value) (v19_5 : Value) (v19_6 : Value) (v19_7 : Value) (v19_8 : Value) (z19_changed : Int) (v19_12 : Value) (v19_13 : Value) (v19_14 : Value) (v19_15 : Value) (v19_16 : Value) (v19_17 : Value) (v19_18 : Value) (v19_19 : Value) (v19_20 : Value) (v19_21 : Value) (v19_22 : Value) (v19_23 : Value) (v19_24 : Value) (v19_25 : Value) (v19_26 : Value) (v19_27 : Value) (v19_28 : Value) (v19_29 : Value) (v19_30 : Value) (v19_31 : Value) (v19_32 : Value) (v19_33 : Value) (v19_34 : Value) (v19_35 : Value) (v19_36 : Value) (v19_37 : Value) (v19_38 : Value) (v19_39 : Value) (v19_40 : Value) (q_1909 : Nat) (cA_1909 : ClassId) (n19_gone : Nat) (a19_gone : Int → Int) (q_1910 : Nat) (cA_1910 : ClassId) (n19_open : Nat) (a19_open : Int → Int) (f0 : Int) (t0 : Int) (m0 : Int) (hNz19_changed : 0 ≤ z19_changed ∧ z19_changed ≤ 1) (hNn19_gone : n19_gone ≤ 1000) (hR_a19_gone : ∀ j : Int, 0 ≤ a19_gone j ∧ a19_gone j ≤ 1) (hNn19_open : n19_open ≤ 200000) (hR_a19_open : ∀ j : Int, 0 ≤ a19_open j ∧ a19_open j ≤ 1) (hNf : 0 ≤ f0 ∧ f0 < m0 ∧ 0 ≤ t0 ∧ t0 < m0 ∧ m0 ≤ 300) (hNm : 0 ≤ f0 * m0 ∧ f0 * m0 + t0 < n19_open ∧ m0 ≤ n19_gone) (sz : Nat) : Met l yX19_go v_X19_go ({ frames := 0, cells := 0, slots := 0, locals := 0 }) (va_Pc [.ref h0, .int (zI (f0)), .int (zI (t0)), .int (zI (m0))] (fun U => U.heap.size = sz ∧ va_P (dC, dI) vwQ [(h0, .inr (16, [v19_0, v19_1, v19_2, v19_3, v19_4, v19_5, v19_6, v19_7, v19_8, .ref q_1909, .ref q_1910, .int (zI (z19_changed)), v19_12, v19_13, v19_14, v19_15, v19_16, v19_17, v19_18, v19_19, v19_20, v19_21, v19_22, v19_23, v19_24, v19_25, v19_26, v19_27, v19_28, v19_29, v19_30, v19_31, v19_32, v19_33, v19_34, v19_35, v19_36, v19_37, v19_38, v19_39, v19_40])), (q_1909, .inl (cA_1909, n19_gone, .inl (fun j : Nat => zI (a19_gone (j : Int))))), (q_1910, .inl (cA_1910, n19_open, .inl (fun j : Nat => zI (a19_open (j : Int)))))] U.heap ∧ va_K (dC, dI) vwQ [(cA_1909, .boolean), (cA_1910, .boolean)] U ∧ va_D (fun _ => True) [(h0, .inr (16, [v19_0, v19_1, v19_2, v19_3, v19_4, v19_5, v19_6, v19_7, v19_8, .ref q_1909, .ref q_1910, .int (zI (z19_changed)), v19_12, v19_13, v19_14, v19_15, v19_16, v19_17, v19_18, v19_19, v19_20, v19_21, v19_22, v19_23, v19_24, v19_25, v19_26, v19_27, v19_28, v19_29, v19_30, v19_31, v19_32, v19_33, v19_34, v19_35, v19_36, v19_37, v19_38, v19_39, v19_40])), (q_1909, .inl (cA_1909, n19_gone, .inl (fun j : Nat => zI (a19_gone (j : Int))))), (q_1910, .inl (cA_1910, n19_open, .inl (fun j : Nat => zI (a19_open (j : Int)))))])) (va_Qv (fun _ : Unit => True) (fun (_ : Unit) (t : State) => ∃ (z0_9 : Int) (a1_9 : Int → Int) (a2_9 : Int → Int), ((0 ≤ z0_9 ∧ z0_9 ≤ 1) ∧ (∀ j : Int, 0 ≤ a1_9 j ∧ a1_9 j ≤ 1) ∧ (∀ j : Int, 0 ≤ a2_9 j ∧ a2_9 j ≤ 1)) ∧ va_P (dC, dI) vwQ [(h0, .inr (16, [v19_0, v19_1, v19_2, v19_3, v19_4, v19_5, v19_6, v19_7, v19_8, .ref q_1909, .ref q_1910, .int (zI (z0_9)), v19_12, v19_13, v19_14, v19_15, v19_16, v19_17, v19_18, v19_19, v19_20, v19_21, v19_22, v19_23, v19_24, v19_25, v19_26, v19_27, v19_28, v19_29, v19_30, v19_31, v19_32, v19_33, v19_34, v19_35, v19_36, v19_37, v19_38, v19_39, v19_40])), (q_1909, .inl (cA_1909, n19_gone, .inl (fun j : Nat => zI (a1_9 (j : Int))))), (q_1910, .inl (cA_1910, n19_open, .inl (fun j : Nat => zI (a2_9 (j : Int)))))] t.heap ∧ va_K (dC, dI) vwQ [(cA_1909, .boolean), (cA_1910, .boolean)] t ∧ va_D (va_A [(h0, .inr (16, [v19_0, v19_1, v19_2, v19_3, v19_4, v19_5, v19_6, v19_7, v19_8, .ref q_1909, .ref q_1910, .int (zI (z19_changed)), v19_12, v19_13, v19_14, v19_15, v19_16, v19_17, v19_18, v19_19, v19_20, v19_21, v19_22, v19_23, v19_24, v19_25, v19_26, v19_27, v19_28, v19_29, v19_30, v19_31, v19_32, v19_33, v19_34, v19_35, v19_36, v19_37, v19_38, v19_39, v19_40])), (q_1909, .inl (cA_1909, n19_gone, .inl (fun j : Nat => zI (a19_gone (j : Int))))), (q_1910, .inl (cA_1910, n19_open, .inl (fun j : Nat => zI (a19_open (j : Int)))))] sz) [(h0, .inr (16, [v19_0, v19_1, v19_2, v19_3, v19_4, v19_5, v19_6, v19_7, v19_8, .ref q_1909, .ref q_1910, .int (zI (z0_9)), v19_12, v19_13, v19_14, v19_15, v19_16, v19_17, v19_18, v19_19, v19_20, v19_21, v19_22, v19_23, v19_24, v19_25, v19_26, v19_27, v19_28, v19_29, v19_30, v19_31, v19_32, v19_33, v19_34, v19_35, v19_36, v19_37, v19_38, v19_39, v19_40])), (q_1909, .inl (cA_1909, n19_gone, .inl (fun j : Nat => zI (a1_9 (j : Int))))), (q_1910, .inl (cA_1910, n19_open, .inl (fun j : Nat => zI (a2_9 (j : Int)))))]) (va_A [(h0, .inr (16, [v19_0, v19_1, v19_2, v19_3, v19_4, v19_5, v19_6, v19_7, v19_8, .ref q_1909, .ref q_1910, .int (zI (z19_changed)), v19_12, v19_13, v19_14, v19_15, v19_16, v19_17, v19_18, v19_19, v19_20, v19_21, v19_22, v19_23, v19_24, v19_25, v19_26, v19_27, v19_28, v19_29, v19_30, v19_31, v19_32, v19_33, v19_34, v19_35, v19_36, v19_37, v19_38, v19_39, v19_40])), (q_1909, .inl (cA_1909, n19_gone, .inl (fun j : Nat => zI (a19_gone (j : Int))))), (q_1910, .inl (cA_1910, n19_open, .inl (fun j : Nat => zI (a19_open (j : Int)))))] sz)) 0 0 (va_A [(h0, .inr (16, [v19_0, v19_1, v19_2, v19_3, v19_4, v19_5, v19_6, v19_7, v19_8, .ref q_1909, .ref q_1910, .int (zI (z19_changed)), v19_12, v19_13, v19_14, v19_15, v19_16, v19_17, v19_18, v19_19, v19_20, v19_21, v19_22, v19_23, v19_24, v19_25, v19_26, v19_27, v19_28, v19_29, v19_30, v19_31, v19_32, v19_33, v19_34, v19_35, v19_36, v19_37, v19_38, v19_39, v19_40])), (q_1909, .inl (cA_1909, n19_gone, .inl (fun j : Nat => zI (a19_gone (j : Int))))), (q_1910, .inl (cA_1910, n19_open, .inl (fun j : Nat => zI (a19_open (j : Int)))))] sz) := by
  refine Met.ofW (cc := cX19_go) (maxL := 4) (ret := none) (by decide) rfl ?_
  intro p e s m args below meth c s₁ B hml hv
  obtain ⟨rfl, hsz, hP, hK, hD0⟩ := hv
  have hx := B.exec
  have hb := B.bytes
  have hr := B.returns
  have hts := atoms_spec (ws := v_X19_go) B.pre
  have hown : s.vm.findClass RX19 = some m.cls := findClass_of_methodNamed B.named
  have hlocks := B.notSynchronized
  have ow : ∀ {k : Nat} {w : Cond}, o_X19_go[k]? = some w → w.before ([.ref h0, .int (zI (f0)), .int (zI (t0)), .int (zI (m0))] : List Value).toArray s = true := fun h => hts _ (mow_X19_go _ (List.mem_of_getElem? h))
  subst hsz
  have hD := hD0.self (sz := s.heap.size)
  generalize hAe : va_A [(h0, .inr (16, [v19_0, v19_1, v19_2, v19_3, v19_4, v19_5, v19_6, v19_7, v19_8, .ref q_1909, .ref q_1910, .int (zI (z19_changed)), v19_12, v19_13, v19_14, v19_15, v19_16, v19_17, v19_18, v19_19, v19_20, v19_21, v19_22, v19_23, v19_24, v19_25, v19_26, v19_27, v19_28, v19_29, v19_30, v19_31, v19_32, v19_33, v19_34, v19_35, v19_36, v19_37, v19_38, v19_39, v19_40])), (q_1909, .inl (cA_1909, n19_gone, .inl (fun j : Nat => zI (a19_gone (j : Int))))), (q_1910, .inl (cA_1910, n19_open, .inl (fun j : Nat => zI (a19_open (j : Int)))))] s.heap.size = A at hD ⊢
  have hA : ∀ q : Nat, s.heap.size ≤ q → A q := fun q h => by rw [← hAe]; exact Or.inr h
  have hS : va_S A s.heap s.heap [] := va_S.rf
  have hP : va_P (dC, dI) vwQ [(h0, .inr (16, [v19_0, v19_1, v19_2, v19_3, v19_4, v19_5, v19_6, v19_7, v19_8, .ref q_1909, .ref q_1910, .int (zI (z19_changed)), v19_12, v19_13, v19_14, v19_15, v19_16, v19_17, v19_18, v19_19, v19_20, v19_21, v19_22, v19_23, v19_24, v19_25, v19_26, v19_27, v19_28, v19_29, v19_30, v19_31, v19_32, v19_33, v19_34, v19_35, v19_36, v19_37, v19_38, v19_39, v19_40])), (q_1909, .inl (cA_1909, n19_gone, .inl (fun j : Nat => zI (a19_gone (j : Int))))), (q_1910, .inl (cA_1910, n19_open, .inl (fun j : Nat => zI (a19_open (j : Int)))))] s.heap := hP
  have hl := lv_entry ([.ref h0, .int (zI (f0)), .int (zI (t0)), .int (zI (m0))]) (n := 4) (Nat.le_of_ble_eq_true rfl)
  rw [lg_entry_eq]
  generalize (lg_sl ([.ref h0, .int (zI (f0)), .int (zI (t0)), .int (zI (m0))]) ++ List.replicate (4 - (lg_sl ([.ref h0, .int (zI (f0)), .int (zI (t0)), .int (zI (m0))])).length) Slot.unset).toArray = ls at hl ⊢
  have hl : lv_has ls 4 [(0, .ref h0), (1, .int (zI (f0))), (2, .int (zI (t0))), (3, .int (zI (m0)))] := hl
  obtain ⟨H, hH⟩ : ∃ H, H = s.heap := ⟨_, rfl⟩
  rw [← hH] at hP
  have hS : va_S A s.heap H [] := by rw [hH]; exact hS
  rw [← hH]
  refine zW_cap (fun Q hQ => ?_)
  refine lv_aload_n hx hb dX19_go_0 rfl (lv_at hl 0 rfl) ?_
  refine va_get (D := (dC, dI)) (ci := 16) (v := .ref q_1910) (C := RX19) (T := TX19) (N := 41) hx hb hts mem_X19_go_0 hown hK hP 0 rfl rfl 10 (by decide) (ow (k := 0) rfl) (fun _ h9 => h9) rfl dX19_go_1 ?_
  refine lv_iload_n hx hb dX19_go_4 rfl (lv_at hl 1 rfl) ?_
  refine lv_iload_n hx hb dX19_go_5 rfl (lv_at hl 3 rfl) ?_
  refine lv_imul hx hb dX19_go_6 ?_
  refine lv_topi (fun z ez => ?_)
  obtain rfl : z = zI (f0 * m0) := ez.trans (zI_mul (f0) (m0))
  refine lv_iload_n hx hb dX19_go_7 rfl (lv_at hl 2 rfl) ?_
  refine lv_iadd hx hb dX19_go_8 ?_
  refine lv_topi (fun z ez => ?_)
  obtain rfl : z = zI ((f0 * m0) + t0) := ez.trans (zI_add (f0 * m0) (t0))
  refine va_zald hx hb hK hP 2 1 rfl rfl (zI_in (a := (f0 * m0) + t0) (n := n19_open) (by omega) (by omega) (by omega)) dX19_go_9 ?_
  refine lv_topi (fun z ez => ?_)
  obtain rfl : z = zI (a19_open ((f0 * m0) + t0)) := ez.trans (zI_ld (a19_open) (by omega) (by omega))
  have k1 := hR_a19_open ((f0 * m0) + t0)
  refine lv_if_ne (tgt := 18) hx hb dX19_go_10 (by decide) (fun b10 => ?_) (fun b10 => ?_)
  · have yb10 : ¬ (a19_open ((f0 * m0) + t0) : Int) = (0 : Int) := fun q => b10 ((zI_eq (a := a19_open ((f0 * m0) + t0)) (b := 0) (by omega) (by omega) (by omega) (by omega)).mpr q)
    refine lv_aload_n hx hb dX19_go_18 rfl (lv_at hl 0 rfl) ?_
    refine va_get (D := (dC, dI)) (ci := 16) (v := .ref q_1910) (C := RX19) (T := TX19) (N := 41) hx hb hts mem_X19_go_0 hown hK hP 0 rfl rfl 10 (by decide) (ow (k := 0) rfl) (fun _ h9 => h9) rfl dX19_go_19 ?_
    refine lv_iload_n hx hb dX19_go_22 rfl (lv_at hl 1 rfl) ?_
    refine lv_iload_n hx hb dX19_go_23 rfl (lv_at hl 3 rfl) ?_
    refine lv_imul hx hb dX19_go_24 ?_
    refine lv_topi (fun z ez => ?_)
    obtain rfl : z = zI (f0 * m0) := ez.trans (zI_mul (f0) (m0))
    refine lv_iload_n hx hb dX19_go_25 rfl (lv_at hl 2 rfl) ?_
    refine lv_iadd hx hb dX19_go_26 ?_
    refine lv_topi (fun z ez => ?_)
    obtain rfl : z = zI ((f0 * m0) + t0) := ez.trans (zI_add (f0 * m0) (t0))
    refine lv_iconst (v := 1) hx hb dX19_go_27 (by decide) ?_
    refine va_zast (i := zI ((f0 * m0) + t0)) hx hb hK hP hD hS 2 1 rfl rfl (zI_in (a := (f0 * m0) + t0) (n := n19_open) (by omega) (by omega) (by omega)) dX19_go_28 (fun H locs hP hD hS => ?_)
    rw [show vp_nar .boolean 1 = 1 from zI_nar (a := 1) (by omega) (by omega)] at hP hD
    have eQ : upd (fun j : Nat => zI (a19_open (j : Int))) (zI ((f0 * m0) + t0)).toNatClampNeg 1 = (fun j : Nat => zI (zup a19_open ((f0 * m0) + t0) (1) (j : Int))) := zI_st a19_open (e := (f0 * m0) + t0) (v := 1) (by omega) (by omega)
    rw [eQ] at hP hD
    clear eQ
    have ra_2001 : ∀ j : Int, 0 ≤ zup a19_open ((f0 * m0) + t0) (1) j ∧ zup a19_open ((f0 * m0) + t0) (1) j ≤ 1 := zup_P (P := fun x9 => 0 ≤ x9 ∧ x9 ≤ 1) hR_a19_open (show 0 ≤ (1) ∧ (1) ≤ 1 by omega)
    generalize zup a19_open ((f0 * m0) + t0) (1) = a_2001 at hP hD ra_2001
    have hP : va_P (dC, dI) vwQ [(h0, .inr (16, [v19_0, v19_1, v19_2, v19_3, v19_4, v19_5, v19_6, v19_7, v19_8, .ref q_1909, .ref q_1910, .int (zI (z19_changed)), v19_12, v19_13, v19_14, v19_15, v19_16, v19_17, v19_18, v19_19, v19_20, v19_21, v19_22, v19_23, v19_24, v19_25, v19_26, v19_27, v19_28, v19_29, v19_30, v19_31, v19_32, v19_33, v19_34, v19_35, v19_36, v19_37, v19_38, v19_39, v19_40])), (q_1909, .inl (cA_1909, n19_gone, .inl (fun j : Nat => zI (a19_gone (j : Int))))), (q_1910, .inl (cA_1910, n19_open, .inl (fun j : Nat => zI (a_2001 (j : Int)))))] H := hP
    have hD : va_D A [(h0, .inr (16, [v19_0, v19_1, v19_2, v19_3, v19_4, v19_5, v19_6, v19_7, v19_8, .ref q_1909, .ref q_1910, .int (zI (z19_changed)), v19_12, v19_13, v19_14, v19_15, v19_16, v19_17, v19_18, v19_19, v19_20, v19_21, v19_22, v19_23, v19_24, v19_25, v19_26, v19_27, v19_28, v19_29, v19_30, v19_31, v19_32, v19_33, v19_34, v19_35, v19_36, v19_37, v19_38, v19_39, v19_40])), (q_1909, .inl (cA_1909, n19_gone, .inl (fun j : Nat => zI (a19_gone (j : Int))))), (q_1910, .inl (cA_1910, n19_open, .inl (fun j : Nat => zI (a_2001 (j : Int)))))] := hD
    refine lv_aload_n hx hb dX19_go_29 rfl (lv_at hl 0 rfl) ?_
    refine va_get (D := (dC, dI)) (ci := 16) (v := .ref q_1909) (C := RX19) (T := TX19) (N := 41) hx hb hts mem_X19_go_0 hown hK hP 0 rfl rfl 9 (by decide) (ow (k := 1) rfl) (fun _ h9 => h9) rfl dX19_go_30 ?_
    refine lv_iload_n hx hb dX19_go_33 rfl (lv_at hl 2 rfl) ?_
    refine va_zald hx hb hK hP 1 0 rfl rfl (zI_in (a := t0) (n := n19_gone) (by omega) (by omega) (by omega)) dX19_go_34 ?_
    refine lv_topi (fun z ez => ?_)
    obtain rfl : z = zI (a19_gone (t0)) := ez.trans (zI_ld (a19_gone) (by omega) (by omega))
    have k2 := hR_a19_gone (t0)
    refine lv_if_ne (tgt := 43) hx hb dX19_go_35 (by decide) (fun b35 => ?_) (fun b35 => ?_)
    · have yb35 : ¬ (a19_gone (t0) : Int) = (0 : Int) := fun q => b35 ((zI_eq (a := a19_gone (t0)) (b := 0) (by omega) (by omega) (by omega) (by omega)).mpr q)
      refine lv_aload_n hx hb dX19_go_43 rfl (lv_at hl 0 rfl) ?_
      refine va_get (D := (dC, dI)) (ci := 16) (v := .ref q_1909) (C := RX19) (T := TX19) (N := 41) hx hb hts mem_X19_go_0 hown hK hP 0 rfl rfl 9 (by decide) (ow (k := 1) rfl) (fun _ h9 => h9) rfl dX19_go_44 ?_
      refine lv_iload_n hx hb dX19_go_47 rfl (lv_at hl 2 rfl) ?_
      refine lv_iconst (v := 1) hx hb dX19_go_48 (by decide) ?_
      refine va_zast (i := zI (t0)) hx hb hK hP hD hS 1 0 rfl rfl (zI_in (a := t0) (n := n19_gone) (by omega) (by omega) (by omega)) dX19_go_49 (fun H locs hP hD hS => ?_)
      rw [show vp_nar .boolean 1 = 1 from zI_nar (a := 1) (by omega) (by omega)] at hP hD
      have eQ : upd (fun j : Nat => zI (a19_gone (j : Int))) (zI (t0)).toNatClampNeg 1 = (fun j : Nat => zI (zup a19_gone (t0) (1) (j : Int))) := zI_st a19_gone (e := t0) (v := 1) (by omega) (by omega)
      rw [eQ] at hP hD
      clear eQ
      have ra_2002 : ∀ j : Int, 0 ≤ zup a19_gone (t0) (1) j ∧ zup a19_gone (t0) (1) j ≤ 1 := zup_P (P := fun x9 => 0 ≤ x9 ∧ x9 ≤ 1) hR_a19_gone (show 0 ≤ (1) ∧ (1) ≤ 1 by omega)
      generalize zup a19_gone (t0) (1) = a_2002 at hP hD ra_2002
      have hP : va_P (dC, dI) vwQ [(h0, .inr (16, [v19_0, v19_1, v19_2, v19_3, v19_4, v19_5, v19_6, v19_7, v19_8, .ref q_1909, .ref q_1910, .int (zI (z19_changed)), v19_12, v19_13, v19_14, v19_15, v19_16, v19_17, v19_18, v19_19, v19_20, v19_21, v19_22, v19_23, v19_24, v19_25, v19_26, v19_27, v19_28, v19_29, v19_30, v19_31, v19_32, v19_33, v19_34, v19_35, v19_36, v19_37, v19_38, v19_39, v19_40])), (q_1909, .inl (cA_1909, n19_gone, .inl (fun j : Nat => zI (a_2002 (j : Int))))), (q_1910, .inl (cA_1910, n19_open, .inl (fun j : Nat => zI (a_2001 (j : Int)))))] H := hP
      have hD : va_D A [(h0, .inr (16, [v19_0, v19_1, v19_2, v19_3, v19_4, v19_5, v19_6, v19_7, v19_8, .ref q_1909, .ref q_1910, .int (zI (z19_changed)), v19_12, v19_13, v19_14, v19_15, v19_16, v19_17, v19_18, v19_19, v19_20, v19_21, v19_22, v19_23, v19_24, v19_25, v19_26, v19_27, v19_28, v19_29, v19_30, v19_31, v19_32, v19_33, v19_34, v19_35, v19_36, v19_37, v19_38, v19_39, v19_40])), (q_1909, .inl (cA_1909, n19_gone, .inl (fun j : Nat => zI (a_2002 (j : Int))))), (q_1910, .inl (cA_1910, n19_open, .inl (fun j : Nat => zI (a_2001 (j : Int)))))] := hD
      subst hQ
      refine W.widen (k := 0) (n := 0) (Nat.le_of_ble_eq_true rfl) (Nat.le_of_ble_eq_true rfl) ?_
      exact W.vret hx hb hr (fun t ht hW => ⟨⟨(), rfl, trivial, z19_changed, a_2002, a_2001, ⟨(by omega), ra_2002, ra_2001⟩, by rw [ht]; exact hP, va_K.moved hW.alike hK, hD⟩, hS.F ht⟩) hS.2.2 dX19_go_50
    · have yb35 : (a19_gone (t0) : Int) = (0 : Int) := (zI_eq (a := a19_gone (t0)) (b := 0) (by omega) (by omega) (by omega) (by omega)).mp b35
      refine lv_aload_n hx hb dX19_go_38 rfl (lv_at hl 0 rfl) ?_
      refine lv_iconst (v := 1) hx hb dX19_go_39 (by decide) ?_
      refine va_put (D := (dC, dI)) (ci := 16) (v := .int 1) (ty := .boolean) (C := RX19) (T := TX19) (N := 41) hx hb hts mem_X19_go_0 tyX19 tyX19_ok nmX19 hown hK hP hD hS 0 rfl rfl 11 (by decide) (ow (k := 2) rfl) (fun _ h9 => h9) rfl (by decide +kernel) rfl rfl (Nat.le_of_ble_eq_true rfl) dX19_go_40 (fun H locs hP hD hS => ?_)
      have hP : va_P (dC, dI) vwQ [(h0, .inr (16, [v19_0, v19_1, v19_2, v19_3, v19_4, v19_5, v19_6, v19_7, v19_8, .ref q_1909, .ref q_1910, .int 1, v19_12, v19_13, v19_14, v19_15, v19_16, v19_17, v19_18, v19_19, v19_20, v19_21, v19_22, v19_23, v19_24, v19_25, v19_26, v19_27, v19_28, v19_29, v19_30, v19_31, v19_32, v19_33, v19_34, v19_35, v19_36, v19_37, v19_38, v19_39, v19_40])), (q_1909, .inl (cA_1909, n19_gone, .inl (fun j : Nat => zI (a19_gone (j : Int))))), (q_1910, .inl (cA_1910, n19_open, .inl (fun j : Nat => zI (a_2001 (j : Int)))))] H := hP
      have hD : va_D A [(h0, .inr (16, [v19_0, v19_1, v19_2, v19_3, v19_4, v19_5, v19_6, v19_7, v19_8, .ref q_1909, .ref q_1910, .int 1, v19_12, v19_13, v19_14, v19_15, v19_16, v19_17, v19_18, v19_19, v19_20, v19_21, v19_22, v19_23, v19_24, v19_25, v19_26, v19_27, v19_28, v19_29, v19_30, v19_31, v19_32, v19_33, v19_34, v19_35, v19_36, v19_37, v19_38, v19_39, v19_40])), (q_1909, .inl (cA_1909, n19_gone, .inl (fun j : Nat => zI (a19_gone (j : Int))))), (q_1910, .inl (cA_1910, n19_open, .inl (fun j : Nat => zI (a_2001 (j : Int)))))] := hD
      refine lv_aload_n hx hb dX19_go_43 rfl (lv_at hl 0 rfl) ?_
      refine va_get (D := (dC, dI)) (ci := 16) (v := .ref q_1909) (C := RX19) (T := TX19) (N := 41) hx hb hts mem_X19_go_0 hown hK hP 0 rfl rfl 9 (by decide) (ow (k := 1) rfl) (fun _ h9 => h9) rfl dX19_go_44 ?_
      refine lv_iload_n hx hb dX19_go_47 rfl (lv_at hl 2 rfl) ?_
      refine lv_iconst (v := 1) hx hb dX19_go_48 (by decide) ?_
      refine va_zast (i := zI (t0)) hx hb hK hP hD hS 1 0 rfl rfl (zI_in (a := t0) (n := n19_gone) (by omega) (by omega) (by omega)) dX19_go_49 (fun H locs hP hD hS => ?_)
      rw [show vp_nar .boolean 1 = 1 from zI_nar (a := 1) (by omega) (by omega)] at hP hD
      have eQ : upd (fun j : Nat => zI (a19_gone (j : Int))) (zI (t0)).toNatClampNeg 1 = (fun j : Nat => zI (zup a19_gone (t0) (1) (j : Int))) := zI_st a19_gone (e := t0) (v := 1) (by omega) (by omega)
      rw [eQ] at hP hD
      clear eQ
      have ra_2003 : ∀ j : Int, 0 ≤ zup a19_gone (t0) (1) j ∧ zup a19_gone (t0) (1) j ≤ 1 := zup_P (P := fun x9 => 0 ≤ x9 ∧ x9 ≤ 1) hR_a19_gone (show 0 ≤ (1) ∧ (1) ≤ 1 by omega)
      generalize zup a19_gone (t0) (1) = a_2003 at hP hD ra_2003
      have hP : va_P (dC, dI) vwQ [(h0, .inr (16, [v19_0, v19_1, v19_2, v19_3, v19_4, v19_5, v19_6, v19_7, v19_8, .ref q_1909, .ref q_1910, .int 1, v19_12, v19_13, v19_14, v19_15, v19_16, v19_17, v19_18, v19_19, v19_20, v19_21, v19_22, v19_23, v19_24, v19_25, v19_26, v19_27, v19_28, v19_29, v19_30, v19_31, v19_32, v19_33, v19_34, v19_35, v19_36, v19_37, v19_38, v19_39, v19_40])), (q_1909, .inl (cA_1909, n19_gone, .inl (fun j : Nat => zI (a_2003 (j : Int))))), (q_1910, .inl (cA_1910, n19_open, .inl (fun j : Nat => zI (a_2001 (j : Int)))))] H := hP
      have hD : va_D A [(h0, .inr (16, [v19_0, v19_1, v19_2, v19_3, v19_4, v19_5, v19_6, v19_7, v19_8, .ref q_1909, .ref q_1910, .int 1, v19_12, v19_13, v19_14, v19_15, v19_16, v19_17, v19_18, v19_19, v19_20, v19_21, v19_22, v19_23, v19_24, v19_25, v19_26, v19_27, v19_28, v19_29, v19_30, v19_31, v19_32, v19_33, v19_34, v19_35, v19_36, v19_37, v19_38, v19_39, v19_40])), (q_1909, .inl (cA_1909, n19_gone, .inl (fun j : Nat => zI (a_2003 (j : Int))))), (q_1910, .inl (cA_1910, n19_open, .inl (fun j : Nat => zI (a_2001 (j : Int)))))] := hD
      subst hQ
      refine W.widen (k := 0) (n := 0) (Nat.le_of_ble_eq_true rfl) (Nat.le_of_ble_eq_true rfl) ?_
      exact W.vret hx hb hr (fun t ht hW => ⟨⟨(), rfl, trivial, 1, a_2003, a_2001, ⟨(by omega), ra_2003, ra_2001⟩, by rw [ht]; exact hP, va_K.moved hW.alike hK, hD⟩, hS.F ht⟩) hS.2.2 dX19_go_50
  · have yb10 : (a19_open ((f0 * m0) + t0) : Int) = (0 : Int) := (zI_eq (a := a19_open ((f0 * m0) + t0)) (b := 0) (by omega) (by omega) (by omega) (by omega)).mp b10
    refine lv_aload_n hx hb dX19_go_13 rfl (lv_at hl 0 rfl) ?_
    refine lv_iconst (v := 1) hx hb dX19_go_14 (by decide) ?_
    refine va_put (D := (dC, dI)) (ci := 16) (v := .int 1) (ty := .boolean) (C := RX19) (T := TX19) (N := 41) hx hb hts mem_X19_go_0 tyX19 tyX19_ok nmX19 hown hK hP hD hS 0 rfl rfl 11 (by decide) (ow (k := 2) rfl) (fun _ h9 => h9) rfl (by decide +kernel) rfl rfl (Nat.le_of_ble_eq_true rfl) dX19_go_15 (fun H locs hP hD hS => ?_)
    have hP : va_P (dC, dI) vwQ [(h0, .inr (16, [v19_0, v19_1, v19_2, v19_3, v19_4, v19_5, v19_6, v19_7, v19_8, .ref q_1909, .ref q_1910, .int 1, v19_12, v19_13, v19_14, v19_15, v19_16, v19_17, v19_18, v19_19, v19_20, v19_21, v19_22, v19_23, v19_24, v19_25, v19_26, v19_27, v19_28, v19_29, v19_30, v19_31, v19_32, v19_33, v19_34, v19_35, v19_36, v19_37, v19_38, v19_39, v19_40])), (q_1909, .inl (cA_1909, n19_gone, .inl (fun j : Nat => zI (a19_gone (j : Int))))), (q_1910, .inl (cA_1910, n19_open, .inl (fun j : Nat => zI (a19_open (j : Int)))))] H := hP
    have hD : va_D A [(h0, .inr (16, [v19_0, v19_1, v19_2, v19_3, v19_4, v19_5, v19_6, v19_7, v19_8, .ref q_1909, .ref q_1910, .int 1, v19_12, v19_13, v19_14, v19_15, v19_16, v19_17, v19_18, v19_19, v19_20, v19_21, v19_22, v19_23, v19_24, v19_25, v19_26, v19_27, v19_28, v19_29, v19_30, v19_31, v19_32, v19_33, v19_34, v19_35, v19_36, v19_37, v19_38, v19_39, v19_40])), (q_1909, .inl (cA_1909, n19_gone, .inl (fun j : Nat => zI (a19_gone (j : Int))))), (q_1910, .inl (cA_1910, n19_open, .inl (fun j : Nat => zI (a19_open (j : Int)))))] := hD
    refine lv_aload_n hx hb dX19_go_18 rfl (lv_at hl 0 rfl) ?_
    refine va_get (D := (dC, dI)) (ci := 16) (v := .ref q_1910) (C := RX19) (T := TX19) (N := 41) hx hb hts mem_X19_go_0 hown hK hP 0 rfl rfl 10 (by decide) (ow (k := 0) rfl) (fun _ h9 => h9) rfl dX19_go_19 ?_
    refine lv_iload_n hx hb dX19_go_22 rfl (lv_at hl 1 rfl) ?_
    refine lv_iload_n hx hb dX19_go_23 rfl (lv_at hl 3 rfl) ?_
    refine lv_imul hx hb dX19_go_24 ?_
    refine lv_topi (fun z ez => ?_)
    obtain rfl : z = zI (f0 * m0) := ez.trans (zI_mul (f0) (m0))
    refine lv_iload_n hx hb dX19_go_25 rfl (lv_at hl 2 rfl) ?_
    refine lv_iadd hx hb dX19_go_26 ?_
    refine lv_topi (fun z ez => ?_)
    obtain rfl : z = zI ((f0 * m0) + t0) := ez.trans (zI_add (f0 * m0) (t0))
    refine lv_iconst (v := 1) hx hb dX19_go_27 (by decide) ?_
    refine va_zast (i := zI ((f0 * m0) + t0)) hx hb hK hP hD hS 2 1 rfl rfl (zI_in (a := (f0 * m0) + t0) (n := n19_open) (by omega) (by omega) (by omega)) dX19_go_28 (fun H locs hP hD hS => ?_)
    rw [show vp_nar .boolean 1 = 1 from zI_nar (a := 1) (by omega) (by omega)] at hP hD
    have eQ : upd (fun j : Nat => zI (a19_open (j : Int))) (zI ((f0 * m0) + t0)).toNatClampNeg 1 = (fun j : Nat => zI (zup a19_open ((f0 * m0) + t0) (1) (j : Int))) := zI_st a19_open (e := (f0 * m0) + t0) (v := 1) (by omega) (by omega)
    rw [eQ] at hP hD
    clear eQ
    have ra_2004 : ∀ j : Int, 0 ≤ zup a19_open ((f0 * m0) + t0) (1) j ∧ zup a19_open ((f0 * m0) + t0) (1) j ≤ 1 := zup_P (P := fun x9 => 0 ≤ x9 ∧ x9 ≤ 1) hR_a19_open (show 0 ≤ (1) ∧ (1) ≤ 1 by omega)
    generalize zup a19_open ((f0 * m0) + t0) (1) = a_2004 at hP hD ra_2004
    have hP : va_P (dC, dI) vwQ [(h0, .inr (16, [v19_0, v19_1, v19_2, v19_3, v19_4, v19_5, v19_6, v19_7, v19_8, .ref q_1909, .ref q_1910, .int 1, v19_12, v19_13, v19_14, v19_15, v19_16, v19_17, v19_18, v19_19, v19_20, v19_21, v19_22, v19_23, v19_24, v19_25, v19_26, v19_27, v19_28, v19_29, v19_30, v19_31, v19_32, v19_33, v19_34, v19_35, v19_36, v19_37, v19_38, v19_39, v19_40])), (q_1909, .inl (cA_1909, n19_gone, .inl (fun j : Nat => zI (a19_gone (j : Int))))), (q_1910, .inl (cA_1910, n19_open, .inl (fun j : Nat => zI (a_2004 (j : Int)))))] H := hP
    have hD : va_D A [(h0, .inr (16, [v19_0, v19_1, v19_2, v19_3, v19_4, v19_5, v19_6, v19_7, v19_8, .ref q_1909, .ref q_1910, .int 1, v19_12, v19_13, v19_14, v19_15, v19_16, v19_17, v19_18, v19_19, v19_20, v19_21, v19_22, v19_23, v19_24, v19_25, v19_26, v19_27, v19_28, v19_29, v19_30, v19_31, v19_32, v19_33, v19_34, v19_35, v19_36, v19_37, v19_38, v19_39, v19_40])), (q_1909, .inl (cA_1909, n19_gone, .inl (fun j : Nat => zI (a19_gone (j : Int))))), (q_1910, .inl (cA_1910, n19_open, .inl (fun j : Nat => zI (a_2004 (j : Int)))))] := hD
    refine lv_aload_n hx hb dX19_go_29 rfl (lv_at hl 0 rfl) ?_
    refine va_get (D := (dC, dI)) (ci := 16) (v := .ref q_1909) (C := RX19) (T := TX19) (N := 41) hx hb hts mem_X19_go_0 hown hK hP 0 rfl rfl 9 (by decide) (ow (k := 1) rfl) (fun _ h9 => h9) rfl dX19_go_30 ?_
    refine lv_iload_n hx hb dX19_go_33 rfl (lv_at hl 2 rfl) ?_
    refine va_zald hx hb hK hP 1 0 rfl rfl (zI_in (a := t0) (n := n19_gone) (by omega) (by omega) (by omega)) dX19_go_34 ?_
    refine lv_topi (fun z ez => ?_)
    obtain rfl : z = zI (a19_gone (t0)) := ez.trans (zI_ld (a19_gone) (by omega) (by omega))
    have k3 := hR_a19_gone (t0)
    refine lv_if_ne (tgt := 43) hx hb dX19_go_35 (by decide) (fun b35 => ?_) (fun b35 => ?_)
    · have yb35 : ¬ (a19_gone (t0) : Int) = (0 : Int) := fun q => b35 ((zI_eq (a := a19_gone (t0)) (b := 0) (by omega) (by omega) (by omega) (by omega)).mpr q)
      refine lv_aload_n hx hb dX19_go_43 rfl (lv_at hl 0 rfl) ?_
      refine va_get (D := (dC, dI)) (ci := 16) (v := .ref q_1909) (C := RX19) (T := TX19) (N := 41) hx hb hts mem_X19_go_0 hown hK hP 0 rfl rfl 9 (by decide) (ow (k := 1) rfl) (fun _ h9 => h9) rfl dX19_go_44 ?_
      refine lv_iload_n hx hb dX19_go_47 rfl (lv_at hl 2 rfl) ?_
      refine lv_iconst (v := 1) hx hb dX19_go_48 (by decide) ?_
      refine va_zast (i := zI (t0)) hx hb hK hP hD hS 1 0 rfl rfl (zI_in (a := t0) (n := n19_gone) (by omega) (by omega) (by omega)) dX19_go_49 (fun H locs hP hD hS => ?_)
      rw [show vp_nar .boolean 1 = 1 from zI_nar (a := 1) (by omega) (by omega)] at hP hD
      have eQ : upd (fun j : Nat => zI (a19_gone (j : Int))) (zI (t0)).toNatClampNeg 1 = (fun j : Nat => zI (zup a19_gone (t0) (1) (j : Int))) := zI_st a19_gone (e := t0) (v := 1) (by omega) (by omega)
      rw [eQ] at hP hD
      clear eQ
      have ra_2005 : ∀ j : Int, 0 ≤ zup a19_gone (t0) (1) j ∧ zup a19_gone (t0) (1) j ≤ 1 := zup_P (P := fun x9 => 0 ≤ x9 ∧ x9 ≤ 1) hR_a19_gone (show 0 ≤ (1) ∧ (1) ≤ 1 by omega)
      generalize zup a19_gone (t0) (1) = a_2005 at hP hD ra_2005
      have hP : va_P (dC, dI) vwQ [(h0, .inr (16, [v19_0, v19_1, v19_2, v19_3, v19_4, v19_5, v19_6, v19_7, v19_8, .ref q_1909, .ref q_1910, .int 1, v19_12, v19_13, v19_14, v19_15, v19_16, v19_17, v19_18, v19_19, v19_20, v19_21, v19_22, v19_23, v19_24, v19_25, v19_26, v19_27, v19_28, v19_29, v19_30, v19_31, v19_32, v19_33, v19_34, v19_35, v19_36, v19_37, v19_38, v19_39, v19_40])), (q_1909, .inl (cA_1909, n19_gone, .inl (fun j : Nat => zI (a_2005 (j : Int))))), (q_1910, .inl (cA_1910, n19_open, .inl (fun j : Nat => zI (a_2004 (j : Int)))))] H := hP
      have hD : va_D A [(h0, .inr (16, [v19_0, v19_1, v19_2, v19_3, v19_4, v19_5, v19_6, v19_7, v19_8, .ref q_1909, .ref q_1910, .int 1, v19_12, v19_13, v19_14, v19_15, v19_16, v19_17, v19_18, v19_19, v19_20, v19_21, v19_22, v19_23, v19_24, v19_25, v19_26, v19_27, v19_28, v19_29, v19_30, v19_31, v19_32, v19_33, v19_34, v19_35, v19_36, v19_37, v19_38, v19_39, v19_40])), (q_1909, .inl (cA_1909, n19_gone, .inl (fun j : Nat => zI (a_2005 (j : Int))))), (q_1910, .inl (cA_1910, n19_open, .inl (fun j : Nat => zI (a_2004 (j : Int)))))] := hD
      subst hQ
      refine W.widen (k := 0) (n := 0) (Nat.le_of_ble_eq_true rfl) (Nat.le_of_ble_eq_true rfl) ?_
      exact W.vret hx hb hr (fun t ht hW => ⟨⟨(), rfl, trivial, 1, a_2005, a_2004, ⟨(by omega), ra_2005, ra_2004⟩, by rw [ht]; exact hP, va_K.moved hW.alike hK, hD⟩, hS.F ht⟩) hS.2.2 dX19_go_50
    · have yb35 : (a19_gone (t0) : Int) = (0 : Int) := (zI_eq (a := a19_gone (t0)) (b := 0) (by omega) (by omega) (by omega) (by omega)).mp b35
      refine lv_aload_n hx hb dX19_go_38 rfl (lv_at hl 0 rfl) ?_
      refine lv_iconst (v := 1) hx hb dX19_go_39 (by decide) ?_
      refine va_put (D := (dC, dI)) (ci := 16) (v := .int 1) (ty := .boolean) (C := RX19) (T := TX19) (N := 41) hx hb hts mem_X19_go_0 tyX19 tyX19_ok nmX19 hown hK hP hD hS 0 rfl rfl 11 (by decide) (ow (k := 2) rfl) (fun _ h9 => h9) rfl (by decide +kernel) rfl rfl (Nat.le_of_ble_eq_true rfl) dX19_go_40 (fun H locs hP hD hS => ?_)
      have hP : va_P (dC, dI) vwQ [(h0, .inr (16, [v19_0, v19_1, v19_2, v19_3, v19_4, v19_5, v19_6, v19_7, v19_8, .ref q_1909, .ref q_1910, .int 1, v19_12, v19_13, v19_14, v19_15, v19_16, v19_17, v19_18, v19_19, v19_20, v19_21, v19_22, v19_23, v19_24, v19_25, v19_26, v19_27, v19_28, v19_29, v19_30, v19_31, v19_32, v19_33, v19_34, v19_35, v19_36, v19_37, v19_38, v19_39, v19_40])), (q_1909, .inl (cA_1909, n19_gone, .inl (fun j : Nat => zI (a19_gone (j : Int))))), (q_1910, .inl (cA_1910, n19_open, .inl (fun j : Nat => zI (a_2004 (j : Int)))))] H := hP
      have hD : va_D A [(h0, .inr (16, [v19_0, v19_1, v19_2, v19_3, v19_4, v19_5, v19_6, v19_7, v19_8, .ref q_1909, .ref q_1910, .int 1, v19_12, v19_13, v19_14, v19_15, v19_16, v19_17, v19_18, v19_19, v19_20, v19_21, v19_22, v19_23, v19_24, v19_25, v19_26, v19_27, v19_28, v19_29, v19_30, v19_31, v19_32, v19_33, v19_34, v19_35, v19_36, v19_37, v19_38, v19_39, v19_40])), (q_1909, .inl (cA_1909, n19_gone, .inl (fun j : Nat => zI (a19_gone (j : Int))))), (q_1910, .inl (cA_1910, n19_open, .inl (fun j : Nat => zI (a_2004 (j : Int)))))] := hD
      refine lv_aload_n hx hb dX19_go_43 rfl (lv_at hl 0 rfl) ?_
      refine va_get (D := (dC, dI)) (ci := 16) (v := .ref q_1909) (C := RX19) (T := TX19) (N := 41) hx hb hts mem_X19_go_0 hown hK hP 0 rfl rfl 9 (by decide) (ow (k := 1) rfl) (fun _ h9 => h9) rfl dX19_go_44 ?_
      refine lv_iload_n hx hb dX19_go_47 rfl (lv_at hl 2 rfl) ?_
      refine lv_iconst (v := 1) hx hb dX19_go_48 (by decide) ?_
      refine va_zast (i := zI (t0)) hx hb hK hP hD hS 1 0 rfl rfl (zI_in (a := t0) (n := n19_gone) (by omega) (by omega) (by omega)) dX19_go_49 (fun H locs hP hD hS => ?_)
      rw [show vp_nar .boolean 1 = 1 from zI_nar (a := 1) (by omega) (by omega)] at hP hD
      have eQ : upd (fun j : Nat => zI (a19_gone (j : Int))) (zI (t0)).toNatClampNeg 1 = (fun j : Nat => zI (zup a19_gone (t0) (1) (j : Int))) := zI_st a19_gone (e := t0) (v := 1) (by omega) (by omega)
      rw [eQ] at hP hD
      clear eQ
      have ra_2006 : ∀ j : Int, 0 ≤ zup a19_gone (t0) (1) j ∧ zup a19_gone (t0) (1) j ≤ 1 := zup_P (P := fun x9 => 0 ≤ x9 ∧ x9 ≤ 1) hR_a19_gone (show 0 ≤ (1) ∧ (1) ≤ 1 by omega)
      generalize zup a19_gone (t0) (1) = a_2006 at hP hD ra_2006
      have hP : va_P (dC, dI) vwQ [(h0, .inr (16, [v19_0, v19_1, v19_2, v19_3, v19_4, v19_5, v19_6, v19_7, v19_8, .ref q_1909, .ref q_1910, .int 1, v19_12, v19_13, v19_14, v19_15, v19_16, v19_17, v19_18, v19_19, v19_20, v19_21, v19_22, v19_23, v19_24, v19_25, v19_26, v19_27, v19_28, v19_29, v19_30, v19_31, v19_32, v19_33, v19_34, v19_35, v19_36, v19_37, v19_38, v19_39, v19_40])), (q_1909, .inl (cA_1909, n19_gone, .inl (fun j : Nat => zI (a_2006 (j : Int))))), (q_1910, .inl (cA_1910, n19_open, .inl (fun j : Nat => zI (a_2004 (j : Int)))))] H := hP
      have hD : va_D A [(h0, .inr (16, [v19_0, v19_1, v19_2, v19_3, v19_4, v19_5, v19_6, v19_7, v19_8, .ref q_1909, .ref q_1910, .int 1, v19_12, v19_13, v19_14, v19_15, v19_16, v19_17, v19_18, v19_19, v19_20, v19_21, v19_22, v19_23, v19_24, v19_25, v19_26, v19_27, v19_28, v19_29, v19_30, v19_31, v19_32, v19_33, v19_34, v19_35, v19_36, v19_37, v19_38, v19_39, v19_40])), (q_1909, .inl (cA_1909, n19_gone, .inl (fun j : Nat => zI (a_2006 (j : Int))))), (q_1910, .inl (cA_1910, n19_open, .inl (fun j : Nat => zI (a_2004 (j : Int)))))] := hD
      subst hQ
      refine W.widen (k := 0) (n := 0) (Nat.le_of_ble_eq_true rfl) (Nat.le_of_ble_eq_true rfl) ?_
      exact W.vret hx hb hr (fun t ht hW => ⟨⟨(), rfl, trivial, 1, a_2006, a_2004, ⟨(by omega), ra_2006, ra_2004⟩, by rw [ht]; exact hP, va_K.moved hW.alike hK, hD⟩, hS.F ht⟩) hS.2.2 dX19_go_50
