theorem dX11_compute_0 : decode cX11_compute 0 = .ok (.iload_n 0, 1) := by decide +kernel
theorem dX11_compute_1 : decode cX11_compute 1 = .ok (.tableswitch 177 3 16 #[71, 75, 79, 83, 95, 107, 111, 115, 119, 126, 133, 144, 155, 166], 71) := by decide +kernel
theorem dX11_compute_72 : decode cX11_compute 72 = .ok (.iload_n 1, 1) := by decide +kernel
theorem dX11_compute_73 : decode cX11_compute 73 = .ok (.iload_n 2, 1) := by decide +kernel
theorem dX11_compute_74 : decode cX11_compute 74 = .ok (.iadd, 1) := by decide +kernel
theorem dX11_compute_75 : decode cX11_compute 75 = .ok (.ireturn, 1) := by decide +kernel
theorem dX11_compute_76 : decode cX11_compute 76 = .ok (.iload_n 1, 1) := by decide +kernel
theorem dX11_compute_77 : decode cX11_compute 77 = .ok (.iload_n 2, 1) := by decide +kernel
theorem dX11_compute_78 : decode cX11_compute 78 = .ok (.isub, 1) := by decide +kernel
theorem dX11_compute_79 : decode cX11_compute 79 = .ok (.ireturn, 1) := by decide +kernel
theorem dX11_compute_80 : decode cX11_compute 80 = .ok (.iload_n 1, 1) := by decide +kernel
theorem dX11_compute_81 : decode cX11_compute 81 = .ok (.iload_n 2, 1) := by decide +kernel
theorem dX11_compute_82 : decode cX11_compute 82 = .ok (.imul, 1) := by decide +kernel
theorem dX11_compute_83 : decode cX11_compute 83 = .ok (.ireturn, 1) := by decide +kernel
theorem dX11_compute_84 : decode cX11_compute 84 = .ok (.iload_n 2, 1) := by decide +kernel
theorem dX11_compute_85 : decode cX11_compute 85 = .ok (.ifCond .ne 7, 3) := by decide +kernel
theorem dX11_compute_92 : decode cX11_compute 92 = .ok (.iload_n 1, 1) := by decide +kernel
theorem dX11_compute_93 : decode cX11_compute 93 = .ok (.iload_n 2, 1) := by decide +kernel
theorem dX11_compute_94 : decode cX11_compute 94 = .ok (.idiv, 1) := by decide +kernel
theorem dX11_compute_95 : decode cX11_compute 95 = .ok (.ireturn, 1) := by decide +kernel
theorem dX11_compute_88 : decode cX11_compute 88 = .ok (.iconst 0, 1) := by decide +kernel
theorem dX11_compute_89 : decode cX11_compute 89 = .ok (.goto 6, 3) := by decide +kernel
theorem dX11_compute_96 : decode cX11_compute 96 = .ok (.iload_n 2, 1) := by decide +kernel
theorem dX11_compute_97 : decode cX11_compute 97 = .ok (.ifCond .ne 7, 3) := by decide +kernel
theorem dX11_compute_104 : decode cX11_compute 104 = .ok (.iload_n 1, 1) := by decide +kernel
theorem dX11_compute_105 : decode cX11_compute 105 = .ok (.iload_n 2, 1) := by decide +kernel
theorem dX11_compute_106 : decode cX11_compute 106 = .ok (.irem, 1) := by decide +kernel
theorem dX11_compute_107 : decode cX11_compute 107 = .ok (.ireturn, 1) := by decide +kernel
theorem dX11_compute_100 : decode cX11_compute 100 = .ok (.iconst 0, 1) := by decide +kernel
theorem dX11_compute_101 : decode cX11_compute 101 = .ok (.goto 6, 3) := by decide +kernel
theorem dX11_compute_108 : decode cX11_compute 108 = .ok (.iload_n 1, 1) := by decide +kernel
theorem dX11_compute_109 : decode cX11_compute 109 = .ok (.iload_n 2, 1) := by decide +kernel
theorem dX11_compute_110 : decode cX11_compute 110 = .ok (.iand, 1) := by decide +kernel
theorem dX11_compute_111 : decode cX11_compute 111 = .ok (.ireturn, 1) := by decide +kernel
theorem dX11_compute_112 : decode cX11_compute 112 = .ok (.iload_n 1, 1) := by decide +kernel
theorem dX11_compute_113 : decode cX11_compute 113 = .ok (.iload_n 2, 1) := by decide +kernel
theorem dX11_compute_114 : decode cX11_compute 114 = .ok (.ior, 1) := by decide +kernel
theorem dX11_compute_115 : decode cX11_compute 115 = .ok (.ireturn, 1) := by decide +kernel
theorem dX11_compute_116 : decode cX11_compute 116 = .ok (.iload_n 1, 1) := by decide +kernel
theorem dX11_compute_117 : decode cX11_compute 117 = .ok (.iload_n 2, 1) := by decide +kernel
theorem dX11_compute_118 : decode cX11_compute 118 = .ok (.ixor, 1) := by decide +kernel
theorem dX11_compute_119 : decode cX11_compute 119 = .ok (.ireturn, 1) := by decide +kernel
theorem dX11_compute_120 : decode cX11_compute 120 = .ok (.iload_n 1, 1) := by decide +kernel
theorem dX11_compute_121 : decode cX11_compute 121 = .ok (.iload_n 2, 1) := by decide +kernel
theorem dX11_compute_122 : decode cX11_compute 122 = .ok (.bipush 31, 2) := by decide +kernel
theorem dX11_compute_124 : decode cX11_compute 124 = .ok (.iand, 1) := by decide +kernel
theorem dX11_compute_125 : decode cX11_compute 125 = .ok (.ishl, 1) := by decide +kernel
theorem dX11_compute_126 : decode cX11_compute 126 = .ok (.ireturn, 1) := by decide +kernel
theorem dX11_compute_127 : decode cX11_compute 127 = .ok (.iload_n 1, 1) := by decide +kernel
theorem dX11_compute_128 : decode cX11_compute 128 = .ok (.iload_n 2, 1) := by decide +kernel
theorem dX11_compute_129 : decode cX11_compute 129 = .ok (.bipush 31, 2) := by decide +kernel
theorem dX11_compute_131 : decode cX11_compute 131 = .ok (.iand, 1) := by decide +kernel
theorem dX11_compute_132 : decode cX11_compute 132 = .ok (.ishr, 1) := by decide +kernel
theorem dX11_compute_133 : decode cX11_compute 133 = .ok (.ireturn, 1) := by decide +kernel
theorem dX11_compute_134 : decode cX11_compute 134 = .ok (.iload_n 1, 1) := by decide +kernel
theorem dX11_compute_135 : decode cX11_compute 135 = .ok (.iload_n 2, 1) := by decide +kernel
theorem dX11_compute_136 : decode cX11_compute 136 = .ok (.if_icmp .ge 7, 3) := by decide +kernel
theorem dX11_compute_143 : decode cX11_compute 143 = .ok (.iconst 0, 1) := by decide +kernel
theorem dX11_compute_144 : decode cX11_compute 144 = .ok (.ireturn, 1) := by decide +kernel
theorem dX11_compute_139 : decode cX11_compute 139 = .ok (.iconst 1, 1) := by decide +kernel
theorem dX11_compute_140 : decode cX11_compute 140 = .ok (.goto 4, 3) := by decide +kernel
theorem dX11_compute_145 : decode cX11_compute 145 = .ok (.iload_n 1, 1) := by decide +kernel
theorem dX11_compute_146 : decode cX11_compute 146 = .ok (.iload_n 2, 1) := by decide +kernel
theorem dX11_compute_147 : decode cX11_compute 147 = .ok (.if_icmp .gt 7, 3) := by decide +kernel
theorem dX11_compute_154 : decode cX11_compute 154 = .ok (.iconst 0, 1) := by decide +kernel
theorem dX11_compute_155 : decode cX11_compute 155 = .ok (.ireturn, 1) := by decide +kernel
theorem dX11_compute_150 : decode cX11_compute 150 = .ok (.iconst 1, 1) := by decide +kernel
theorem dX11_compute_151 : decode cX11_compute 151 = .ok (.goto 4, 3) := by decide +kernel
theorem dX11_compute_156 : decode cX11_compute 156 = .ok (.iload_n 1, 1) := by decide +kernel
theorem dX11_compute_157 : decode cX11_compute 157 = .ok (.iload_n 2, 1) := by decide +kernel
theorem dX11_compute_158 : decode cX11_compute 158 = .ok (.if_icmp .ne 7, 3) := by decide +kernel
theorem dX11_compute_165 : decode cX11_compute 165 = .ok (.iconst 0, 1) := by decide +kernel
theorem dX11_compute_166 : decode cX11_compute 166 = .ok (.ireturn, 1) := by decide +kernel
theorem dX11_compute_161 : decode cX11_compute 161 = .ok (.iconst 1, 1) := by decide +kernel
theorem dX11_compute_162 : decode cX11_compute 162 = .ok (.goto 4, 3) := by decide +kernel
theorem dX11_compute_167 : decode cX11_compute 167 = .ok (.iload_n 1, 1) := by decide +kernel
theorem dX11_compute_168 : decode cX11_compute 168 = .ok (.iload_n 2, 1) := by decide +kernel
theorem dX11_compute_169 : decode cX11_compute 169 = .ok (.if_icmp .eq 7, 3) := by decide +kernel
theorem dX11_compute_176 : decode cX11_compute 176 = .ok (.iconst 0, 1) := by decide +kernel
theorem dX11_compute_177 : decode cX11_compute 177 = .ok (.ireturn, 1) := by decide +kernel
theorem dX11_compute_172 : decode cX11_compute 172 = .ok (.iconst 1, 1) := by decide +kernel
theorem dX11_compute_173 : decode cX11_compute 173 = .ok (.goto 4, 3) := by decide +kernel
theorem dX11_compute_178 : decode cX11_compute 178 = .ok (.iload_n 1, 1) := by decide +kernel
theorem dX11_compute_179 : decode cX11_compute 179 = .ok (.ireturn, 1) := by decide +kernel
def o_X11_compute : List Cond := []
def v_X11_compute : List Cond := .code yX11_compute cX11_compute 3 (some .int) :: (o_X11_compute ++ [])
theorem mow_X11_compute : ∀ w ∈ o_X11_compute, w ∈ v_X11_compute := fun _ h => List.mem_cons_of_mem _ (List.mem_append_left _ h)
set_option maxRecDepth 20000 in
theorem gw_X11_compute : v_X11_compute.all goodWord = true := by decide +kernel
set_option maxHeartbeats 4000000 in
set_option maxRecDepth 100000 in
theorem c_X11_compute (l : Launch) (dC : Nat → ClassId) (dI : Nat → Nat → Nat) (o : Int) (p1 : Int32) (p2 : Int32) (hNo : -1 ≤ o ∧ o ≤ 100) (sz : Nat) : Met l yX11_compute v_X11_compute ({ frames := 0, cells := 0, slots := 0, locals := 0 }) (va_Pc [.int (zI (o)), .int p1, .int p2] (fun U => U.heap.size = sz ∧ va_P (dC, dI) vwP [] U.heap ∧ va_K (dC, dI) vwP [] U ∧ va_D (fun _ => True) [])) (va_Qi (fun (r : Int32) (_ : Unit) => True) (fun (_ : Unit) (t : State) => va_P (dC, dI) vwP [] t.heap ∧ va_K (dC, dI) vwP [] t ∧ va_D (va_A [] sz) []) (va_A [] sz)) 0 0 (va_A [] sz) := by
  refine Met.ofW (cc := cX11_compute) (maxL := 3) (ret := (some .int)) (by decide) rfl ?_
  intro p e s m args below meth c s₁ B hml hv
  obtain ⟨rfl, hsz, hP, hK, hD0⟩ := hv
  have hx := B.exec
  have hb := B.bytes
  have hr := B.returns
  have hts := atoms_spec (ws := v_X11_compute) B.pre
  have hown : s.vm.findClass RX11 = some m.cls := findClass_of_methodNamed B.named
  have hlocks := B.notSynchronized
  have ow : ∀ {k : Nat} {w : Cond}, o_X11_compute[k]? = some w → w.before ([.int (zI (o)), .int p1, .int p2] : List Value).toArray s = true := fun h => hts _ (mow_X11_compute _ (List.mem_of_getElem? h))
  subst hsz
  have hD := hD0.self (sz := s.heap.size)
  generalize hAe : va_A [] s.heap.size = A at hD ⊢
  have hA : ∀ q : Nat, s.heap.size ≤ q → A q := fun q h => by rw [← hAe]; exact Or.inr h
  have hS : va_S A s.heap s.heap [] := va_S.rf
  have hP : va_P (dC, dI) vwP [] s.heap := hP
  have hl := lv_entry ([.int (zI (o)), .int p1, .int p2]) (n := 3) (Nat.le_of_ble_eq_true rfl)
  rw [lg_entry_eq]
  generalize (lg_sl ([.int (zI (o)), .int p1, .int p2]) ++ List.replicate (3 - (lg_sl ([.int (zI (o)), .int p1, .int p2])).length) Slot.unset).toArray = ls at hl ⊢
  have hl : lv_has ls 3 [(0, .int (zI (o))), (1, .int p1), (2, .int p2)] := hl
  obtain ⟨H, hH⟩ : ∃ H, H = s.heap := ⟨_, rfl⟩
  rw [← hH] at hP
  have hS : va_S A s.heap H [] := by rw [hH]; exact hS
  rw [← hH]
  refine zW_cap (fun Q hQ => ?_)
  refine lv_iload_n hx hb dX11_compute_0 rfl (lv_at hl 0 rfl) ?_
  by_cases s1_0 : o = 3
  · refine lv_tableIn (off := 71) (tgt := 72) hx hb dX11_compute_1 (by rw [s1_0]; decide) (by rw [s1_0]; decide) (by rw [s1_0]; decide) (by decide) ?_
    refine lv_iload_n hx hb dX11_compute_72 rfl (lv_at hl 1 rfl) ?_
    refine lv_iload_n hx hb dX11_compute_73 rfl (lv_at hl 2 rfl) ?_
    refine lv_iadd hx hb dX11_compute_74 ?_
    refine lv_topi (fun x_1 _ => ?_)
    subst hQ
    refine W.widen (k := 0) (n := 0) (Nat.le_of_ble_eq_true rfl) (Nat.le_of_ble_eq_true rfl) ?_
    exact W.iret (v := x_1) hx hb hr (fun t ht hW => ⟨⟨x_1, (), rfl, trivial, by rw [ht]; exact hP, va_K.moved hW.alike hK, hD⟩, hS.F ht⟩) hS.2.2 dX11_compute_75
  by_cases s1_1 : o = 4
  · refine lv_tableIn (off := 75) (tgt := 76) hx hb dX11_compute_1 (by rw [s1_1]; decide) (by rw [s1_1]; decide) (by rw [s1_1]; decide) (by decide) ?_
    refine lv_iload_n hx hb dX11_compute_76 rfl (lv_at hl 1 rfl) ?_
    refine lv_iload_n hx hb dX11_compute_77 rfl (lv_at hl 2 rfl) ?_
    refine lv_isub hx hb dX11_compute_78 ?_
    refine lv_topi (fun x_2 _ => ?_)
    subst hQ
    refine W.widen (k := 0) (n := 0) (Nat.le_of_ble_eq_true rfl) (Nat.le_of_ble_eq_true rfl) ?_
    exact W.iret (v := x_2) hx hb hr (fun t ht hW => ⟨⟨x_2, (), rfl, trivial, by rw [ht]; exact hP, va_K.moved hW.alike hK, hD⟩, hS.F ht⟩) hS.2.2 dX11_compute_79
  by_cases s1_2 : o = 5
  · refine lv_tableIn (off := 79) (tgt := 80) hx hb dX11_compute_1 (by rw [s1_2]; decide) (by rw [s1_2]; decide) (by rw [s1_2]; decide) (by decide) ?_
    refine lv_iload_n hx hb dX11_compute_80 rfl (lv_at hl 1 rfl) ?_
    refine lv_iload_n hx hb dX11_compute_81 rfl (lv_at hl 2 rfl) ?_
    refine lv_imul hx hb dX11_compute_82 ?_
    refine lv_topi (fun x_3 _ => ?_)
    subst hQ
    refine W.widen (k := 0) (n := 0) (Nat.le_of_ble_eq_true rfl) (Nat.le_of_ble_eq_true rfl) ?_
    exact W.iret (v := x_3) hx hb hr (fun t ht hW => ⟨⟨x_3, (), rfl, trivial, by rw [ht]; exact hP, va_K.moved hW.alike hK, hD⟩, hS.F ht⟩) hS.2.2 dX11_compute_83
  by_cases s1_3 : o = 6
  · refine lv_tableIn (off := 83) (tgt := 84) hx hb dX11_compute_1 (by rw [s1_3]; decide) (by rw [s1_3]; decide) (by rw [s1_3]; decide) (by decide) ?_
    refine lv_iload_n hx hb dX11_compute_84 rfl (lv_at hl 2 rfl) ?_
    refine lv_if_ne (tgt := 92) hx hb dX11_compute_85 (by decide) (fun b85 => ?_) (fun b85 => ?_)
    · refine lv_iload_n hx hb dX11_compute_92 rfl (lv_at hl 1 rfl) ?_
      refine lv_iload_n hx hb dX11_compute_93 rfl (lv_at hl 2 rfl) ?_
      refine lv_idiv hx hb dX11_compute_94 b85 ?_
      refine lv_topi (fun x_4 _ => ?_)
      subst hQ
      refine W.widen (k := 0) (n := 0) (Nat.le_of_ble_eq_true rfl) (Nat.le_of_ble_eq_true rfl) ?_
      exact W.iret (v := x_4) hx hb hr (fun t ht hW => ⟨⟨x_4, (), rfl, trivial, by rw [ht]; exact hP, va_K.moved hW.alike hK, hD⟩, hS.F ht⟩) hS.2.2 dX11_compute_95
    · refine lv_iconst (v := 0) hx hb dX11_compute_88 (by decide) ?_
      refine lv_goto (tgt := 95) hx hb dX11_compute_89 (by decide) ?_
      subst hQ
      refine W.widen (k := 0) (n := 0) (Nat.le_of_ble_eq_true rfl) (Nat.le_of_ble_eq_true rfl) ?_
      exact W.iret (v := 0) hx hb hr (fun t ht hW => ⟨⟨0, (), rfl, trivial, by rw [ht]; exact hP, va_K.moved hW.alike hK, hD⟩, hS.F ht⟩) hS.2.2 dX11_compute_95
  by_cases s1_4 : o = 7
  · refine lv_tableIn (off := 95) (tgt := 96) hx hb dX11_compute_1 (by rw [s1_4]; decide) (by rw [s1_4]; decide) (by rw [s1_4]; decide) (by decide) ?_
    refine lv_iload_n hx hb dX11_compute_96 rfl (lv_at hl 2 rfl) ?_
    refine lv_if_ne (tgt := 104) hx hb dX11_compute_97 (by decide) (fun b97 => ?_) (fun b97 => ?_)
    · refine lv_iload_n hx hb dX11_compute_104 rfl (lv_at hl 1 rfl) ?_
      refine lv_iload_n hx hb dX11_compute_105 rfl (lv_at hl 2 rfl) ?_
      refine lv_irem hx hb dX11_compute_106 b97 ?_
      refine lv_topi (fun x_5 _ => ?_)
      subst hQ
      refine W.widen (k := 0) (n := 0) (Nat.le_of_ble_eq_true rfl) (Nat.le_of_ble_eq_true rfl) ?_
      exact W.iret (v := x_5) hx hb hr (fun t ht hW => ⟨⟨x_5, (), rfl, trivial, by rw [ht]; exact hP, va_K.moved hW.alike hK, hD⟩, hS.F ht⟩) hS.2.2 dX11_compute_107
    · refine lv_iconst (v := 0) hx hb dX11_compute_100 (by decide) ?_
      refine lv_goto (tgt := 107) hx hb dX11_compute_101 (by decide) ?_
      subst hQ
      refine W.widen (k := 0) (n := 0) (Nat.le_of_ble_eq_true rfl) (Nat.le_of_ble_eq_true rfl) ?_
      exact W.iret (v := 0) hx hb hr (fun t ht hW => ⟨⟨0, (), rfl, trivial, by rw [ht]; exact hP, va_K.moved hW.alike hK, hD⟩, hS.F ht⟩) hS.2.2 dX11_compute_107
  by_cases s1_5 : o = 8
  · refine lv_tableIn (off := 107) (tgt := 108) hx hb dX11_compute_1 (by rw [s1_5]; decide) (by rw [s1_5]; decide) (by rw [s1_5]; decide) (by decide) ?_
    refine lv_iload_n hx hb dX11_compute_108 rfl (lv_at hl 1 rfl) ?_
    refine lv_iload_n hx hb dX11_compute_109 rfl (lv_at hl 2 rfl) ?_
    refine lv_iand hx hb dX11_compute_110 ?_
    refine lv_topi (fun x_6 _ => ?_)
    subst hQ
    refine W.widen (k := 0) (n := 0) (Nat.le_of_ble_eq_true rfl) (Nat.le_of_ble_eq_true rfl) ?_
    exact W.iret (v := x_6) hx hb hr (fun t ht hW => ⟨⟨x_6, (), rfl, trivial, by rw [ht]; exact hP, va_K.moved hW.alike hK, hD⟩, hS.F ht⟩) hS.2.2 dX11_compute_111
  by_cases s1_6 : o = 9
  · refine lv_tableIn (off := 111) (tgt := 112) hx hb dX11_compute_1 (by rw [s1_6]; decide) (by rw [s1_6]; decide) (by rw [s1_6]; decide) (by decide) ?_
    refine lv_iload_n hx hb dX11_compute_112 rfl (lv_at hl 1 rfl) ?_
    refine lv_iload_n hx hb dX11_compute_113 rfl (lv_at hl 2 rfl) ?_
    refine lv_ior hx hb dX11_compute_114 ?_
    refine lv_topi (fun x_7 _ => ?_)
    subst hQ
    refine W.widen (k := 0) (n := 0) (Nat.le_of_ble_eq_true rfl) (Nat.le_of_ble_eq_true rfl) ?_
    exact W.iret (v := x_7) hx hb hr (fun t ht hW => ⟨⟨x_7, (), rfl, trivial, by rw [ht]; exact hP, va_K.moved hW.alike hK, hD⟩, hS.F ht⟩) hS.2.2 dX11_compute_115
  by_cases s1_7 : o = 10
  · refine lv_tableIn (off := 115) (tgt := 116) hx hb dX11_compute_1 (by rw [s1_7]; decide) (by rw [s1_7]; decide) (by rw [s1_7]; decide) (by decide) ?_
    refine lv_iload_n hx hb dX11_compute_116 rfl (lv_at hl 1 rfl) ?_
    refine lv_iload_n hx hb dX11_compute_117 rfl (lv_at hl 2 rfl) ?_
    refine lv_ixor hx hb dX11_compute_118 ?_
    refine lv_topi (fun x_8 _ => ?_)
    subst hQ
    refine W.widen (k := 0) (n := 0) (Nat.le_of_ble_eq_true rfl) (Nat.le_of_ble_eq_true rfl) ?_
    exact W.iret (v := x_8) hx hb hr (fun t ht hW => ⟨⟨x_8, (), rfl, trivial, by rw [ht]; exact hP, va_K.moved hW.alike hK, hD⟩, hS.F ht⟩) hS.2.2 dX11_compute_119
  by_cases s1_8 : o = 11
  · refine lv_tableIn (off := 119) (tgt := 120) hx hb dX11_compute_1 (by rw [s1_8]; decide) (by rw [s1_8]; decide) (by rw [s1_8]; decide) (by decide) ?_
    refine lv_iload_n hx hb dX11_compute_120 rfl (lv_at hl 1 rfl) ?_
    refine lv_iload_n hx hb dX11_compute_121 rfl (lv_at hl 2 rfl) ?_
    refine lv_bipush (v := 31) hx hb dX11_compute_122 (by decide) ?_
    refine lv_iand hx hb dX11_compute_124 ?_
    refine lv_topi (fun z9 ez => ?_)
    obtain ⟨z_9, rfl, hzz_9⟩ := zI_and 5 (m := 31) (by decide) (by decide) ez
    refine lv_ishl hx hb dX11_compute_125 ?_
    refine lv_topi (fun x_10 _ => ?_)
    subst hQ
    refine W.widen (k := 0) (n := 0) (Nat.le_of_ble_eq_true rfl) (Nat.le_of_ble_eq_true rfl) ?_
    exact W.iret (v := x_10) hx hb hr (fun t ht hW => ⟨⟨x_10, (), rfl, trivial, by rw [ht]; exact hP, va_K.moved hW.alike hK, hD⟩, hS.F ht⟩) hS.2.2 dX11_compute_126
  by_cases s1_9 : o = 12
  · refine lv_tableIn (off := 126) (tgt := 127) hx hb dX11_compute_1 (by rw [s1_9]; decide) (by rw [s1_9]; decide) (by rw [s1_9]; decide) (by decide) ?_
    refine lv_iload_n hx hb dX11_compute_127 rfl (lv_at hl 1 rfl) ?_
    refine lv_iload_n hx hb dX11_compute_128 rfl (lv_at hl 2 rfl) ?_
    refine lv_bipush (v := 31) hx hb dX11_compute_129 (by decide) ?_
    refine lv_iand hx hb dX11_compute_131 ?_
    refine lv_topi (fun z9 ez => ?_)
    obtain ⟨z_11, rfl, hzz_11⟩ := zI_and 5 (m := 31) (by decide) (by decide) ez
    refine lv_ishr hx hb dX11_compute_132 ?_
    refine lv_topi (fun x_12 _ => ?_)
    subst hQ
    refine W.widen (k := 0) (n := 0) (Nat.le_of_ble_eq_true rfl) (Nat.le_of_ble_eq_true rfl) ?_
    exact W.iret (v := x_12) hx hb hr (fun t ht hW => ⟨⟨x_12, (), rfl, trivial, by rw [ht]; exact hP, va_K.moved hW.alike hK, hD⟩, hS.F ht⟩) hS.2.2 dX11_compute_133
  by_cases s1_10 : o = 13
  · refine lv_tableIn (off := 133) (tgt := 134) hx hb dX11_compute_1 (by rw [s1_10]; decide) (by rw [s1_10]; decide) (by rw [s1_10]; decide) (by decide) ?_
    refine lv_iload_n hx hb dX11_compute_134 rfl (lv_at hl 1 rfl) ?_
    refine lv_iload_n hx hb dX11_compute_135 rfl (lv_at hl 2 rfl) ?_
    refine lv_icmp_ge (tgt := 143) hx hb dX11_compute_136 (by decide) (fun b136 => ?_) (fun b136 => ?_)
    · refine lv_iconst (v := 0) hx hb dX11_compute_143 (by decide) ?_
      subst hQ
      refine W.widen (k := 0) (n := 0) (Nat.le_of_ble_eq_true rfl) (Nat.le_of_ble_eq_true rfl) ?_
      exact W.iret (v := 0) hx hb hr (fun t ht hW => ⟨⟨0, (), rfl, trivial, by rw [ht]; exact hP, va_K.moved hW.alike hK, hD⟩, hS.F ht⟩) hS.2.2 dX11_compute_144
    · refine lv_iconst (v := 1) hx hb dX11_compute_139 (by decide) ?_
      refine lv_goto (tgt := 144) hx hb dX11_compute_140 (by decide) ?_
      subst hQ
      refine W.widen (k := 0) (n := 0) (Nat.le_of_ble_eq_true rfl) (Nat.le_of_ble_eq_true rfl) ?_
      exact W.iret (v := 1) hx hb hr (fun t ht hW => ⟨⟨1, (), rfl, trivial, by rw [ht]; exact hP, va_K.moved hW.alike hK, hD⟩, hS.F ht⟩) hS.2.2 dX11_compute_144
  by_cases s1_11 : o = 14
  · refine lv_tableIn (off := 144) (tgt := 145) hx hb dX11_compute_1 (by rw [s1_11]; decide) (by rw [s1_11]; decide) (by rw [s1_11]; decide) (by decide) ?_
    refine lv_iload_n hx hb dX11_compute_145 rfl (lv_at hl 1 rfl) ?_
    refine lv_iload_n hx hb dX11_compute_146 rfl (lv_at hl 2 rfl) ?_
    refine lv_icmp_gt (tgt := 154) hx hb dX11_compute_147 (by decide) (fun b147 => ?_) (fun b147 => ?_)
    · refine lv_iconst (v := 0) hx hb dX11_compute_154 (by decide) ?_
      subst hQ
      refine W.widen (k := 0) (n := 0) (Nat.le_of_ble_eq_true rfl) (Nat.le_of_ble_eq_true rfl) ?_
      exact W.iret (v := 0) hx hb hr (fun t ht hW => ⟨⟨0, (), rfl, trivial, by rw [ht]; exact hP, va_K.moved hW.alike hK, hD⟩, hS.F ht⟩) hS.2.2 dX11_compute_155
    · refine lv_iconst (v := 1) hx hb dX11_compute_150 (by decide) ?_
      refine lv_goto (tgt := 155) hx hb dX11_compute_151 (by decide) ?_
      subst hQ
      refine W.widen (k := 0) (n := 0) (Nat.le_of_ble_eq_true rfl) (Nat.le_of_ble_eq_true rfl) ?_
      exact W.iret (v := 1) hx hb hr (fun t ht hW => ⟨⟨1, (), rfl, trivial, by rw [ht]; exact hP, va_K.moved hW.alike hK, hD⟩, hS.F ht⟩) hS.2.2 dX11_compute_155
  by_cases s1_12 : o = 15
  · refine lv_tableIn (off := 155) (tgt := 156) hx hb dX11_compute_1 (by rw [s1_12]; decide) (by rw [s1_12]; decide) (by rw [s1_12]; decide) (by decide) ?_
    refine lv_iload_n hx hb dX11_compute_156 rfl (lv_at hl 1 rfl) ?_
    refine lv_iload_n hx hb dX11_compute_157 rfl (lv_at hl 2 rfl) ?_
    refine lv_icmp_ne (tgt := 165) hx hb dX11_compute_158 (by decide) (fun b158 => ?_) (fun b158 => ?_)
    · refine lv_iconst (v := 0) hx hb dX11_compute_165 (by decide) ?_
      subst hQ
      refine W.widen (k := 0) (n := 0) (Nat.le_of_ble_eq_true rfl) (Nat.le_of_ble_eq_true rfl) ?_
      exact W.iret (v := 0) hx hb hr (fun t ht hW => ⟨⟨0, (), rfl, trivial, by rw [ht]; exact hP, va_K.moved hW.alike hK, hD⟩, hS.F ht⟩) hS.2.2 dX11_compute_166
    · refine lv_iconst (v := 1) hx hb dX11_compute_161 (by decide) ?_
      refine lv_goto (tgt := 166) hx hb dX11_compute_162 (by decide) ?_
      subst hQ
      refine W.widen (k := 0) (n := 0) (Nat.le_of_ble_eq_true rfl) (Nat.le_of_ble_eq_true rfl) ?_
      exact W.iret (v := 1) hx hb hr (fun t ht hW => ⟨⟨1, (), rfl, trivial, by rw [ht]; exact hP, va_K.moved hW.alike hK, hD⟩, hS.F ht⟩) hS.2.2 dX11_compute_166
  by_cases s1_13 : o = 16
  · refine lv_tableIn (off := 166) (tgt := 167) hx hb dX11_compute_1 (by rw [s1_13]; decide) (by rw [s1_13]; decide) (by rw [s1_13]; decide) (by decide) ?_
    refine lv_iload_n hx hb dX11_compute_167 rfl (lv_at hl 1 rfl) ?_
    refine lv_iload_n hx hb dX11_compute_168 rfl (lv_at hl 2 rfl) ?_
    refine lv_icmp_eq (tgt := 176) hx hb dX11_compute_169 (by decide) (fun b169 => ?_) (fun b169 => ?_)
    · refine lv_iconst (v := 0) hx hb dX11_compute_176 (by decide) ?_
      subst hQ
      refine W.widen (k := 0) (n := 0) (Nat.le_of_ble_eq_true rfl) (Nat.le_of_ble_eq_true rfl) ?_
      exact W.iret (v := 0) hx hb hr (fun t ht hW => ⟨⟨0, (), rfl, trivial, by rw [ht]; exact hP, va_K.moved hW.alike hK, hD⟩, hS.F ht⟩) hS.2.2 dX11_compute_177
    · refine lv_iconst (v := 1) hx hb dX11_compute_172 (by decide) ?_
      refine lv_goto (tgt := 177) hx hb dX11_compute_173 (by decide) ?_
      subst hQ
      refine W.widen (k := 0) (n := 0) (Nat.le_of_ble_eq_true rfl) (Nat.le_of_ble_eq_true rfl) ?_
      exact W.iret (v := 1) hx hb hr (fun t ht hW => ⟨⟨1, (), rfl, trivial, by rw [ht]; exact hP, va_K.moved hW.alike hK, hD⟩, hS.F ht⟩) hS.2.2 dX11_compute_177
  refine lv_tableOut (tgt := 178) hx hb dX11_compute_1 (by rw [zI_toInt (by omega) (by omega)]; omega) (by decide) ?_
  refine lv_iload_n hx hb dX11_compute_178 rfl (lv_at hl 1 rfl) ?_
  subst hQ
  refine W.widen (k := 0) (n := 0) (Nat.le_of_ble_eq_true rfl) (Nat.le_of_ble_eq_true rfl) ?_
  exact W.iret (v := p1) hx hb hr (fun t ht hW => ⟨⟨p1, (), rfl, trivial, by rw [ht]; exact hP, va_K.moved hW.alike hK, hD⟩, hS.F ht⟩) hS.2.2 dX11_compute_179
theorem dX1_kindOf_0 : decode cX1_kindOf 0 = .ok (.lload_n 1, 1) := by decide +kernel
theorem dX1_kindOf_1 : decode cX1_kindOf 1 = .ok (.invokestatic 151, 3) := by decide +kernel
theorem dX1_kindOf_4 : decode cX1_kindOf 4 = .ok (.ifCond .eq 15, 3) := by decide +kernel
theorem dX1_kindOf_19 : decode cX1_kindOf 19 = .ok (.iconst 1, 1) := by decide +kernel
theorem dX1_kindOf_20 : decode cX1_kindOf 20 = .ok (.ireturn, 1) := by decide +kernel
theorem dX1_kindOf_7 : decode cX1_kindOf 7 = .ok (.aload_n 0, 1) := by decide +kernel
theorem dX1_kindOf_8 : decode cX1_kindOf 8 = .ok (.getfield 21, 3) := by decide +kernel
theorem dX1_kindOf_11 : decode cX1_kindOf 11 = .ok (.lload_n 1, 1) := by decide +kernel
theorem dX1_kindOf_12 : decode cX1_kindOf 12 = .ok (.invokestatic 155, 3) := by decide +kernel
theorem dX1_kindOf_15 : decode cX1_kindOf 15 = .ok (.iaload, 1) := by decide +kernel
theorem dX1_kindOf_16 : decode cX1_kindOf 16 = .ok (.goto 4, 3) := by decide +kernel
def o_X1_kindOf : List Cond := [.initialized RX11, .static yX11_isRegister, .fieldLink RX1 21 "SsaForge$Constants" "kinds" "[I", .static yX11_registerOf]
def v_X1_kindOf : List Cond := .code yX1_kindOf cX1_kindOf 3 (some .int) :: (o_X1_kindOf ++ (v_X11_isRegister ++ (wsX10 ++ (v_X11_registerOf ++ []))))
theorem mow_X1_kindOf : ∀ w ∈ o_X1_kindOf, w ∈ v_X1_kindOf := fun _ h => List.mem_cons_of_mem _ (List.mem_append_left _ h)
theorem mem_X1_kindOf_0 : ∀ w ∈ v_X11_isRegister, w ∈ v_X1_kindOf := fun _ h => List.mem_cons_of_mem _ (List.mem_append_right _ (List.mem_append_left _ h))
theorem mem_X1_kindOf_1 : ∀ w ∈ wsX10, w ∈ v_X1_kindOf := fun _ h => List.mem_cons_of_mem _ (List.mem_append_right _ (List.mem_append_right _ (List.mem_append_left _ h)))
theorem mem_X1_kindOf_2 : ∀ w ∈ v_X11_registerOf, w ∈ v_X1_kindOf := fun _ h => List.mem_cons_of_mem _ (List.mem_append_right _ (List.mem_append_right _ (List.mem_append_right _ (List.mem_append_left _ h))))
set_option maxRecDepth 20000 in
theorem gw_X1_kindOf : v_X1_kindOf.all goodWord = true := by decide +kernel
set_option maxHeartbeats 4000000 in
set_option maxRecDepth 100000 in
theorem c_X1_kindOf (l : Launch) (dC : Nat → ClassId) (dI : Nat → Nat → Nat) (h0 : Nat) (v1_0 : Value) (v1_1 : Value) (v1_2 : Value) (q_103 : Nat) (cA_103 : ClassId) (a1_kinds : Int → Int) (v1_4 : Value) (v1_5 : Value) (x : Int) (hR_a1_kinds : ∀ j : Int, 0 ≤ a1_kinds j ∧ a1_kinds j ≤ 2) (hNx : ((-2147483648 ≤ x ∧ x ≤ 4294968319) ∨ x = 1099511627776)) (sz : Nat) : Met l yX1_kindOf v_X1_kindOf ({ frames := 1, cells := 0, slots := 0, locals := 21 }) (va_Pc [.ref h0, .long (lI (x))] (fun U => U.heap.size = sz ∧ va_P (dC, dI) vwP [(h0, .inr (1, [v1_0, v1_1, v1_2, .ref q_103, v1_4, v1_5])), (q_103, .inl (cA_103, 1024, .inl (fun j : Nat => zI (a1_kinds (j : Int)))))] U.heap ∧ va_K (dC, dI) vwP [(cA_103, .int)] U ∧ va_D (fun _ => True) [(h0, .inr (1, [v1_0, v1_1, v1_2, .ref q_103, v1_4, v1_5])), (q_103, .inl (cA_103, 1024, .inl (fun j : Nat => zI (a1_kinds (j : Int)))))] ∧ va_Nw (.methodLinkNest RX1 151 yX11_isRegister "SsaForge") U ∧ va_Nw (.methodLinkNest RX1 155 yX11_registerOf "SsaForge") U)) (va_Qi (fun (r : Int32) (_ : Unit) => ∃ z : Int, r = zI z ∧ (0 ≤ z ∧ z ≤ 2)) (fun (_ : Unit) (t : State) => va_P (dC, dI) vwP [(h0, .inr (1, [v1_0, v1_1, v1_2, .ref q_103, v1_4, v1_5])), (q_103, .inl (cA_103, 1024, .inl (fun j : Nat => zI (a1_kinds (j : Int)))))] t.heap ∧ va_K (dC, dI) vwP [(cA_103, .int)] t ∧ va_D (va_A [(h0, .inr (1, [v1_0, v1_1, v1_2, .ref q_103, v1_4, v1_5])), (q_103, .inl (cA_103, 1024, .inl (fun j : Nat => zI (a1_kinds (j : Int)))))] sz) [(h0, .inr (1, [v1_0, v1_1, v1_2, .ref q_103, v1_4, v1_5])), (q_103, .inl (cA_103, 1024, .inl (fun j : Nat => zI (a1_kinds (j : Int)))))]) (va_A [(h0, .inr (1, [v1_0, v1_1, v1_2, .ref q_103, v1_4, v1_5])), (q_103, .inl (cA_103, 1024, .inl (fun j : Nat => zI (a1_kinds (j : Int)))))] sz)) 0 0 (va_A [(h0, .inr (1, [v1_0, v1_1, v1_2, .ref q_103, v1_4, v1_5])), (q_103, .inl (cA_103, 1024, .inl (fun j : Nat => zI (a1_kinds (j : Int)))))] sz) := by
  refine Met.ofW (cc := cX1_kindOf) (maxL := 3) (ret := (some .int)) (by decide) rfl ?_
  intro p e s m args below meth c s₁ B hml hv
  obtain ⟨rfl, hsz, hP, hK, hD0, hp0, hp1⟩ := hv
  have hx := B.exec
  have hb := B.bytes
  have hr := B.returns
  have hts := atoms_spec (ws := v_X1_kindOf) B.pre
  have hown : s.vm.findClass RX1 = some m.cls := findClass_of_methodNamed B.named
  have hlocks := B.notSynchronized
  have ow : ∀ {k : Nat} {w : Cond}, o_X1_kindOf[k]? = some w → w.before ([.ref h0, .long (lI (x))] : List Value).toArray s = true := fun h => hts _ (mow_X1_kindOf _ (List.mem_of_getElem? h))
  subst hsz
  have hD := hD0.self (sz := s.heap.size)
  generalize hAe : va_A [(h0, .inr (1, [v1_0, v1_1, v1_2, .ref q_103, v1_4, v1_5])), (q_103, .inl (cA_103, 1024, .inl (fun j : Nat => zI (a1_kinds (j : Int)))))] s.heap.size = A at hD ⊢
  have hA : ∀ q : Nat, s.heap.size ≤ q → A q := fun q h => by rw [← hAe]; exact Or.inr h
  have hS : va_S A s.heap s.heap [] := va_S.rf
  have hP : va_P (dC, dI) vwP [(h0, .inr (1, [v1_0, v1_1, v1_2, .ref q_103, v1_4, v1_5])), (q_103, .inl (cA_103, 1024, .inl (fun j : Nat => zI (a1_kinds (j : Int)))))] s.heap := hP
  have hl := lv_entry ([.ref h0, .long (lI (x))]) (n := 3) (Nat.le_of_ble_eq_true rfl)
  rw [lg_entry_eq]
  generalize (lg_sl ([.ref h0, .long (lI (x))]) ++ List.replicate (3 - (lg_sl ([.ref h0, .long (lI (x))])).length) Slot.unset).toArray = ls at hl ⊢
  have hl : lv_has ls 3 [(0, .ref h0), (1, .long (lI (x)))] := hl
  obtain ⟨H, hH⟩ : ∃ H, H = s.heap := ⟨_, rfl⟩
  rw [← hH] at hP
  have hS : va_S A s.heap H [] := by rw [hH]; exact hS
  rw [← hH]
  refine zW_cap (fun Q hQ => ?_)
  refine lv_lload_n hx hb dX1_kindOf_0 rfl (lv_at hl 1 rfl) ?_
  have hPc := hP.sub (ws' := []) [] rfl
  have hDc := hD.sub (ws' := []) [] (by decide) rfl
  have hKc := hK.sub (tys' := []) [] rfl
  have hFc := va_free (wc := []) hD hS hA [] rfl
  refine va_calli (va_runSN (As := [.long (lI (x))]) (rest := []) ⟨hx, hb, hml, hown, hts⟩ (c_X11_isRegister l dC dI x (by omega) H.size) ⟨va_cnB 1 hts (goodIn_sub mem_X1_kindOf_0 gw_X11_isRegister) rfl rfl rfl hp0 (ow (k := 0) rfl) (by decide +kernel) ⟨(Nat.le_of_ble_eq_true rfl), (Nat.le_of_ble_eq_true rfl)⟩, (ow (k := 1) rfl), trivial⟩ ⟨fun a U g mk q => by obtain ⟨q0, q1, qP, qK, qD⟩ := q; exact ⟨q0, q1, qP, va_K.moved (u := U) (U := U.calling g mk a) (Vm.Alike.refl U.vm) qK, qD⟩, fun U hU hW => ⟨rfl, by rw [hU], by rw [hU]; exact hPc, va_K.moved hW.alike hKc, hDc.weaken (fun _ _ _ _ => trivial)⟩⟩ rfl rfl hl.1 rfl (lv_room (Nat.le_of_ble_eq_true rfl)) dX1_kindOf_1 ⟨(Nat.le_of_ble_eq_true rfl), (Nat.le_of_ble_eq_true rfl)⟩) hS (fun q _ h => hFc q h) hFc (fun r_2001 u t H1 locs ht hvm hw hB hz1 hk1 hS => ?_)
  obtain ⟨hP1, hK1, hD1⟩ := hB
  rw [ht] at hP1
  have hK1 := va_K.moved hvm.symm hK1
  obtain ⟨hP, hD⟩ := va_join (wr := [(h0, .inr (1, [v1_0, v1_1, v1_2, .ref q_103, v1_4, v1_5])), (q_103, .inl (cA_103, 1024, .inl (fun j : Nat => zI (a1_kinds (j : Int)))))]) (w1 := []) hP hD [] [0, 1] rfl rfl (by decide) (by decide) hk1 hFc hP1 hD1
  have hK := (hK.sub (tys' := [(cA_103, .int)]) [0] rfl).app hK1
  generalize H1 = H at hP hS ⊢
  have hP : va_P (dC, dI) vwP [(h0, .inr (1, [v1_0, v1_1, v1_2, .ref q_103, v1_4, v1_5])), (q_103, .inl (cA_103, 1024, .inl (fun j : Nat => zI (a1_kinds (j : Int)))))] H := hP
  have hD : va_D A [(h0, .inr (1, [v1_0, v1_1, v1_2, .ref q_103, v1_4, v1_5])), (q_103, .inl (cA_103, 1024, .inl (fun j : Nat => zI (a1_kinds (j : Int)))))] := hD
  have hK : va_K (dC, dI) vwP [(cA_103, .int)] s := hK
  refine W.widen (k := 0) (n := 0) (Nat.le_of_ble_eq_true rfl) (Nat.le_of_ble_eq_true rfl) ?_
  obtain rfl : r_2001 = (zI (isR (x))) := hw
  have := isR_spec (x)
  refine lv_if_eq (tgt := 19) hx hb dX1_kindOf_4 (by decide) (fun b4 => ?_) (fun b4 => ?_)
  · have yb4 : (isR (x) : Int) = (0 : Int) := (zI_eq (a := isR (x)) (b := 0) (by omega) (by omega) (by omega) (by omega)).mp b4
    refine lv_iconst (v := 1) hx hb dX1_kindOf_19 (by decide) ?_
    subst hQ
    refine W.widen (k := 0) (n := 0) (Nat.le_of_ble_eq_true rfl) (Nat.le_of_ble_eq_true rfl) ?_
    exact W.iret (v := 1) hx hb hr (fun t ht hW => ⟨⟨1, (), rfl, ⟨1, rfl, by omega⟩, by rw [ht]; exact hP, va_K.moved hW.alike hK, hD⟩, hS.F ht⟩) hS.2.2 dX1_kindOf_20
  · have yb4 : ¬ (isR (x) : Int) = (0 : Int) := fun q => b4 ((zI_eq (a := isR (x)) (b := 0) (by omega) (by omega) (by omega) (by omega)).mpr q)
    refine lv_aload_n hx hb dX1_kindOf_7 rfl (lv_at hl 0 rfl) ?_
    refine va_get (D := (dC, dI)) (ci := 1) (v := .ref q_103) (C := RX1) (T := TX1) (N := 6) hx hb hts mem_X1_kindOf_1 hown hK hP 0 rfl rfl 3 (by decide) (ow (k := 2) rfl) (fun _ h9 => h9) rfl dX1_kindOf_8 ?_
    refine lv_lload_n hx hb dX1_kindOf_11 rfl (lv_at hl 1 rfl) ?_
    have hPc := hP.sub (ws' := []) [] rfl
    have hDc := hD.sub (ws' := []) [] (by decide) rfl
    have hKc := hK.sub (tys' := []) [] rfl
    have hFc := va_free (wc := []) hD hS hA [] rfl
    refine va_calli (va_runSN (As := [.long (lI (x))]) (rest := [.ref q_103]) ⟨hx, hb, hml, hown, hts⟩ (c_X11_registerOf l dC dI x (by omega) H.size) ⟨va_cnB 1 hts (goodIn_sub mem_X1_kindOf_2 gw_X11_registerOf) rfl rfl rfl hp1 (ow (k := 0) rfl) (by decide +kernel) ⟨(Nat.le_of_ble_eq_true rfl), (Nat.le_of_ble_eq_true rfl)⟩, (ow (k := 3) rfl), trivial⟩ ⟨fun a U g mk q => by obtain ⟨q0, q1, qP, qK, qD⟩ := q; exact ⟨q0, q1, qP, va_K.moved (u := U) (U := U.calling g mk a) (Vm.Alike.refl U.vm) qK, qD⟩, fun U hU hW => ⟨rfl, by rw [hU], by rw [hU]; exact hPc, va_K.moved hW.alike hKc, hDc.weaken (fun _ _ _ _ => trivial)⟩⟩ rfl rfl hl.1 rfl (lv_room (Nat.le_of_ble_eq_true rfl)) dX1_kindOf_12 ⟨(Nat.le_of_ble_eq_true rfl), (Nat.le_of_ble_eq_true rfl)⟩) hS (fun q _ h => hFc q h) hFc (fun r_2002 u t H1 locs ht hvm hw hB hz1 hk1 hS => ?_)
    obtain ⟨hP1, hK1, hD1⟩ := hB
    rw [ht] at hP1
    have hK1 := va_K.moved hvm.symm hK1
    obtain ⟨hP, hD⟩ := va_join (wr := [(h0, .inr (1, [v1_0, v1_1, v1_2, .ref q_103, v1_4, v1_5])), (q_103, .inl (cA_103, 1024, .inl (fun j : Nat => zI (a1_kinds (j : Int)))))]) (w1 := []) hP hD [] [0, 1] rfl rfl (by decide) (by decide) hk1 hFc hP1 hD1
    have hK := (hK.sub (tys' := [(cA_103, .int)]) [0] rfl).app hK1
    generalize H1 = H at hP hS ⊢
    have hP : va_P (dC, dI) vwP [(h0, .inr (1, [v1_0, v1_1, v1_2, .ref q_103, v1_4, v1_5])), (q_103, .inl (cA_103, 1024, .inl (fun j : Nat => zI (a1_kinds (j : Int)))))] H := hP
    have hD : va_D A [(h0, .inr (1, [v1_0, v1_1, v1_2, .ref q_103, v1_4, v1_5])), (q_103, .inl (cA_103, 1024, .inl (fun j : Nat => zI (a1_kinds (j : Int)))))] := hD
    have hK : va_K (dC, dI) vwP [(cA_103, .int)] s := hK
    refine W.widen (k := 0) (n := 0) (Nat.le_of_ble_eq_true rfl) (Nat.le_of_ble_eq_true rfl) ?_
    obtain rfl : r_2002 = (zI (x - 4294967296)) := hw
    refine va_iald hx hb hK hP 1 0 rfl rfl (zI_in (a := x - 4294967296) (n := 1024) (by omega) (by omega) (by decide)) dX1_kindOf_15 ?_
    refine lv_topi (fun z ez => ?_)
    obtain rfl : z = zI (a1_kinds (x - 4294967296)) := ez.trans (zI_ld (a1_kinds) (by omega) (by omega))
    have k1 := hR_a1_kinds (x - 4294967296)
    refine lv_goto (tgt := 20) hx hb dX1_kindOf_16 (by decide) ?_
    subst hQ
    refine W.widen (k := 0) (n := 0) (Nat.le_of_ble_eq_true rfl) (Nat.le_of_ble_eq_true rfl) ?_
    exact W.iret (v := (zI (a1_kinds (x - 4294967296)))) hx hb hr (fun t ht hW => ⟨⟨(zI (a1_kinds (x - 4294967296))), (), rfl, ⟨a1_kinds (x - 4294967296), rfl, by omega⟩, by rw [ht]; exact hP, va_K.moved hW.alike hK, hD⟩, hS.F ht⟩) hS.2.2 dX1_kindOf_20
theorem dX1_numberOf_0 : decode cX1_numberOf 0 = .ok (.lload_n 1, 1) := by decide +kernel
theorem dX1_numberOf_1 : decode cX1_numberOf 1 = .ok (.invokestatic 151, 3) := by decide +kernel
theorem dX1_numberOf_4 : decode cX1_numberOf 4 = .ok (.ifCond .eq 15, 3) := by decide +kernel
theorem dX1_numberOf_19 : decode cX1_numberOf 19 = .ok (.lload_n 1, 1) := by decide +kernel
theorem dX1_numberOf_20 : decode cX1_numberOf 20 = .ok (.l2i, 1) := by decide +kernel
theorem dX1_numberOf_21 : decode cX1_numberOf 21 = .ok (.ireturn, 1) := by decide +kernel
theorem dX1_numberOf_7 : decode cX1_numberOf 7 = .ok (.aload_n 0, 1) := by decide +kernel
theorem dX1_numberOf_8 : decode cX1_numberOf 8 = .ok (.getfield 25, 3) := by decide +kernel
theorem dX1_numberOf_11 : decode cX1_numberOf 11 = .ok (.lload_n 1, 1) := by decide +kernel
theorem dX1_numberOf_12 : decode cX1_numberOf 12 = .ok (.invokestatic 155, 3) := by decide +kernel
theorem dX1_numberOf_15 : decode cX1_numberOf 15 = .ok (.laload, 1) := by decide +kernel
theorem dX1_numberOf_16 : decode cX1_numberOf 16 = .ok (.goto 4, 3) := by decide +kernel
def o_X1_numberOf : List Cond := [.initialized RX11, .static yX11_isRegister, .fieldLink RX1 25 "SsaForge$Constants" "instead" "[J", .static yX11_registerOf]
def v_X1_numberOf : List Cond := .code yX1_numberOf cX1_numberOf 3 (some .int) :: (o_X1_numberOf ++ (v_X11_isRegister ++ (wsX10 ++ (v_X11_registerOf ++ []))))
theorem mow_X1_numberOf : ∀ w ∈ o_X1_numberOf, w ∈ v_X1_numberOf := fun _ h => List.mem_cons_of_mem _ (List.mem_append_left _ h)
theorem mem_X1_numberOf_0 : ∀ w ∈ v_X11_isRegister, w ∈ v_X1_numberOf := fun _ h => List.mem_cons_of_mem _ (List.mem_append_right _ (List.mem_append_left _ h))
theorem mem_X1_numberOf_1 : ∀ w ∈ wsX10, w ∈ v_X1_numberOf := fun _ h => List.mem_cons_of_mem _ (List.mem_append_right _ (List.mem_append_right _ (List.mem_append_left _ h)))
theorem mem_X1_numberOf_2 : ∀ w ∈ v_X11_registerOf, w ∈ v_X1_numberOf := fun _ h => List.mem_cons_of_mem _ (List.mem_append_right _ (List.mem_append_right _ (List.mem_append_right _ (List.mem_append_left _ h))))
set_option maxRecDepth 20000 in
theorem gw_X1_numberOf : v_X1_numberOf.all goodWord = true := by decide +kernel
set_option maxHeartbeats 4000000 in
set_option maxRecDepth 100000 in
theorem c_X1_numberOf (l : Launch) (dC : Nat → ClassId) (dI : Nat → Nat → Nat) (h0 : Nat) (v1_0 : Value) (v1_1 : Value) (v1_2 : Value) (v1_3 : Value) (q_104 : Nat) (cA_104 : ClassId) (a1_instead : Int → Int) (v1_5 : Value) (x : Int) (hR_a1_instead : ∀ j : Int, ((-2147483648 ≤ a1_instead j ∧ a1_instead j ≤ 4294968319) ∨ a1_instead j = 1099511627776)) (hNx : ((-2147483648 ≤ x ∧ x ≤ 4294968319) ∨ x = 1099511627776)) (sz : Nat) : Met l yX1_numberOf v_X1_numberOf ({ frames := 1, cells := 0, slots := 0, locals := 21 }) (va_Pc [.ref h0, .long (lI (x))] (fun U => U.heap.size = sz ∧ va_P (dC, dI) vwP [(h0, .inr (1, [v1_0, v1_1, v1_2, v1_3, .ref q_104, v1_5])), (q_104, .inl (cA_104, 1024, .inr (.inl (fun j : Nat => lI (a1_instead (j : Int))))))] U.heap ∧ va_K (dC, dI) vwP [(cA_104, .long)] U ∧ va_D (fun _ => True) [(h0, .inr (1, [v1_0, v1_1, v1_2, v1_3, .ref q_104, v1_5])), (q_104, .inl (cA_104, 1024, .inr (.inl (fun j : Nat => lI (a1_instead (j : Int))))))] ∧ va_Nw (.methodLinkNest RX1 151 yX11_isRegister "SsaForge") U ∧ va_Nw (.methodLinkNest RX1 155 yX11_registerOf "SsaForge") U)) (va_Qi (fun (r : Int32) (_ : Unit) => True) (fun (_ : Unit) (t : State) => va_P (dC, dI) vwP [(h0, .inr (1, [v1_0, v1_1, v1_2, v1_3, .ref q_104, v1_5])), (q_104, .inl (cA_104, 1024, .inr (.inl (fun j : Nat => lI (a1_instead (j : Int))))))] t.heap ∧ va_K (dC, dI) vwP [(cA_104, .long)] t ∧ va_D (va_A [(h0, .inr (1, [v1_0, v1_1, v1_2, v1_3, .ref q_104, v1_5])), (q_104, .inl (cA_104, 1024, .inr (.inl (fun j : Nat => lI (a1_instead (j : Int))))))] sz) [(h0, .inr (1, [v1_0, v1_1, v1_2, v1_3, .ref q_104, v1_5])), (q_104, .inl (cA_104, 1024, .inr (.inl (fun j : Nat => lI (a1_instead (j : Int))))))]) (va_A [(h0, .inr (1, [v1_0, v1_1, v1_2, v1_3, .ref q_104, v1_5])), (q_104, .inl (cA_104, 1024, .inr (.inl (fun j : Nat => lI (a1_instead (j : Int))))))] sz)) 0 0 (va_A [(h0, .inr (1, [v1_0, v1_1, v1_2, v1_3, .ref q_104, v1_5])), (q_104, .inl (cA_104, 1024, .inr (.inl (fun j : Nat => lI (a1_instead (j : Int))))))] sz) := by
  refine Met.ofW (cc := cX1_numberOf) (maxL := 3) (ret := (some .int)) (by decide) rfl ?_
  intro p e s m args below meth c s₁ B hml hv
  obtain ⟨rfl, hsz, hP, hK, hD0, hp0, hp1⟩ := hv
  have hx := B.exec
  have hb := B.bytes
  have hr := B.returns
  have hts := atoms_spec (ws := v_X1_numberOf) B.pre
  have hown : s.vm.findClass RX1 = some m.cls := findClass_of_methodNamed B.named
  have hlocks := B.notSynchronized
  have ow : ∀ {k : Nat} {w : Cond}, o_X1_numberOf[k]? = some w → w.before ([.ref h0, .long (lI (x))] : List Value).toArray s = true := fun h => hts _ (mow_X1_numberOf _ (List.mem_of_getElem? h))
  subst hsz
  have hD := hD0.self (sz := s.heap.size)
  generalize hAe : va_A [(h0, .inr (1, [v1_0, v1_1, v1_2, v1_3, .ref q_104, v1_5])), (q_104, .inl (cA_104, 1024, .inr (.inl (fun j : Nat => lI (a1_instead (j : Int))))))] s.heap.size = A at hD ⊢
  have hA : ∀ q : Nat, s.heap.size ≤ q → A q := fun q h => by rw [← hAe]; exact Or.inr h
  have hS : va_S A s.heap s.heap [] := va_S.rf
  have hP : va_P (dC, dI) vwP [(h0, .inr (1, [v1_0, v1_1, v1_2, v1_3, .ref q_104, v1_5])), (q_104, .inl (cA_104, 1024, .inr (.inl (fun j : Nat => lI (a1_instead (j : Int))))))] s.heap := hP
  have hl := lv_entry ([.ref h0, .long (lI (x))]) (n := 3) (Nat.le_of_ble_eq_true rfl)
  rw [lg_entry_eq]
  generalize (lg_sl ([.ref h0, .long (lI (x))]) ++ List.replicate (3 - (lg_sl ([.ref h0, .long (lI (x))])).length) Slot.unset).toArray = ls at hl ⊢
  have hl : lv_has ls 3 [(0, .ref h0), (1, .long (lI (x)))] := hl
  obtain ⟨H, hH⟩ : ∃ H, H = s.heap := ⟨_, rfl⟩
  rw [← hH] at hP
  have hS : va_S A s.heap H [] := by rw [hH]; exact hS
  rw [← hH]
  refine zW_cap (fun Q hQ => ?_)
  refine lv_lload_n hx hb dX1_numberOf_0 rfl (lv_at hl 1 rfl) ?_
  have hPc := hP.sub (ws' := []) [] rfl
  have hDc := hD.sub (ws' := []) [] (by decide) rfl
  have hKc := hK.sub (tys' := []) [] rfl
  have hFc := va_free (wc := []) hD hS hA [] rfl
  refine va_calli (va_runSN (As := [.long (lI (x))]) (rest := []) ⟨hx, hb, hml, hown, hts⟩ (c_X11_isRegister l dC dI x (by omega) H.size) ⟨va_cnB 1 hts (goodIn_sub mem_X1_numberOf_0 gw_X11_isRegister) rfl rfl rfl hp0 (ow (k := 0) rfl) (by decide +kernel) ⟨(Nat.le_of_ble_eq_true rfl), (Nat.le_of_ble_eq_true rfl)⟩, (ow (k := 1) rfl), trivial⟩ ⟨fun a U g mk q => by obtain ⟨q0, q1, qP, qK, qD⟩ := q; exact ⟨q0, q1, qP, va_K.moved (u := U) (U := U.calling g mk a) (Vm.Alike.refl U.vm) qK, qD⟩, fun U hU hW => ⟨rfl, by rw [hU], by rw [hU]; exact hPc, va_K.moved hW.alike hKc, hDc.weaken (fun _ _ _ _ => trivial)⟩⟩ rfl rfl hl.1 rfl (lv_room (Nat.le_of_ble_eq_true rfl)) dX1_numberOf_1 ⟨(Nat.le_of_ble_eq_true rfl), (Nat.le_of_ble_eq_true rfl)⟩) hS (fun q _ h => hFc q h) hFc (fun r_2001 u t H1 locs ht hvm hw hB hz1 hk1 hS => ?_)
  obtain ⟨hP1, hK1, hD1⟩ := hB
  rw [ht] at hP1
  have hK1 := va_K.moved hvm.symm hK1
  obtain ⟨hP, hD⟩ := va_join (wr := [(h0, .inr (1, [v1_0, v1_1, v1_2, v1_3, .ref q_104, v1_5])), (q_104, .inl (cA_104, 1024, .inr (.inl (fun j : Nat => lI (a1_instead (j : Int))))))]) (w1 := []) hP hD [] [0, 1] rfl rfl (by decide) (by decide) hk1 hFc hP1 hD1
  have hK := (hK.sub (tys' := [(cA_104, .long)]) [0] rfl).app hK1
  generalize H1 = H at hP hS ⊢
  have hP : va_P (dC, dI) vwP [(h0, .inr (1, [v1_0, v1_1, v1_2, v1_3, .ref q_104, v1_5])), (q_104, .inl (cA_104, 1024, .inr (.inl (fun j : Nat => lI (a1_instead (j : Int))))))] H := hP
  have hD : va_D A [(h0, .inr (1, [v1_0, v1_1, v1_2, v1_3, .ref q_104, v1_5])), (q_104, .inl (cA_104, 1024, .inr (.inl (fun j : Nat => lI (a1_instead (j : Int))))))] := hD
  have hK : va_K (dC, dI) vwP [(cA_104, .long)] s := hK
  refine W.widen (k := 0) (n := 0) (Nat.le_of_ble_eq_true rfl) (Nat.le_of_ble_eq_true rfl) ?_
  obtain rfl : r_2001 = (zI (isR (x))) := hw
  have := isR_spec (x)
  refine lv_if_eq (tgt := 19) hx hb dX1_numberOf_4 (by decide) (fun b4 => ?_) (fun b4 => ?_)
  · have yb4 : (isR (x) : Int) = (0 : Int) := (zI_eq (a := isR (x)) (b := 0) (by omega) (by omega) (by omega) (by omega)).mp b4
    refine lv_lload_n hx hb dX1_numberOf_19 rfl (lv_at hl 1 rfl) ?_
    refine lv_l2i (v := zI (x)) hx hb dX1_numberOf_20 (lI_i (x)) ?_
    subst hQ
    refine W.widen (k := 0) (n := 0) (Nat.le_of_ble_eq_true rfl) (Nat.le_of_ble_eq_true rfl) ?_
    exact W.iret (v := (zI (x))) hx hb hr (fun t ht hW => ⟨⟨(zI (x)), (), rfl, trivial, by rw [ht]; exact hP, va_K.moved hW.alike hK, hD⟩, hS.F ht⟩) hS.2.2 dX1_numberOf_21
  · have yb4 : ¬ (isR (x) : Int) = (0 : Int) := fun q => b4 ((zI_eq (a := isR (x)) (b := 0) (by omega) (by omega) (by omega) (by omega)).mpr q)
    refine lv_aload_n hx hb dX1_numberOf_7 rfl (lv_at hl 0 rfl) ?_
    refine va_get (D := (dC, dI)) (ci := 1) (v := .ref q_104) (C := RX1) (T := TX1) (N := 6) hx hb hts mem_X1_numberOf_1 hown hK hP 0 rfl rfl 4 (by decide) (ow (k := 2) rfl) (fun _ h9 => h9) rfl dX1_numberOf_8 ?_
    refine lv_lload_n hx hb dX1_numberOf_11 rfl (lv_at hl 1 rfl) ?_
    have hPc := hP.sub (ws' := []) [] rfl
    have hDc := hD.sub (ws' := []) [] (by decide) rfl
    have hKc := hK.sub (tys' := []) [] rfl
    have hFc := va_free (wc := []) hD hS hA [] rfl
    refine va_calli (va_runSN (As := [.long (lI (x))]) (rest := [.ref q_104]) ⟨hx, hb, hml, hown, hts⟩ (c_X11_registerOf l dC dI x (by omega) H.size) ⟨va_cnB 1 hts (goodIn_sub mem_X1_numberOf_2 gw_X11_registerOf) rfl rfl rfl hp1 (ow (k := 0) rfl) (by decide +kernel) ⟨(Nat.le_of_ble_eq_true rfl), (Nat.le_of_ble_eq_true rfl)⟩, (ow (k := 3) rfl), trivial⟩ ⟨fun a U g mk q => by obtain ⟨q0, q1, qP, qK, qD⟩ := q; exact ⟨q0, q1, qP, va_K.moved (u := U) (U := U.calling g mk a) (Vm.Alike.refl U.vm) qK, qD⟩, fun U hU hW => ⟨rfl, by rw [hU], by rw [hU]; exact hPc, va_K.moved hW.alike hKc, hDc.weaken (fun _ _ _ _ => trivial)⟩⟩ rfl rfl hl.1 rfl (lv_room (Nat.le_of_ble_eq_true rfl)) dX1_numberOf_12 ⟨(Nat.le_of_ble_eq_true rfl), (Nat.le_of_ble_eq_true rfl)⟩) hS (fun q _ h => hFc q h) hFc (fun r_2002 u t H1 locs ht hvm hw hB hz1 hk1 hS => ?_)
    obtain ⟨hP1, hK1, hD1⟩ := hB
    rw [ht] at hP1
    have hK1 := va_K.moved hvm.symm hK1
    obtain ⟨hP, hD⟩ := va_join (wr := [(h0, .inr (1, [v1_0, v1_1, v1_2, v1_3, .ref q_104, v1_5])), (q_104, .inl (cA_104, 1024, .inr (.inl (fun j : Nat => lI (a1_instead (j : Int))))))]) (w1 := []) hP hD [] [0, 1] rfl rfl (by decide) (by decide) hk1 hFc hP1 hD1
    have hK := (hK.sub (tys' := [(cA_104, .long)]) [0] rfl).app hK1
    generalize H1 = H at hP hS ⊢
    have hP : va_P (dC, dI) vwP [(h0, .inr (1, [v1_0, v1_1, v1_2, v1_3, .ref q_104, v1_5])), (q_104, .inl (cA_104, 1024, .inr (.inl (fun j : Nat => lI (a1_instead (j : Int))))))] H := hP
    have hD : va_D A [(h0, .inr (1, [v1_0, v1_1, v1_2, v1_3, .ref q_104, v1_5])), (q_104, .inl (cA_104, 1024, .inr (.inl (fun j : Nat => lI (a1_instead (j : Int))))))] := hD
    have hK : va_K (dC, dI) vwP [(cA_104, .long)] s := hK
    refine W.widen (k := 0) (n := 0) (Nat.le_of_ble_eq_true rfl) (Nat.le_of_ble_eq_true rfl) ?_
    obtain rfl : r_2002 = (zI (x - 4294967296)) := hw
    refine va_lald hx hb hK hP 1 0 rfl rfl (zI_in (a := x - 4294967296) (n := 1024) (by omega) (by omega) (by decide)) dX1_numberOf_15 ?_
    refine lv_topl (fun z ez => ?_)
    obtain rfl : z = lI (a1_instead (x - 4294967296)) := ez.trans (lI_ld (a1_instead) (by omega) (by omega))
    have k1 := hR_a1_instead (x - 4294967296)
    refine lv_goto (tgt := 20) hx hb dX1_numberOf_16 (by decide) ?_
    refine lv_l2i (v := zI (a1_instead (x - 4294967296))) hx hb dX1_numberOf_20 (lI_i (a1_instead (x - 4294967296))) ?_
    subst hQ
    refine W.widen (k := 0) (n := 0) (Nat.le_of_ble_eq_true rfl) (Nat.le_of_ble_eq_true rfl) ?_
    exact W.iret (v := (zI (a1_instead (x - 4294967296)))) hx hb hr (fun t ht hW => ⟨⟨(zI (a1_instead (x - 4294967296))), (), rfl, trivial, by rw [ht]; exact hP, va_K.moved hW.alike hK, hD⟩, hS.F ht⟩) hS.2.2 dX1_numberOf_21
theorem dX1_tell_0 : decode cX1_tell 0 = .ok (.iload_n 2, 1) := by decide +kernel
theorem dX1_tell_1 : decode cX1_tell 1 = .ok (.aload_n 0, 1) := by decide +kernel
theorem dX1_tell_2 : decode cX1_tell 2 = .ok (.getfield 21, 3) := by decide +kernel
theorem dX1_tell_5 : decode cX1_tell 5 = .ok (.iload_n 1, 1) := by decide +kernel
theorem dX1_tell_6 : decode cX1_tell 6 = .ok (.iaload, 1) := by decide +kernel
theorem dX1_tell_7 : decode cX1_tell 7 = .ok (.if_icmp .le 34, 3) := by decide +kernel
theorem dX1_tell_41 : decode cX1_tell 41 = .ok (.return_, 1) := by decide +kernel
theorem dX1_tell_10 : decode cX1_tell 10 = .ok (.aload_n 0, 1) := by decide +kernel
theorem dX1_tell_11 : decode cX1_tell 11 = .ok (.getfield 21, 3) := by decide +kernel
theorem dX1_tell_14 : decode cX1_tell 14 = .ok (.iload_n 1, 1) := by decide +kernel
theorem dX1_tell_15 : decode cX1_tell 15 = .ok (.iload_n 2, 1) := by decide +kernel
theorem dX1_tell_16 : decode cX1_tell 16 = .ok (.iastore, 1) := by decide +kernel
theorem dX1_tell_17 : decode cX1_tell 17 = .ok (.aload_n 0, 1) := by decide +kernel
theorem dX1_tell_18 : decode cX1_tell 18 = .ok (.getfield 25, 3) := by decide +kernel
theorem dX1_tell_21 : decode cX1_tell 21 = .ok (.iload_n 1, 1) := by decide +kernel
theorem dX1_tell_22 : decode cX1_tell 22 = .ok (.iload_n 2, 1) := by decide +kernel
theorem dX1_tell_23 : decode cX1_tell 23 = .ok (.iconst 1, 1) := by decide +kernel
theorem dX1_tell_24 : decode cX1_tell 24 = .ok (.if_icmp .ne 8, 3) := by decide +kernel
theorem dX1_tell_32 : decode cX1_tell 32 = .ok (.ldc2_w 59, 3) := by decide +kernel
theorem dX1_tell_35 : decode cX1_tell 35 = .ok (.lastore, 1) := by decide +kernel
theorem dX1_tell_36 : decode cX1_tell 36 = .ok (.aload_n 0, 1) := by decide +kernel
theorem dX1_tell_37 : decode cX1_tell 37 = .ok (.iconst 1, 1) := by decide +kernel
theorem dX1_tell_38 : decode cX1_tell 38 = .ok (.putfield 29, 3) := by decide +kernel
theorem dX1_tell_27 : decode cX1_tell 27 = .ok (.iload_n 3, 1) := by decide +kernel
theorem dX1_tell_28 : decode cX1_tell 28 = .ok (.i2l, 1) := by decide +kernel
theorem dX1_tell_29 : decode cX1_tell 29 = .ok (.goto 6, 3) := by decide +kernel
def o_X1_tell : List Cond := [.fieldLink RX1 21 "SsaForge$Constants" "kinds" "[I", .fieldLink RX1 25 "SsaForge$Constants" "instead" "[J", .constantLong RX1 59 (1099511627776), .fieldLink RX1 29 "SsaForge$Constants" "changed" "Z"]
def v_X1_tell : List Cond := .code yX1_tell cX1_tell 4 none :: (o_X1_tell ++ (wsX10 ++ []))
theorem mow_X1_tell : ∀ w ∈ o_X1_tell, w ∈ v_X1_tell := fun _ h => List.mem_cons_of_mem _ (List.mem_append_left _ h)
theorem mem_X1_tell_0 : ∀ w ∈ wsX10, w ∈ v_X1_tell := fun _ h => List.mem_cons_of_mem _ (List.mem_append_right _ (List.mem_append_left _ h))
set_option maxRecDepth 20000 in
theorem gw_X1_tell : v_X1_tell.all goodWord = true := by decide +kernel
set_option maxHeartbeats 4000000 in
set_option maxRecDepth 100000 in
theorem c_X1_tell (l : Launch) (dC : Nat → ClassId) (dI : Nat → Nat → Nat) (h0 : Nat) (v1_0 : Value) (v1_1 : Value) (v1_2 : Value) (q_103 : Nat) (cA_103 : ClassId) (a1_kinds : Int → Int) (q_104 : Nat) (cA_104 : ClassId) (a1_instead : Int → Int) (z1_changed : Int) (r0 : Int) (k0 : Int) (p0 : Int32) (hR_a1_kinds : ∀ j : Int, 0 ≤ a1_kinds j ∧ a1_kinds j ≤ 2) (hR_a1_instead : ∀ j : Int, ((-2147483648 ≤ a1_instead j ∧ a1_instead j ≤ 4294968319) ∨ a1_instead j = 1099511627776)) (hNz1_changed : 0 ≤ z1_changed ∧ z1_changed ≤ 1) (hNr : 0 ≤ r0 ∧ r0 ≤ 1023) (hNk : 0 ≤ k0 ∧ k0 ≤ 2) (sz : Nat) : Met l yX1_tell v_X1_tell ({ frames := 0, cells := 0, slots := 0, locals := 0 }) (va_Pc [.ref h0, .int (zI (r0)), .int (zI (k0)), .int p0] (fun U => U.heap.size = sz ∧ va_P (dC, dI) vwP [(h0, .inr (1, [v1_0, v1_1, v1_2, .ref q_103, .ref q_104, .int (zI (z1_changed))])), (q_103, .inl (cA_103, 1024, .inl (fun j : Nat => zI (a1_kinds (j : Int))))), (q_104, .inl (cA_104, 1024, .inr (.inl (fun j : Nat => lI (a1_instead (j : Int))))))] U.heap ∧ va_K (dC, dI) vwP [(cA_103, .int), (cA_104, .long)] U ∧ va_D (fun _ => True) [(h0, .inr (1, [v1_0, v1_1, v1_2, .ref q_103, .ref q_104, .int (zI (z1_changed))])), (q_103, .inl (cA_103, 1024, .inl (fun j : Nat => zI (a1_kinds (j : Int))))), (q_104, .inl (cA_104, 1024, .inr (.inl (fun j : Nat => lI (a1_instead (j : Int))))))])) (va_Qv (fun _ : Unit => True) (fun (_ : Unit) (t : State) => ∃ (z0_9 : Int) (a1_9 : Int → Int) (a2_9 : Int → Int), ((0 ≤ z0_9 ∧ z0_9 ≤ 1) ∧ (∀ j : Int, 0 ≤ a1_9 j ∧ a1_9 j ≤ 2) ∧ (∀ j : Int, ((-2147483648 ≤ a2_9 j ∧ a2_9 j ≤ 4294968319) ∨ a2_9 j = 1099511627776))) ∧ va_P (dC, dI) vwP [(h0, .inr (1, [v1_0, v1_1, v1_2, .ref q_103, .ref q_104, .int (zI (z0_9))])), (q_103, .inl (cA_103, 1024, .inl (fun j : Nat => zI (a1_9 (j : Int))))), (q_104, .inl (cA_104, 1024, .inr (.inl (fun j : Nat => lI (a2_9 (j : Int))))))] t.heap ∧ va_K (dC, dI) vwP [(cA_103, .int), (cA_104, .long)] t ∧ va_D (va_A [(h0, .inr (1, [v1_0, v1_1, v1_2, .ref q_103, .ref q_104, .int (zI (z1_changed))])), (q_103, .inl (cA_103, 1024, .inl (fun j : Nat => zI (a1_kinds (j : Int))))), (q_104, .inl (cA_104, 1024, .inr (.inl (fun j : Nat => lI (a1_instead (j : Int))))))] sz) [(h0, .inr (1, [v1_0, v1_1, v1_2, .ref q_103, .ref q_104, .int (zI (z0_9))])), (q_103, .inl (cA_103, 1024, .inl (fun j : Nat => zI (a1_9 (j : Int))))), (q_104, .inl (cA_104, 1024, .inr (.inl (fun j : Nat => lI (a2_9 (j : Int))))))]) (va_A [(h0, .inr (1, [v1_0, v1_1, v1_2, .ref q_103, .ref q_104, .int (zI (z1_changed))])), (q_103, .inl (cA_103, 1024, .inl (fun j : Nat => zI (a1_kinds (j : Int))))), (q_104, .inl (cA_104, 1024, .inr (.inl (fun j : Nat => lI (a1_instead (j : Int))))))] sz)) 0 0 (va_A [(h0, .inr (1, [v1_0, v1_1, v1_2, .ref q_103, .ref q_104, .int (zI (z1_changed))])), (q_103, .inl (cA_103, 1024, .inl (fun j : Nat => zI (a1_kinds (j : Int))))), (q_104, .inl (cA_104, 1024, .inr (.inl (fun j : Nat => lI (a1_instead (j : Int))))))] sz) := by
  refine Met.ofW (cc := cX1_tell) (maxL := 4) (ret := none) (by decide) rfl ?_
  intro p e s m args below meth c s₁ B hml hv
  obtain ⟨rfl, hsz, hP, hK, hD0⟩ := hv
  have hx := B.exec
  have hb := B.bytes
  have hr := B.returns
  have hts := atoms_spec (ws := v_X1_tell) B.pre
  have hown : s.vm.findClass RX1 = some m.cls := findClass_of_methodNamed B.named
  have hlocks := B.notSynchronized
  have ow : ∀ {k : Nat} {w : Cond}, o_X1_tell[k]? = some w → w.before ([.ref h0, .int (zI (r0)), .int (zI (k0)), .int p0] : List Value).toArray s = true := fun h => hts _ (mow_X1_tell _ (List.mem_of_getElem? h))
  subst hsz
  have hD := hD0.self (sz := s.heap.size)
  generalize hAe : va_A [(h0, .inr (1, [v1_0, v1_1, v1_2, .ref q_103, .ref q_104, .int (zI (z1_changed))])), (q_103, .inl (cA_103, 1024, .inl (fun j : Nat => zI (a1_kinds (j : Int))))), (q_104, .inl (cA_104, 1024, .inr (.inl (fun j : Nat => lI (a1_instead (j : Int))))))] s.heap.size = A at hD ⊢
  have hA : ∀ q : Nat, s.heap.size ≤ q → A q := fun q h => by rw [← hAe]; exact Or.inr h
  have hS : va_S A s.heap s.heap [] := va_S.rf
  have hP : va_P (dC, dI) vwP [(h0, .inr (1, [v1_0, v1_1, v1_2, .ref q_103, .ref q_104, .int (zI (z1_changed))])), (q_103, .inl (cA_103, 1024, .inl (fun j : Nat => zI (a1_kinds (j : Int))))), (q_104, .inl (cA_104, 1024, .inr (.inl (fun j : Nat => lI (a1_instead (j : Int))))))] s.heap := hP
  have hl := lv_entry ([.ref h0, .int (zI (r0)), .int (zI (k0)), .int p0]) (n := 4) (Nat.le_of_ble_eq_true rfl)
  rw [lg_entry_eq]
  generalize (lg_sl ([.ref h0, .int (zI (r0)), .int (zI (k0)), .int p0]) ++ List.replicate (4 - (lg_sl ([.ref h0, .int (zI (r0)), .int (zI (k0)), .int p0])).length) Slot.unset).toArray = ls at hl ⊢
  have hl : lv_has ls 4 [(0, .ref h0), (1, .int (zI (r0))), (2, .int (zI (k0))), (3, .int p0)] := hl
  obtain ⟨H, hH⟩ : ∃ H, H = s.heap := ⟨_, rfl⟩
  rw [← hH] at hP
  have hS : va_S A s.heap H [] := by rw [hH]; exact hS
  rw [← hH]
  refine zW_cap (fun Q hQ => ?_)
  refine lv_iload_n hx hb dX1_tell_0 rfl (lv_at hl 2 rfl) ?_
  refine lv_aload_n hx hb dX1_tell_1 rfl (lv_at hl 0 rfl) ?_
  refine va_get (D := (dC, dI)) (ci := 1) (v := .ref q_103) (C := RX1) (T := TX1) (N := 6) hx hb hts mem_X1_tell_0 hown hK hP 0 rfl rfl 3 (by decide) (ow (k := 0) rfl) (fun _ h9 => h9) rfl dX1_tell_2 ?_
  refine lv_iload_n hx hb dX1_tell_5 rfl (lv_at hl 1 rfl) ?_
  refine va_iald hx hb hK hP 1 0 rfl rfl (zI_in (a := r0) (n := 1024) (by omega) (by omega) (by decide)) dX1_tell_6 ?_
  refine lv_topi (fun z ez => ?_)
  obtain rfl : z = zI (a1_kinds (r0)) := ez.trans (zI_ld (a1_kinds) (by omega) (by omega))
  have k1 := hR_a1_kinds (r0)
  refine lv_icmp_le (tgt := 41) hx hb dX1_tell_7 (by decide) (fun b7 => ?_) (fun b7 => ?_)
  · have yb7 : (k0 : Int) ≤ (a1_kinds (r0) : Int) := (zI_le (a := k0) (b := a1_kinds (r0)) (by omega) (by omega) (by omega) (by omega)).mp b7
    subst hQ
    refine W.widen (k := 0) (n := 0) (Nat.le_of_ble_eq_true rfl) (Nat.le_of_ble_eq_true rfl) ?_
    exact W.vret hx hb hr (fun t ht hW => ⟨⟨(), rfl, trivial, z1_changed, a1_kinds, a1_instead, ⟨(by omega), hR_a1_kinds, hR_a1_instead⟩, by rw [ht]; exact hP, va_K.moved hW.alike hK, hD⟩, hS.F ht⟩) hS.2.2 dX1_tell_41
  · have yb7 : ¬ (k0 : Int) ≤ (a1_kinds (r0) : Int) := fun q => b7 ((zI_le (a := k0) (b := a1_kinds (r0)) (by omega) (by omega) (by omega) (by omega)).mpr q)
    refine lv_aload_n hx hb dX1_tell_10 rfl (lv_at hl 0 rfl) ?_
    refine va_get (D := (dC, dI)) (ci := 1) (v := .ref q_103) (C := RX1) (T := TX1) (N := 6) hx hb hts mem_X1_tell_0 hown hK hP 0 rfl rfl 3 (by decide) (ow (k := 0) rfl) (fun _ h9 => h9) rfl dX1_tell_11 ?_
    refine lv_iload_n hx hb dX1_tell_14 rfl (lv_at hl 1 rfl) ?_
    refine lv_iload_n hx hb dX1_tell_15 rfl (lv_at hl 2 rfl) ?_
    refine va_iast (i := zI (r0)) hx hb hK hP hD hS 1 0 rfl rfl (zI_in (a := r0) (n := 1024) (by omega) (by omega) (by decide)) dX1_tell_16 (fun H locs hP hD hS => ?_)
    have eQ : upd (fun j : Nat => zI (a1_kinds (j : Int))) (zI (r0)).toNatClampNeg (zI (k0)) = (fun j : Nat => zI (zup a1_kinds (r0) (k0) (j : Int))) := zI_st a1_kinds (e := r0) (v := k0) (by omega) (by omega)
    rw [eQ] at hP hD
    clear eQ
    have ra_2001 : ∀ j : Int, 0 ≤ zup a1_kinds (r0) (k0) j ∧ zup a1_kinds (r0) (k0) j ≤ 2 := zup_P (P := fun x9 => 0 ≤ x9 ∧ x9 ≤ 2) hR_a1_kinds (show 0 ≤ (k0) ∧ (k0) ≤ 2 by omega)
    generalize zup a1_kinds (r0) (k0) = a_2001 at hP hD ra_2001
    have hP : va_P (dC, dI) vwP [(h0, .inr (1, [v1_0, v1_1, v1_2, .ref q_103, .ref q_104, .int (zI (z1_changed))])), (q_103, .inl (cA_103, 1024, .inl (fun j : Nat => zI (a_2001 (j : Int))))), (q_104, .inl (cA_104, 1024, .inr (.inl (fun j : Nat => lI (a1_instead (j : Int))))))] H := hP
    have hD : va_D A [(h0, .inr (1, [v1_0, v1_1, v1_2, .ref q_103, .ref q_104, .int (zI (z1_changed))])), (q_103, .inl (cA_103, 1024, .inl (fun j : Nat => zI (a_2001 (j : Int))))), (q_104, .inl (cA_104, 1024, .inr (.inl (fun j : Nat => lI (a1_instead (j : Int))))))] := hD
    refine lv_aload_n hx hb dX1_tell_17 rfl (lv_at hl 0 rfl) ?_
    refine va_get (D := (dC, dI)) (ci := 1) (v := .ref q_104) (C := RX1) (T := TX1) (N := 6) hx hb hts mem_X1_tell_0 hown hK hP 0 rfl rfl 4 (by decide) (ow (k := 1) rfl) (fun _ h9 => h9) rfl dX1_tell_18 ?_
    refine lv_iload_n hx hb dX1_tell_21 rfl (lv_at hl 1 rfl) ?_
    refine lv_iload_n hx hb dX1_tell_22 rfl (lv_at hl 2 rfl) ?_
    refine lv_iconst (v := 1) hx hb dX1_tell_23 (by decide) ?_
    refine lv_icmp_ne (tgt := 32) hx hb dX1_tell_24 (by decide) (fun b24 => ?_) (fun b24 => ?_)
    · have yb24 : ¬ (k0 : Int) = (1 : Int) := fun q => b24 ((zI_eq (a := k0) (b := 1) (by omega) (by omega) (by omega) (by omega)).mpr q)
      refine lv_ldc2 (v := 1099511627776) hx hb hown (ow (k := 2) rfl) dX1_tell_32 ?_
      refine lv_topl (fun z ez => ?_)
      obtain rfl : z = lI (1099511627776) := ez
      refine va_last (i := zI (r0)) hx hb hK hP hD hS 2 1 rfl rfl (zI_in (a := r0) (n := 1024) (by omega) (by omega) (by decide)) dX1_tell_35 (fun H locs hP hD hS => ?_)
      have eQ : vp_updL (fun j : Nat => lI (a1_instead (j : Int))) (zI (r0)).toNatClampNeg (lI (1099511627776)) = (fun j : Nat => lI (zup a1_instead (r0) (1099511627776) (j : Int))) := lI_st a1_instead (e := r0) (v := 1099511627776) (by omega) (by omega)
      rw [eQ] at hP hD
      clear eQ
      have ra_2002 : ∀ j : Int, ((-2147483648 ≤ zup a1_instead (r0) (1099511627776) j ∧ zup a1_instead (r0) (1099511627776) j ≤ 4294968319) ∨ zup a1_instead (r0) (1099511627776) j = 1099511627776) := zup_P (P := fun x9 => ((-2147483648 ≤ x9 ∧ x9 ≤ 4294968319) ∨ x9 = 1099511627776)) hR_a1_instead (show ((-2147483648 ≤ (1099511627776) ∧ (1099511627776) ≤ 4294968319) ∨ (1099511627776) = 1099511627776) by omega)
      generalize zup a1_instead (r0) (1099511627776) = a_2002 at hP hD ra_2002
      have hP : va_P (dC, dI) vwP [(h0, .inr (1, [v1_0, v1_1, v1_2, .ref q_103, .ref q_104, .int (zI (z1_changed))])), (q_103, .inl (cA_103, 1024, .inl (fun j : Nat => zI (a_2001 (j : Int))))), (q_104, .inl (cA_104, 1024, .inr (.inl (fun j : Nat => lI (a_2002 (j : Int))))))] H := hP
      have hD : va_D A [(h0, .inr (1, [v1_0, v1_1, v1_2, .ref q_103, .ref q_104, .int (zI (z1_changed))])), (q_103, .inl (cA_103, 1024, .inl (fun j : Nat => zI (a_2001 (j : Int))))), (q_104, .inl (cA_104, 1024, .inr (.inl (fun j : Nat => lI (a_2002 (j : Int))))))] := hD
      refine lv_aload_n hx hb dX1_tell_36 rfl (lv_at hl 0 rfl) ?_
      refine lv_iconst (v := 1) hx hb dX1_tell_37 (by decide) ?_
      refine va_put (D := (dC, dI)) (ci := 1) (v := .int 1) (ty := .boolean) (C := RX1) (T := TX1) (N := 6) hx hb hts mem_X1_tell_0 tyX1 tyX1_ok nmX1 hown hK hP hD hS 0 rfl rfl 5 (by decide) (ow (k := 3) rfl) (fun _ h9 => h9) rfl (by decide +kernel) rfl rfl (Nat.le_of_ble_eq_true rfl) dX1_tell_38 (fun H locs hP hD hS => ?_)
      have hP : va_P (dC, dI) vwP [(h0, .inr (1, [v1_0, v1_1, v1_2, .ref q_103, .ref q_104, .int 1])), (q_103, .inl (cA_103, 1024, .inl (fun j : Nat => zI (a_2001 (j : Int))))), (q_104, .inl (cA_104, 1024, .inr (.inl (fun j : Nat => lI (a_2002 (j : Int))))))] H := hP
      have hD : va_D A [(h0, .inr (1, [v1_0, v1_1, v1_2, .ref q_103, .ref q_104, .int 1])), (q_103, .inl (cA_103, 1024, .inl (fun j : Nat => zI (a_2001 (j : Int))))), (q_104, .inl (cA_104, 1024, .inr (.inl (fun j : Nat => lI (a_2002 (j : Int))))))] := hD
      subst hQ
      refine W.widen (k := 0) (n := 0) (Nat.le_of_ble_eq_true rfl) (Nat.le_of_ble_eq_true rfl) ?_
      exact W.vret hx hb hr (fun t ht hW => ⟨⟨(), rfl, trivial, 1, a_2001, a_2002, ⟨(by omega), ra_2001, ra_2002⟩, by rw [ht]; exact hP, va_K.moved hW.alike hK, hD⟩, hS.F ht⟩) hS.2.2 dX1_tell_41
    · have yb24 : (k0 : Int) = (1 : Int) := (zI_eq (a := k0) (b := 1) (by omega) (by omega) (by omega) (by omega)).mp b24
      refine lv_iload_n hx hb dX1_tell_27 rfl (lv_at hl 3 rfl) ?_
      refine lv_i2l (v := lI (p0).toInt) hx hb dX1_tell_28 (xI_l _) ?_
      have kx_2003 := xI_rng (p0)
      refine lv_goto (tgt := 35) hx hb dX1_tell_29 (by decide) ?_
      refine va_last (i := zI (r0)) hx hb hK hP hD hS 2 1 rfl rfl (zI_in (a := r0) (n := 1024) (by omega) (by omega) (by decide)) dX1_tell_35 (fun H locs hP hD hS => ?_)
      have eQ : vp_updL (fun j : Nat => lI (a1_instead (j : Int))) (zI (r0)).toNatClampNeg (lI ((p0).toInt)) = (fun j : Nat => lI (zup a1_instead (r0) ((p0).toInt) (j : Int))) := lI_st a1_instead (e := r0) (v := (p0).toInt) (by omega) (by omega)
      rw [eQ] at hP hD
      clear eQ
      have ra_2004 : ∀ j : Int, ((-2147483648 ≤ zup a1_instead (r0) ((p0).toInt) j ∧ zup a1_instead (r0) ((p0).toInt) j ≤ 4294968319) ∨ zup a1_instead (r0) ((p0).toInt) j = 1099511627776) := zup_P (P := fun x9 => ((-2147483648 ≤ x9 ∧ x9 ≤ 4294968319) ∨ x9 = 1099511627776)) hR_a1_instead (show ((-2147483648 ≤ ((p0).toInt) ∧ ((p0).toInt) ≤ 4294968319) ∨ ((p0).toInt) = 1099511627776) by omega)
      generalize zup a1_instead (r0) ((p0).toInt) = a_2004 at hP hD ra_2004
      have hP : va_P (dC, dI) vwP [(h0, .inr (1, [v1_0, v1_1, v1_2, .ref q_103, .ref q_104, .int (zI (z1_changed))])), (q_103, .inl (cA_103, 1024, .inl (fun j : Nat => zI (a_2001 (j : Int))))), (q_104, .inl (cA_104, 1024, .inr (.inl (fun j : Nat => lI (a_2004 (j : Int))))))] H := hP
      have hD : va_D A [(h0, .inr (1, [v1_0, v1_1, v1_2, .ref q_103, .ref q_104, .int (zI (z1_changed))])), (q_103, .inl (cA_103, 1024, .inl (fun j : Nat => zI (a_2001 (j : Int))))), (q_104, .inl (cA_104, 1024, .inr (.inl (fun j : Nat => lI (a_2004 (j : Int))))))] := hD
      refine lv_aload_n hx hb dX1_tell_36 rfl (lv_at hl 0 rfl) ?_
      refine lv_iconst (v := 1) hx hb dX1_tell_37 (by decide) ?_
      refine va_put (D := (dC, dI)) (ci := 1) (v := .int 1) (ty := .boolean) (C := RX1) (T := TX1) (N := 6) hx hb hts mem_X1_tell_0 tyX1 tyX1_ok nmX1 hown hK hP hD hS 0 rfl rfl 5 (by decide) (ow (k := 3) rfl) (fun _ h9 => h9) rfl (by decide +kernel) rfl rfl (Nat.le_of_ble_eq_true rfl) dX1_tell_38 (fun H locs hP hD hS => ?_)
      have hP : va_P (dC, dI) vwP [(h0, .inr (1, [v1_0, v1_1, v1_2, .ref q_103, .ref q_104, .int 1])), (q_103, .inl (cA_103, 1024, .inl (fun j : Nat => zI (a_2001 (j : Int))))), (q_104, .inl (cA_104, 1024, .inr (.inl (fun j : Nat => lI (a_2004 (j : Int))))))] H := hP
      have hD : va_D A [(h0, .inr (1, [v1_0, v1_1, v1_2, .ref q_103, .ref q_104, .int 1])), (q_103, .inl (cA_103, 1024, .inl (fun j : Nat => zI (a_2001 (j : Int))))), (q_104, .inl (cA_104, 1024, .inr (.inl (fun j : Nat => lI (a_2004 (j : Int))))))] := hD
      subst hQ
      refine W.widen (k := 0) (n := 0) (Nat.le_of_ble_eq_true rfl) (Nat.le_of_ble_eq_true rfl) ?_
      exact W.vret hx hb hr (fun t ht hW => ⟨⟨(), rfl, trivial, 1, a_2001, a_2004, ⟨(by omega), ra_2001, ra_2004⟩, by rw [ht]; exact hP, va_K.moved hW.alike hK, hD⟩, hS.F ht⟩) hS.2.2 dX1_tell_41
theorem dX1_isOpen_0 : decode cX1_isOpen 0 = .ok (.aload_n 0, 1) := by decide +kernel
theorem dX1_isOpen_1 : decode cX1_isOpen 1 = .ok (.getfield 15, 3) := by decide +kernel
theorem dX1_isOpen_4 : decode cX1_isOpen 4 = .ok (.iload_n 2, 1) := by decide +kernel
theorem dX1_isOpen_5 : decode cX1_isOpen 5 = .ok (.baload, 1) := by decide +kernel
theorem dX1_isOpen_6 : decode cX1_isOpen 6 = .ok (.ifCond .eq 13, 3) := by decide +kernel
theorem dX1_isOpen_19 : decode cX1_isOpen 19 = .ok (.aload_n 0, 1) := by decide +kernel
theorem dX1_isOpen_20 : decode cX1_isOpen 20 = .ok (.getfield 18, 3) := by decide +kernel
theorem dX1_isOpen_23 : decode cX1_isOpen 23 = .ok (.iload_n 2, 1) := by decide +kernel
theorem dX1_isOpen_24 : decode cX1_isOpen 24 = .ok (.baload, 1) := by decide +kernel
theorem dX1_isOpen_25 : decode cX1_isOpen 25 = .ok (.ifCond .eq 17, 3) := by decide +kernel
theorem dX1_isOpen_42 : decode cX1_isOpen 42 = .ok (.iconst 0, 1) := by decide +kernel
theorem dX1_isOpen_43 : decode cX1_isOpen 43 = .ok (.ireturn, 1) := by decide +kernel
theorem dX1_isOpen_28 : decode cX1_isOpen 28 = .ok (.aload_n 1, 1) := by decide +kernel
theorem dX1_isOpen_29 : decode cX1_isOpen 29 = .ok (.getfield 161, 3) := by decide +kernel
theorem dX1_isOpen_32 : decode cX1_isOpen 32 = .ok (.iload_n 2, 1) := by decide +kernel
theorem dX1_isOpen_33 : decode cX1_isOpen 33 = .ok (.iaload, 1) := by decide +kernel
theorem dX1_isOpen_34 : decode cX1_isOpen 34 = .ok (.iload_n 3, 1) := by decide +kernel
theorem dX1_isOpen_35 : decode cX1_isOpen 35 = .ok (.if_icmp .ne 7, 3) := by decide +kernel
theorem dX1_isOpen_38 : decode cX1_isOpen 38 = .ok (.iconst 1, 1) := by decide +kernel
theorem dX1_isOpen_39 : decode cX1_isOpen 39 = .ok (.goto 4, 3) := by decide +kernel
theorem dX1_isOpen_9 : decode cX1_isOpen 9 = .ok (.aload_n 1, 1) := by decide +kernel
theorem dX1_isOpen_10 : decode cX1_isOpen 10 = .ok (.getfield 158, 3) := by decide +kernel
theorem dX1_isOpen_13 : decode cX1_isOpen 13 = .ok (.iload_n 2, 1) := by decide +kernel
theorem dX1_isOpen_14 : decode cX1_isOpen 14 = .ok (.iaload, 1) := by decide +kernel
theorem dX1_isOpen_15 : decode cX1_isOpen 15 = .ok (.iload_n 3, 1) := by decide +kernel
theorem dX1_isOpen_16 : decode cX1_isOpen 16 = .ok (.if_icmp .eq 22, 3) := by decide +kernel
def o_X1_isOpen : List Cond := [.fieldLink RX1 15 "SsaForge$Constants" "firstOpen" "[Z", .fieldLink RX1 18 "SsaForge$Constants" "secondOpen" "[Z", .fieldLink RX1 161 "SsaForge$Code" "goalTwo" "[I", .fieldLink RX1 158 "SsaForge$Code" "goalOne" "[I"]
def v_X1_isOpen : List Cond := .code yX1_isOpen cX1_isOpen 4 (some .boolean) :: (o_X1_isOpen ++ (wsX10 ++ (wsX00 ++ [])))
theorem mow_X1_isOpen : ∀ w ∈ o_X1_isOpen, w ∈ v_X1_isOpen := fun _ h => List.mem_cons_of_mem _ (List.mem_append_left _ h)
theorem mem_X1_isOpen_0 : ∀ w ∈ wsX10, w ∈ v_X1_isOpen := fun _ h => List.mem_cons_of_mem _ (List.mem_append_right _ (List.mem_append_left _ h))
theorem mem_X1_isOpen_1 : ∀ w ∈ wsX00, w ∈ v_X1_isOpen := fun _ h => List.mem_cons_of_mem _ (List.mem_append_right _ (List.mem_append_right _ (List.mem_append_left _ h)))
set_option maxRecDepth 20000 in
theorem gw_X1_isOpen : v_X1_isOpen.all goodWord = true := by decide +kernel
set_option maxHeartbeats 4000000 in
set_option maxRecDepth 100000 in
theorem c_X1_isOpen (l : Launch) (dC : Nat → ClassId) (dI : Nat → Nat → Nat) (h0 : Nat) (v1_0 : Value) (q_101 : Nat) (cA_101 : ClassId) (a1_firstOpen : Int → Int) (q_102 : Nat) (cA_102 : ClassId) (a1_secondOpen : Int → Int) (v1_3 : Value) (v1_4 : Value) (v1_5 : Value) (hc : Nat) (v_0 : Value) (v_1 : Value) (v_2 : Value) (v_3 : Value) (v_4 : Value) (v_5 : Value) (v_6 : Value) (v_7 : Value) (v_8 : Value) (v_9 : Value) (v_10 : Value) (q_711 : Nat) (cA_711 : ClassId) (a_11 : Int → Int) (q_712 : Nat) (cA_712 : ClassId) (a_12 : Int → Int) (v_13 : Value) (v_14 : Value) (v_15 : Value) (v_16 : Value) (v_17 : Value) (v_18 : Value) (b : Int) (d : Int) (hR_a1_firstOpen : ∀ j : Int, 0 ≤ a1_firstOpen j ∧ a1_firstOpen j ≤ 1) (hR_a1_secondOpen : ∀ j : Int, 0 ≤ a1_secondOpen j ∧ a1_secondOpen j ≤ 1) (hR_a_11 : ∀ j : Int, -1 ≤ a_11 j ∧ a_11 j ≤ 299) (hR_a_12 : ∀ j : Int, -1 ≤ a_12 j ∧ a_12 j ≤ 299) (hNb : 0 ≤ b ∧ b < 300) (hNd : 0 ≤ d ∧ d < 300) (sz : Nat) : Met l yX1_isOpen v_X1_isOpen ({ frames := 0, cells := 0, slots := 0, locals := 0 }) (va_Pc [.ref h0, .ref hc, .int (zI (b)), .int (zI (d))] (fun U => U.heap.size = sz ∧ va_P (dC, dI) vwP [(h0, .inr (1, [v1_0, .ref q_101, .ref q_102, v1_3, v1_4, v1_5])), (q_101, .inl (cA_101, 300, .inl (fun j : Nat => zI (a1_firstOpen (j : Int))))), (q_102, .inl (cA_102, 300, .inl (fun j : Nat => zI (a1_secondOpen (j : Int))))), (hc, .inr (0, [v_0, v_1, v_2, v_3, v_4, v_5, v_6, v_7, v_8, v_9, v_10, .ref q_711, .ref q_712, v_13, v_14, v_15, v_16, v_17, v_18])), (q_711, .inl (cA_711, 300, .inl (fun j : Nat => zI (a_11 (j : Int))))), (q_712, .inl (cA_712, 300, .inl (fun j : Nat => zI (a_12 (j : Int)))))] U.heap ∧ va_K (dC, dI) vwP [(cA_101, .boolean), (cA_102, .boolean), (cA_711, .int), (cA_712, .int)] U ∧ va_D (fun _ => True) [(h0, .inr (1, [v1_0, .ref q_101, .ref q_102, v1_3, v1_4, v1_5])), (q_101, .inl (cA_101, 300, .inl (fun j : Nat => zI (a1_firstOpen (j : Int))))), (q_102, .inl (cA_102, 300, .inl (fun j : Nat => zI (a1_secondOpen (j : Int))))), (hc, .inr (0, [v_0, v_1, v_2, v_3, v_4, v_5, v_6, v_7, v_8, v_9, v_10, .ref q_711, .ref q_712, v_13, v_14, v_15, v_16, v_17, v_18])), (q_711, .inl (cA_711, 300, .inl (fun j : Nat => zI (a_11 (j : Int))))), (q_712, .inl (cA_712, 300, .inl (fun j : Nat => zI (a_12 (j : Int)))))])) (va_Qi (fun (r : Int32) (_ : Unit) => ∃ z : Int, r = zI z ∧ (0 ≤ z ∧ z ≤ 1)) (fun (_ : Unit) (t : State) => va_P (dC, dI) vwP [(h0, .inr (1, [v1_0, .ref q_101, .ref q_102, v1_3, v1_4, v1_5])), (q_101, .inl (cA_101, 300, .inl (fun j : Nat => zI (a1_firstOpen (j : Int))))), (q_102, .inl (cA_102, 300, .inl (fun j : Nat => zI (a1_secondOpen (j : Int))))), (hc, .inr (0, [v_0, v_1, v_2, v_3, v_4, v_5, v_6, v_7, v_8, v_9, v_10, .ref q_711, .ref q_712, v_13, v_14, v_15, v_16, v_17, v_18])), (q_711, .inl (cA_711, 300, .inl (fun j : Nat => zI (a_11 (j : Int))))), (q_712, .inl (cA_712, 300, .inl (fun j : Nat => zI (a_12 (j : Int)))))] t.heap ∧ va_K (dC, dI) vwP [(cA_101, .boolean), (cA_102, .boolean), (cA_711, .int), (cA_712, .int)] t ∧ va_D (va_A [(h0, .inr (1, [v1_0, .ref q_101, .ref q_102, v1_3, v1_4, v1_5])), (q_101, .inl (cA_101, 300, .inl (fun j : Nat => zI (a1_firstOpen (j : Int))))), (q_102, .inl (cA_102, 300, .inl (fun j : Nat => zI (a1_secondOpen (j : Int))))), (hc, .inr (0, [v_0, v_1, v_2, v_3, v_4, v_5, v_6, v_7, v_8, v_9, v_10, .ref q_711, .ref q_712, v_13, v_14, v_15, v_16, v_17, v_18])), (q_711, .inl (cA_711, 300, .inl (fun j : Nat => zI (a_11 (j : Int))))), (q_712, .inl (cA_712, 300, .inl (fun j : Nat => zI (a_12 (j : Int)))))] sz) [(h0, .inr (1, [v1_0, .ref q_101, .ref q_102, v1_3, v1_4, v1_5])), (q_101, .inl (cA_101, 300, .inl (fun j : Nat => zI (a1_firstOpen (j : Int))))), (q_102, .inl (cA_102, 300, .inl (fun j : Nat => zI (a1_secondOpen (j : Int))))), (hc, .inr (0, [v_0, v_1, v_2, v_3, v_4, v_5, v_6, v_7, v_8, v_9, v_10, .ref q_711, .ref q_712, v_13, v_14, v_15, v_16, v_17, v_18])), (q_711, .inl (cA_711, 300, .inl (fun j : Nat => zI (a_11 (j : Int))))), (q_712, .inl (cA_712, 300, .inl (fun j : Nat => zI (a_12 (j : Int)))))]) (va_A [(h0, .inr (1, [v1_0, .ref q_101, .ref q_102, v1_3, v1_4, v1_5])), (q_101, .inl (cA_101, 300, .inl (fun j : Nat => zI (a1_firstOpen (j : Int))))), (q_102, .inl (cA_102, 300, .inl (fun j : Nat => zI (a1_secondOpen (j : Int))))), (hc, .inr (0, [v_0, v_1, v_2, v_3, v_4, v_5, v_6, v_7, v_8, v_9, v_10, .ref q_711, .ref q_712, v_13, v_14, v_15, v_16, v_17, v_18])), (q_711, .inl (cA_711, 300, .inl (fun j : Nat => zI (a_11 (j : Int))))), (q_712, .inl (cA_712, 300, .inl (fun j : Nat => zI (a_12 (j : Int)))))] sz)) 0 0 (va_A [(h0, .inr (1, [v1_0, .ref q_101, .ref q_102, v1_3, v1_4, v1_5])), (q_101, .inl (cA_101, 300, .inl (fun j : Nat => zI (a1_firstOpen (j : Int))))), (q_102, .inl (cA_102, 300, .inl (fun j : Nat => zI (a1_secondOpen (j : Int))))), (hc, .inr (0, [v_0, v_1, v_2, v_3, v_4, v_5, v_6, v_7, v_8, v_9, v_10, .ref q_711, .ref q_712, v_13, v_14, v_15, v_16, v_17, v_18])), (q_711, .inl (cA_711, 300, .inl (fun j : Nat => zI (a_11 (j : Int))))), (q_712, .inl (cA_712, 300, .inl (fun j : Nat => zI (a_12 (j : Int)))))] sz) := by
  refine Met.ofW (cc := cX1_isOpen) (maxL := 4) (ret := (some .boolean)) (by decide) rfl ?_
  intro p e s m args below meth c s₁ B hml hv
  obtain ⟨rfl, hsz, hP, hK, hD0⟩ := hv
  have hx := B.exec
  have hb := B.bytes
  have hr := B.returns
  have hts := atoms_spec (ws := v_X1_isOpen) B.pre
  have hown : s.vm.findClass RX1 = some m.cls := findClass_of_methodNamed B.named
  have hlocks := B.notSynchronized
  have ow : ∀ {k : Nat} {w : Cond}, o_X1_isOpen[k]? = some w → w.before ([.ref h0, .ref hc, .int (zI (b)), .int (zI (d))] : List Value).toArray s = true := fun h => hts _ (mow_X1_isOpen _ (List.mem_of_getElem? h))
  subst hsz
  have hD := hD0.self (sz := s.heap.size)
  generalize hAe : va_A [(h0, .inr (1, [v1_0, .ref q_101, .ref q_102, v1_3, v1_4, v1_5])), (q_101, .inl (cA_101, 300, .inl (fun j : Nat => zI (a1_firstOpen (j : Int))))), (q_102, .inl (cA_102, 300, .inl (fun j : Nat => zI (a1_secondOpen (j : Int))))), (hc, .inr (0, [v_0, v_1, v_2, v_3, v_4, v_5, v_6, v_7, v_8, v_9, v_10, .ref q_711, .ref q_712, v_13, v_14, v_15, v_16, v_17, v_18])), (q_711, .inl (cA_711, 300, .inl (fun j : Nat => zI (a_11 (j : Int))))), (q_712, .inl (cA_712, 300, .inl (fun j : Nat => zI (a_12 (j : Int)))))] s.heap.size = A at hD ⊢
  have hA : ∀ q : Nat, s.heap.size ≤ q → A q := fun q h => by rw [← hAe]; exact Or.inr h
  have hS : va_S A s.heap s.heap [] := va_S.rf
  have hP : va_P (dC, dI) vwP [(h0, .inr (1, [v1_0, .ref q_101, .ref q_102, v1_3, v1_4, v1_5])), (q_101, .inl (cA_101, 300, .inl (fun j : Nat => zI (a1_firstOpen (j : Int))))), (q_102, .inl (cA_102, 300, .inl (fun j : Nat => zI (a1_secondOpen (j : Int))))), (hc, .inr (0, [v_0, v_1, v_2, v_3, v_4, v_5, v_6, v_7, v_8, v_9, v_10, .ref q_711, .ref q_712, v_13, v_14, v_15, v_16, v_17, v_18])), (q_711, .inl (cA_711, 300, .inl (fun j : Nat => zI (a_11 (j : Int))))), (q_712, .inl (cA_712, 300, .inl (fun j : Nat => zI (a_12 (j : Int)))))] s.heap := hP
  have hl := lv_entry ([.ref h0, .ref hc, .int (zI (b)), .int (zI (d))]) (n := 4) (Nat.le_of_ble_eq_true rfl)
  rw [lg_entry_eq]
  generalize (lg_sl ([.ref h0, .ref hc, .int (zI (b)), .int (zI (d))]) ++ List.replicate (4 - (lg_sl ([.ref h0, .ref hc, .int (zI (b)), .int (zI (d))])).length) Slot.unset).toArray = ls at hl ⊢
  have hl : lv_has ls 4 [(0, .ref h0), (1, .ref hc), (2, .int (zI (b))), (3, .int (zI (d)))] := hl
  obtain ⟨H, hH⟩ : ∃ H, H = s.heap := ⟨_, rfl⟩
  rw [← hH] at hP
  have hS : va_S A s.heap H [] := by rw [hH]; exact hS
  rw [← hH]
  refine zW_cap (fun Q hQ => ?_)
  refine lv_aload_n hx hb dX1_isOpen_0 rfl (lv_at hl 0 rfl) ?_
  refine va_get (D := (dC, dI)) (ci := 1) (v := .ref q_101) (C := RX1) (T := TX1) (N := 6) hx hb hts mem_X1_isOpen_0 hown hK hP 0 rfl rfl 1 (by decide) (ow (k := 0) rfl) (fun _ h9 => h9) rfl dX1_isOpen_1 ?_
  refine lv_iload_n hx hb dX1_isOpen_4 rfl (lv_at hl 2 rfl) ?_
  refine va_zald hx hb hK hP 1 0 rfl rfl (zI_in (a := b) (n := 300) (by omega) (by omega) (by decide)) dX1_isOpen_5 ?_
  refine lv_topi (fun z ez => ?_)
  obtain rfl : z = zI (a1_firstOpen (b)) := ez.trans (zI_ld (a1_firstOpen) (by omega) (by omega))
  have k1 := hR_a1_firstOpen (b)
  refine lv_if_eq (tgt := 19) hx hb dX1_isOpen_6 (by decide) (fun b6 => ?_) (fun b6 => ?_)
  · have yb6 : (a1_firstOpen (b) : Int) = (0 : Int) := (zI_eq (a := a1_firstOpen (b)) (b := 0) (by omega) (by omega) (by omega) (by omega)).mp b6
    refine lv_aload_n hx hb dX1_isOpen_19 rfl (lv_at hl 0 rfl) ?_
    refine va_get (D := (dC, dI)) (ci := 1) (v := .ref q_102) (C := RX1) (T := TX1) (N := 6) hx hb hts mem_X1_isOpen_0 hown hK hP 0 rfl rfl 2 (by decide) (ow (k := 1) rfl) (fun _ h9 => h9) rfl dX1_isOpen_20 ?_
    refine lv_iload_n hx hb dX1_isOpen_23 rfl (lv_at hl 2 rfl) ?_
    refine va_zald hx hb hK hP 2 1 rfl rfl (zI_in (a := b) (n := 300) (by omega) (by omega) (by decide)) dX1_isOpen_24 ?_
    refine lv_topi (fun z ez => ?_)
    obtain rfl : z = zI (a1_secondOpen (b)) := ez.trans (zI_ld (a1_secondOpen) (by omega) (by omega))
    have k2 := hR_a1_secondOpen (b)
    refine lv_if_eq (tgt := 42) hx hb dX1_isOpen_25 (by decide) (fun b25 => ?_) (fun b25 => ?_)
    · have yb25 : (a1_secondOpen (b) : Int) = (0 : Int) := (zI_eq (a := a1_secondOpen (b)) (b := 0) (by omega) (by omega) (by omega) (by omega)).mp b25
      refine lv_iconst (v := 0) hx hb dX1_isOpen_42 (by decide) ?_
      subst hQ
      refine W.widen (k := 0) (n := 0) (Nat.le_of_ble_eq_true rfl) (Nat.le_of_ble_eq_true rfl) ?_
      exact W.zret (v := 0) hx hb hr (by decide) (fun t ht hW => ⟨⟨0, (), rfl, ⟨0, rfl, by omega⟩, by rw [ht]; exact hP, va_K.moved hW.alike hK, hD⟩, hS.F ht⟩) hS.2.2 dX1_isOpen_43
    · have yb25 : ¬ (a1_secondOpen (b) : Int) = (0 : Int) := fun q => b25 ((zI_eq (a := a1_secondOpen (b)) (b := 0) (by omega) (by omega) (by omega) (by omega)).mpr q)
      refine lv_aload_n hx hb dX1_isOpen_28 rfl (lv_at hl 1 rfl) ?_
      refine va_get (D := (dC, dI)) (ci := 0) (v := .ref q_712) (C := RX0) (T := TX0) (N := 19) hx hb hts mem_X1_isOpen_1 hown hK hP 3 rfl rfl 12 (by decide) (ow (k := 2) rfl) (fun _ h9 => h9) rfl dX1_isOpen_29 ?_
      refine lv_iload_n hx hb dX1_isOpen_32 rfl (lv_at hl 2 rfl) ?_
      refine va_iald hx hb hK hP 5 3 rfl rfl (zI_in (a := b) (n := 300) (by omega) (by omega) (by decide)) dX1_isOpen_33 ?_
      refine lv_topi (fun z ez => ?_)
      obtain rfl : z = zI (a_12 (b)) := ez.trans (zI_ld (a_12) (by omega) (by omega))
      have k3 := hR_a_12 (b)
      refine lv_iload_n hx hb dX1_isOpen_34 rfl (lv_at hl 3 rfl) ?_
      refine lv_icmp_ne (tgt := 42) hx hb dX1_isOpen_35 (by decide) (fun b35 => ?_) (fun b35 => ?_)
      · have yb35 : ¬ (a_12 (b) : Int) = (d : Int) := fun q => b35 ((zI_eq (a := a_12 (b)) (b := d) (by omega) (by omega) (by omega) (by omega)).mpr q)
        refine lv_iconst (v := 0) hx hb dX1_isOpen_42 (by decide) ?_
        subst hQ
        refine W.widen (k := 0) (n := 0) (Nat.le_of_ble_eq_true rfl) (Nat.le_of_ble_eq_true rfl) ?_
        exact W.zret (v := 0) hx hb hr (by decide) (fun t ht hW => ⟨⟨0, (), rfl, ⟨0, rfl, by omega⟩, by rw [ht]; exact hP, va_K.moved hW.alike hK, hD⟩, hS.F ht⟩) hS.2.2 dX1_isOpen_43
      · have yb35 : (a_12 (b) : Int) = (d : Int) := (zI_eq (a := a_12 (b)) (b := d) (by omega) (by omega) (by omega) (by omega)).mp b35
        refine lv_iconst (v := 1) hx hb dX1_isOpen_38 (by decide) ?_
        refine lv_goto (tgt := 43) hx hb dX1_isOpen_39 (by decide) ?_
        subst hQ
        refine W.widen (k := 0) (n := 0) (Nat.le_of_ble_eq_true rfl) (Nat.le_of_ble_eq_true rfl) ?_
        exact W.zret (v := 1) hx hb hr (by decide) (fun t ht hW => ⟨⟨1, (), rfl, ⟨1, rfl, by omega⟩, by rw [ht]; exact hP, va_K.moved hW.alike hK, hD⟩, hS.F ht⟩) hS.2.2 dX1_isOpen_43
  · have yb6 : ¬ (a1_firstOpen (b) : Int) = (0 : Int) := fun q => b6 ((zI_eq (a := a1_firstOpen (b)) (b := 0) (by omega) (by omega) (by omega) (by omega)).mpr q)
    refine lv_aload_n hx hb dX1_isOpen_9 rfl (lv_at hl 1 rfl) ?_
    refine va_get (D := (dC, dI)) (ci := 0) (v := .ref q_711) (C := RX0) (T := TX0) (N := 19) hx hb hts mem_X1_isOpen_1 hown hK hP 3 rfl rfl 11 (by decide) (ow (k := 3) rfl) (fun _ h9 => h9) rfl dX1_isOpen_10 ?_
    refine lv_iload_n hx hb dX1_isOpen_13 rfl (lv_at hl 2 rfl) ?_
    refine va_iald hx hb hK hP 4 2 rfl rfl (zI_in (a := b) (n := 300) (by omega) (by omega) (by decide)) dX1_isOpen_14 ?_
    refine lv_topi (fun z ez => ?_)
    obtain rfl : z = zI (a_11 (b)) := ez.trans (zI_ld (a_11) (by omega) (by omega))
    have k4 := hR_a_11 (b)
    refine lv_iload_n hx hb dX1_isOpen_15 rfl (lv_at hl 3 rfl) ?_
    refine lv_icmp_eq (tgt := 38) hx hb dX1_isOpen_16 (by decide) (fun b16 => ?_) (fun b16 => ?_)
    · have yb16 : (a_11 (b) : Int) = (d : Int) := (zI_eq (a := a_11 (b)) (b := d) (by omega) (by omega) (by omega) (by omega)).mp b16
      refine lv_iconst (v := 1) hx hb dX1_isOpen_38 (by decide) ?_
      refine lv_goto (tgt := 43) hx hb dX1_isOpen_39 (by decide) ?_
      subst hQ
      refine W.widen (k := 0) (n := 0) (Nat.le_of_ble_eq_true rfl) (Nat.le_of_ble_eq_true rfl) ?_
      exact W.zret (v := 1) hx hb hr (by decide) (fun t ht hW => ⟨⟨1, (), rfl, ⟨1, rfl, by omega⟩, by rw [ht]; exact hP, va_K.moved hW.alike hK, hD⟩, hS.F ht⟩) hS.2.2 dX1_isOpen_43
    · have yb16 : ¬ (a_11 (b) : Int) = (d : Int) := fun q => b16 ((zI_eq (a := a_11 (b)) (b := d) (by omega) (by omega) (by omega) (by omega)).mpr q)
      refine lv_aload_n hx hb dX1_isOpen_19 rfl (lv_at hl 0 rfl) ?_
      refine va_get (D := (dC, dI)) (ci := 1) (v := .ref q_102) (C := RX1) (T := TX1) (N := 6) hx hb hts mem_X1_isOpen_0 hown hK hP 0 rfl rfl 2 (by decide) (ow (k := 1) rfl) (fun _ h9 => h9) rfl dX1_isOpen_20 ?_
      refine lv_iload_n hx hb dX1_isOpen_23 rfl (lv_at hl 2 rfl) ?_
      refine va_zald hx hb hK hP 2 1 rfl rfl (zI_in (a := b) (n := 300) (by omega) (by omega) (by decide)) dX1_isOpen_24 ?_
      refine lv_topi (fun z ez => ?_)
      obtain rfl : z = zI (a1_secondOpen (b)) := ez.trans (zI_ld (a1_secondOpen) (by omega) (by omega))
      have k5 := hR_a1_secondOpen (b)
      refine lv_if_eq (tgt := 42) hx hb dX1_isOpen_25 (by decide) (fun b25 => ?_) (fun b25 => ?_)
      · have yb25 : (a1_secondOpen (b) : Int) = (0 : Int) := (zI_eq (a := a1_secondOpen (b)) (b := 0) (by omega) (by omega) (by omega) (by omega)).mp b25
        refine lv_iconst (v := 0) hx hb dX1_isOpen_42 (by decide) ?_
        subst hQ
        refine W.widen (k := 0) (n := 0) (Nat.le_of_ble_eq_true rfl) (Nat.le_of_ble_eq_true rfl) ?_
        exact W.zret (v := 0) hx hb hr (by decide) (fun t ht hW => ⟨⟨0, (), rfl, ⟨0, rfl, by omega⟩, by rw [ht]; exact hP, va_K.moved hW.alike hK, hD⟩, hS.F ht⟩) hS.2.2 dX1_isOpen_43
      · have yb25 : ¬ (a1_secondOpen (b) : Int) = (0 : Int) := fun q => b25 ((zI_eq (a := a1_secondOpen (b)) (b := 0) (by omega) (by omega) (by omega) (by omega)).mpr q)
        refine lv_aload_n hx hb dX1_isOpen_28 rfl (lv_at hl 1 rfl) ?_
        refine va_get (D := (dC, dI)) (ci := 0) (v := .ref q_712) (C := RX0) (T := TX0) (N := 19) hx hb hts mem_X1_isOpen_1 hown hK hP 3 rfl rfl 12 (by decide) (ow (k := 2) rfl) (fun _ h9 => h9) rfl dX1_isOpen_29 ?_
        refine lv_iload_n hx hb dX1_isOpen_32 rfl (lv_at hl 2 rfl) ?_
        refine va_iald hx hb hK hP 5 3 rfl rfl (zI_in (a := b) (n := 300) (by omega) (by omega) (by decide)) dX1_isOpen_33 ?_
        refine lv_topi (fun z ez => ?_)
        obtain rfl : z = zI (a_12 (b)) := ez.trans (zI_ld (a_12) (by omega) (by omega))
        have k6 := hR_a_12 (b)
        refine lv_iload_n hx hb dX1_isOpen_34 rfl (lv_at hl 3 rfl) ?_
        refine lv_icmp_ne (tgt := 42) hx hb dX1_isOpen_35 (by decide) (fun b35 => ?_) (fun b35 => ?_)
        · have yb35 : ¬ (a_12 (b) : Int) = (d : Int) := fun q => b35 ((zI_eq (a := a_12 (b)) (b := d) (by omega) (by omega) (by omega) (by omega)).mpr q)
          refine lv_iconst (v := 0) hx hb dX1_isOpen_42 (by decide) ?_
          subst hQ
          refine W.widen (k := 0) (n := 0) (Nat.le_of_ble_eq_true rfl) (Nat.le_of_ble_eq_true rfl) ?_
          exact W.zret (v := 0) hx hb hr (by decide) (fun t ht hW => ⟨⟨0, (), rfl, ⟨0, rfl, by omega⟩, by rw [ht]; exact hP, va_K.moved hW.alike hK, hD⟩, hS.F ht⟩) hS.2.2 dX1_isOpen_43
        · have yb35 : (a_12 (b) : Int) = (d : Int) := (zI_eq (a := a_12 (b)) (b := d) (by omega) (by omega) (by omega) (by omega)).mp b35
          refine lv_iconst (v := 1) hx hb dX1_isOpen_38 (by decide) ?_
          refine lv_goto (tgt := 43) hx hb dX1_isOpen_39 (by decide) ?_
          subst hQ
          refine W.widen (k := 0) (n := 0) (Nat.le_of_ble_eq_true rfl) (Nat.le_of_ble_eq_true rfl) ?_
          exact W.zret (v := 1) hx hb hr (by decide) (fun t ht hW => ⟨⟨1, (), rfl, ⟨1, rfl, by omega⟩, by rw [ht]; exact hP, va_K.moved hW.alike hK, hD⟩, hS.F ht⟩) hS.2.2 dX1_isOpen_43
theorem dX1_open_0 : decode cX1_open 0 = .ok (.iload_n 3, 1) := by decide +kernel
theorem dX1_open_1 : decode cX1_open 1 = .ok (.ifCond .eq 36, 3) := by decide +kernel
theorem dX1_open_37 : decode cX1_open 37 = .ok (.iload 4, 2) := by decide +kernel
theorem dX1_open_39 : decode cX1_open 39 = .ok (.ifCond .eq 36, 3) := by decide +kernel
theorem dX1_open_75 : decode cX1_open 75 = .ok (.return_, 1) := by decide +kernel
theorem dX1_open_42 : decode cX1_open 42 = .ok (.aload_n 0, 1) := by decide +kernel
theorem dX1_open_43 : decode cX1_open 43 = .ok (.getfield 18, 3) := by decide +kernel
theorem dX1_open_46 : decode cX1_open 46 = .ok (.iload_n 2, 1) := by decide +kernel
theorem dX1_open_47 : decode cX1_open 47 = .ok (.baload, 1) := by decide +kernel
theorem dX1_open_48 : decode cX1_open 48 = .ok (.ifCond .ne 27, 3) := by decide +kernel
theorem dX1_open_51 : decode cX1_open 51 = .ok (.aload_n 0, 1) := by decide +kernel
theorem dX1_open_52 : decode cX1_open 52 = .ok (.getfield 18, 3) := by decide +kernel
theorem dX1_open_55 : decode cX1_open 55 = .ok (.iload_n 2, 1) := by decide +kernel
theorem dX1_open_56 : decode cX1_open 56 = .ok (.iconst 1, 1) := by decide +kernel
theorem dX1_open_57 : decode cX1_open 57 = .ok (.bastore, 1) := by decide +kernel
theorem dX1_open_58 : decode cX1_open 58 = .ok (.aload_n 0, 1) := by decide +kernel
theorem dX1_open_59 : decode cX1_open 59 = .ok (.getfield 9, 3) := by decide +kernel
theorem dX1_open_62 : decode cX1_open 62 = .ok (.aload_n 1, 1) := by decide +kernel
theorem dX1_open_63 : decode cX1_open 63 = .ok (.getfield 161, 3) := by decide +kernel
theorem dX1_open_66 : decode cX1_open 66 = .ok (.iload_n 2, 1) := by decide +kernel
theorem dX1_open_67 : decode cX1_open 67 = .ok (.iaload, 1) := by decide +kernel
theorem dX1_open_68 : decode cX1_open 68 = .ok (.iconst 1, 1) := by decide +kernel
theorem dX1_open_69 : decode cX1_open 69 = .ok (.bastore, 1) := by decide +kernel
theorem dX1_open_70 : decode cX1_open 70 = .ok (.aload_n 0, 1) := by decide +kernel
theorem dX1_open_71 : decode cX1_open 71 = .ok (.iconst 1, 1) := by decide +kernel
theorem dX1_open_72 : decode cX1_open 72 = .ok (.putfield 29, 3) := by decide +kernel
theorem dX1_open_4 : decode cX1_open 4 = .ok (.aload_n 0, 1) := by decide +kernel
theorem dX1_open_5 : decode cX1_open 5 = .ok (.getfield 15, 3) := by decide +kernel
theorem dX1_open_8 : decode cX1_open 8 = .ok (.iload_n 2, 1) := by decide +kernel
theorem dX1_open_9 : decode cX1_open 9 = .ok (.baload, 1) := by decide +kernel
theorem dX1_open_10 : decode cX1_open 10 = .ok (.ifCond .ne 27, 3) := by decide +kernel
theorem dX1_open_13 : decode cX1_open 13 = .ok (.aload_n 0, 1) := by decide +kernel
theorem dX1_open_14 : decode cX1_open 14 = .ok (.getfield 15, 3) := by decide +kernel
theorem dX1_open_17 : decode cX1_open 17 = .ok (.iload_n 2, 1) := by decide +kernel
theorem dX1_open_18 : decode cX1_open 18 = .ok (.iconst 1, 1) := by decide +kernel
theorem dX1_open_19 : decode cX1_open 19 = .ok (.bastore, 1) := by decide +kernel
theorem dX1_open_20 : decode cX1_open 20 = .ok (.aload_n 0, 1) := by decide +kernel
theorem dX1_open_21 : decode cX1_open 21 = .ok (.getfield 9, 3) := by decide +kernel
theorem dX1_open_24 : decode cX1_open 24 = .ok (.aload_n 1, 1) := by decide +kernel
theorem dX1_open_25 : decode cX1_open 25 = .ok (.getfield 158, 3) := by decide +kernel
theorem dX1_open_28 : decode cX1_open 28 = .ok (.iload_n 2, 1) := by decide +kernel
theorem dX1_open_29 : decode cX1_open 29 = .ok (.iaload, 1) := by decide +kernel
theorem dX1_open_30 : decode cX1_open 30 = .ok (.iconst 1, 1) := by decide +kernel
theorem dX1_open_31 : decode cX1_open 31 = .ok (.bastore, 1) := by decide +kernel
theorem dX1_open_32 : decode cX1_open 32 = .ok (.aload_n 0, 1) := by decide +kernel
theorem dX1_open_33 : decode cX1_open 33 = .ok (.iconst 1, 1) := by decide +kernel
theorem dX1_open_34 : decode cX1_open 34 = .ok (.putfield 29, 3) := by decide +kernel
def o_X1_open : List Cond := [.fieldLink RX1 18 "SsaForge$Constants" "secondOpen" "[Z", .fieldLink RX1 9 "SsaForge$Constants" "gone" "[Z", .fieldLink RX1 161 "SsaForge$Code" "goalTwo" "[I", .fieldLink RX1 29 "SsaForge$Constants" "changed" "Z", .fieldLink RX1 15 "SsaForge$Constants" "firstOpen" "[Z", .fieldLink RX1 158 "SsaForge$Code" "goalOne" "[I"]
def v_X1_open : List Cond := .code yX1_open cX1_open 5 none :: (o_X1_open ++ (wsX10 ++ (wsX00 ++ [])))
theorem mow_X1_open : ∀ w ∈ o_X1_open, w ∈ v_X1_open := fun _ h => List.mem_cons_of_mem _ (List.mem_append_left _ h)
theorem mem_X1_open_0 : ∀ w ∈ wsX10, w ∈ v_X1_open := fun _ h => List.mem_cons_of_mem _ (List.mem_append_right _ (List.mem_append_left _ h))
theorem mem_X1_open_1 : ∀ w ∈ wsX00, w ∈ v_X1_open := fun _ h => List.mem_cons_of_mem _ (List.mem_append_right _ (List.mem_append_right _ (List.mem_append_left _ h)))
set_option maxRecDepth 20000 in
theorem gw_X1_open : v_X1_open.all goodWord = true := by decide +kernel
set_option maxHeartbeats 4000000 in
set_option maxRecDepth 100000 in
theorem c_X1_open (l : Launch) (dC : Nat → ClassId) (dI : Nat → Nat → Nat) (h0 : Nat) (q_100 : Nat) (cA_100 : ClassId) (a1_gone : Int → Int) (q_101 : Nat) (cA_101 : ClassId) (a1_firstOpen : Int → Int) (q_102 : Nat) (cA_102 : ClassId) (a1_secondOpen : Int → Int) (v1_3 : Value) (v1_4 : Value) (z1_changed : Int) (hc : Nat) (v_0 : Value) (v_1 : Value) (v_2 : Value) (v_3 : Value) (v_4 : Value) (v_5 : Value) (v_6 : Value) (v_7 : Value) (v_8 : Value) (v_9 : Value) (v_10 : Value) (q_711 : Nat) (cA_711 : ClassId) (a_11 : Int → Int) (q_712 : Nat) (cA_712 : ClassId) (a_12 : Int → Int) (v_13 : Value) (v_14 : Value) (v_15 : Value) (v_16 : Value) (v_17 : Value) (v_18 : Value) (b : Int) (p1 : Int) (p2 : Int) (hR_a1_gone : ∀ j : Int, 0 ≤ a1_gone j ∧ a1_gone j ≤ 1) (hR_a1_firstOpen : ∀ j : Int, 0 ≤ a1_firstOpen j ∧ a1_firstOpen j ≤ 1) (hR_a1_secondOpen : ∀ j : Int, 0 ≤ a1_secondOpen j ∧ a1_secondOpen j ≤ 1) (hNz1_changed : 0 ≤ z1_changed ∧ z1_changed ≤ 1) (hR_a_11 : ∀ j : Int, -1 ≤ a_11 j ∧ a_11 j ≤ 299) (hR_a_12 : ∀ j : Int, -1 ≤ a_12 j ∧ a_12 j ≤ 299) (hNb : 0 ≤ b ∧ b < 300) (hNp : 0 ≤ p1 ∧ p1 ≤ 1 ∧ 0 ≤ p2 ∧ p2 ≤ 1) (hNg : 0 ≤ a_11 b ∧ 0 ≤ a_12 b) (sz : Nat) : Met l yX1_open v_X1_open ({ frames := 0, cells := 0, slots := 0, locals := 0 }) (va_Pc [.ref h0, .ref hc, .int (zI (b)), .int (zI (p1)), .int (zI (p2))] (fun U => U.heap.size = sz ∧ va_P (dC, dI) vwP [(h0, .inr (1, [.ref q_100, .ref q_101, .ref q_102, v1_3, v1_4, .int (zI (z1_changed))])), (q_100, .inl (cA_100, 300, .inl (fun j : Nat => zI (a1_gone (j : Int))))), (q_101, .inl (cA_101, 300, .inl (fun j : Nat => zI (a1_firstOpen (j : Int))))), (q_102, .inl (cA_102, 300, .inl (fun j : Nat => zI (a1_secondOpen (j : Int))))), (hc, .inr (0, [v_0, v_1, v_2, v_3, v_4, v_5, v_6, v_7, v_8, v_9, v_10, .ref q_711, .ref q_712, v_13, v_14, v_15, v_16, v_17, v_18])), (q_711, .inl (cA_711, 300, .inl (fun j : Nat => zI (a_11 (j : Int))))), (q_712, .inl (cA_712, 300, .inl (fun j : Nat => zI (a_12 (j : Int)))))] U.heap ∧ va_K (dC, dI) vwP [(cA_100, .boolean), (cA_101, .boolean), (cA_102, .boolean), (cA_711, .int), (cA_712, .int)] U ∧ va_D (fun _ => True) [(h0, .inr (1, [.ref q_100, .ref q_101, .ref q_102, v1_3, v1_4, .int (zI (z1_changed))])), (q_100, .inl (cA_100, 300, .inl (fun j : Nat => zI (a1_gone (j : Int))))), (q_101, .inl (cA_101, 300, .inl (fun j : Nat => zI (a1_firstOpen (j : Int))))), (q_102, .inl (cA_102, 300, .inl (fun j : Nat => zI (a1_secondOpen (j : Int))))), (hc, .inr (0, [v_0, v_1, v_2, v_3, v_4, v_5, v_6, v_7, v_8, v_9, v_10, .ref q_711, .ref q_712, v_13, v_14, v_15, v_16, v_17, v_18])), (q_711, .inl (cA_711, 300, .inl (fun j : Nat => zI (a_11 (j : Int))))), (q_712, .inl (cA_712, 300, .inl (fun j : Nat => zI (a_12 (j : Int)))))])) (va_Qv (fun _ : Unit => True) (fun (_ : Unit) (t : State) => ∃ (z0_9 : Int) (a1_9 : Int → Int) (a2_9 : Int → Int) (a3_9 : Int → Int), ((0 ≤ z0_9 ∧ z0_9 ≤ 1) ∧ (∀ j : Int, 0 ≤ a1_9 j ∧ a1_9 j ≤ 1) ∧ (∀ j : Int, 0 ≤ a2_9 j ∧ a2_9 j ≤ 1) ∧ (∀ j : Int, 0 ≤ a3_9 j ∧ a3_9 j ≤ 1)) ∧ va_P (dC, dI) vwP [(h0, .inr (1, [.ref q_100, .ref q_101, .ref q_102, v1_3, v1_4, .int (zI (z0_9))])), (q_100, .inl (cA_100, 300, .inl (fun j : Nat => zI (a1_9 (j : Int))))), (q_101, .inl (cA_101, 300, .inl (fun j : Nat => zI (a2_9 (j : Int))))), (q_102, .inl (cA_102, 300, .inl (fun j : Nat => zI (a3_9 (j : Int))))), (hc, .inr (0, [v_0, v_1, v_2, v_3, v_4, v_5, v_6, v_7, v_8, v_9, v_10, .ref q_711, .ref q_712, v_13, v_14, v_15, v_16, v_17, v_18])), (q_711, .inl (cA_711, 300, .inl (fun j : Nat => zI (a_11 (j : Int))))), (q_712, .inl (cA_712, 300, .inl (fun j : Nat => zI (a_12 (j : Int)))))] t.heap ∧ va_K (dC, dI) vwP [(cA_100, .boolean), (cA_101, .boolean), (cA_102, .boolean), (cA_711, .int), (cA_712, .int)] t ∧ va_D (va_A [(h0, .inr (1, [.ref q_100, .ref q_101, .ref q_102, v1_3, v1_4, .int (zI (z1_changed))])), (q_100, .inl (cA_100, 300, .inl (fun j : Nat => zI (a1_gone (j : Int))))), (q_101, .inl (cA_101, 300, .inl (fun j : Nat => zI (a1_firstOpen (j : Int))))), (q_102, .inl (cA_102, 300, .inl (fun j : Nat => zI (a1_secondOpen (j : Int))))), (hc, .inr (0, [v_0, v_1, v_2, v_3, v_4, v_5, v_6, v_7, v_8, v_9, v_10, .ref q_711, .ref q_712, v_13, v_14, v_15, v_16, v_17, v_18])), (q_711, .inl (cA_711, 300, .inl (fun j : Nat => zI (a_11 (j : Int))))), (q_712, .inl (cA_712, 300, .inl (fun j : Nat => zI (a_12 (j : Int)))))] sz) [(h0, .inr (1, [.ref q_100, .ref q_101, .ref q_102, v1_3, v1_4, .int (zI (z0_9))])), (q_100, .inl (cA_100, 300, .inl (fun j : Nat => zI (a1_9 (j : Int))))), (q_101, .inl (cA_101, 300, .inl (fun j : Nat => zI (a2_9 (j : Int))))), (q_102, .inl (cA_102, 300, .inl (fun j : Nat => zI (a3_9 (j : Int))))), (hc, .inr (0, [v_0, v_1, v_2, v_3, v_4, v_5, v_6, v_7, v_8, v_9, v_10, .ref q_711, .ref q_712, v_13, v_14, v_15, v_16, v_17, v_18])), (q_711, .inl (cA_711, 300, .inl (fun j : Nat => zI (a_11 (j : Int))))), (q_712, .inl (cA_712, 300, .inl (fun j : Nat => zI (a_12 (j : Int)))))]) (va_A [(h0, .inr (1, [.ref q_100, .ref q_101, .ref q_102, v1_3, v1_4, .int (zI (z1_changed))])), (q_100, .inl (cA_100, 300, .inl (fun j : Nat => zI (a1_gone (j : Int))))), (q_101, .inl (cA_101, 300, .inl (fun j : Nat => zI (a1_firstOpen (j : Int))))), (q_102, .inl (cA_102, 300, .inl (fun j : Nat => zI (a1_secondOpen (j : Int))))), (hc, .inr (0, [v_0, v_1, v_2, v_3, v_4, v_5, v_6, v_7, v_8, v_9, v_10, .ref q_711, .ref q_712, v_13, v_14, v_15, v_16, v_17, v_18])), (q_711, .inl (cA_711, 300, .inl (fun j : Nat => zI (a_11 (j : Int))))), (q_712, .inl (cA_712, 300, .inl (fun j : Nat => zI (a_12 (j : Int)))))] sz)) 0 0 (va_A [(h0, .inr (1, [.ref q_100, .ref q_101, .ref q_102, v1_3, v1_4, .int (zI (z1_changed))])), (q_100, .inl (cA_100, 300, .inl (fun j : Nat => zI (a1_gone (j : Int))))), (q_101, .inl (cA_101, 300, .inl (fun j : Nat => zI (a1_firstOpen (j : Int))))), (q_102, .inl (cA_102, 300, .inl (fun j : Nat => zI (a1_secondOpen (j : Int))))), (hc, .inr (0, [v_0, v_1, v_2, v_3, v_4, v_5, v_6, v_7, v_8, v_9, v_10, .ref q_711, .ref q_712, v_13, v_14, v_15, v_16, v_17, v_18])), (q_711, .inl (cA_711, 300, .inl (fun j : Nat => zI (a_11 (j : Int))))), (q_712, .inl (cA_712, 300, .inl (fun j : Nat => zI (a_12 (j : Int)))))] sz) := by
  refine Met.ofW (cc := cX1_open) (maxL := 5) (ret := none) (by decide) rfl ?_
  intro p e s m args below meth c s₁ B hml hv
  obtain ⟨rfl, hsz, hP, hK, hD0⟩ := hv
  have hx := B.exec
  have hb := B.bytes
  have hr := B.returns
  have hts := atoms_spec (ws := v_X1_open) B.pre
  have hown : s.vm.findClass RX1 = some m.cls := findClass_of_methodNamed B.named
  have hlocks := B.notSynchronized
  have ow : ∀ {k : Nat} {w : Cond}, o_X1_open[k]? = some w → w.before ([.ref h0, .ref hc, .int (zI (b)), .int (zI (p1)), .int (zI (p2))] : List Value).toArray s = true := fun h => hts _ (mow_X1_open _ (List.mem_of_getElem? h))
  subst hsz
  have hD := hD0.self (sz := s.heap.size)
  generalize hAe : va_A [(h0, .inr (1, [.ref q_100, .ref q_101, .ref q_102, v1_3, v1_4, .int (zI (z1_changed))])), (q_100, .inl (cA_100, 300, .inl (fun j : Nat => zI (a1_gone (j : Int))))), (q_101, .inl (cA_101, 300, .inl (fun j : Nat => zI (a1_firstOpen (j : Int))))), (q_102, .inl (cA_102, 300, .inl (fun j : Nat => zI (a1_secondOpen (j : Int))))), (hc, .inr (0, [v_0, v_1, v_2, v_3, v_4, v_5, v_6, v_7, v_8, v_9, v_10, .ref q_711, .ref q_712, v_13, v_14, v_15, v_16, v_17, v_18])), (q_711, .inl (cA_711, 300, .inl (fun j : Nat => zI (a_11 (j : Int))))), (q_712, .inl (cA_712, 300, .inl (fun j : Nat => zI (a_12 (j : Int)))))] s.heap.size = A at hD ⊢
  have hA : ∀ q : Nat, s.heap.size ≤ q → A q := fun q h => by rw [← hAe]; exact Or.inr h
  have hS : va_S A s.heap s.heap [] := va_S.rf
  have hP : va_P (dC, dI) vwP [(h0, .inr (1, [.ref q_100, .ref q_101, .ref q_102, v1_3, v1_4, .int (zI (z1_changed))])), (q_100, .inl (cA_100, 300, .inl (fun j : Nat => zI (a1_gone (j : Int))))), (q_101, .inl (cA_101, 300, .inl (fun j : Nat => zI (a1_firstOpen (j : Int))))), (q_102, .inl (cA_102, 300, .inl (fun j : Nat => zI (a1_secondOpen (j : Int))))), (hc, .inr (0, [v_0, v_1, v_2, v_3, v_4, v_5, v_6, v_7, v_8, v_9, v_10, .ref q_711, .ref q_712, v_13, v_14, v_15, v_16, v_17, v_18])), (q_711, .inl (cA_711, 300, .inl (fun j : Nat => zI (a_11 (j : Int))))), (q_712, .inl (cA_712, 300, .inl (fun j : Nat => zI (a_12 (j : Int)))))] s.heap := hP
  have hl := lv_entry ([.ref h0, .ref hc, .int (zI (b)), .int (zI (p1)), .int (zI (p2))]) (n := 5) (Nat.le_of_ble_eq_true rfl)
  rw [lg_entry_eq]
  generalize (lg_sl ([.ref h0, .ref hc, .int (zI (b)), .int (zI (p1)), .int (zI (p2))]) ++ List.replicate (5 - (lg_sl ([.ref h0, .ref hc, .int (zI (b)), .int (zI (p1)), .int (zI (p2))])).length) Slot.unset).toArray = ls at hl ⊢
  have hl : lv_has ls 5 [(0, .ref h0), (1, .ref hc), (2, .int (zI (b))), (3, .int (zI (p1))), (4, .int (zI (p2)))] := hl
  obtain ⟨H, hH⟩ : ∃ H, H = s.heap := ⟨_, rfl⟩
  rw [← hH] at hP
  have hS : va_S A s.heap H [] := by rw [hH]; exact hS
  rw [← hH]
  refine zW_cap (fun Q hQ => ?_)
  refine lv_iload_n hx hb dX1_open_0 rfl (lv_at hl 3 rfl) ?_
  refine lv_if_eq (tgt := 37) hx hb dX1_open_1 (by decide) (fun b1 => ?_) (fun b1 => ?_)
  · have yb1 : (p1 : Int) = (0 : Int) := (zI_eq (a := p1) (b := 0) (by omega) (by omega) (by omega) (by omega)).mp b1
    refine lv_iload hx hb dX1_open_37 (lv_at hl 4 rfl) ?_
    refine lv_if_eq (tgt := 75) hx hb dX1_open_39 (by decide) (fun b39 => ?_) (fun b39 => ?_)
    · have yb39 : (p2 : Int) = (0 : Int) := (zI_eq (a := p2) (b := 0) (by omega) (by omega) (by omega) (by omega)).mp b39
      subst hQ
      refine W.widen (k := 0) (n := 0) (Nat.le_of_ble_eq_true rfl) (Nat.le_of_ble_eq_true rfl) ?_
      exact W.vret hx hb hr (fun t ht hW => ⟨⟨(), rfl, trivial, z1_changed, a1_gone, a1_firstOpen, a1_secondOpen, ⟨(by omega), hR_a1_gone, hR_a1_firstOpen, hR_a1_secondOpen⟩, by rw [ht]; exact hP, va_K.moved hW.alike hK, hD⟩, hS.F ht⟩) hS.2.2 dX1_open_75
    · have yb39 : ¬ (p2 : Int) = (0 : Int) := fun q => b39 ((zI_eq (a := p2) (b := 0) (by omega) (by omega) (by omega) (by omega)).mpr q)
      refine lv_aload_n hx hb dX1_open_42 rfl (lv_at hl 0 rfl) ?_
      refine va_get (D := (dC, dI)) (ci := 1) (v := .ref q_102) (C := RX1) (T := TX1) (N := 6) hx hb hts mem_X1_open_0 hown hK hP 0 rfl rfl 2 (by decide) (ow (k := 0) rfl) (fun _ h9 => h9) rfl dX1_open_43 ?_
      refine lv_iload_n hx hb dX1_open_46 rfl (lv_at hl 2 rfl) ?_
      refine va_zald hx hb hK hP 3 2 rfl rfl (zI_in (a := b) (n := 300) (by omega) (by omega) (by decide)) dX1_open_47 ?_
      refine lv_topi (fun z ez => ?_)
      obtain rfl : z = zI (a1_secondOpen (b)) := ez.trans (zI_ld (a1_secondOpen) (by omega) (by omega))
      have k1 := hR_a1_secondOpen (b)
      refine lv_if_ne (tgt := 75) hx hb dX1_open_48 (by decide) (fun b48 => ?_) (fun b48 => ?_)
      · have yb48 : ¬ (a1_secondOpen (b) : Int) = (0 : Int) := fun q => b48 ((zI_eq (a := a1_secondOpen (b)) (b := 0) (by omega) (by omega) (by omega) (by omega)).mpr q)
        subst hQ
        refine W.widen (k := 0) (n := 0) (Nat.le_of_ble_eq_true rfl) (Nat.le_of_ble_eq_true rfl) ?_
        exact W.vret hx hb hr (fun t ht hW => ⟨⟨(), rfl, trivial, z1_changed, a1_gone, a1_firstOpen, a1_secondOpen, ⟨(by omega), hR_a1_gone, hR_a1_firstOpen, hR_a1_secondOpen⟩, by rw [ht]; exact hP, va_K.moved hW.alike hK, hD⟩, hS.F ht⟩) hS.2.2 dX1_open_75
      · have yb48 : (a1_secondOpen (b) : Int) = (0 : Int) := (zI_eq (a := a1_secondOpen (b)) (b := 0) (by omega) (by omega) (by omega) (by omega)).mp b48
        refine lv_aload_n hx hb dX1_open_51 rfl (lv_at hl 0 rfl) ?_
        refine va_get (D := (dC, dI)) (ci := 1) (v := .ref q_102) (C := RX1) (T := TX1) (N := 6) hx hb hts mem_X1_open_0 hown hK hP 0 rfl rfl 2 (by decide) (ow (k := 0) rfl) (fun _ h9 => h9) rfl dX1_open_52 ?_
        refine lv_iload_n hx hb dX1_open_55 rfl (lv_at hl 2 rfl) ?_
        refine lv_iconst (v := 1) hx hb dX1_open_56 (by decide) ?_
        refine va_zast (i := zI (b)) hx hb hK hP hD hS 3 2 rfl rfl (zI_in (a := b) (n := 300) (by omega) (by omega) (by decide)) dX1_open_57 (fun H locs hP hD hS => ?_)
        rw [show vp_nar .boolean 1 = 1 from zI_nar (a := 1) (by omega) (by omega)] at hP hD
        have eQ : upd (fun j : Nat => zI (a1_secondOpen (j : Int))) (zI (b)).toNatClampNeg 1 = (fun j : Nat => zI (zup a1_secondOpen (b) (1) (j : Int))) := zI_st a1_secondOpen (e := b) (v := 1) (by omega) (by omega)
        rw [eQ] at hP hD
        clear eQ
        have ra_2001 : ∀ j : Int, 0 ≤ zup a1_secondOpen (b) (1) j ∧ zup a1_secondOpen (b) (1) j ≤ 1 := zup_P (P := fun x9 => 0 ≤ x9 ∧ x9 ≤ 1) hR_a1_secondOpen (show 0 ≤ (1) ∧ (1) ≤ 1 by omega)
        generalize zup a1_secondOpen (b) (1) = a_2001 at hP hD ra_2001
        have hP : va_P (dC, dI) vwP [(h0, .inr (1, [.ref q_100, .ref q_101, .ref q_102, v1_3, v1_4, .int (zI (z1_changed))])), (q_100, .inl (cA_100, 300, .inl (fun j : Nat => zI (a1_gone (j : Int))))), (q_101, .inl (cA_101, 300, .inl (fun j : Nat => zI (a1_firstOpen (j : Int))))), (q_102, .inl (cA_102, 300, .inl (fun j : Nat => zI (a_2001 (j : Int))))), (hc, .inr (0, [v_0, v_1, v_2, v_3, v_4, v_5, v_6, v_7, v_8, v_9, v_10, .ref q_711, .ref q_712, v_13, v_14, v_15, v_16, v_17, v_18])), (q_711, .inl (cA_711, 300, .inl (fun j : Nat => zI (a_11 (j : Int))))), (q_712, .inl (cA_712, 300, .inl (fun j : Nat => zI (a_12 (j : Int)))))] H := hP
        have hD : va_D A [(h0, .inr (1, [.ref q_100, .ref q_101, .ref q_102, v1_3, v1_4, .int (zI (z1_changed))])), (q_100, .inl (cA_100, 300, .inl (fun j : Nat => zI (a1_gone (j : Int))))), (q_101, .inl (cA_101, 300, .inl (fun j : Nat => zI (a1_firstOpen (j : Int))))), (q_102, .inl (cA_102, 300, .inl (fun j : Nat => zI (a_2001 (j : Int))))), (hc, .inr (0, [v_0, v_1, v_2, v_3, v_4, v_5, v_6, v_7, v_8, v_9, v_10, .ref q_711, .ref q_712, v_13, v_14, v_15, v_16, v_17, v_18])), (q_711, .inl (cA_711, 300, .inl (fun j : Nat => zI (a_11 (j : Int))))), (q_712, .inl (cA_712, 300, .inl (fun j : Nat => zI (a_12 (j : Int)))))] := hD
        refine lv_aload_n hx hb dX1_open_58 rfl (lv_at hl 0 rfl) ?_
        refine va_get (D := (dC, dI)) (ci := 1) (v := .ref q_100) (C := RX1) (T := TX1) (N := 6) hx hb hts mem_X1_open_0 hown hK hP 0 rfl rfl 0 (by decide) (ow (k := 1) rfl) (fun _ h9 => h9) rfl dX1_open_59 ?_
        refine lv_aload_n hx hb dX1_open_62 rfl (lv_at hl 1 rfl) ?_
        refine va_get (D := (dC, dI)) (ci := 0) (v := .ref q_712) (C := RX0) (T := TX0) (N := 19) hx hb hts mem_X1_open_1 hown hK hP 4 rfl rfl 12 (by decide) (ow (k := 2) rfl) (fun _ h9 => h9) rfl dX1_open_63 ?_
        refine lv_iload_n hx hb dX1_open_66 rfl (lv_at hl 2 rfl) ?_
        refine va_iald hx hb hK hP 6 4 rfl rfl (zI_in (a := b) (n := 300) (by omega) (by omega) (by decide)) dX1_open_67 ?_
        refine lv_topi (fun z ez => ?_)
        obtain rfl : z = zI (a_12 (b)) := ez.trans (zI_ld (a_12) (by omega) (by omega))
        have k2 := hR_a_12 (b)
        refine lv_iconst (v := 1) hx hb dX1_open_68 (by decide) ?_
        refine va_zast (i := zI (a_12 (b))) hx hb hK hP hD hS 1 0 rfl rfl (zI_in (a := a_12 (b)) (n := 300) (by omega) (by omega) (by decide)) dX1_open_69 (fun H locs hP hD hS => ?_)
        rw [show vp_nar .boolean 1 = 1 from zI_nar (a := 1) (by omega) (by omega)] at hP hD
        have eQ : upd (fun j : Nat => zI (a1_gone (j : Int))) (zI (a_12 (b))).toNatClampNeg 1 = (fun j : Nat => zI (zup a1_gone (a_12 (b)) (1) (j : Int))) := zI_st a1_gone (e := a_12 (b)) (v := 1) (by omega) (by omega)
        rw [eQ] at hP hD
        clear eQ
        have ra_2002 : ∀ j : Int, 0 ≤ zup a1_gone (a_12 (b)) (1) j ∧ zup a1_gone (a_12 (b)) (1) j ≤ 1 := zup_P (P := fun x9 => 0 ≤ x9 ∧ x9 ≤ 1) hR_a1_gone (show 0 ≤ (1) ∧ (1) ≤ 1 by omega)
        generalize zup a1_gone (a_12 (b)) (1) = a_2002 at hP hD ra_2002
        have hP : va_P (dC, dI) vwP [(h0, .inr (1, [.ref q_100, .ref q_101, .ref q_102, v1_3, v1_4, .int (zI (z1_changed))])), (q_100, .inl (cA_100, 300, .inl (fun j : Nat => zI (a_2002 (j : Int))))), (q_101, .inl (cA_101, 300, .inl (fun j : Nat => zI (a1_firstOpen (j : Int))))), (q_102, .inl (cA_102, 300, .inl (fun j : Nat => zI (a_2001 (j : Int))))), (hc, .inr (0, [v_0, v_1, v_2, v_3, v_4, v_5, v_6, v_7, v_8, v_9, v_10, .ref q_711, .ref q_712, v_13, v_14, v_15, v_16, v_17, v_18])), (q_711, .inl (cA_711, 300, .inl (fun j : Nat => zI (a_11 (j : Int))))), (q_712, .inl (cA_712, 300, .inl (fun j : Nat => zI (a_12 (j : Int)))))] H := hP
        have hD : va_D A [(h0, .inr (1, [.ref q_100, .ref q_101, .ref q_102, v1_3, v1_4, .int (zI (z1_changed))])), (q_100, .inl (cA_100, 300, .inl (fun j : Nat => zI (a_2002 (j : Int))))), (q_101, .inl (cA_101, 300, .inl (fun j : Nat => zI (a1_firstOpen (j : Int))))), (q_102, .inl (cA_102, 300, .inl (fun j : Nat => zI (a_2001 (j : Int))))), (hc, .inr (0, [v_0, v_1, v_2, v_3, v_4, v_5, v_6, v_7, v_8, v_9, v_10, .ref q_711, .ref q_712, v_13, v_14, v_15, v_16, v_17, v_18])), (q_711, .inl (cA_711, 300, .inl (fun j : Nat => zI (a_11 (j : Int))))), (q_712, .inl (cA_712, 300, .inl (fun j : Nat => zI (a_12 (j : Int)))))] := hD
        refine lv_aload_n hx hb dX1_open_70 rfl (lv_at hl 0 rfl) ?_
        refine lv_iconst (v := 1) hx hb dX1_open_71 (by decide) ?_
        refine va_put (D := (dC, dI)) (ci := 1) (v := .int 1) (ty := .boolean) (C := RX1) (T := TX1) (N := 6) hx hb hts mem_X1_open_0 tyX1 tyX1_ok nmX1 hown hK hP hD hS 0 rfl rfl 5 (by decide) (ow (k := 3) rfl) (fun _ h9 => h9) rfl (by decide +kernel) rfl rfl (Nat.le_of_ble_eq_true rfl) dX1_open_72 (fun H locs hP hD hS => ?_)
        have hP : va_P (dC, dI) vwP [(h0, .inr (1, [.ref q_100, .ref q_101, .ref q_102, v1_3, v1_4, .int 1])), (q_100, .inl (cA_100, 300, .inl (fun j : Nat => zI (a_2002 (j : Int))))), (q_101, .inl (cA_101, 300, .inl (fun j : Nat => zI (a1_firstOpen (j : Int))))), (q_102, .inl (cA_102, 300, .inl (fun j : Nat => zI (a_2001 (j : Int))))), (hc, .inr (0, [v_0, v_1, v_2, v_3, v_4, v_5, v_6, v_7, v_8, v_9, v_10, .ref q_711, .ref q_712, v_13, v_14, v_15, v_16, v_17, v_18])), (q_711, .inl (cA_711, 300, .inl (fun j : Nat => zI (a_11 (j : Int))))), (q_712, .inl (cA_712, 300, .inl (fun j : Nat => zI (a_12 (j : Int)))))] H := hP
        have hD : va_D A [(h0, .inr (1, [.ref q_100, .ref q_101, .ref q_102, v1_3, v1_4, .int 1])), (q_100, .inl (cA_100, 300, .inl (fun j : Nat => zI (a_2002 (j : Int))))), (q_101, .inl (cA_101, 300, .inl (fun j : Nat => zI (a1_firstOpen (j : Int))))), (q_102, .inl (cA_102, 300, .inl (fun j : Nat => zI (a_2001 (j : Int))))), (hc, .inr (0, [v_0, v_1, v_2, v_3, v_4, v_5, v_6, v_7, v_8, v_9, v_10, .ref q_711, .ref q_712, v_13, v_14, v_15, v_16, v_17, v_18])), (q_711, .inl (cA_711, 300, .inl (fun j : Nat => zI (a_11 (j : Int))))), (q_712, .inl (cA_712, 300, .inl (fun j : Nat => zI (a_12 (j : Int)))))] := hD
        subst hQ
        refine W.widen (k := 0) (n := 0) (Nat.le_of_ble_eq_true rfl) (Nat.le_of_ble_eq_true rfl) ?_
        exact W.vret hx hb hr (fun t ht hW => ⟨⟨(), rfl, trivial, 1, a_2002, a1_firstOpen, a_2001, ⟨(by omega), ra_2002, hR_a1_firstOpen, ra_2001⟩, by rw [ht]; exact hP, va_K.moved hW.alike hK, hD⟩, hS.F ht⟩) hS.2.2 dX1_open_75
  · have yb1 : ¬ (p1 : Int) = (0 : Int) := fun q => b1 ((zI_eq (a := p1) (b := 0) (by omega) (by omega) (by omega) (by omega)).mpr q)
    refine lv_aload_n hx hb dX1_open_4 rfl (lv_at hl 0 rfl) ?_
    refine va_get (D := (dC, dI)) (ci := 1) (v := .ref q_101) (C := RX1) (T := TX1) (N := 6) hx hb hts mem_X1_open_0 hown hK hP 0 rfl rfl 1 (by decide) (ow (k := 4) rfl) (fun _ h9 => h9) rfl dX1_open_5 ?_
    refine lv_iload_n hx hb dX1_open_8 rfl (lv_at hl 2 rfl) ?_
    refine va_zald hx hb hK hP 2 1 rfl rfl (zI_in (a := b) (n := 300) (by omega) (by omega) (by decide)) dX1_open_9 ?_
    refine lv_topi (fun z ez => ?_)
    obtain rfl : z = zI (a1_firstOpen (b)) := ez.trans (zI_ld (a1_firstOpen) (by omega) (by omega))
    have k3 := hR_a1_firstOpen (b)
    refine lv_if_ne (tgt := 37) hx hb dX1_open_10 (by decide) (fun b10 => ?_) (fun b10 => ?_)
    · have yb10 : ¬ (a1_firstOpen (b) : Int) = (0 : Int) := fun q => b10 ((zI_eq (a := a1_firstOpen (b)) (b := 0) (by omega) (by omega) (by omega) (by omega)).mpr q)
      refine lv_iload hx hb dX1_open_37 (lv_at hl 4 rfl) ?_
      refine lv_if_eq (tgt := 75) hx hb dX1_open_39 (by decide) (fun b39 => ?_) (fun b39 => ?_)
      · have yb39 : (p2 : Int) = (0 : Int) := (zI_eq (a := p2) (b := 0) (by omega) (by omega) (by omega) (by omega)).mp b39
        subst hQ
        refine W.widen (k := 0) (n := 0) (Nat.le_of_ble_eq_true rfl) (Nat.le_of_ble_eq_true rfl) ?_
        exact W.vret hx hb hr (fun t ht hW => ⟨⟨(), rfl, trivial, z1_changed, a1_gone, a1_firstOpen, a1_secondOpen, ⟨(by omega), hR_a1_gone, hR_a1_firstOpen, hR_a1_secondOpen⟩, by rw [ht]; exact hP, va_K.moved hW.alike hK, hD⟩, hS.F ht⟩) hS.2.2 dX1_open_75
      · have yb39 : ¬ (p2 : Int) = (0 : Int) := fun q => b39 ((zI_eq (a := p2) (b := 0) (by omega) (by omega) (by omega) (by omega)).mpr q)
        refine lv_aload_n hx hb dX1_open_42 rfl (lv_at hl 0 rfl) ?_
        refine va_get (D := (dC, dI)) (ci := 1) (v := .ref q_102) (C := RX1) (T := TX1) (N := 6) hx hb hts mem_X1_open_0 hown hK hP 0 rfl rfl 2 (by decide) (ow (k := 0) rfl) (fun _ h9 => h9) rfl dX1_open_43 ?_
        refine lv_iload_n hx hb dX1_open_46 rfl (lv_at hl 2 rfl) ?_
        refine va_zald hx hb hK hP 3 2 rfl rfl (zI_in (a := b) (n := 300) (by omega) (by omega) (by decide)) dX1_open_47 ?_
        refine lv_topi (fun z ez => ?_)
        obtain rfl : z = zI (a1_secondOpen (b)) := ez.trans (zI_ld (a1_secondOpen) (by omega) (by omega))
        have k4 := hR_a1_secondOpen (b)
        refine lv_if_ne (tgt := 75) hx hb dX1_open_48 (by decide) (fun b48 => ?_) (fun b48 => ?_)
        · have yb48 : ¬ (a1_secondOpen (b) : Int) = (0 : Int) := fun q => b48 ((zI_eq (a := a1_secondOpen (b)) (b := 0) (by omega) (by omega) (by omega) (by omega)).mpr q)
          subst hQ
          refine W.widen (k := 0) (n := 0) (Nat.le_of_ble_eq_true rfl) (Nat.le_of_ble_eq_true rfl) ?_
          exact W.vret hx hb hr (fun t ht hW => ⟨⟨(), rfl, trivial, z1_changed, a1_gone, a1_firstOpen, a1_secondOpen, ⟨(by omega), hR_a1_gone, hR_a1_firstOpen, hR_a1_secondOpen⟩, by rw [ht]; exact hP, va_K.moved hW.alike hK, hD⟩, hS.F ht⟩) hS.2.2 dX1_open_75
        · have yb48 : (a1_secondOpen (b) : Int) = (0 : Int) := (zI_eq (a := a1_secondOpen (b)) (b := 0) (by omega) (by omega) (by omega) (by omega)).mp b48
          refine lv_aload_n hx hb dX1_open_51 rfl (lv_at hl 0 rfl) ?_
          refine va_get (D := (dC, dI)) (ci := 1) (v := .ref q_102) (C := RX1) (T := TX1) (N := 6) hx hb hts mem_X1_open_0 hown hK hP 0 rfl rfl 2 (by decide) (ow (k := 0) rfl) (fun _ h9 => h9) rfl dX1_open_52 ?_
          refine lv_iload_n hx hb dX1_open_55 rfl (lv_at hl 2 rfl) ?_
          refine lv_iconst (v := 1) hx hb dX1_open_56 (by decide) ?_
          refine va_zast (i := zI (b)) hx hb hK hP hD hS 3 2 rfl rfl (zI_in (a := b) (n := 300) (by omega) (by omega) (by decide)) dX1_open_57 (fun H locs hP hD hS => ?_)
          rw [show vp_nar .boolean 1 = 1 from zI_nar (a := 1) (by omega) (by omega)] at hP hD
          have eQ : upd (fun j : Nat => zI (a1_secondOpen (j : Int))) (zI (b)).toNatClampNeg 1 = (fun j : Nat => zI (zup a1_secondOpen (b) (1) (j : Int))) := zI_st a1_secondOpen (e := b) (v := 1) (by omega) (by omega)
          rw [eQ] at hP hD
          clear eQ
          have ra_2003 : ∀ j : Int, 0 ≤ zup a1_secondOpen (b) (1) j ∧ zup a1_secondOpen (b) (1) j ≤ 1 := zup_P (P := fun x9 => 0 ≤ x9 ∧ x9 ≤ 1) hR_a1_secondOpen (show 0 ≤ (1) ∧ (1) ≤ 1 by omega)
          generalize zup a1_secondOpen (b) (1) = a_2003 at hP hD ra_2003
          have hP : va_P (dC, dI) vwP [(h0, .inr (1, [.ref q_100, .ref q_101, .ref q_102, v1_3, v1_4, .int (zI (z1_changed))])), (q_100, .inl (cA_100, 300, .inl (fun j : Nat => zI (a1_gone (j : Int))))), (q_101, .inl (cA_101, 300, .inl (fun j : Nat => zI (a1_firstOpen (j : Int))))), (q_102, .inl (cA_102, 300, .inl (fun j : Nat => zI (a_2003 (j : Int))))), (hc, .inr (0, [v_0, v_1, v_2, v_3, v_4, v_5, v_6, v_7, v_8, v_9, v_10, .ref q_711, .ref q_712, v_13, v_14, v_15, v_16, v_17, v_18])), (q_711, .inl (cA_711, 300, .inl (fun j : Nat => zI (a_11 (j : Int))))), (q_712, .inl (cA_712, 300, .inl (fun j : Nat => zI (a_12 (j : Int)))))] H := hP
          have hD : va_D A [(h0, .inr (1, [.ref q_100, .ref q_101, .ref q_102, v1_3, v1_4, .int (zI (z1_changed))])), (q_100, .inl (cA_100, 300, .inl (fun j : Nat => zI (a1_gone (j : Int))))), (q_101, .inl (cA_101, 300, .inl (fun j : Nat => zI (a1_firstOpen (j : Int))))), (q_102, .inl (cA_102, 300, .inl (fun j : Nat => zI (a_2003 (j : Int))))), (hc, .inr (0, [v_0, v_1, v_2, v_3, v_4, v_5, v_6, v_7, v_8, v_9, v_10, .ref q_711, .ref q_712, v_13, v_14, v_15, v_16, v_17, v_18])), (q_711, .inl (cA_711, 300, .inl (fun j : Nat => zI (a_11 (j : Int))))), (q_712, .inl (cA_712, 300, .inl (fun j : Nat => zI (a_12 (j : Int)))))] := hD
          refine lv_aload_n hx hb dX1_open_58 rfl (lv_at hl 0 rfl) ?_
          refine va_get (D := (dC, dI)) (ci := 1) (v := .ref q_100) (C := RX1) (T := TX1) (N := 6) hx hb hts mem_X1_open_0 hown hK hP 0 rfl rfl 0 (by decide) (ow (k := 1) rfl) (fun _ h9 => h9) rfl dX1_open_59 ?_
          refine lv_aload_n hx hb dX1_open_62 rfl (lv_at hl 1 rfl) ?_
          refine va_get (D := (dC, dI)) (ci := 0) (v := .ref q_712) (C := RX0) (T := TX0) (N := 19) hx hb hts mem_X1_open_1 hown hK hP 4 rfl rfl 12 (by decide) (ow (k := 2) rfl) (fun _ h9 => h9) rfl dX1_open_63 ?_
          refine lv_iload_n hx hb dX1_open_66 rfl (lv_at hl 2 rfl) ?_
          refine va_iald hx hb hK hP 6 4 rfl rfl (zI_in (a := b) (n := 300) (by omega) (by omega) (by decide)) dX1_open_67 ?_
          refine lv_topi (fun z ez => ?_)
          obtain rfl : z = zI (a_12 (b)) := ez.trans (zI_ld (a_12) (by omega) (by omega))
          have k5 := hR_a_12 (b)
          refine lv_iconst (v := 1) hx hb dX1_open_68 (by decide) ?_
          refine va_zast (i := zI (a_12 (b))) hx hb hK hP hD hS 1 0 rfl rfl (zI_in (a := a_12 (b)) (n := 300) (by omega) (by omega) (by decide)) dX1_open_69 (fun H locs hP hD hS => ?_)
          rw [show vp_nar .boolean 1 = 1 from zI_nar (a := 1) (by omega) (by omega)] at hP hD
          have eQ : upd (fun j : Nat => zI (a1_gone (j : Int))) (zI (a_12 (b))).toNatClampNeg 1 = (fun j : Nat => zI (zup a1_gone (a_12 (b)) (1) (j : Int))) := zI_st a1_gone (e := a_12 (b)) (v := 1) (by omega) (by omega)
          rw [eQ] at hP hD
          clear eQ
          have ra_2004 : ∀ j : Int, 0 ≤ zup a1_gone (a_12 (b)) (1) j ∧ zup a1_gone (a_12 (b)) (1) j ≤ 1 := zup_P (P := fun x9 => 0 ≤ x9 ∧ x9 ≤ 1) hR_a1_gone (show 0 ≤ (1) ∧ (1) ≤ 1 by omega)
          generalize zup a1_gone (a_12 (b)) (1) = a_2004 at hP hD ra_2004
          have hP : va_P (dC, dI) vwP [(h0, .inr (1, [.ref q_100, .ref q_101, .ref q_102, v1_3, v1_4, .int (zI (z1_changed))])), (q_100, .inl (cA_100, 300, .inl (fun j : Nat => zI (a_2004 (j : Int))))), (q_101, .inl (cA_101, 300, .inl (fun j : Nat => zI (a1_firstOpen (j : Int))))), (q_102, .inl (cA_102, 300, .inl (fun j : Nat => zI (a_2003 (j : Int))))), (hc, .inr (0, [v_0, v_1, v_2, v_3, v_4, v_5, v_6, v_7, v_8, v_9, v_10, .ref q_711, .ref q_712, v_13, v_14, v_15, v_16, v_17, v_18])), (q_711, .inl (cA_711, 300, .inl (fun j : Nat => zI (a_11 (j : Int))))), (q_712, .inl (cA_712, 300, .inl (fun j : Nat => zI (a_12 (j : Int)))))] H := hP
          have hD : va_D A [(h0, .inr (1, [.ref q_100, .ref q_101, .ref q_102, v1_3, v1_4, .int (zI (z1_changed))])), (q_100, .inl (cA_100, 300, .inl (fun j : Nat => zI (a_2004 (j : Int))))), (q_101, .inl (cA_101, 300, .inl (fun j : Nat => zI (a1_firstOpen (j : Int))))), (q_102, .inl (cA_102, 300, .inl (fun j : Nat => zI (a_2003 (j : Int))))), (hc, .inr (0, [v_0, v_1, v_2, v_3, v_4, v_5, v_6, v_7, v_8, v_9, v_10, .ref q_711, .ref q_712, v_13, v_14, v_15, v_16, v_17, v_18])), (q_711, .inl (cA_711, 300, .inl (fun j : Nat => zI (a_11 (j : Int))))), (q_712, .inl (cA_712, 300, .inl (fun j : Nat => zI (a_12 (j : Int)))))] := hD
          refine lv_aload_n hx hb dX1_open_70 rfl (lv_at hl 0 rfl) ?_
          refine lv_iconst (v := 1) hx hb dX1_open_71 (by decide) ?_
          refine va_put (D := (dC, dI)) (ci := 1) (v := .int 1) (ty := .boolean) (C := RX1) (T := TX1) (N := 6) hx hb hts mem_X1_open_0 tyX1 tyX1_ok nmX1 hown hK hP hD hS 0 rfl rfl 5 (by decide) (ow (k := 3) rfl) (fun _ h9 => h9) rfl (by decide +kernel) rfl rfl (Nat.le_of_ble_eq_true rfl) dX1_open_72 (fun H locs hP hD hS => ?_)
          have hP : va_P (dC, dI) vwP [(h0, .inr (1, [.ref q_100, .ref q_101, .ref q_102, v1_3, v1_4, .int 1])), (q_100, .inl (cA_100, 300, .inl (fun j : Nat => zI (a_2004 (j : Int))))), (q_101, .inl (cA_101, 300, .inl (fun j : Nat => zI (a1_firstOpen (j : Int))))), (q_102, .inl (cA_102, 300, .inl (fun j : Nat => zI (a_2003 (j : Int))))), (hc, .inr (0, [v_0, v_1, v_2, v_3, v_4, v_5, v_6, v_7, v_8, v_9, v_10, .ref q_711, .ref q_712, v_13, v_14, v_15, v_16, v_17, v_18])), (q_711, .inl (cA_711, 300, .inl (fun j : Nat => zI (a_11 (j : Int))))), (q_712, .inl (cA_712, 300, .inl (fun j : Nat => zI (a_12 (j : Int)))))] H := hP
          have hD : va_D A [(h0, .inr (1, [.ref q_100, .ref q_101, .ref q_102, v1_3, v1_4, .int 1])), (q_100, .inl (cA_100, 300, .inl (fun j : Nat => zI (a_2004 (j : Int))))), (q_101, .inl (cA_101, 300, .inl (fun j : Nat => zI (a1_firstOpen (j : Int))))), (q_102, .inl (cA_102, 300, .inl (fun j : Nat => zI (a_2003 (j : Int))))), (hc, .inr (0, [v_0, v_1, v_2, v_3, v_4, v_5, v_6, v_7, v_8, v_9, v_10, .ref q_711, .ref q_712, v_13, v_14, v_15, v_16, v_17, v_18])), (q_711, .inl (cA_711, 300, .inl (fun j : Nat => zI (a_11 (j : Int))))), (q_712, .inl (cA_712, 300, .inl (fun j : Nat => zI (a_12 (j : Int)))))] := hD
          subst hQ
          refine W.widen (k := 0) (n := 0) (Nat.le_of_ble_eq_true rfl) (Nat.le_of_ble_eq_true rfl) ?_
          exact W.vret hx hb hr (fun t ht hW => ⟨⟨(), rfl, trivial, 1, a_2004, a1_firstOpen, a_2003, ⟨(by omega), ra_2004, hR_a1_firstOpen, ra_2003⟩, by rw [ht]; exact hP, va_K.moved hW.alike hK, hD⟩, hS.F ht⟩) hS.2.2 dX1_open_75
    · have yb10 : (a1_firstOpen (b) : Int) = (0 : Int) := (zI_eq (a := a1_firstOpen (b)) (b := 0) (by omega) (by omega) (by omega) (by omega)).mp b10
      refine lv_aload_n hx hb dX1_open_13 rfl (lv_at hl 0 rfl) ?_
      refine va_get (D := (dC, dI)) (ci := 1) (v := .ref q_101) (C := RX1) (T := TX1) (N := 6) hx hb hts mem_X1_open_0 hown hK hP 0 rfl rfl 1 (by decide) (ow (k := 4) rfl) (fun _ h9 => h9) rfl dX1_open_14 ?_
      refine lv_iload_n hx hb dX1_open_17 rfl (lv_at hl 2 rfl) ?_
      refine lv_iconst (v := 1) hx hb dX1_open_18 (by decide) ?_
      refine va_zast (i := zI (b)) hx hb hK hP hD hS 2 1 rfl rfl (zI_in (a := b) (n := 300) (by omega) (by omega) (by decide)) dX1_open_19 (fun H locs hP hD hS => ?_)
      rw [show vp_nar .boolean 1 = 1 from zI_nar (a := 1) (by omega) (by omega)] at hP hD
      have eQ : upd (fun j : Nat => zI (a1_firstOpen (j : Int))) (zI (b)).toNatClampNeg 1 = (fun j : Nat => zI (zup a1_firstOpen (b) (1) (j : Int))) := zI_st a1_firstOpen (e := b) (v := 1) (by omega) (by omega)
      rw [eQ] at hP hD
      clear eQ
      have ra_2005 : ∀ j : Int, 0 ≤ zup a1_firstOpen (b) (1) j ∧ zup a1_firstOpen (b) (1) j ≤ 1 := zup_P (P := fun x9 => 0 ≤ x9 ∧ x9 ≤ 1) hR_a1_firstOpen (show 0 ≤ (1) ∧ (1) ≤ 1 by omega)
      generalize zup a1_firstOpen (b) (1) = a_2005 at hP hD ra_2005
      have hP : va_P (dC, dI) vwP [(h0, .inr (1, [.ref q_100, .ref q_101, .ref q_102, v1_3, v1_4, .int (zI (z1_changed))])), (q_100, .inl (cA_100, 300, .inl (fun j : Nat => zI (a1_gone (j : Int))))), (q_101, .inl (cA_101, 300, .inl (fun j : Nat => zI (a_2005 (j : Int))))), (q_102, .inl (cA_102, 300, .inl (fun j : Nat => zI (a1_secondOpen (j : Int))))), (hc, .inr (0, [v_0, v_1, v_2, v_3, v_4, v_5, v_6, v_7, v_8, v_9, v_10, .ref q_711, .ref q_712, v_13, v_14, v_15, v_16, v_17, v_18])), (q_711, .inl (cA_711, 300, .inl (fun j : Nat => zI (a_11 (j : Int))))), (q_712, .inl (cA_712, 300, .inl (fun j : Nat => zI (a_12 (j : Int)))))] H := hP
      have hD : va_D A [(h0, .inr (1, [.ref q_100, .ref q_101, .ref q_102, v1_3, v1_4, .int (zI (z1_changed))])), (q_100, .inl (cA_100, 300, .inl (fun j : Nat => zI (a1_gone (j : Int))))), (q_101, .inl (cA_101, 300, .inl (fun j : Nat => zI (a_2005 (j : Int))))), (q_102, .inl (cA_102, 300, .inl (fun j : Nat => zI (a1_secondOpen (j : Int))))), (hc, .inr (0, [v_0, v_1, v_2, v_3, v_4, v_5, v_6, v_7, v_8, v_9, v_10, .ref q_711, .ref q_712, v_13, v_14, v_15, v_16, v_17, v_18])), (q_711, .inl (cA_711, 300, .inl (fun j : Nat => zI (a_11 (j : Int))))), (q_712, .inl (cA_712, 300, .inl (fun j : Nat => zI (a_12 (j : Int)))))] := hD
      refine lv_aload_n hx hb dX1_open_20 rfl (lv_at hl 0 rfl) ?_
      refine va_get (D := (dC, dI)) (ci := 1) (v := .ref q_100) (C := RX1) (T := TX1) (N := 6) hx hb hts mem_X1_open_0 hown hK hP 0 rfl rfl 0 (by decide) (ow (k := 1) rfl) (fun _ h9 => h9) rfl dX1_open_21 ?_
      refine lv_aload_n hx hb dX1_open_24 rfl (lv_at hl 1 rfl) ?_
      refine va_get (D := (dC, dI)) (ci := 0) (v := .ref q_711) (C := RX0) (T := TX0) (N := 19) hx hb hts mem_X1_open_1 hown hK hP 4 rfl rfl 11 (by decide) (ow (k := 5) rfl) (fun _ h9 => h9) rfl dX1_open_25 ?_
      refine lv_iload_n hx hb dX1_open_28 rfl (lv_at hl 2 rfl) ?_
      refine va_iald hx hb hK hP 5 3 rfl rfl (zI_in (a := b) (n := 300) (by omega) (by omega) (by decide)) dX1_open_29 ?_
      refine lv_topi (fun z ez => ?_)
      obtain rfl : z = zI (a_11 (b)) := ez.trans (zI_ld (a_11) (by omega) (by omega))
      have k6 := hR_a_11 (b)
      refine lv_iconst (v := 1) hx hb dX1_open_30 (by decide) ?_
      refine va_zast (i := zI (a_11 (b))) hx hb hK hP hD hS 1 0 rfl rfl (zI_in (a := a_11 (b)) (n := 300) (by omega) (by omega) (by decide)) dX1_open_31 (fun H locs hP hD hS => ?_)
      rw [show vp_nar .boolean 1 = 1 from zI_nar (a := 1) (by omega) (by omega)] at hP hD
      have eQ : upd (fun j : Nat => zI (a1_gone (j : Int))) (zI (a_11 (b))).toNatClampNeg 1 = (fun j : Nat => zI (zup a1_gone (a_11 (b)) (1) (j : Int))) := zI_st a1_gone (e := a_11 (b)) (v := 1) (by omega) (by omega)
      rw [eQ] at hP hD
      clear eQ
      have ra_2006 : ∀ j : Int, 0 ≤ zup a1_gone (a_11 (b)) (1) j ∧ zup a1_gone (a_11 (b)) (1) j ≤ 1 := zup_P (P := fun x9 => 0 ≤ x9 ∧ x9 ≤ 1) hR_a1_gone (show 0 ≤ (1) ∧ (1) ≤ 1 by omega)
      generalize zup a1_gone (a_11 (b)) (1) = a_2006 at hP hD ra_2006
      have hP : va_P (dC, dI) vwP [(h0, .inr (1, [.ref q_100, .ref q_101, .ref q_102, v1_3, v1_4, .int (zI (z1_changed))])), (q_100, .inl (cA_100, 300, .inl (fun j : Nat => zI (a_2006 (j : Int))))), (q_101, .inl (cA_101, 300, .inl (fun j : Nat => zI (a_2005 (j : Int))))), (q_102, .inl (cA_102, 300, .inl (fun j : Nat => zI (a1_secondOpen (j : Int))))), (hc, .inr (0, [v_0, v_1, v_2, v_3, v_4, v_5, v_6, v_7, v_8, v_9, v_10, .ref q_711, .ref q_712, v_13, v_14, v_15, v_16, v_17, v_18])), (q_711, .inl (cA_711, 300, .inl (fun j : Nat => zI (a_11 (j : Int))))), (q_712, .inl (cA_712, 300, .inl (fun j : Nat => zI (a_12 (j : Int)))))] H := hP
      have hD : va_D A [(h0, .inr (1, [.ref q_100, .ref q_101, .ref q_102, v1_3, v1_4, .int (zI (z1_changed))])), (q_100, .inl (cA_100, 300, .inl (fun j : Nat => zI (a_2006 (j : Int))))), (q_101, .inl (cA_101, 300, .inl (fun j : Nat => zI (a_2005 (j : Int))))), (q_102, .inl (cA_102, 300, .inl (fun j : Nat => zI (a1_secondOpen (j : Int))))), (hc, .inr (0, [v_0, v_1, v_2, v_3, v_4, v_5, v_6, v_7, v_8, v_9, v_10, .ref q_711, .ref q_712, v_13, v_14, v_15, v_16, v_17, v_18])), (q_711, .inl (cA_711, 300, .inl (fun j : Nat => zI (a_11 (j : Int))))), (q_712, .inl (cA_712, 300, .inl (fun j : Nat => zI (a_12 (j : Int)))))] := hD
      refine lv_aload_n hx hb dX1_open_32 rfl (lv_at hl 0 rfl) ?_
      refine lv_iconst (v := 1) hx hb dX1_open_33 (by decide) ?_
      refine va_put (D := (dC, dI)) (ci := 1) (v := .int 1) (ty := .boolean) (C := RX1) (T := TX1) (N := 6) hx hb hts mem_X1_open_0 tyX1 tyX1_ok nmX1 hown hK hP hD hS 0 rfl rfl 5 (by decide) (ow (k := 3) rfl) (fun _ h9 => h9) rfl (by decide +kernel) rfl rfl (Nat.le_of_ble_eq_true rfl) dX1_open_34 (fun H locs hP hD hS => ?_)
      have hP : va_P (dC, dI) vwP [(h0, .inr (1, [.ref q_100, .ref q_101, .ref q_102, v1_3, v1_4, .int 1])), (q_100, .inl (cA_100, 300, .inl (fun j : Nat => zI (a_2006 (j : Int))))), (q_101, .inl (cA_101, 300, .inl (fun j : Nat => zI (a_2005 (j : Int))))), (q_102, .inl (cA_102, 300, .inl (fun j : Nat => zI (a1_secondOpen (j : Int))))), (hc, .inr (0, [v_0, v_1, v_2, v_3, v_4, v_5, v_6, v_7, v_8, v_9, v_10, .ref q_711, .ref q_712, v_13, v_14, v_15, v_16, v_17, v_18])), (q_711, .inl (cA_711, 300, .inl (fun j : Nat => zI (a_11 (j : Int))))), (q_712, .inl (cA_712, 300, .inl (fun j : Nat => zI (a_12 (j : Int)))))] H := hP
      have hD : va_D A [(h0, .inr (1, [.ref q_100, .ref q_101, .ref q_102, v1_3, v1_4, .int 1])), (q_100, .inl (cA_100, 300, .inl (fun j : Nat => zI (a_2006 (j : Int))))), (q_101, .inl (cA_101, 300, .inl (fun j : Nat => zI (a_2005 (j : Int))))), (q_102, .inl (cA_102, 300, .inl (fun j : Nat => zI (a1_secondOpen (j : Int))))), (hc, .inr (0, [v_0, v_1, v_2, v_3, v_4, v_5, v_6, v_7, v_8, v_9, v_10, .ref q_711, .ref q_712, v_13, v_14, v_15, v_16, v_17, v_18])), (q_711, .inl (cA_711, 300, .inl (fun j : Nat => zI (a_11 (j : Int))))), (q_712, .inl (cA_712, 300, .inl (fun j : Nat => zI (a_12 (j : Int)))))] := hD
      refine lv_iload hx hb dX1_open_37 (lv_at hl 4 rfl) ?_
      refine lv_if_eq (tgt := 75) hx hb dX1_open_39 (by decide) (fun b39 => ?_) (fun b39 => ?_)
      · have yb39 : (p2 : Int) = (0 : Int) := (zI_eq (a := p2) (b := 0) (by omega) (by omega) (by omega) (by omega)).mp b39
        subst hQ
        refine W.widen (k := 0) (n := 0) (Nat.le_of_ble_eq_true rfl) (Nat.le_of_ble_eq_true rfl) ?_
        exact W.vret hx hb hr (fun t ht hW => ⟨⟨(), rfl, trivial, 1, a_2006, a_2005, a1_secondOpen, ⟨(by omega), ra_2006, ra_2005, hR_a1_secondOpen⟩, by rw [ht]; exact hP, va_K.moved hW.alike hK, hD⟩, hS.F ht⟩) hS.2.2 dX1_open_75
      · have yb39 : ¬ (p2 : Int) = (0 : Int) := fun q => b39 ((zI_eq (a := p2) (b := 0) (by omega) (by omega) (by omega) (by omega)).mpr q)
        refine lv_aload_n hx hb dX1_open_42 rfl (lv_at hl 0 rfl) ?_
        refine va_get (D := (dC, dI)) (ci := 1) (v := .ref q_102) (C := RX1) (T := TX1) (N := 6) hx hb hts mem_X1_open_0 hown hK hP 0 rfl rfl 2 (by decide) (ow (k := 0) rfl) (fun _ h9 => h9) rfl dX1_open_43 ?_
        refine lv_iload_n hx hb dX1_open_46 rfl (lv_at hl 2 rfl) ?_
        refine va_zald hx hb hK hP 3 2 rfl rfl (zI_in (a := b) (n := 300) (by omega) (by omega) (by decide)) dX1_open_47 ?_
        refine lv_topi (fun z ez => ?_)
        obtain rfl : z = zI (a1_secondOpen (b)) := ez.trans (zI_ld (a1_secondOpen) (by omega) (by omega))
        have k7 := hR_a1_secondOpen (b)
        refine lv_if_ne (tgt := 75) hx hb dX1_open_48 (by decide) (fun b48 => ?_) (fun b48 => ?_)
        · have yb48 : ¬ (a1_secondOpen (b) : Int) = (0 : Int) := fun q => b48 ((zI_eq (a := a1_secondOpen (b)) (b := 0) (by omega) (by omega) (by omega) (by omega)).mpr q)
          subst hQ
          refine W.widen (k := 0) (n := 0) (Nat.le_of_ble_eq_true rfl) (Nat.le_of_ble_eq_true rfl) ?_
          exact W.vret hx hb hr (fun t ht hW => ⟨⟨(), rfl, trivial, 1, a_2006, a_2005, a1_secondOpen, ⟨(by omega), ra_2006, ra_2005, hR_a1_secondOpen⟩, by rw [ht]; exact hP, va_K.moved hW.alike hK, hD⟩, hS.F ht⟩) hS.2.2 dX1_open_75
        · have yb48 : (a1_secondOpen (b) : Int) = (0 : Int) := (zI_eq (a := a1_secondOpen (b)) (b := 0) (by omega) (by omega) (by omega) (by omega)).mp b48
          refine lv_aload_n hx hb dX1_open_51 rfl (lv_at hl 0 rfl) ?_
          refine va_get (D := (dC, dI)) (ci := 1) (v := .ref q_102) (C := RX1) (T := TX1) (N := 6) hx hb hts mem_X1_open_0 hown hK hP 0 rfl rfl 2 (by decide) (ow (k := 0) rfl) (fun _ h9 => h9) rfl dX1_open_52 ?_
          refine lv_iload_n hx hb dX1_open_55 rfl (lv_at hl 2 rfl) ?_
          refine lv_iconst (v := 1) hx hb dX1_open_56 (by decide) ?_
          refine va_zast (i := zI (b)) hx hb hK hP hD hS 3 2 rfl rfl (zI_in (a := b) (n := 300) (by omega) (by omega) (by decide)) dX1_open_57 (fun H locs hP hD hS => ?_)
          rw [show vp_nar .boolean 1 = 1 from zI_nar (a := 1) (by omega) (by omega)] at hP hD
          have eQ : upd (fun j : Nat => zI (a1_secondOpen (j : Int))) (zI (b)).toNatClampNeg 1 = (fun j : Nat => zI (zup a1_secondOpen (b) (1) (j : Int))) := zI_st a1_secondOpen (e := b) (v := 1) (by omega) (by omega)
          rw [eQ] at hP hD
          clear eQ
          have ra_2007 : ∀ j : Int, 0 ≤ zup a1_secondOpen (b) (1) j ∧ zup a1_secondOpen (b) (1) j ≤ 1 := zup_P (P := fun x9 => 0 ≤ x9 ∧ x9 ≤ 1) hR_a1_secondOpen (show 0 ≤ (1) ∧ (1) ≤ 1 by omega)
          generalize zup a1_secondOpen (b) (1) = a_2007 at hP hD ra_2007
          have hP : va_P (dC, dI) vwP [(h0, .inr (1, [.ref q_100, .ref q_101, .ref q_102, v1_3, v1_4, .int 1])), (q_100, .inl (cA_100, 300, .inl (fun j : Nat => zI (a_2006 (j : Int))))), (q_101, .inl (cA_101, 300, .inl (fun j : Nat => zI (a_2005 (j : Int))))), (q_102, .inl (cA_102, 300, .inl (fun j : Nat => zI (a_2007 (j : Int))))), (hc, .inr (0, [v_0, v_1, v_2, v_3, v_4, v_5, v_6, v_7, v_8, v_9, v_10, .ref q_711, .ref q_712, v_13, v_14, v_15, v_16, v_17, v_18])), (q_711, .inl (cA_711, 300, .inl (fun j : Nat => zI (a_11 (j : Int))))), (q_712, .inl (cA_712, 300, .inl (fun j : Nat => zI (a_12 (j : Int)))))] H := hP
          have hD : va_D A [(h0, .inr (1, [.ref q_100, .ref q_101, .ref q_102, v1_3, v1_4, .int 1])), (q_100, .inl (cA_100, 300, .inl (fun j : Nat => zI (a_2006 (j : Int))))), (q_101, .inl (cA_101, 300, .inl (fun j : Nat => zI (a_2005 (j : Int))))), (q_102, .inl (cA_102, 300, .inl (fun j : Nat => zI (a_2007 (j : Int))))), (hc, .inr (0, [v_0, v_1, v_2, v_3, v_4, v_5, v_6, v_7, v_8, v_9, v_10, .ref q_711, .ref q_712, v_13, v_14, v_15, v_16, v_17, v_18])), (q_711, .inl (cA_711, 300, .inl (fun j : Nat => zI (a_11 (j : Int))))), (q_712, .inl (cA_712, 300, .inl (fun j : Nat => zI (a_12 (j : Int)))))] := hD
          refine lv_aload_n hx hb dX1_open_58 rfl (lv_at hl 0 rfl) ?_
          refine va_get (D := (dC, dI)) (ci := 1) (v := .ref q_100) (C := RX1) (T := TX1) (N := 6) hx hb hts mem_X1_open_0 hown hK hP 0 rfl rfl 0 (by decide) (ow (k := 1) rfl) (fun _ h9 => h9) rfl dX1_open_59 ?_
          refine lv_aload_n hx hb dX1_open_62 rfl (lv_at hl 1 rfl) ?_
          refine va_get (D := (dC, dI)) (ci := 0) (v := .ref q_712) (C := RX0) (T := TX0) (N := 19) hx hb hts mem_X1_open_1 hown hK hP 4 rfl rfl 12 (by decide) (ow (k := 2) rfl) (fun _ h9 => h9) rfl dX1_open_63 ?_
          refine lv_iload_n hx hb dX1_open_66 rfl (lv_at hl 2 rfl) ?_
          refine va_iald hx hb hK hP 6 4 rfl rfl (zI_in (a := b) (n := 300) (by omega) (by omega) (by decide)) dX1_open_67 ?_
          refine lv_topi (fun z ez => ?_)
          obtain rfl : z = zI (a_12 (b)) := ez.trans (zI_ld (a_12) (by omega) (by omega))
          have k8 := hR_a_12 (b)
          refine lv_iconst (v := 1) hx hb dX1_open_68 (by decide) ?_
          refine va_zast (i := zI (a_12 (b))) hx hb hK hP hD hS 1 0 rfl rfl (zI_in (a := a_12 (b)) (n := 300) (by omega) (by omega) (by decide)) dX1_open_69 (fun H locs hP hD hS => ?_)
          rw [show vp_nar .boolean 1 = 1 from zI_nar (a := 1) (by omega) (by omega)] at hP hD
          have eQ : upd (fun j : Nat => zI (a_2006 (j : Int))) (zI (a_12 (b))).toNatClampNeg 1 = (fun j : Nat => zI (zup a_2006 (a_12 (b)) (1) (j : Int))) := zI_st a_2006 (e := a_12 (b)) (v := 1) (by omega) (by omega)
          rw [eQ] at hP hD
          clear eQ
          have ra_2008 : ∀ j : Int, 0 ≤ zup a_2006 (a_12 (b)) (1) j ∧ zup a_2006 (a_12 (b)) (1) j ≤ 1 := zup_P (P := fun x9 => 0 ≤ x9 ∧ x9 ≤ 1) ra_2006 (show 0 ≤ (1) ∧ (1) ≤ 1 by omega)
          generalize zup a_2006 (a_12 (b)) (1) = a_2008 at hP hD ra_2008
          have hP : va_P (dC, dI) vwP [(h0, .inr (1, [.ref q_100, .ref q_101, .ref q_102, v1_3, v1_4, .int 1])), (q_100, .inl (cA_100, 300, .inl (fun j : Nat => zI (a_2008 (j : Int))))), (q_101, .inl (cA_101, 300, .inl (fun j : Nat => zI (a_2005 (j : Int))))), (q_102, .inl (cA_102, 300, .inl (fun j : Nat => zI (a_2007 (j : Int))))), (hc, .inr (0, [v_0, v_1, v_2, v_3, v_4, v_5, v_6, v_7, v_8, v_9, v_10, .ref q_711, .ref q_712, v_13, v_14, v_15, v_16, v_17, v_18])), (q_711, .inl (cA_711, 300, .inl (fun j : Nat => zI (a_11 (j : Int))))), (q_712, .inl (cA_712, 300, .inl (fun j : Nat => zI (a_12 (j : Int)))))] H := hP
          have hD : va_D A [(h0, .inr (1, [.ref q_100, .ref q_101, .ref q_102, v1_3, v1_4, .int 1])), (q_100, .inl (cA_100, 300, .inl (fun j : Nat => zI (a_2008 (j : Int))))), (q_101, .inl (cA_101, 300, .inl (fun j : Nat => zI (a_2005 (j : Int))))), (q_102, .inl (cA_102, 300, .inl (fun j : Nat => zI (a_2007 (j : Int))))), (hc, .inr (0, [v_0, v_1, v_2, v_3, v_4, v_5, v_6, v_7, v_8, v_9, v_10, .ref q_711, .ref q_712, v_13, v_14, v_15, v_16, v_17, v_18])), (q_711, .inl (cA_711, 300, .inl (fun j : Nat => zI (a_11 (j : Int))))), (q_712, .inl (cA_712, 300, .inl (fun j : Nat => zI (a_12 (j : Int)))))] := hD
          refine lv_aload_n hx hb dX1_open_70 rfl (lv_at hl 0 rfl) ?_
          refine lv_iconst (v := 1) hx hb dX1_open_71 (by decide) ?_
          refine va_put (D := (dC, dI)) (ci := 1) (v := .int 1) (ty := .boolean) (C := RX1) (T := TX1) (N := 6) hx hb hts mem_X1_open_0 tyX1 tyX1_ok nmX1 hown hK hP hD hS 0 rfl rfl 5 (by decide) (ow (k := 3) rfl) (fun _ h9 => h9) rfl (by decide +kernel) rfl rfl (Nat.le_of_ble_eq_true rfl) dX1_open_72 (fun H locs hP hD hS => ?_)
          have hP : va_P (dC, dI) vwP [(h0, .inr (1, [.ref q_100, .ref q_101, .ref q_102, v1_3, v1_4, .int 1])), (q_100, .inl (cA_100, 300, .inl (fun j : Nat => zI (a_2008 (j : Int))))), (q_101, .inl (cA_101, 300, .inl (fun j : Nat => zI (a_2005 (j : Int))))), (q_102, .inl (cA_102, 300, .inl (fun j : Nat => zI (a_2007 (j : Int))))), (hc, .inr (0, [v_0, v_1, v_2, v_3, v_4, v_5, v_6, v_7, v_8, v_9, v_10, .ref q_711, .ref q_712, v_13, v_14, v_15, v_16, v_17, v_18])), (q_711, .inl (cA_711, 300, .inl (fun j : Nat => zI (a_11 (j : Int))))), (q_712, .inl (cA_712, 300, .inl (fun j : Nat => zI (a_12 (j : Int)))))] H := hP
          have hD : va_D A [(h0, .inr (1, [.ref q_100, .ref q_101, .ref q_102, v1_3, v1_4, .int 1])), (q_100, .inl (cA_100, 300, .inl (fun j : Nat => zI (a_2008 (j : Int))))), (q_101, .inl (cA_101, 300, .inl (fun j : Nat => zI (a_2005 (j : Int))))), (q_102, .inl (cA_102, 300, .inl (fun j : Nat => zI (a_2007 (j : Int))))), (hc, .inr (0, [v_0, v_1, v_2, v_3, v_4, v_5, v_6, v_7, v_8, v_9, v_10, .ref q_711, .ref q_712, v_13, v_14, v_15, v_16, v_17, v_18])), (q_711, .inl (cA_711, 300, .inl (fun j : Nat => zI (a_11 (j : Int))))), (q_712, .inl (cA_712, 300, .inl (fun j : Nat => zI (a_12 (j : Int)))))] := hD
          subst hQ
          refine W.widen (k := 0) (n := 0) (Nat.le_of_ble_eq_true rfl) (Nat.le_of_ble_eq_true rfl) ?_
          exact W.vret hx hb hr (fun t ht hW => ⟨⟨(), rfl, trivial, 1, a_2008, a_2005, a_2007, ⟨(by omega), ra_2008, ra_2005, ra_2007⟩, by rw [ht]; exact hP, va_K.moved hW.alike hK, hD⟩, hS.F ht⟩) hS.2.2 dX1_open_75
theorem dX1_lookAtPhi_0 : decode cX1_lookAtPhi 0 = .ok (.iconst 0, 1) := by decide +kernel
theorem dX1_lookAtPhi_1 : decode cX1_lookAtPhi 1 = .ok (.istore 4, 2) := by decide +kernel
theorem dX1_lookAtPhi_3 : decode cX1_lookAtPhi 3 = .ok (.iconst 0, 1) := by decide +kernel
theorem dX1_lookAtPhi_4 : decode cX1_lookAtPhi 4 = .ok (.istore 5, 2) := by decide +kernel
theorem dX1_lookAtPhi_6 : decode cX1_lookAtPhi 6 = .ok (.iconst 0, 1) := by decide +kernel
theorem dX1_lookAtPhi_7 : decode cX1_lookAtPhi 7 = .ok (.istore 6, 2) := by decide +kernel
theorem dX1_lookAtPhi_9 : decode cX1_lookAtPhi 9 = .ok (.iload 6, 2) := by decide +kernel
theorem dX1_lookAtPhi_11 : decode cX1_lookAtPhi 11 = .ok (.aload_n 1, 1) := by decide +kernel
theorem dX1_lookAtPhi_12 : decode cX1_lookAtPhi 12 = .ok (.iload_n 2, 1) := by decide +kernel
theorem dX1_lookAtPhi_13 : decode cX1_lookAtPhi 13 = .ok (.invokevirtual 107, 3) := by decide +kernel
theorem dX1_lookAtPhi_16 : decode cX1_lookAtPhi 16 = .ok (.if_icmp .ge 109, 3) := by decide +kernel
theorem dX1_lookAtPhi_125 : decode cX1_lookAtPhi 125 = .ok (.aload_n 0, 1) := by decide +kernel
theorem dX1_lookAtPhi_126 : decode cX1_lookAtPhi 126 = .ok (.aload_n 1, 1) := by decide +kernel
theorem dX1_lookAtPhi_127 : decode cX1_lookAtPhi 127 = .ok (.getfield 127, 3) := by decide +kernel
theorem dX1_lookAtPhi_130 : decode cX1_lookAtPhi 130 = .ok (.iload_n 3, 1) := by decide +kernel
theorem dX1_lookAtPhi_131 : decode cX1_lookAtPhi 131 = .ok (.iaload, 1) := by decide +kernel
theorem dX1_lookAtPhi_132 : decode cX1_lookAtPhi 132 = .ok (.iload 4, 2) := by decide +kernel
theorem dX1_lookAtPhi_134 : decode cX1_lookAtPhi 134 = .ok (.iload 5, 2) := by decide +kernel
theorem dX1_lookAtPhi_136 : decode cX1_lookAtPhi 136 = .ok (.invokevirtual 130, 3) := by decide +kernel
theorem dX1_lookAtPhi_139 : decode cX1_lookAtPhi 139 = .ok (.return_, 1) := by decide +kernel
theorem dX1_lookAtPhi_19 : decode cX1_lookAtPhi 19 = .ok (.aload_n 1, 1) := by decide +kernel
theorem dX1_lookAtPhi_20 : decode cX1_lookAtPhi 20 = .ok (.getfield 111, 3) := by decide +kernel
theorem dX1_lookAtPhi_23 : decode cX1_lookAtPhi 23 = .ok (.aload_n 1, 1) := by decide +kernel
theorem dX1_lookAtPhi_24 : decode cX1_lookAtPhi 24 = .ok (.getfield 114, 3) := by decide +kernel
theorem dX1_lookAtPhi_27 : decode cX1_lookAtPhi 27 = .ok (.iload_n 3, 1) := by decide +kernel
theorem dX1_lookAtPhi_28 : decode cX1_lookAtPhi 28 = .ok (.iaload, 1) := by decide +kernel
theorem dX1_lookAtPhi_29 : decode cX1_lookAtPhi 29 = .ok (.iload 6, 2) := by decide +kernel
theorem dX1_lookAtPhi_31 : decode cX1_lookAtPhi 31 = .ok (.iadd, 1) := by decide +kernel
theorem dX1_lookAtPhi_32 : decode cX1_lookAtPhi 32 = .ok (.laload, 1) := by decide +kernel
theorem dX1_lookAtPhi_33 : decode cX1_lookAtPhi 33 = .ok (.lstore 7, 2) := by decide +kernel
theorem dX1_lookAtPhi_35 : decode cX1_lookAtPhi 35 = .ok (.aload_n 0, 1) := by decide +kernel
theorem dX1_lookAtPhi_36 : decode cX1_lookAtPhi 36 = .ok (.lload 7, 2) := by decide +kernel
theorem dX1_lookAtPhi_38 : decode cX1_lookAtPhi 38 = .ok (.invokevirtual 100, 3) := by decide +kernel
theorem dX1_lookAtPhi_41 : decode cX1_lookAtPhi 41 = .ok (.istore 9, 2) := by decide +kernel
theorem dX1_lookAtPhi_43 : decode cX1_lookAtPhi 43 = .ok (.iload 9, 2) := by decide +kernel
theorem dX1_lookAtPhi_45 : decode cX1_lookAtPhi 45 = .ok (.ifCond .eq 74, 3) := by decide +kernel
theorem dX1_lookAtPhi_119 : decode cX1_lookAtPhi 119 = .ok (.iinc 6 1, 3) := by decide +kernel
theorem dX1_lookAtPhi_122 : decode cX1_lookAtPhi 122 = .ok (.goto (-113), 3) := by decide +kernel
theorem dX1_lookAtPhi_48 : decode cX1_lookAtPhi 48 = .ok (.aload_n 0, 1) := by decide +kernel
theorem dX1_lookAtPhi_49 : decode cX1_lookAtPhi 49 = .ok (.aload_n 1, 1) := by decide +kernel
theorem dX1_lookAtPhi_50 : decode cX1_lookAtPhi 50 = .ok (.aload_n 1, 1) := by decide +kernel
theorem dX1_lookAtPhi_51 : decode cX1_lookAtPhi 51 = .ok (.getfield 117, 3) := by decide +kernel
theorem dX1_lookAtPhi_54 : decode cX1_lookAtPhi 54 = .ok (.aload_n 1, 1) := by decide +kernel
theorem dX1_lookAtPhi_55 : decode cX1_lookAtPhi 55 = .ok (.getfield 120, 3) := by decide +kernel
theorem dX1_lookAtPhi_58 : decode cX1_lookAtPhi 58 = .ok (.iload_n 2, 1) := by decide +kernel
theorem dX1_lookAtPhi_59 : decode cX1_lookAtPhi 59 = .ok (.iaload, 1) := by decide +kernel
theorem dX1_lookAtPhi_60 : decode cX1_lookAtPhi 60 = .ok (.iload 6, 2) := by decide +kernel
theorem dX1_lookAtPhi_62 : decode cX1_lookAtPhi 62 = .ok (.iadd, 1) := by decide +kernel
theorem dX1_lookAtPhi_63 : decode cX1_lookAtPhi 63 = .ok (.iaload, 1) := by decide +kernel
theorem dX1_lookAtPhi_64 : decode cX1_lookAtPhi 64 = .ok (.iload_n 2, 1) := by decide +kernel
theorem dX1_lookAtPhi_65 : decode cX1_lookAtPhi 65 = .ok (.invokevirtual 123, 3) := by decide +kernel
theorem dX1_lookAtPhi_68 : decode cX1_lookAtPhi 68 = .ok (.ifCond .ne 6, 3) := by decide +kernel
theorem dX1_lookAtPhi_74 : decode cX1_lookAtPhi 74 = .ok (.iload 4, 2) := by decide +kernel
theorem dX1_lookAtPhi_76 : decode cX1_lookAtPhi 76 = .ok (.ifCond .ne 23, 3) := by decide +kernel
theorem dX1_lookAtPhi_99 : decode cX1_lookAtPhi 99 = .ok (.iload 9, 2) := by decide +kernel
theorem dX1_lookAtPhi_101 : decode cX1_lookAtPhi 101 = .ok (.iconst 2, 1) := by decide +kernel
theorem dX1_lookAtPhi_102 : decode cX1_lookAtPhi 102 = .ok (.if_icmp .eq 14, 3) := by decide +kernel
theorem dX1_lookAtPhi_116 : decode cX1_lookAtPhi 116 = .ok (.iconst 2, 1) := by decide +kernel
theorem dX1_lookAtPhi_117 : decode cX1_lookAtPhi 117 = .ok (.istore 4, 2) := by decide +kernel
theorem dX1_lookAtPhi_105 : decode cX1_lookAtPhi 105 = .ok (.aload_n 0, 1) := by decide +kernel
theorem dX1_lookAtPhi_106 : decode cX1_lookAtPhi 106 = .ok (.lload 7, 2) := by decide +kernel
theorem dX1_lookAtPhi_108 : decode cX1_lookAtPhi 108 = .ok (.invokevirtual 104, 3) := by decide +kernel
theorem dX1_lookAtPhi_111 : decode cX1_lookAtPhi 111 = .ok (.iload 5, 2) := by decide +kernel
theorem dX1_lookAtPhi_113 : decode cX1_lookAtPhi 113 = .ok (.if_icmp .eq 6, 3) := by decide +kernel
theorem dX1_lookAtPhi_79 : decode cX1_lookAtPhi 79 = .ok (.iload 9, 2) := by decide +kernel
theorem dX1_lookAtPhi_81 : decode cX1_lookAtPhi 81 = .ok (.iconst 1, 1) := by decide +kernel
theorem dX1_lookAtPhi_82 : decode cX1_lookAtPhi 82 = .ok (.if_icmp .ne 17, 3) := by decide +kernel
theorem dX1_lookAtPhi_85 : decode cX1_lookAtPhi 85 = .ok (.iconst 1, 1) := by decide +kernel
theorem dX1_lookAtPhi_86 : decode cX1_lookAtPhi 86 = .ok (.istore 4, 2) := by decide +kernel
theorem dX1_lookAtPhi_88 : decode cX1_lookAtPhi 88 = .ok (.aload_n 0, 1) := by decide +kernel
theorem dX1_lookAtPhi_89 : decode cX1_lookAtPhi 89 = .ok (.lload 7, 2) := by decide +kernel
theorem dX1_lookAtPhi_91 : decode cX1_lookAtPhi 91 = .ok (.invokevirtual 104, 3) := by decide +kernel
theorem dX1_lookAtPhi_94 : decode cX1_lookAtPhi 94 = .ok (.istore 5, 2) := by decide +kernel
theorem dX1_lookAtPhi_96 : decode cX1_lookAtPhi 96 = .ok (.goto 23, 3) := by decide +kernel
theorem dX1_lookAtPhi_71 : decode cX1_lookAtPhi 71 = .ok (.goto 48, 3) := by decide +kernel
def o_X1_lookAtPhi : List Cond := [.methodLink RX1 107 yX0_predCount, .instanceMethod yX0_predCount, .selects RX0 yX0_predCount yX0_predCount, .initialized RX0, .fieldLink RX1 127 "SsaForge$Code" "phiTarget" "[I", .methodLink RX1 130 yX1_tell, .instanceMethod yX1_tell, .selects RX1 yX1_tell yX1_tell, .initialized RX1, .fieldLink RX1 111 "SsaForge$Code" "args" "[J", .fieldLink RX1 114 "SsaForge$Code" "argStart" "[I", .methodLink RX1 100 yX1_kindOf, .instanceMethod yX1_kindOf, .selects RX1 yX1_kindOf yX1_kindOf, .fieldLink RX1 117 "SsaForge$Code" "preds" "[I", .fieldLink RX1 120 "SsaForge$Code" "predStart" "[I", .methodLink RX1 123 yX1_isOpen, .instanceMethod yX1_isOpen, .selects RX1 yX1_isOpen yX1_isOpen, .methodLink RX1 104 yX1_numberOf, .instanceMethod yX1_numberOf, .selects RX1 yX1_numberOf yX1_numberOf]
def v_X1_lookAtPhi : List Cond := .code yX1_lookAtPhi cX1_lookAtPhi 10 none :: (o_X1_lookAtPhi ++ (v_X0_predCount ++ (wsX00 ++ (v_X1_tell ++ (v_X1_kindOf ++ (v_X1_isOpen ++ (v_X1_numberOf ++ [])))))))
theorem mow_X1_lookAtPhi : ∀ w ∈ o_X1_lookAtPhi, w ∈ v_X1_lookAtPhi := fun _ h => List.mem_cons_of_mem _ (List.mem_append_left _ h)
theorem mem_X1_lookAtPhi_0 : ∀ w ∈ v_X0_predCount, w ∈ v_X1_lookAtPhi := fun _ h => List.mem_cons_of_mem _ (List.mem_append_right _ (List.mem_append_left _ h))
theorem mem_X1_lookAtPhi_1 : ∀ w ∈ wsX00, w ∈ v_X1_lookAtPhi := fun _ h => List.mem_cons_of_mem _ (List.mem_append_right _ (List.mem_append_right _ (List.mem_append_left _ h)))
theorem mem_X1_lookAtPhi_2 : ∀ w ∈ v_X1_tell, w ∈ v_X1_lookAtPhi := fun _ h => List.mem_cons_of_mem _ (List.mem_append_right _ (List.mem_append_right _ (List.mem_append_right _ (List.mem_append_left _ h))))
theorem mem_X1_lookAtPhi_3 : ∀ w ∈ v_X1_kindOf, w ∈ v_X1_lookAtPhi := fun _ h => List.mem_cons_of_mem _ (List.mem_append_right _ (List.mem_append_right _ (List.mem_append_right _ (List.mem_append_right _ (List.mem_append_left _ h)))))
theorem mem_X1_lookAtPhi_4 : ∀ w ∈ v_X1_isOpen, w ∈ v_X1_lookAtPhi := fun _ h => List.mem_cons_of_mem _ (List.mem_append_right _ (List.mem_append_right _ (List.mem_append_right _ (List.mem_append_right _ (List.mem_append_right _ (List.mem_append_left _ h))))))
theorem mem_X1_lookAtPhi_5 : ∀ w ∈ v_X1_numberOf, w ∈ v_X1_lookAtPhi := fun _ h => List.mem_cons_of_mem _ (List.mem_append_right _ (List.mem_append_right _ (List.mem_append_right _ (List.mem_append_right _ (List.mem_append_right _ (List.mem_append_right _ (List.mem_append_left _ h)))))))
set_option maxRecDepth 20000 in
theorem gw_X1_lookAtPhi : v_X1_lookAtPhi.all goodWord = true := by decide +kernel
set_option maxRecDepth 20000 in
theorem g_X1_lookAtPhi_X0_predCount : GoodIn v_X1_lookAtPhi (wsV RX1 107 RX0 yX0_predCount v_X0_predCount) := goodIn_app (goodIn_sub (fun w h => mow_X1_lookAtPhi w (by revert w h; decide +kernel)) (by decide +kernel)) (goodIn_sub mem_X1_lookAtPhi_0 gw_X0_predCount)
set_option maxRecDepth 20000 in
theorem g_X1_lookAtPhi_X1_tell : GoodIn v_X1_lookAtPhi (wsV RX1 130 RX1 yX1_tell v_X1_tell) := goodIn_app (goodIn_sub (fun w h => mow_X1_lookAtPhi w (by revert w h; decide +kernel)) (by decide +kernel)) (goodIn_sub mem_X1_lookAtPhi_2 gw_X1_tell)
set_option maxRecDepth 20000 in
theorem g_X1_lookAtPhi_X1_kindOf : GoodIn v_X1_lookAtPhi (wsV RX1 100 RX1 yX1_kindOf v_X1_kindOf) := goodIn_app (goodIn_sub (fun w h => mow_X1_lookAtPhi w (by revert w h; decide +kernel)) (by decide +kernel)) (goodIn_sub mem_X1_lookAtPhi_3 gw_X1_kindOf)
set_option maxRecDepth 20000 in
theorem g_X1_lookAtPhi_X1_isOpen : GoodIn v_X1_lookAtPhi (wsV RX1 123 RX1 yX1_isOpen v_X1_isOpen) := goodIn_app (goodIn_sub (fun w h => mow_X1_lookAtPhi w (by revert w h; decide +kernel)) (by decide +kernel)) (goodIn_sub mem_X1_lookAtPhi_4 gw_X1_isOpen)
set_option maxRecDepth 20000 in
theorem g_X1_lookAtPhi_X1_numberOf : GoodIn v_X1_lookAtPhi (wsV RX1 104 RX1 yX1_numberOf v_X1_numberOf) := goodIn_app (goodIn_sub (fun w h => mow_X1_lookAtPhi w (by revert w h; decide +kernel)) (by decide +kernel)) (goodIn_sub mem_X1_lookAtPhi_5 gw_X1_numberOf)
set_option maxHeartbeats 4000000 in
set_option maxRecDepth 100000 in
theorem c_X1_lookAtPhi (l : Launch) (dC : Nat → ClassId) (dI : Nat → Nat → Nat) (h0 : Nat) (v1_0 : Value) (q_101 : Nat) (cA_101 : ClassId) (a1_firstOpen : Int → Int) (q_102 : Nat) (cA_102 : ClassId) (a1_secondOpen : Int → Int) (q_103 : Nat) (cA_103 : ClassId) (a1_kinds : Int → Int) (q_104 : Nat) (cA_104 : ClassId) (a1_instead : Int → Int) (z1_changed : Int) (hc : Nat) (B1 : Int) (v_1 : Value) (P1 : Int) (v_3 : Value) (v_4 : Value) (v_5 : Value) (v_6 : Value) (v_7 : Value) (v_8 : Value) (v_9 : Value) (v_10 : Value) (q_711 : Nat) (cA_711 : ClassId) (a_11 : Int → Int) (q_712 : Nat) (cA_712 : ClassId) (a_12 : Int → Int) (q_713 : Nat) (cA_713 : ClassId) (a_13 : Int → Int) (q_714 : Nat) (cA_714 : ClassId) (a_14 : Int → Int) (q_715 : Nat) (cA_715 : ClassId) (a_15 : Int → Int) (q_716 : Nat) (cA_716 : ClassId) (a_16 : Int → Int) (q_717 : Nat) (cA_717 : ClassId) (a_17 : Int → Int) (q_718 : Nat) (cA_718 : ClassId) (na1 : Nat) (a_18 : Int → Int) (b : Int) (i : Int) (hR_a1_firstOpen : ∀ j : Int, 0 ≤ a1_firstOpen j ∧ a1_firstOpen j ≤ 1) (hR_a1_secondOpen : ∀ j : Int, 0 ≤ a1_secondOpen j ∧ a1_secondOpen j ≤ 1) (hR_a1_kinds : ∀ j : Int, 0 ≤ a1_kinds j ∧ a1_kinds j ≤ 2) (hR_a1_instead : ∀ j : Int, ((-2147483648 ≤ a1_instead j ∧ a1_instead j ≤ 4294968319) ∨ a1_instead j = 1099511627776)) (hNz1_changed : 0 ≤ z1_changed ∧ z1_changed ≤ 1) (hNB1 : 0 ≤ B1 ∧ B1 ≤ 300) (hNP1 : 0 ≤ P1 ∧ P1 ≤ 1000) (hR_a_11 : ∀ j : Int, -1 ≤ a_11 j ∧ a_11 j ≤ 299) (hR_a_12 : ∀ j : Int, -1 ≤ a_12 j ∧ a_12 j ≤ 299) (hR_a_13 : ∀ j : Int, 0 ≤ a_13 j ∧ a_13 j ≤ 600) (hR_a_14 : ∀ j : Int, 0 ≤ a_14 j ∧ a_14 j ≤ 299) (hR_a_15 : ∀ j : Int, 0 ≤ a_15 j ∧ a_15 j ≤ 1000) (hR_a_16 : ∀ j : Int, -1 ≤ a_16 j ∧ a_16 j ≤ 1023) (hR_a_17 : ∀ j : Int, 0 ≤ a_17 j ∧ a_17 j ≤ 60000) (hNna1 : na1 ≤ 60000) (hR_a_18 : ∀ j : Int, ((-2147483648 ≤ a_18 j ∧ a_18 j ≤ 4294968319) ∨ a_18 j = 1099511627776)) (hNb : 0 ≤ b ∧ b < B1) (hNi : 0 ≤ i ∧ a_15 b ≤ i ∧ i < a_15 (b + 1) ∧ i < 1000) (hX_T : ∀ i : Int, 0 ≤ i → i < P1 → 0 ≤ a_16 i) (hX_P : ∀ b : Int, 0 ≤ b → b ≤ B1 → a_15 b ≤ P1) (hX_A : ∀ b i : Int, 0 ≤ b → b < B1 → a_15 b ≤ i → i < a_15 (b + 1) → a_17 i + (a_13 (b + 1) - a_13 b) ≤ na1) (sz : Nat) : Met l yX1_lookAtPhi v_X1_lookAtPhi ({ frames := 2, cells := 0, slots := 0, locals := 43 }) (va_Pc [.ref h0, .ref hc, .int (zI (b)), .int (zI (i))] (fun U => U.heap.size = sz ∧ va_P (dC, dI) vwP [(h0, .inr (1, [v1_0, .ref q_101, .ref q_102, .ref q_103, .ref q_104, .int (zI (z1_changed))])), (q_101, .inl (cA_101, 300, .inl (fun j : Nat => zI (a1_firstOpen (j : Int))))), (q_102, .inl (cA_102, 300, .inl (fun j : Nat => zI (a1_secondOpen (j : Int))))), (q_103, .inl (cA_103, 1024, .inl (fun j : Nat => zI (a1_kinds (j : Int))))), (q_104, .inl (cA_104, 1024, .inr (.inl (fun j : Nat => lI (a1_instead (j : Int)))))), (hc, .inr (0, [.int (zI (B1)), v_1, .int (zI (P1)), v_3, v_4, v_5, v_6, v_7, v_8, v_9, v_10, .ref q_711, .ref q_712, .ref q_713, .ref q_714, .ref q_715, .ref q_716, .ref q_717, .ref q_718])), (q_711, .inl (cA_711, 300, .inl (fun j : Nat => zI (a_11 (j : Int))))), (q_712, .inl (cA_712, 300, .inl (fun j : Nat => zI (a_12 (j : Int))))), (q_713, .inl (cA_713, 301, .inl (fun j : Nat => zI (a_13 (j : Int))))), (q_714, .inl (cA_714, 600, .inl (fun j : Nat => zI (a_14 (j : Int))))), (q_715, .inl (cA_715, 301, .inl (fun j : Nat => zI (a_15 (j : Int))))), (q_716, .inl (cA_716, 1000, .inl (fun j : Nat => zI (a_16 (j : Int))))), (q_717, .inl (cA_717, 1000, .inl (fun j : Nat => zI (a_17 (j : Int))))), (q_718, .inl (cA_718, na1, .inr (.inl (fun j : Nat => lI (a_18 (j : Int))))))] U.heap ∧ va_K (dC, dI) vwP [(cA_101, .boolean), (cA_102, .boolean), (cA_103, .int), (cA_104, .long), (cA_711, .int), (cA_712, .int), (cA_713, .int), (cA_714, .int), (cA_715, .int), (cA_716, .int), (cA_717, .int), (cA_718, .long)] U ∧ va_D (fun _ => True) [(h0, .inr (1, [v1_0, .ref q_101, .ref q_102, .ref q_103, .ref q_104, .int (zI (z1_changed))])), (q_101, .inl (cA_101, 300, .inl (fun j : Nat => zI (a1_firstOpen (j : Int))))), (q_102, .inl (cA_102, 300, .inl (fun j : Nat => zI (a1_secondOpen (j : Int))))), (q_103, .inl (cA_103, 1024, .inl (fun j : Nat => zI (a1_kinds (j : Int))))), (q_104, .inl (cA_104, 1024, .inr (.inl (fun j : Nat => lI (a1_instead (j : Int)))))), (hc, .inr (0, [.int (zI (B1)), v_1, .int (zI (P1)), v_3, v_4, v_5, v_6, v_7, v_8, v_9, v_10, .ref q_711, .ref q_712, .ref q_713, .ref q_714, .ref q_715, .ref q_716, .ref q_717, .ref q_718])), (q_711, .inl (cA_711, 300, .inl (fun j : Nat => zI (a_11 (j : Int))))), (q_712, .inl (cA_712, 300, .inl (fun j : Nat => zI (a_12 (j : Int))))), (q_713, .inl (cA_713, 301, .inl (fun j : Nat => zI (a_13 (j : Int))))), (q_714, .inl (cA_714, 600, .inl (fun j : Nat => zI (a_14 (j : Int))))), (q_715, .inl (cA_715, 301, .inl (fun j : Nat => zI (a_15 (j : Int))))), (q_716, .inl (cA_716, 1000, .inl (fun j : Nat => zI (a_16 (j : Int))))), (q_717, .inl (cA_717, 1000, .inl (fun j : Nat => zI (a_17 (j : Int))))), (q_718, .inl (cA_718, na1, .inr (.inl (fun j : Nat => lI (a_18 (j : Int))))))] ∧ va_Nw (.methodLinkNest RX1 151 yX11_isRegister "SsaForge") U ∧ va_Nw (.methodLinkNest RX1 155 yX11_registerOf "SsaForge") U)) (va_Qv (fun _ : Unit => True) (fun (_ : Unit) (t : State) => ∃ (z0_9 : Int) (a1_9 : Int → Int) (a2_9 : Int → Int), ((0 ≤ z0_9 ∧ z0_9 ≤ 1) ∧ (∀ j : Int, 0 ≤ a1_9 j ∧ a1_9 j ≤ 2) ∧ (∀ j : Int, ((-2147483648 ≤ a2_9 j ∧ a2_9 j ≤ 4294968319) ∨ a2_9 j = 1099511627776))) ∧ va_P (dC, dI) vwP [(h0, .inr (1, [v1_0, .ref q_101, .ref q_102, .ref q_103, .ref q_104, .int (zI (z0_9))])), (q_101, .inl (cA_101, 300, .inl (fun j : Nat => zI (a1_firstOpen (j : Int))))), (q_102, .inl (cA_102, 300, .inl (fun j : Nat => zI (a1_secondOpen (j : Int))))), (q_103, .inl (cA_103, 1024, .inl (fun j : Nat => zI (a1_9 (j : Int))))), (q_104, .inl (cA_104, 1024, .inr (.inl (fun j : Nat => lI (a2_9 (j : Int)))))), (hc, .inr (0, [.int (zI (B1)), v_1, .int (zI (P1)), v_3, v_4, v_5, v_6, v_7, v_8, v_9, v_10, .ref q_711, .ref q_712, .ref q_713, .ref q_714, .ref q_715, .ref q_716, .ref q_717, .ref q_718])), (q_711, .inl (cA_711, 300, .inl (fun j : Nat => zI (a_11 (j : Int))))), (q_712, .inl (cA_712, 300, .inl (fun j : Nat => zI (a_12 (j : Int))))), (q_713, .inl (cA_713, 301, .inl (fun j : Nat => zI (a_13 (j : Int))))), (q_714, .inl (cA_714, 600, .inl (fun j : Nat => zI (a_14 (j : Int))))), (q_715, .inl (cA_715, 301, .inl (fun j : Nat => zI (a_15 (j : Int))))), (q_716, .inl (cA_716, 1000, .inl (fun j : Nat => zI (a_16 (j : Int))))), (q_717, .inl (cA_717, 1000, .inl (fun j : Nat => zI (a_17 (j : Int))))), (q_718, .inl (cA_718, na1, .inr (.inl (fun j : Nat => lI (a_18 (j : Int))))))] t.heap ∧ va_K (dC, dI) vwP [(cA_101, .boolean), (cA_102, .boolean), (cA_103, .int), (cA_104, .long), (cA_711, .int), (cA_712, .int), (cA_713, .int), (cA_714, .int), (cA_715, .int), (cA_716, .int), (cA_717, .int), (cA_718, .long)] t ∧ va_D (va_A [(h0, .inr (1, [v1_0, .ref q_101, .ref q_102, .ref q_103, .ref q_104, .int (zI (z1_changed))])), (q_101, .inl (cA_101, 300, .inl (fun j : Nat => zI (a1_firstOpen (j : Int))))), (q_102, .inl (cA_102, 300, .inl (fun j : Nat => zI (a1_secondOpen (j : Int))))), (q_103, .inl (cA_103, 1024, .inl (fun j : Nat => zI (a1_kinds (j : Int))))), (q_104, .inl (cA_104, 1024, .inr (.inl (fun j : Nat => lI (a1_instead (j : Int)))))), (hc, .inr (0, [.int (zI (B1)), v_1, .int (zI (P1)), v_3, v_4, v_5, v_6, v_7, v_8, v_9, v_10, .ref q_711, .ref q_712, .ref q_713, .ref q_714, .ref q_715, .ref q_716, .ref q_717, .ref q_718])), (q_711, .inl (cA_711, 300, .inl (fun j : Nat => zI (a_11 (j : Int))))), (q_712, .inl (cA_712, 300, .inl (fun j : Nat => zI (a_12 (j : Int))))), (q_713, .inl (cA_713, 301, .inl (fun j : Nat => zI (a_13 (j : Int))))), (q_714, .inl (cA_714, 600, .inl (fun j : Nat => zI (a_14 (j : Int))))), (q_715, .inl (cA_715, 301, .inl (fun j : Nat => zI (a_15 (j : Int))))), (q_716, .inl (cA_716, 1000, .inl (fun j : Nat => zI (a_16 (j : Int))))), (q_717, .inl (cA_717, 1000, .inl (fun j : Nat => zI (a_17 (j : Int))))), (q_718, .inl (cA_718, na1, .inr (.inl (fun j : Nat => lI (a_18 (j : Int))))))] sz) [(h0, .inr (1, [v1_0, .ref q_101, .ref q_102, .ref q_103, .ref q_104, .int (zI (z0_9))])), (q_101, .inl (cA_101, 300, .inl (fun j : Nat => zI (a1_firstOpen (j : Int))))), (q_102, .inl (cA_102, 300, .inl (fun j : Nat => zI (a1_secondOpen (j : Int))))), (q_103, .inl (cA_103, 1024, .inl (fun j : Nat => zI (a1_9 (j : Int))))), (q_104, .inl (cA_104, 1024, .inr (.inl (fun j : Nat => lI (a2_9 (j : Int)))))), (hc, .inr (0, [.int (zI (B1)), v_1, .int (zI (P1)), v_3, v_4, v_5, v_6, v_7, v_8, v_9, v_10, .ref q_711, .ref q_712, .ref q_713, .ref q_714, .ref q_715, .ref q_716, .ref q_717, .ref q_718])), (q_711, .inl (cA_711, 300, .inl (fun j : Nat => zI (a_11 (j : Int))))), (q_712, .inl (cA_712, 300, .inl (fun j : Nat => zI (a_12 (j : Int))))), (q_713, .inl (cA_713, 301, .inl (fun j : Nat => zI (a_13 (j : Int))))), (q_714, .inl (cA_714, 600, .inl (fun j : Nat => zI (a_14 (j : Int))))), (q_715, .inl (cA_715, 301, .inl (fun j : Nat => zI (a_15 (j : Int))))), (q_716, .inl (cA_716, 1000, .inl (fun j : Nat => zI (a_16 (j : Int))))), (q_717, .inl (cA_717, 1000, .inl (fun j : Nat => zI (a_17 (j : Int))))), (q_718, .inl (cA_718, na1, .inr (.inl (fun j : Nat => lI (a_18 (j : Int))))))]) (va_A [(h0, .inr (1, [v1_0, .ref q_101, .ref q_102, .ref q_103, .ref q_104, .int (zI (z1_changed))])), (q_101, .inl (cA_101, 300, .inl (fun j : Nat => zI (a1_firstOpen (j : Int))))), (q_102, .inl (cA_102, 300, .inl (fun j : Nat => zI (a1_secondOpen (j : Int))))), (q_103, .inl (cA_103, 1024, .inl (fun j : Nat => zI (a1_kinds (j : Int))))), (q_104, .inl (cA_104, 1024, .inr (.inl (fun j : Nat => lI (a1_instead (j : Int)))))), (hc, .inr (0, [.int (zI (B1)), v_1, .int (zI (P1)), v_3, v_4, v_5, v_6, v_7, v_8, v_9, v_10, .ref q_711, .ref q_712, .ref q_713, .ref q_714, .ref q_715, .ref q_716, .ref q_717, .ref q_718])), (q_711, .inl (cA_711, 300, .inl (fun j : Nat => zI (a_11 (j : Int))))), (q_712, .inl (cA_712, 300, .inl (fun j : Nat => zI (a_12 (j : Int))))), (q_713, .inl (cA_713, 301, .inl (fun j : Nat => zI (a_13 (j : Int))))), (q_714, .inl (cA_714, 600, .inl (fun j : Nat => zI (a_14 (j : Int))))), (q_715, .inl (cA_715, 301, .inl (fun j : Nat => zI (a_15 (j : Int))))), (q_716, .inl (cA_716, 1000, .inl (fun j : Nat => zI (a_16 (j : Int))))), (q_717, .inl (cA_717, 1000, .inl (fun j : Nat => zI (a_17 (j : Int))))), (q_718, .inl (cA_718, na1, .inr (.inl (fun j : Nat => lI (a_18 (j : Int))))))] sz)) 0 0 (va_A [(h0, .inr (1, [v1_0, .ref q_101, .ref q_102, .ref q_103, .ref q_104, .int (zI (z1_changed))])), (q_101, .inl (cA_101, 300, .inl (fun j : Nat => zI (a1_firstOpen (j : Int))))), (q_102, .inl (cA_102, 300, .inl (fun j : Nat => zI (a1_secondOpen (j : Int))))), (q_103, .inl (cA_103, 1024, .inl (fun j : Nat => zI (a1_kinds (j : Int))))), (q_104, .inl (cA_104, 1024, .inr (.inl (fun j : Nat => lI (a1_instead (j : Int)))))), (hc, .inr (0, [.int (zI (B1)), v_1, .int (zI (P1)), v_3, v_4, v_5, v_6, v_7, v_8, v_9, v_10, .ref q_711, .ref q_712, .ref q_713, .ref q_714, .ref q_715, .ref q_716, .ref q_717, .ref q_718])), (q_711, .inl (cA_711, 300, .inl (fun j : Nat => zI (a_11 (j : Int))))), (q_712, .inl (cA_712, 300, .inl (fun j : Nat => zI (a_12 (j : Int))))), (q_713, .inl (cA_713, 301, .inl (fun j : Nat => zI (a_13 (j : Int))))), (q_714, .inl (cA_714, 600, .inl (fun j : Nat => zI (a_14 (j : Int))))), (q_715, .inl (cA_715, 301, .inl (fun j : Nat => zI (a_15 (j : Int))))), (q_716, .inl (cA_716, 1000, .inl (fun j : Nat => zI (a_16 (j : Int))))), (q_717, .inl (cA_717, 1000, .inl (fun j : Nat => zI (a_17 (j : Int))))), (q_718, .inl (cA_718, na1, .inr (.inl (fun j : Nat => lI (a_18 (j : Int))))))] sz) := by
  refine Met.ofW (cc := cX1_lookAtPhi) (maxL := 10) (ret := none) (by decide) rfl ?_
  intro p e s m args below meth c s₁ B hml hv
  obtain ⟨rfl, hsz, hP, hK, hD0, hp0, hp1⟩ := hv
  have hx := B.exec
  have hb := B.bytes
  have hr := B.returns
  have hts := atoms_spec (ws := v_X1_lookAtPhi) B.pre
  have hown : s.vm.findClass RX1 = some m.cls := findClass_of_methodNamed B.named
  have hlocks := B.notSynchronized
  have ow : ∀ {k : Nat} {w : Cond}, o_X1_lookAtPhi[k]? = some w → w.before ([.ref h0, .ref hc, .int (zI (b)), .int (zI (i))] : List Value).toArray s = true := fun h => hts _ (mow_X1_lookAtPhi _ (List.mem_of_getElem? h))
  subst hsz
  have hD := hD0.self (sz := s.heap.size)
  generalize hAe : va_A [(h0, .inr (1, [v1_0, .ref q_101, .ref q_102, .ref q_103, .ref q_104, .int (zI (z1_changed))])), (q_101, .inl (cA_101, 300, .inl (fun j : Nat => zI (a1_firstOpen (j : Int))))), (q_102, .inl (cA_102, 300, .inl (fun j : Nat => zI (a1_secondOpen (j : Int))))), (q_103, .inl (cA_103, 1024, .inl (fun j : Nat => zI (a1_kinds (j : Int))))), (q_104, .inl (cA_104, 1024, .inr (.inl (fun j : Nat => lI (a1_instead (j : Int)))))), (hc, .inr (0, [.int (zI (B1)), v_1, .int (zI (P1)), v_3, v_4, v_5, v_6, v_7, v_8, v_9, v_10, .ref q_711, .ref q_712, .ref q_713, .ref q_714, .ref q_715, .ref q_716, .ref q_717, .ref q_718])), (q_711, .inl (cA_711, 300, .inl (fun j : Nat => zI (a_11 (j : Int))))), (q_712, .inl (cA_712, 300, .inl (fun j : Nat => zI (a_12 (j : Int))))), (q_713, .inl (cA_713, 301, .inl (fun j : Nat => zI (a_13 (j : Int))))), (q_714, .inl (cA_714, 600, .inl (fun j : Nat => zI (a_14 (j : Int))))), (q_715, .inl (cA_715, 301, .inl (fun j : Nat => zI (a_15 (j : Int))))), (q_716, .inl (cA_716, 1000, .inl (fun j : Nat => zI (a_16 (j : Int))))), (q_717, .inl (cA_717, 1000, .inl (fun j : Nat => zI (a_17 (j : Int))))), (q_718, .inl (cA_718, na1, .inr (.inl (fun j : Nat => lI (a_18 (j : Int))))))] s.heap.size = A at hD ⊢
  have hA : ∀ q : Nat, s.heap.size ≤ q → A q := fun q h => by rw [← hAe]; exact Or.inr h
  have hS : va_S A s.heap s.heap [] := va_S.rf
  have hP : va_P (dC, dI) vwP [(h0, .inr (1, [v1_0, .ref q_101, .ref q_102, .ref q_103, .ref q_104, .int (zI (z1_changed))])), (q_101, .inl (cA_101, 300, .inl (fun j : Nat => zI (a1_firstOpen (j : Int))))), (q_102, .inl (cA_102, 300, .inl (fun j : Nat => zI (a1_secondOpen (j : Int))))), (q_103, .inl (cA_103, 1024, .inl (fun j : Nat => zI (a1_kinds (j : Int))))), (q_104, .inl (cA_104, 1024, .inr (.inl (fun j : Nat => lI (a1_instead (j : Int)))))), (hc, .inr (0, [.int (zI (B1)), v_1, .int (zI (P1)), v_3, v_4, v_5, v_6, v_7, v_8, v_9, v_10, .ref q_711, .ref q_712, .ref q_713, .ref q_714, .ref q_715, .ref q_716, .ref q_717, .ref q_718])), (q_711, .inl (cA_711, 300, .inl (fun j : Nat => zI (a_11 (j : Int))))), (q_712, .inl (cA_712, 300, .inl (fun j : Nat => zI (a_12 (j : Int))))), (q_713, .inl (cA_713, 301, .inl (fun j : Nat => zI (a_13 (j : Int))))), (q_714, .inl (cA_714, 600, .inl (fun j : Nat => zI (a_14 (j : Int))))), (q_715, .inl (cA_715, 301, .inl (fun j : Nat => zI (a_15 (j : Int))))), (q_716, .inl (cA_716, 1000, .inl (fun j : Nat => zI (a_16 (j : Int))))), (q_717, .inl (cA_717, 1000, .inl (fun j : Nat => zI (a_17 (j : Int))))), (q_718, .inl (cA_718, na1, .inr (.inl (fun j : Nat => lI (a_18 (j : Int))))))] s.heap := hP
  have hl := lv_entry ([.ref h0, .ref hc, .int (zI (b)), .int (zI (i))]) (n := 10) (Nat.le_of_ble_eq_true rfl)
  rw [lg_entry_eq]
  generalize (lg_sl ([.ref h0, .ref hc, .int (zI (b)), .int (zI (i))]) ++ List.replicate (10 - (lg_sl ([.ref h0, .ref hc, .int (zI (b)), .int (zI (i))])).length) Slot.unset).toArray = ls at hl ⊢
  have hl : lv_has ls 10 [(0, .ref h0), (1, .ref hc), (2, .int (zI (b))), (3, .int (zI (i)))] := hl
  obtain ⟨H, hH⟩ : ∃ H, H = s.heap := ⟨_, rfl⟩
  rw [← hH] at hP
  have hS : va_S A s.heap H [] := by rw [hH]; exact hS
  rw [← hH]
  refine zW_cap (fun Q hQ => ?_)
  refine lv_iconst (v := 0) hx hb dX1_lookAtPhi_0 (by decide) ?_
  refine lv_istore (lv' := [(4, .int 0), (0, .ref h0), (1, .ref hc), (2, .int (zI (b))), (3, .int (zI (i)))]) hx hb dX1_lookAtPhi_1 hl (by decide) rfl (fun ls hl => ?_)
  refine lv_iconst (v := 0) hx hb dX1_lookAtPhi_3 (by decide) ?_
  refine lv_istore (lv' := [(5, .int 0), (4, .int 0), (0, .ref h0), (1, .ref hc), (2, .int (zI (b))), (3, .int (zI (i)))]) hx hb dX1_lookAtPhi_4 hl (by decide) rfl (fun ls hl => ?_)
  refine lv_iconst (v := 0) hx hb dX1_lookAtPhi_6 (by decide) ?_
  refine lv_istore (lv' := [(6, .int 0), (5, .int 0), (4, .int 0), (0, .ref h0), (1, .ref hc), (2, .int (zI (b))), (3, .int (zI (i)))]) hx hb dX1_lookAtPhi_7 hl (by decide) rfl (fun ls hl => ?_)
  have key9 : ∀ n9 : Nat, ∀ (d9_6 : Int) (d9_5 : Int32) (d9_4 : Int) (ls : Array Slot) (H : Heap) (locs : List Loc), (0 ≤ d9_6 ∧ d9_6 ≤ 1000000000) → (0 ≤ d9_4 ∧ d9_4 ≤ 2) → (((a_13 (b + 1) - a_13 (b)) - (d9_6) : Int).toNat) < n9 → lv_has ls 10 [(0, .ref h0), (1, .ref hc), (2, .int (zI (b))), (3, .int (zI (i))), (4, .int (zI (d9_4))), (5, .int d9_5), (6, .int (zI (d9_6)))] → va_P (dC, dI) vwP [(h0, .inr (1, [v1_0, .ref q_101, .ref q_102, .ref q_103, .ref q_104, .int (zI (z1_changed))])), (q_101, .inl (cA_101, 300, .inl (fun j : Nat => zI (a1_firstOpen (j : Int))))), (q_102, .inl (cA_102, 300, .inl (fun j : Nat => zI (a1_secondOpen (j : Int))))), (q_103, .inl (cA_103, 1024, .inl (fun j : Nat => zI (a1_kinds (j : Int))))), (q_104, .inl (cA_104, 1024, .inr (.inl (fun j : Nat => lI (a1_instead (j : Int)))))), (hc, .inr (0, [.int (zI (B1)), v_1, .int (zI (P1)), v_3, v_4, v_5, v_6, v_7, v_8, v_9, v_10, .ref q_711, .ref q_712, .ref q_713, .ref q_714, .ref q_715, .ref q_716, .ref q_717, .ref q_718])), (q_711, .inl (cA_711, 300, .inl (fun j : Nat => zI (a_11 (j : Int))))), (q_712, .inl (cA_712, 300, .inl (fun j : Nat => zI (a_12 (j : Int))))), (q_713, .inl (cA_713, 301, .inl (fun j : Nat => zI (a_13 (j : Int))))), (q_714, .inl (cA_714, 600, .inl (fun j : Nat => zI (a_14 (j : Int))))), (q_715, .inl (cA_715, 301, .inl (fun j : Nat => zI (a_15 (j : Int))))), (q_716, .inl (cA_716, 1000, .inl (fun j : Nat => zI (a_16 (j : Int))))), (q_717, .inl (cA_717, 1000, .inl (fun j : Nat => zI (a_17 (j : Int))))), (q_718, .inl (cA_718, na1, .inr (.inl (fun j : Nat => lI (a_18 (j : Int))))))] H → va_D A [(h0, .inr (1, [v1_0, .ref q_101, .ref q_102, .ref q_103, .ref q_104, .int (zI (z1_changed))])), (q_101, .inl (cA_101, 300, .inl (fun j : Nat => zI (a1_firstOpen (j : Int))))), (q_102, .inl (cA_102, 300, .inl (fun j : Nat => zI (a1_secondOpen (j : Int))))), (q_103, .inl (cA_103, 1024, .inl (fun j : Nat => zI (a1_kinds (j : Int))))), (q_104, .inl (cA_104, 1024, .inr (.inl (fun j : Nat => lI (a1_instead (j : Int)))))), (hc, .inr (0, [.int (zI (B1)), v_1, .int (zI (P1)), v_3, v_4, v_5, v_6, v_7, v_8, v_9, v_10, .ref q_711, .ref q_712, .ref q_713, .ref q_714, .ref q_715, .ref q_716, .ref q_717, .ref q_718])), (q_711, .inl (cA_711, 300, .inl (fun j : Nat => zI (a_11 (j : Int))))), (q_712, .inl (cA_712, 300, .inl (fun j : Nat => zI (a_12 (j : Int))))), (q_713, .inl (cA_713, 301, .inl (fun j : Nat => zI (a_13 (j : Int))))), (q_714, .inl (cA_714, 600, .inl (fun j : Nat => zI (a_14 (j : Int))))), (q_715, .inl (cA_715, 301, .inl (fun j : Nat => zI (a_15 (j : Int))))), (q_716, .inl (cA_716, 1000, .inl (fun j : Nat => zI (a_16 (j : Int))))), (q_717, .inl (cA_717, 1000, .inl (fun j : Nat => zI (a_17 (j : Int))))), (q_718, .inl (cA_718, na1, .inr (.inl (fun j : Nat => lI (a_18 (j : Int))))))] → va_S A s.heap H locs → W p l e (headSpec v_X1_lookAtPhi ({ frames := 2, cells := 0, slots := 0, locals := 43 })).room s m ([.ref h0, .ref hc, .int (zI (b)), .int (zI (i))] : List Value).toArray below meth c H locs 0 0 Q (F0 m 9 ls []) := by
    intro n9
    induction n9 with
    | zero => intro d9_6 d9_5 d9_4 ls H locs jd9_6 jd9_4 hm9; exact absurd hm9 (by omega)
    | succ n9 ih9 =>
      intro d9_6 d9_5 d9_4 ls H locs jd9_6 jd9_4 hm9 hl hP hD hS
      refine lv_iload hx hb dX1_lookAtPhi_9 (lv_at hl 6 rfl) ?_
      refine lv_aload_n hx hb dX1_lookAtPhi_11 rfl (lv_at hl 1 rfl) ?_
      refine lv_iload_n hx hb dX1_lookAtPhi_12 rfl (lv_at hl 2 rfl) ?_
      have hPc := hP.sub (ws' := [(hc, .inr (0, [.int (zI (B1)), v_1, .int (zI (P1)), v_3, v_4, v_5, v_6, v_7, v_8, v_9, v_10, .ref q_711, .ref q_712, .ref q_713, .ref q_714, .ref q_715, .ref q_716, .ref q_717, .ref q_718])), (q_713, .inl (cA_713, 301, .inl (fun j : Nat => zI (a_13 (j : Int)))))]) [5, 8] rfl
      have hDc := hD.sub (ws' := [(hc, .inr (0, [.int (zI (B1)), v_1, .int (zI (P1)), v_3, v_4, v_5, v_6, v_7, v_8, v_9, v_10, .ref q_711, .ref q_712, .ref q_713, .ref q_714, .ref q_715, .ref q_716, .ref q_717, .ref q_718])), (q_713, .inl (cA_713, 301, .inl (fun j : Nat => zI (a_13 (j : Int)))))]) [5, 8] (by decide) rfl
      have hKc := hK.sub (tys' := [(cA_713, .int)]) [6] rfl
      have hFc := va_free (wc := [(hc, .inr (0, [.int (zI (B1)), v_1, .int (zI (P1)), v_3, v_4, v_5, v_6, v_7, v_8, v_9, v_10, .ref q_711, .ref q_712, .ref q_713, .ref q_714, .ref q_715, .ref q_716, .ref q_717, .ref q_718])), (q_713, .inl (cA_713, 301, .inl (fun j : Nat => zI (a_13 (j : Int)))))]) hD hS hA [5, 8] rfl
      refine va_calli (va_runV (As := [.int (zI (b))]) (rest := [.int (zI (d9_6))]) ⟨hx, hb, hml, hown, hts⟩ (c_X0_predCount l dC dI hc (.int (zI (B1))) v_1 (.int (zI (P1))) v_3 v_4 v_5 v_6 v_7 v_8 v_9 v_10 (.ref q_711) (.ref q_712) q_713 cA_713 a_13 (.ref q_714) (.ref q_715) (.ref q_716) (.ref q_717) (.ref q_718) b hR_a_13 (by omega) H.size) (cwV 1 hts g_X1_lookAtPhi_X0_predCount rfl rfl rfl (by decide +kernel) ⟨(Nat.le_of_ble_eq_true rfl), (Nat.le_of_ble_eq_true rfl)⟩) ⟨fun a U g mk q => by obtain ⟨q0, q1, qP, qK, qD⟩ := q; exact ⟨q0, q1, qP, va_K.moved (u := U) (U := U.calling g mk a) (Vm.Alike.refl U.vm) qK, qD⟩, va_recv hKc hPc (ci := 0) (q0 := 0) rfl rfl, fun U hU hW => ⟨rfl, by rw [hU], by rw [hU]; exact hPc, va_K.moved hW.alike hKc, hDc.weaken (fun _ _ _ _ => trivial)⟩⟩ rfl rfl hl.1 rfl (lv_room (Nat.le_of_ble_eq_true rfl)) dX1_lookAtPhi_13 ⟨(Nat.le_of_ble_eq_true rfl), (Nat.le_of_ble_eq_true rfl)⟩) hS (fun q _ h => hFc q h) hFc (fun r_2001 u t H1 locs ht hvm hw hB hz1 hk1 hS => ?_)
      obtain ⟨hP1, hK1, hD1⟩ := hB
      rw [ht] at hP1
      have hK1 := va_K.moved hvm.symm hK1
      obtain ⟨hP, hD⟩ := va_join (wr := [(h0, .inr (1, [v1_0, .ref q_101, .ref q_102, .ref q_103, .ref q_104, .int (zI (z1_changed))])), (q_101, .inl (cA_101, 300, .inl (fun j : Nat => zI (a1_firstOpen (j : Int))))), (q_102, .inl (cA_102, 300, .inl (fun j : Nat => zI (a1_secondOpen (j : Int))))), (q_103, .inl (cA_103, 1024, .inl (fun j : Nat => zI (a1_kinds (j : Int))))), (q_104, .inl (cA_104, 1024, .inr (.inl (fun j : Nat => lI (a1_instead (j : Int)))))), (q_711, .inl (cA_711, 300, .inl (fun j : Nat => zI (a_11 (j : Int))))), (q_712, .inl (cA_712, 300, .inl (fun j : Nat => zI (a_12 (j : Int))))), (q_714, .inl (cA_714, 600, .inl (fun j : Nat => zI (a_14 (j : Int))))), (q_715, .inl (cA_715, 301, .inl (fun j : Nat => zI (a_15 (j : Int))))), (q_716, .inl (cA_716, 1000, .inl (fun j : Nat => zI (a_16 (j : Int))))), (q_717, .inl (cA_717, 1000, .inl (fun j : Nat => zI (a_17 (j : Int))))), (q_718, .inl (cA_718, na1, .inr (.inl (fun j : Nat => lI (a_18 (j : Int))))))]) (w1 := [(hc, .inr (0, [.int (zI (B1)), v_1, .int (zI (P1)), v_3, v_4, v_5, v_6, v_7, v_8, v_9, v_10, .ref q_711, .ref q_712, .ref q_713, .ref q_714, .ref q_715, .ref q_716, .ref q_717, .ref q_718])), (q_713, .inl (cA_713, 301, .inl (fun j : Nat => zI (a_13 (j : Int)))))]) hP hD [5, 8] [0, 1, 2, 3, 4, 6, 7, 9, 10, 11, 12, 13] rfl rfl (by decide) (by decide) hk1 hFc hP1 hD1
      have hK := (hK.sub (tys' := [(cA_101, .boolean), (cA_102, .boolean), (cA_103, .int), (cA_104, .long), (cA_711, .int), (cA_712, .int), (cA_714, .int), (cA_715, .int), (cA_716, .int), (cA_717, .int), (cA_718, .long)]) [0, 1, 2, 3, 4, 5, 7, 8, 9, 10, 11] rfl).app hK1
      generalize H1 = H at hP hS ⊢
      have hP : va_P (dC, dI) vwP [(h0, .inr (1, [v1_0, .ref q_101, .ref q_102, .ref q_103, .ref q_104, .int (zI (z1_changed))])), (q_101, .inl (cA_101, 300, .inl (fun j : Nat => zI (a1_firstOpen (j : Int))))), (q_102, .inl (cA_102, 300, .inl (fun j : Nat => zI (a1_secondOpen (j : Int))))), (q_103, .inl (cA_103, 1024, .inl (fun j : Nat => zI (a1_kinds (j : Int))))), (q_104, .inl (cA_104, 1024, .inr (.inl (fun j : Nat => lI (a1_instead (j : Int)))))), (q_711, .inl (cA_711, 300, .inl (fun j : Nat => zI (a_11 (j : Int))))), (q_712, .inl (cA_712, 300, .inl (fun j : Nat => zI (a_12 (j : Int))))), (q_714, .inl (cA_714, 600, .inl (fun j : Nat => zI (a_14 (j : Int))))), (q_715, .inl (cA_715, 301, .inl (fun j : Nat => zI (a_15 (j : Int))))), (q_716, .inl (cA_716, 1000, .inl (fun j : Nat => zI (a_16 (j : Int))))), (q_717, .inl (cA_717, 1000, .inl (fun j : Nat => zI (a_17 (j : Int))))), (q_718, .inl (cA_718, na1, .inr (.inl (fun j : Nat => lI (a_18 (j : Int)))))), (hc, .inr (0, [.int (zI (B1)), v_1, .int (zI (P1)), v_3, v_4, v_5, v_6, v_7, v_8, v_9, v_10, .ref q_711, .ref q_712, .ref q_713, .ref q_714, .ref q_715, .ref q_716, .ref q_717, .ref q_718])), (q_713, .inl (cA_713, 301, .inl (fun j : Nat => zI (a_13 (j : Int)))))] H := hP
      have hD : va_D A [(h0, .inr (1, [v1_0, .ref q_101, .ref q_102, .ref q_103, .ref q_104, .int (zI (z1_changed))])), (q_101, .inl (cA_101, 300, .inl (fun j : Nat => zI (a1_firstOpen (j : Int))))), (q_102, .inl (cA_102, 300, .inl (fun j : Nat => zI (a1_secondOpen (j : Int))))), (q_103, .inl (cA_103, 1024, .inl (fun j : Nat => zI (a1_kinds (j : Int))))), (q_104, .inl (cA_104, 1024, .inr (.inl (fun j : Nat => lI (a1_instead (j : Int)))))), (q_711, .inl (cA_711, 300, .inl (fun j : Nat => zI (a_11 (j : Int))))), (q_712, .inl (cA_712, 300, .inl (fun j : Nat => zI (a_12 (j : Int))))), (q_714, .inl (cA_714, 600, .inl (fun j : Nat => zI (a_14 (j : Int))))), (q_715, .inl (cA_715, 301, .inl (fun j : Nat => zI (a_15 (j : Int))))), (q_716, .inl (cA_716, 1000, .inl (fun j : Nat => zI (a_16 (j : Int))))), (q_717, .inl (cA_717, 1000, .inl (fun j : Nat => zI (a_17 (j : Int))))), (q_718, .inl (cA_718, na1, .inr (.inl (fun j : Nat => lI (a_18 (j : Int)))))), (hc, .inr (0, [.int (zI (B1)), v_1, .int (zI (P1)), v_3, v_4, v_5, v_6, v_7, v_8, v_9, v_10, .ref q_711, .ref q_712, .ref q_713, .ref q_714, .ref q_715, .ref q_716, .ref q_717, .ref q_718])), (q_713, .inl (cA_713, 301, .inl (fun j : Nat => zI (a_13 (j : Int)))))] := hD
      have hK : va_K (dC, dI) vwP [(cA_101, .boolean), (cA_102, .boolean), (cA_103, .int), (cA_104, .long), (cA_711, .int), (cA_712, .int), (cA_714, .int), (cA_715, .int), (cA_716, .int), (cA_717, .int), (cA_718, .long), (cA_713, .int)] s := hK
      refine W.widen (k := 0) (n := 0) (Nat.le_of_ble_eq_true rfl) (Nat.le_of_ble_eq_true rfl) ?_
      obtain rfl : r_2001 = (zI (a_13 (b + 1) - a_13 (b))) := hw
      have k1 := hR_a_13 (b + 1)
      have k2 := hR_a_13 (b)
      refine lv_icmp_ge (tgt := 125) hx hb dX1_lookAtPhi_16 (by decide) (fun b16 => ?_) (fun b16 => ?_)
      · have yb16 : (a_13 (b + 1) - a_13 (b) : Int) ≤ (d9_6 : Int) := (zI_le (a := a_13 (b + 1) - a_13 (b)) (b := d9_6) (by omega) (by omega) (by omega) (by omega)).mp b16
        refine lv_aload_n hx hb dX1_lookAtPhi_125 rfl (lv_at hl 0 rfl) ?_
        refine lv_aload_n hx hb dX1_lookAtPhi_126 rfl (lv_at hl 1 rfl) ?_
        refine va_get (D := (dC, dI)) (ci := 0) (v := .ref q_716) (C := RX0) (T := TX0) (N := 19) hx hb hts mem_X1_lookAtPhi_1 hown hK hP 12 rfl rfl 16 (by decide) (ow (k := 4) rfl) (fun _ h9 => h9) rfl dX1_lookAtPhi_127 ?_
        refine lv_iload_n hx hb dX1_lookAtPhi_130 rfl (lv_at hl 3 rfl) ?_
        refine va_iald hx hb hK hP 9 8 rfl rfl (zI_in (a := i) (n := 1000) (by omega) (by omega) (by decide)) dX1_lookAtPhi_131 ?_
        refine lv_topi (fun z ez => ?_)
        obtain rfl : z = zI (a_16 (i)) := ez.trans (zI_ld (a_16) (by omega) (by omega))
        have k3 := hR_a_16 (i)
        refine lv_iload hx hb dX1_lookAtPhi_132 (lv_at hl 4 rfl) ?_
        refine lv_iload hx hb dX1_lookAtPhi_134 (lv_at hl 5 rfl) ?_
        have hq1 := hX_P (b + 1) (by omega) (by omega)
        have hq2 := hX_T (i) (by omega) (by omega)
        have hPc := hP.sub (ws' := [(h0, .inr (1, [v1_0, .ref q_101, .ref q_102, .ref q_103, .ref q_104, .int (zI (z1_changed))])), (q_103, .inl (cA_103, 1024, .inl (fun j : Nat => zI (a1_kinds (j : Int))))), (q_104, .inl (cA_104, 1024, .inr (.inl (fun j : Nat => lI (a1_instead (j : Int))))))]) [0, 3, 4] rfl
        have hDc := hD.sub (ws' := [(h0, .inr (1, [v1_0, .ref q_101, .ref q_102, .ref q_103, .ref q_104, .int (zI (z1_changed))])), (q_103, .inl (cA_103, 1024, .inl (fun j : Nat => zI (a1_kinds (j : Int))))), (q_104, .inl (cA_104, 1024, .inr (.inl (fun j : Nat => lI (a1_instead (j : Int))))))]) [0, 3, 4] (by decide) rfl
        have hKc := hK.sub (tys' := [(cA_103, .int), (cA_104, .long)]) [2, 3] rfl
        have hFc := va_free (wc := [(h0, .inr (1, [v1_0, .ref q_101, .ref q_102, .ref q_103, .ref q_104, .int (zI (z1_changed))])), (q_103, .inl (cA_103, 1024, .inl (fun j : Nat => zI (a1_kinds (j : Int))))), (q_104, .inl (cA_104, 1024, .inr (.inl (fun j : Nat => lI (a1_instead (j : Int))))))]) hD hS hA [0, 3, 4] rfl
        refine va_callv (va_runV (As := [.int (zI (a_16 (i))), .int (zI (d9_4)), .int d9_5]) (rest := []) ⟨hx, hb, hml, hown, hts⟩ (c_X1_tell l dC dI h0 v1_0 (.ref q_101) (.ref q_102) q_103 cA_103 a1_kinds q_104 cA_104 a1_instead z1_changed (a_16 (i)) d9_4 d9_5 hR_a1_kinds hR_a1_instead (by omega) (by omega) (by omega) H.size) (cwV 3 hts g_X1_lookAtPhi_X1_tell rfl rfl rfl (by decide +kernel) ⟨(Nat.le_of_ble_eq_true rfl), (Nat.le_of_ble_eq_true rfl)⟩) ⟨fun a U g mk q => by obtain ⟨q0, q1, qP, qK, qD⟩ := q; exact ⟨q0, q1, qP, va_K.moved (u := U) (U := U.calling g mk a) (Vm.Alike.refl U.vm) qK, qD⟩, va_recv hKc hPc (ci := 1) (q0 := 0) rfl rfl, fun U hU hW => ⟨rfl, by rw [hU], by rw [hU]; exact hPc, va_K.moved hW.alike hKc, hDc.weaken (fun _ _ _ _ => trivial)⟩⟩ rfl rfl hl.1 rfl (lv_room (Nat.le_of_ble_eq_true rfl)) dX1_lookAtPhi_136 ⟨(Nat.le_of_ble_eq_true rfl), (Nat.le_of_ble_eq_true rfl)⟩) hS (fun q _ h => hFc q h) hFc (fun  u t H1 locs ht hvm hw hB hz1 hk1 hS => ?_)
        obtain ⟨z0_2002, a1_2003, a2_2004, hxt_2004, hP1, hK1, hD1⟩ := hB
        rw [ht] at hP1
        have hK1 := va_K.moved hvm.symm hK1
        obtain ⟨hP, hD⟩ := va_join (wr := [(q_101, .inl (cA_101, 300, .inl (fun j : Nat => zI (a1_firstOpen (j : Int))))), (q_102, .inl (cA_102, 300, .inl (fun j : Nat => zI (a1_secondOpen (j : Int))))), (q_711, .inl (cA_711, 300, .inl (fun j : Nat => zI (a_11 (j : Int))))), (q_712, .inl (cA_712, 300, .inl (fun j : Nat => zI (a_12 (j : Int))))), (q_714, .inl (cA_714, 600, .inl (fun j : Nat => zI (a_14 (j : Int))))), (q_715, .inl (cA_715, 301, .inl (fun j : Nat => zI (a_15 (j : Int))))), (q_716, .inl (cA_716, 1000, .inl (fun j : Nat => zI (a_16 (j : Int))))), (q_717, .inl (cA_717, 1000, .inl (fun j : Nat => zI (a_17 (j : Int))))), (q_718, .inl (cA_718, na1, .inr (.inl (fun j : Nat => lI (a_18 (j : Int)))))), (hc, .inr (0, [.int (zI (B1)), v_1, .int (zI (P1)), v_3, v_4, v_5, v_6, v_7, v_8, v_9, v_10, .ref q_711, .ref q_712, .ref q_713, .ref q_714, .ref q_715, .ref q_716, .ref q_717, .ref q_718])), (q_713, .inl (cA_713, 301, .inl (fun j : Nat => zI (a_13 (j : Int)))))]) (w1 := [(h0, .inr (1, [v1_0, .ref q_101, .ref q_102, .ref q_103, .ref q_104, .int (zI (z0_2002))])), (q_103, .inl (cA_103, 1024, .inl (fun j : Nat => zI (a1_2003 (j : Int))))), (q_104, .inl (cA_104, 1024, .inr (.inl (fun j : Nat => lI (a2_2004 (j : Int))))))]) hP hD [0, 3, 4] [1, 2, 5, 6, 7, 8, 9, 10, 11, 12, 13] rfl rfl (by decide) (by decide) hk1 hFc hP1 hD1
        have hK := (hK.sub (tys' := [(cA_101, .boolean), (cA_102, .boolean), (cA_711, .int), (cA_712, .int), (cA_714, .int), (cA_715, .int), (cA_716, .int), (cA_717, .int), (cA_718, .long), (cA_713, .int)]) [0, 1, 4, 5, 6, 7, 8, 9, 10, 11] rfl).app hK1
        generalize H1 = H at hP hS ⊢
        have hP : va_P (dC, dI) vwP [(q_101, .inl (cA_101, 300, .inl (fun j : Nat => zI (a1_firstOpen (j : Int))))), (q_102, .inl (cA_102, 300, .inl (fun j : Nat => zI (a1_secondOpen (j : Int))))), (q_711, .inl (cA_711, 300, .inl (fun j : Nat => zI (a_11 (j : Int))))), (q_712, .inl (cA_712, 300, .inl (fun j : Nat => zI (a_12 (j : Int))))), (q_714, .inl (cA_714, 600, .inl (fun j : Nat => zI (a_14 (j : Int))))), (q_715, .inl (cA_715, 301, .inl (fun j : Nat => zI (a_15 (j : Int))))), (q_716, .inl (cA_716, 1000, .inl (fun j : Nat => zI (a_16 (j : Int))))), (q_717, .inl (cA_717, 1000, .inl (fun j : Nat => zI (a_17 (j : Int))))), (q_718, .inl (cA_718, na1, .inr (.inl (fun j : Nat => lI (a_18 (j : Int)))))), (hc, .inr (0, [.int (zI (B1)), v_1, .int (zI (P1)), v_3, v_4, v_5, v_6, v_7, v_8, v_9, v_10, .ref q_711, .ref q_712, .ref q_713, .ref q_714, .ref q_715, .ref q_716, .ref q_717, .ref q_718])), (q_713, .inl (cA_713, 301, .inl (fun j : Nat => zI (a_13 (j : Int))))), (h0, .inr (1, [v1_0, .ref q_101, .ref q_102, .ref q_103, .ref q_104, .int (zI (z0_2002))])), (q_103, .inl (cA_103, 1024, .inl (fun j : Nat => zI (a1_2003 (j : Int))))), (q_104, .inl (cA_104, 1024, .inr (.inl (fun j : Nat => lI (a2_2004 (j : Int))))))] H := hP
        have hD : va_D A [(q_101, .inl (cA_101, 300, .inl (fun j : Nat => zI (a1_firstOpen (j : Int))))), (q_102, .inl (cA_102, 300, .inl (fun j : Nat => zI (a1_secondOpen (j : Int))))), (q_711, .inl (cA_711, 300, .inl (fun j : Nat => zI (a_11 (j : Int))))), (q_712, .inl (cA_712, 300, .inl (fun j : Nat => zI (a_12 (j : Int))))), (q_714, .inl (cA_714, 600, .inl (fun j : Nat => zI (a_14 (j : Int))))), (q_715, .inl (cA_715, 301, .inl (fun j : Nat => zI (a_15 (j : Int))))), (q_716, .inl (cA_716, 1000, .inl (fun j : Nat => zI (a_16 (j : Int))))), (q_717, .inl (cA_717, 1000, .inl (fun j : Nat => zI (a_17 (j : Int))))), (q_718, .inl (cA_718, na1, .inr (.inl (fun j : Nat => lI (a_18 (j : Int)))))), (hc, .inr (0, [.int (zI (B1)), v_1, .int (zI (P1)), v_3, v_4, v_5, v_6, v_7, v_8, v_9, v_10, .ref q_711, .ref q_712, .ref q_713, .ref q_714, .ref q_715, .ref q_716, .ref q_717, .ref q_718])), (q_713, .inl (cA_713, 301, .inl (fun j : Nat => zI (a_13 (j : Int))))), (h0, .inr (1, [v1_0, .ref q_101, .ref q_102, .ref q_103, .ref q_104, .int (zI (z0_2002))])), (q_103, .inl (cA_103, 1024, .inl (fun j : Nat => zI (a1_2003 (j : Int))))), (q_104, .inl (cA_104, 1024, .inr (.inl (fun j : Nat => lI (a2_2004 (j : Int))))))] := hD
        have hK : va_K (dC, dI) vwP [(cA_101, .boolean), (cA_102, .boolean), (cA_711, .int), (cA_712, .int), (cA_714, .int), (cA_715, .int), (cA_716, .int), (cA_717, .int), (cA_718, .long), (cA_713, .int), (cA_103, .int), (cA_104, .long)] s := hK
        refine W.widen (k := 0) (n := 0) (Nat.le_of_ble_eq_true rfl) (Nat.le_of_ble_eq_true rfl) ?_
        obtain ⟨rk_2005, rk_2006, rk_2007⟩ := hxt_2004
        subst hQ
        have hP := hP.sub (ws' := [(h0, .inr (1, [v1_0, .ref q_101, .ref q_102, .ref q_103, .ref q_104, .int (zI (z0_2002))])), (q_101, .inl (cA_101, 300, .inl (fun j : Nat => zI (a1_firstOpen (j : Int))))), (q_102, .inl (cA_102, 300, .inl (fun j : Nat => zI (a1_secondOpen (j : Int))))), (q_103, .inl (cA_103, 1024, .inl (fun j : Nat => zI (a1_2003 (j : Int))))), (q_104, .inl (cA_104, 1024, .inr (.inl (fun j : Nat => lI (a2_2004 (j : Int)))))), (hc, .inr (0, [.int (zI (B1)), v_1, .int (zI (P1)), v_3, v_4, v_5, v_6, v_7, v_8, v_9, v_10, .ref q_711, .ref q_712, .ref q_713, .ref q_714, .ref q_715, .ref q_716, .ref q_717, .ref q_718])), (q_711, .inl (cA_711, 300, .inl (fun j : Nat => zI (a_11 (j : Int))))), (q_712, .inl (cA_712, 300, .inl (fun j : Nat => zI (a_12 (j : Int))))), (q_713, .inl (cA_713, 301, .inl (fun j : Nat => zI (a_13 (j : Int))))), (q_714, .inl (cA_714, 600, .inl (fun j : Nat => zI (a_14 (j : Int))))), (q_715, .inl (cA_715, 301, .inl (fun j : Nat => zI (a_15 (j : Int))))), (q_716, .inl (cA_716, 1000, .inl (fun j : Nat => zI (a_16 (j : Int))))), (q_717, .inl (cA_717, 1000, .inl (fun j : Nat => zI (a_17 (j : Int))))), (q_718, .inl (cA_718, na1, .inr (.inl (fun j : Nat => lI (a_18 (j : Int))))))]) [11, 0, 1, 12, 13, 9, 2, 3, 10, 4, 5, 6, 7, 8] rfl
        have hD := hD.sub (ws' := [(h0, .inr (1, [v1_0, .ref q_101, .ref q_102, .ref q_103, .ref q_104, .int (zI (z0_2002))])), (q_101, .inl (cA_101, 300, .inl (fun j : Nat => zI (a1_firstOpen (j : Int))))), (q_102, .inl (cA_102, 300, .inl (fun j : Nat => zI (a1_secondOpen (j : Int))))), (q_103, .inl (cA_103, 1024, .inl (fun j : Nat => zI (a1_2003 (j : Int))))), (q_104, .inl (cA_104, 1024, .inr (.inl (fun j : Nat => lI (a2_2004 (j : Int)))))), (hc, .inr (0, [.int (zI (B1)), v_1, .int (zI (P1)), v_3, v_4, v_5, v_6, v_7, v_8, v_9, v_10, .ref q_711, .ref q_712, .ref q_713, .ref q_714, .ref q_715, .ref q_716, .ref q_717, .ref q_718])), (q_711, .inl (cA_711, 300, .inl (fun j : Nat => zI (a_11 (j : Int))))), (q_712, .inl (cA_712, 300, .inl (fun j : Nat => zI (a_12 (j : Int))))), (q_713, .inl (cA_713, 301, .inl (fun j : Nat => zI (a_13 (j : Int))))), (q_714, .inl (cA_714, 600, .inl (fun j : Nat => zI (a_14 (j : Int))))), (q_715, .inl (cA_715, 301, .inl (fun j : Nat => zI (a_15 (j : Int))))), (q_716, .inl (cA_716, 1000, .inl (fun j : Nat => zI (a_16 (j : Int))))), (q_717, .inl (cA_717, 1000, .inl (fun j : Nat => zI (a_17 (j : Int))))), (q_718, .inl (cA_718, na1, .inr (.inl (fun j : Nat => lI (a_18 (j : Int))))))]) [11, 0, 1, 12, 13, 9, 2, 3, 10, 4, 5, 6, 7, 8] (by decide) rfl
        have hK := hK.sub (tys' := [(cA_101, .boolean), (cA_102, .boolean), (cA_103, .int), (cA_104, .long), (cA_711, .int), (cA_712, .int), (cA_713, .int), (cA_714, .int), (cA_715, .int), (cA_716, .int), (cA_717, .int), (cA_718, .long)]) [0, 1, 10, 11, 2, 3, 9, 4, 5, 6, 7, 8] rfl
        refine W.widen (k := 0) (n := 0) (Nat.le_of_ble_eq_true rfl) (Nat.le_of_ble_eq_true rfl) ?_
        exact W.vret hx hb hr (fun t ht hW => ⟨⟨(), rfl, trivial, z0_2002, a1_2003, a2_2004, ⟨(by omega), rk_2006, rk_2007⟩, by rw [ht]; exact hP, va_K.moved hW.alike hK, hD⟩, hS.F ht⟩) hS.2.2 dX1_lookAtPhi_139
      · have yb16 : ¬ (a_13 (b + 1) - a_13 (b) : Int) ≤ (d9_6 : Int) := fun q => b16 ((zI_le (a := a_13 (b + 1) - a_13 (b)) (b := d9_6) (by omega) (by omega) (by omega) (by omega)).mpr q)
        refine lv_aload_n hx hb dX1_lookAtPhi_19 rfl (lv_at hl 1 rfl) ?_
        refine va_get (D := (dC, dI)) (ci := 0) (v := .ref q_718) (C := RX0) (T := TX0) (N := 19) hx hb hts mem_X1_lookAtPhi_1 hown hK hP 12 rfl rfl 18 (by decide) (ow (k := 9) rfl) (fun _ h9 => h9) rfl dX1_lookAtPhi_20 ?_
        refine lv_aload_n hx hb dX1_lookAtPhi_23 rfl (lv_at hl 1 rfl) ?_
        refine va_get (D := (dC, dI)) (ci := 0) (v := .ref q_717) (C := RX0) (T := TX0) (N := 19) hx hb hts mem_X1_lookAtPhi_1 hown hK hP 12 rfl rfl 17 (by decide) (ow (k := 10) rfl) (fun _ h9 => h9) rfl dX1_lookAtPhi_24 ?_
        refine lv_iload_n hx hb dX1_lookAtPhi_27 rfl (lv_at hl 3 rfl) ?_
        refine va_iald hx hb hK hP 10 9 rfl rfl (zI_in (a := i) (n := 1000) (by omega) (by omega) (by decide)) dX1_lookAtPhi_28 ?_
        refine lv_topi (fun z ez => ?_)
        obtain rfl : z = zI (a_17 (i)) := ez.trans (zI_ld (a_17) (by omega) (by omega))
        have k4 := hR_a_17 (i)
        refine lv_iload hx hb dX1_lookAtPhi_29 (lv_at hl 6 rfl) ?_
        refine lv_iadd hx hb dX1_lookAtPhi_31 ?_
        refine lv_topi (fun z ez => ?_)
        obtain rfl : z = zI ((a_17 (i)) + d9_6) := ez.trans (zI_add (a_17 (i)) (d9_6))
        have hq := hX_A (b) (i) (by omega) (by omega) (by omega) (by omega)
        refine va_lald hx hb hK hP 11 10 rfl rfl (zI_in (a := (a_17 (i)) + d9_6) (n := na1) (by omega) (by omega) (by omega)) dX1_lookAtPhi_32 ?_
        refine lv_topl (fun z ez => ?_)
        obtain rfl : z = lI (a_18 ((a_17 (i)) + d9_6)) := ez.trans (lI_ld (a_18) (by omega) (by omega))
        have k5 := hR_a_18 ((a_17 (i)) + d9_6)
        refine lv_lstore (lv' := [(7, .long (lI (a_18 ((a_17 (i)) + d9_6)))), (0, .ref h0), (1, .ref hc), (2, .int (zI (b))), (3, .int (zI (i))), (4, .int (zI (d9_4))), (5, .int d9_5), (6, .int (zI (d9_6)))]) hx hb dX1_lookAtPhi_33 hl (by decide) rfl (fun ls hl => ?_)
        refine lv_aload_n hx hb dX1_lookAtPhi_35 rfl (lv_at hl 1 rfl) ?_
        refine lv_lload hx hb dX1_lookAtPhi_36 (lv_at hl 0 rfl) ?_
        have hPc := hP.sub (ws' := [(h0, .inr (1, [v1_0, .ref q_101, .ref q_102, .ref q_103, .ref q_104, .int (zI (z1_changed))])), (q_103, .inl (cA_103, 1024, .inl (fun j : Nat => zI (a1_kinds (j : Int)))))]) [0, 3] rfl
        have hDc := hD.sub (ws' := [(h0, .inr (1, [v1_0, .ref q_101, .ref q_102, .ref q_103, .ref q_104, .int (zI (z1_changed))])), (q_103, .inl (cA_103, 1024, .inl (fun j : Nat => zI (a1_kinds (j : Int)))))]) [0, 3] (by decide) rfl
        have hKc := hK.sub (tys' := [(cA_103, .int)]) [2] rfl
        have hFc := va_free (wc := [(h0, .inr (1, [v1_0, .ref q_101, .ref q_102, .ref q_103, .ref q_104, .int (zI (z1_changed))])), (q_103, .inl (cA_103, 1024, .inl (fun j : Nat => zI (a1_kinds (j : Int)))))]) hD hS hA [0, 3] rfl
        refine va_calli (va_runV (As := [.long (lI (a_18 ((a_17 (i)) + d9_6)))]) (rest := []) ⟨hx, hb, hml, hown, hts⟩ (c_X1_kindOf l dC dI h0 v1_0 (.ref q_101) (.ref q_102) q_103 cA_103 a1_kinds (.ref q_104) (.int (zI (z1_changed))) (a_18 ((a_17 (i)) + d9_6)) hR_a1_kinds (by omega) H.size) (cwV 1 hts g_X1_lookAtPhi_X1_kindOf rfl rfl rfl (by decide +kernel) ⟨(Nat.le_of_ble_eq_true rfl), (Nat.le_of_ble_eq_true rfl)⟩) ⟨fun a U g mk q => by obtain ⟨q0, q1, qP, qK, qD, e0, e1⟩ := q; exact ⟨q0, q1, qP, va_K.moved (u := U) (U := U.calling g mk a) (Vm.Alike.refl U.vm) qK, qD, va_Nw.same rfl (u := U) (U := U.calling g mk a) rfl e0, va_Nw.same rfl (u := U) (U := U.calling g mk a) rfl e1⟩, va_recv hKc hPc (ci := 1) (q0 := 0) rfl rfl, fun U hU hW => ⟨rfl, by rw [hU], by rw [hU]; exact hPc, va_K.moved hW.alike hKc, hDc.weaken (fun _ _ _ _ => trivial), va_Nw.warmM hW hp0, va_Nw.warmM hW hp1⟩⟩ rfl rfl hl.1 rfl (lv_room (Nat.le_of_ble_eq_true rfl)) dX1_lookAtPhi_38 ⟨(Nat.le_of_ble_eq_true rfl), (Nat.le_of_ble_eq_true rfl)⟩) hS (fun q _ h => hFc q h) hFc (fun r_2008 u t H1 locs ht hvm hw hB hz1 hk1 hS => ?_)
        obtain ⟨hP1, hK1, hD1⟩ := hB
        rw [ht] at hP1
        have hK1 := va_K.moved hvm.symm hK1
        obtain ⟨hP, hD⟩ := va_join (wr := [(q_101, .inl (cA_101, 300, .inl (fun j : Nat => zI (a1_firstOpen (j : Int))))), (q_102, .inl (cA_102, 300, .inl (fun j : Nat => zI (a1_secondOpen (j : Int))))), (q_104, .inl (cA_104, 1024, .inr (.inl (fun j : Nat => lI (a1_instead (j : Int)))))), (q_711, .inl (cA_711, 300, .inl (fun j : Nat => zI (a_11 (j : Int))))), (q_712, .inl (cA_712, 300, .inl (fun j : Nat => zI (a_12 (j : Int))))), (q_714, .inl (cA_714, 600, .inl (fun j : Nat => zI (a_14 (j : Int))))), (q_715, .inl (cA_715, 301, .inl (fun j : Nat => zI (a_15 (j : Int))))), (q_716, .inl (cA_716, 1000, .inl (fun j : Nat => zI (a_16 (j : Int))))), (q_717, .inl (cA_717, 1000, .inl (fun j : Nat => zI (a_17 (j : Int))))), (q_718, .inl (cA_718, na1, .inr (.inl (fun j : Nat => lI (a_18 (j : Int)))))), (hc, .inr (0, [.int (zI (B1)), v_1, .int (zI (P1)), v_3, v_4, v_5, v_6, v_7, v_8, v_9, v_10, .ref q_711, .ref q_712, .ref q_713, .ref q_714, .ref q_715, .ref q_716, .ref q_717, .ref q_718])), (q_713, .inl (cA_713, 301, .inl (fun j : Nat => zI (a_13 (j : Int)))))]) (w1 := [(h0, .inr (1, [v1_0, .ref q_101, .ref q_102, .ref q_103, .ref q_104, .int (zI (z1_changed))])), (q_103, .inl (cA_103, 1024, .inl (fun j : Nat => zI (a1_kinds (j : Int)))))]) hP hD [0, 3] [1, 2, 4, 5, 6, 7, 8, 9, 10, 11, 12, 13] rfl rfl (by decide) (by decide) hk1 hFc hP1 hD1
        have hK := (hK.sub (tys' := [(cA_101, .boolean), (cA_102, .boolean), (cA_104, .long), (cA_711, .int), (cA_712, .int), (cA_714, .int), (cA_715, .int), (cA_716, .int), (cA_717, .int), (cA_718, .long), (cA_713, .int)]) [0, 1, 3, 4, 5, 6, 7, 8, 9, 10, 11] rfl).app hK1
        generalize H1 = H at hP hS ⊢
        have hP : va_P (dC, dI) vwP [(q_101, .inl (cA_101, 300, .inl (fun j : Nat => zI (a1_firstOpen (j : Int))))), (q_102, .inl (cA_102, 300, .inl (fun j : Nat => zI (a1_secondOpen (j : Int))))), (q_104, .inl (cA_104, 1024, .inr (.inl (fun j : Nat => lI (a1_instead (j : Int)))))), (q_711, .inl (cA_711, 300, .inl (fun j : Nat => zI (a_11 (j : Int))))), (q_712, .inl (cA_712, 300, .inl (fun j : Nat => zI (a_12 (j : Int))))), (q_714, .inl (cA_714, 600, .inl (fun j : Nat => zI (a_14 (j : Int))))), (q_715, .inl (cA_715, 301, .inl (fun j : Nat => zI (a_15 (j : Int))))), (q_716, .inl (cA_716, 1000, .inl (fun j : Nat => zI (a_16 (j : Int))))), (q_717, .inl (cA_717, 1000, .inl (fun j : Nat => zI (a_17 (j : Int))))), (q_718, .inl (cA_718, na1, .inr (.inl (fun j : Nat => lI (a_18 (j : Int)))))), (hc, .inr (0, [.int (zI (B1)), v_1, .int (zI (P1)), v_3, v_4, v_5, v_6, v_7, v_8, v_9, v_10, .ref q_711, .ref q_712, .ref q_713, .ref q_714, .ref q_715, .ref q_716, .ref q_717, .ref q_718])), (q_713, .inl (cA_713, 301, .inl (fun j : Nat => zI (a_13 (j : Int))))), (h0, .inr (1, [v1_0, .ref q_101, .ref q_102, .ref q_103, .ref q_104, .int (zI (z1_changed))])), (q_103, .inl (cA_103, 1024, .inl (fun j : Nat => zI (a1_kinds (j : Int)))))] H := hP
        have hD : va_D A [(q_101, .inl (cA_101, 300, .inl (fun j : Nat => zI (a1_firstOpen (j : Int))))), (q_102, .inl (cA_102, 300, .inl (fun j : Nat => zI (a1_secondOpen (j : Int))))), (q_104, .inl (cA_104, 1024, .inr (.inl (fun j : Nat => lI (a1_instead (j : Int)))))), (q_711, .inl (cA_711, 300, .inl (fun j : Nat => zI (a_11 (j : Int))))), (q_712, .inl (cA_712, 300, .inl (fun j : Nat => zI (a_12 (j : Int))))), (q_714, .inl (cA_714, 600, .inl (fun j : Nat => zI (a_14 (j : Int))))), (q_715, .inl (cA_715, 301, .inl (fun j : Nat => zI (a_15 (j : Int))))), (q_716, .inl (cA_716, 1000, .inl (fun j : Nat => zI (a_16 (j : Int))))), (q_717, .inl (cA_717, 1000, .inl (fun j : Nat => zI (a_17 (j : Int))))), (q_718, .inl (cA_718, na1, .inr (.inl (fun j : Nat => lI (a_18 (j : Int)))))), (hc, .inr (0, [.int (zI (B1)), v_1, .int (zI (P1)), v_3, v_4, v_5, v_6, v_7, v_8, v_9, v_10, .ref q_711, .ref q_712, .ref q_713, .ref q_714, .ref q_715, .ref q_716, .ref q_717, .ref q_718])), (q_713, .inl (cA_713, 301, .inl (fun j : Nat => zI (a_13 (j : Int))))), (h0, .inr (1, [v1_0, .ref q_101, .ref q_102, .ref q_103, .ref q_104, .int (zI (z1_changed))])), (q_103, .inl (cA_103, 1024, .inl (fun j : Nat => zI (a1_kinds (j : Int)))))] := hD
        have hK : va_K (dC, dI) vwP [(cA_101, .boolean), (cA_102, .boolean), (cA_104, .long), (cA_711, .int), (cA_712, .int), (cA_714, .int), (cA_715, .int), (cA_716, .int), (cA_717, .int), (cA_718, .long), (cA_713, .int), (cA_103, .int)] s := hK
        refine W.widen (k := 0) (n := 0) (Nat.le_of_ble_eq_true rfl) (Nat.le_of_ble_eq_true rfl) ?_
        have hw_2009 := hw
        obtain ⟨z_2010, rfl, hzz_2010⟩ := hw_2009
        refine lv_istore (lv' := [(9, .int (zI (z_2010))), (7, .long (lI (a_18 ((a_17 (i)) + d9_6)))), (0, .ref h0), (1, .ref hc), (2, .int (zI (b))), (3, .int (zI (i))), (4, .int (zI (d9_4))), (5, .int d9_5), (6, .int (zI (d9_6)))]) hx hb dX1_lookAtPhi_41 hl (by decide) rfl (fun ls hl => ?_)
        refine lv_iload hx hb dX1_lookAtPhi_43 (lv_at hl 0 rfl) ?_
        refine lv_if_eq (tgt := 119) hx hb dX1_lookAtPhi_45 (by decide) (fun b45 => ?_) (fun b45 => ?_)
        · have yb45 : (z_2010 : Int) = (0 : Int) := (zI_eq (a := z_2010) (b := 0) (by omega) (by omega) (by omega) (by omega)).mp b45
          refine lv_iinc (v := zI (d9_6 + 1)) (lv' := [(6, .int (zI (d9_6 + 1))), (9, .int (zI (z_2010))), (7, .long (lI (a_18 ((a_17 (i)) + d9_6)))), (0, .ref h0), (1, .ref hc), (2, .int (zI (b))), (3, .int (zI (i))), (4, .int (zI (d9_4))), (5, .int d9_5)]) hx hb dX1_lookAtPhi_119 hl (k := 8) rfl (zI_add (d9_6) (1)) (by decide) rfl (fun ls hl => ?_)
          refine lv_goto (tgt := 9) hx hb dX1_lookAtPhi_122 (by decide) ?_
          have hP := hP.sub (ws' := [(h0, .inr (1, [v1_0, .ref q_101, .ref q_102, .ref q_103, .ref q_104, .int (zI (z1_changed))])), (q_101, .inl (cA_101, 300, .inl (fun j : Nat => zI (a1_firstOpen (j : Int))))), (q_102, .inl (cA_102, 300, .inl (fun j : Nat => zI (a1_secondOpen (j : Int))))), (q_103, .inl (cA_103, 1024, .inl (fun j : Nat => zI (a1_kinds (j : Int))))), (q_104, .inl (cA_104, 1024, .inr (.inl (fun j : Nat => lI (a1_instead (j : Int)))))), (hc, .inr (0, [.int (zI (B1)), v_1, .int (zI (P1)), v_3, v_4, v_5, v_6, v_7, v_8, v_9, v_10, .ref q_711, .ref q_712, .ref q_713, .ref q_714, .ref q_715, .ref q_716, .ref q_717, .ref q_718])), (q_711, .inl (cA_711, 300, .inl (fun j : Nat => zI (a_11 (j : Int))))), (q_712, .inl (cA_712, 300, .inl (fun j : Nat => zI (a_12 (j : Int))))), (q_713, .inl (cA_713, 301, .inl (fun j : Nat => zI (a_13 (j : Int))))), (q_714, .inl (cA_714, 600, .inl (fun j : Nat => zI (a_14 (j : Int))))), (q_715, .inl (cA_715, 301, .inl (fun j : Nat => zI (a_15 (j : Int))))), (q_716, .inl (cA_716, 1000, .inl (fun j : Nat => zI (a_16 (j : Int))))), (q_717, .inl (cA_717, 1000, .inl (fun j : Nat => zI (a_17 (j : Int))))), (q_718, .inl (cA_718, na1, .inr (.inl (fun j : Nat => lI (a_18 (j : Int))))))]) [12, 0, 1, 13, 2, 10, 3, 4, 11, 5, 6, 7, 8, 9] rfl
          have hD := hD.sub (ws' := [(h0, .inr (1, [v1_0, .ref q_101, .ref q_102, .ref q_103, .ref q_104, .int (zI (z1_changed))])), (q_101, .inl (cA_101, 300, .inl (fun j : Nat => zI (a1_firstOpen (j : Int))))), (q_102, .inl (cA_102, 300, .inl (fun j : Nat => zI (a1_secondOpen (j : Int))))), (q_103, .inl (cA_103, 1024, .inl (fun j : Nat => zI (a1_kinds (j : Int))))), (q_104, .inl (cA_104, 1024, .inr (.inl (fun j : Nat => lI (a1_instead (j : Int)))))), (hc, .inr (0, [.int (zI (B1)), v_1, .int (zI (P1)), v_3, v_4, v_5, v_6, v_7, v_8, v_9, v_10, .ref q_711, .ref q_712, .ref q_713, .ref q_714, .ref q_715, .ref q_716, .ref q_717, .ref q_718])), (q_711, .inl (cA_711, 300, .inl (fun j : Nat => zI (a_11 (j : Int))))), (q_712, .inl (cA_712, 300, .inl (fun j : Nat => zI (a_12 (j : Int))))), (q_713, .inl (cA_713, 301, .inl (fun j : Nat => zI (a_13 (j : Int))))), (q_714, .inl (cA_714, 600, .inl (fun j : Nat => zI (a_14 (j : Int))))), (q_715, .inl (cA_715, 301, .inl (fun j : Nat => zI (a_15 (j : Int))))), (q_716, .inl (cA_716, 1000, .inl (fun j : Nat => zI (a_16 (j : Int))))), (q_717, .inl (cA_717, 1000, .inl (fun j : Nat => zI (a_17 (j : Int))))), (q_718, .inl (cA_718, na1, .inr (.inl (fun j : Nat => lI (a_18 (j : Int))))))]) [12, 0, 1, 13, 2, 10, 3, 4, 11, 5, 6, 7, 8, 9] (by decide) rfl
          exact ih9 (d9_6 + 1) d9_5 d9_4 ls H _ (by omega) (by omega) (by omega) (lv_sub hl [3, 4, 5, 6, 7, 8, 0] rfl) hP hD hS
        · have yb45 : ¬ (z_2010 : Int) = (0 : Int) := fun q => b45 ((zI_eq (a := z_2010) (b := 0) (by omega) (by omega) (by omega) (by omega)).mpr q)
          refine lv_aload_n hx hb dX1_lookAtPhi_48 rfl (lv_at hl 2 rfl) ?_
          refine lv_aload_n hx hb dX1_lookAtPhi_49 rfl (lv_at hl 3 rfl) ?_
          refine lv_aload_n hx hb dX1_lookAtPhi_50 rfl (lv_at hl 3 rfl) ?_
          refine va_get (D := (dC, dI)) (ci := 0) (v := .ref q_714) (C := RX0) (T := TX0) (N := 19) hx hb hts mem_X1_lookAtPhi_1 hown hK hP 10 rfl rfl 14 (by decide) (ow (k := 14) rfl) (fun _ h9 => h9) rfl dX1_lookAtPhi_51 ?_
          refine lv_aload_n hx hb dX1_lookAtPhi_54 rfl (lv_at hl 3 rfl) ?_
          refine va_get (D := (dC, dI)) (ci := 0) (v := .ref q_713) (C := RX0) (T := TX0) (N := 19) hx hb hts mem_X1_lookAtPhi_1 hown hK hP 10 rfl rfl 13 (by decide) (ow (k := 15) rfl) (fun _ h9 => h9) rfl dX1_lookAtPhi_55 ?_
          refine lv_iload_n hx hb dX1_lookAtPhi_58 rfl (lv_at hl 4 rfl) ?_
          refine va_iald hx hb hK hP 11 10 rfl rfl (zI_in (a := b) (n := 301) (by omega) (by omega) (by decide)) dX1_lookAtPhi_59 ?_
          refine lv_topi (fun z ez => ?_)
          obtain rfl : z = zI (a_13 (b)) := ez.trans (zI_ld (a_13) (by omega) (by omega))
          have k6 := hR_a_13 (b)
          refine lv_iload hx hb dX1_lookAtPhi_60 (lv_at hl 8 rfl) ?_
          refine lv_iadd hx hb dX1_lookAtPhi_62 ?_
          refine lv_topi (fun z ez => ?_)
          obtain rfl : z = zI ((a_13 (b)) + d9_6) := ez.trans (zI_add (a_13 (b)) (d9_6))
          refine va_iald hx hb hK hP 5 5 rfl rfl (zI_in (a := (a_13 (b)) + d9_6) (n := 600) (by omega) (by omega) (by decide)) dX1_lookAtPhi_63 ?_
          refine lv_topi (fun z ez => ?_)
          obtain rfl : z = zI (a_14 ((a_13 (b)) + d9_6)) := ez.trans (zI_ld (a_14) (by omega) (by omega))
          have k7 := hR_a_14 ((a_13 (b)) + d9_6)
          refine lv_iload_n hx hb dX1_lookAtPhi_64 rfl (lv_at hl 4 rfl) ?_
          have hPc := hP.sub (ws' := [(h0, .inr (1, [v1_0, .ref q_101, .ref q_102, .ref q_103, .ref q_104, .int (zI (z1_changed))])), (q_101, .inl (cA_101, 300, .inl (fun j : Nat => zI (a1_firstOpen (j : Int))))), (q_102, .inl (cA_102, 300, .inl (fun j : Nat => zI (a1_secondOpen (j : Int))))), (hc, .inr (0, [.int (zI (B1)), v_1, .int (zI (P1)), v_3, v_4, v_5, v_6, v_7, v_8, v_9, v_10, .ref q_711, .ref q_712, .ref q_713, .ref q_714, .ref q_715, .ref q_716, .ref q_717, .ref q_718])), (q_711, .inl (cA_711, 300, .inl (fun j : Nat => zI (a_11 (j : Int))))), (q_712, .inl (cA_712, 300, .inl (fun j : Nat => zI (a_12 (j : Int)))))]) [12, 0, 1, 10, 3, 4] rfl
          have hDc := hD.sub (ws' := [(h0, .inr (1, [v1_0, .ref q_101, .ref q_102, .ref q_103, .ref q_104, .int (zI (z1_changed))])), (q_101, .inl (cA_101, 300, .inl (fun j : Nat => zI (a1_firstOpen (j : Int))))), (q_102, .inl (cA_102, 300, .inl (fun j : Nat => zI (a1_secondOpen (j : Int))))), (hc, .inr (0, [.int (zI (B1)), v_1, .int (zI (P1)), v_3, v_4, v_5, v_6, v_7, v_8, v_9, v_10, .ref q_711, .ref q_712, .ref q_713, .ref q_714, .ref q_715, .ref q_716, .ref q_717, .ref q_718])), (q_711, .inl (cA_711, 300, .inl (fun j : Nat => zI (a_11 (j : Int))))), (q_712, .inl (cA_712, 300, .inl (fun j : Nat => zI (a_12 (j : Int)))))]) [12, 0, 1, 10, 3, 4] (by decide) rfl
          have hKc := hK.sub (tys' := [(cA_101, .boolean), (cA_102, .boolean), (cA_711, .int), (cA_712, .int)]) [0, 1, 3, 4] rfl
          have hFc := va_free (wc := [(h0, .inr (1, [v1_0, .ref q_101, .ref q_102, .ref q_103, .ref q_104, .int (zI (z1_changed))])), (q_101, .inl (cA_101, 300, .inl (fun j : Nat => zI (a1_firstOpen (j : Int))))), (q_102, .inl (cA_102, 300, .inl (fun j : Nat => zI (a1_secondOpen (j : Int))))), (hc, .inr (0, [.int (zI (B1)), v_1, .int (zI (P1)), v_3, v_4, v_5, v_6, v_7, v_8, v_9, v_10, .ref q_711, .ref q_712, .ref q_713, .ref q_714, .ref q_715, .ref q_716, .ref q_717, .ref q_718])), (q_711, .inl (cA_711, 300, .inl (fun j : Nat => zI (a_11 (j : Int))))), (q_712, .inl (cA_712, 300, .inl (fun j : Nat => zI (a_12 (j : Int)))))]) hD hS hA [12, 0, 1, 10, 3, 4] rfl
          refine va_calli (va_runV (As := [.ref hc, .int (zI (a_14 ((a_13 (b)) + d9_6))), .int (zI (b))]) (rest := []) ⟨hx, hb, hml, hown, hts⟩ (c_X1_isOpen l dC dI h0 v1_0 q_101 cA_101 a1_firstOpen q_102 cA_102 a1_secondOpen (.ref q_103) (.ref q_104) (.int (zI (z1_changed))) hc (.int (zI (B1))) v_1 (.int (zI (P1))) v_3 v_4 v_5 v_6 v_7 v_8 v_9 v_10 q_711 cA_711 a_11 q_712 cA_712 a_12 (.ref q_713) (.ref q_714) (.ref q_715) (.ref q_716) (.ref q_717) (.ref q_718) (a_14 ((a_13 (b)) + d9_6)) b hR_a1_firstOpen hR_a1_secondOpen hR_a_11 hR_a_12 (by omega) (by omega) H.size) (cwV 3 hts g_X1_lookAtPhi_X1_isOpen rfl rfl rfl (by decide +kernel) ⟨(Nat.le_of_ble_eq_true rfl), (Nat.le_of_ble_eq_true rfl)⟩) ⟨fun a U g mk q => by obtain ⟨q0, q1, qP, qK, qD⟩ := q; exact ⟨q0, q1, qP, va_K.moved (u := U) (U := U.calling g mk a) (Vm.Alike.refl U.vm) qK, qD⟩, va_recv hKc hPc (ci := 1) (q0 := 0) rfl rfl, fun U hU hW => ⟨rfl, by rw [hU], by rw [hU]; exact hPc, va_K.moved hW.alike hKc, hDc.weaken (fun _ _ _ _ => trivial)⟩⟩ rfl rfl hl.1 rfl (lv_room (Nat.le_of_ble_eq_true rfl)) dX1_lookAtPhi_65 ⟨(Nat.le_of_ble_eq_true rfl), (Nat.le_of_ble_eq_true rfl)⟩) hS (fun q _ h => hFc q h) hFc (fun r_2011 u t H1 locs ht hvm hw hB hz1 hk1 hS => ?_)
          obtain ⟨hP1, hK1, hD1⟩ := hB
          rw [ht] at hP1
          have hK1 := va_K.moved hvm.symm hK1
          obtain ⟨hP, hD⟩ := va_join (wr := [(q_104, .inl (cA_104, 1024, .inr (.inl (fun j : Nat => lI (a1_instead (j : Int)))))), (q_714, .inl (cA_714, 600, .inl (fun j : Nat => zI (a_14 (j : Int))))), (q_715, .inl (cA_715, 301, .inl (fun j : Nat => zI (a_15 (j : Int))))), (q_716, .inl (cA_716, 1000, .inl (fun j : Nat => zI (a_16 (j : Int))))), (q_717, .inl (cA_717, 1000, .inl (fun j : Nat => zI (a_17 (j : Int))))), (q_718, .inl (cA_718, na1, .inr (.inl (fun j : Nat => lI (a_18 (j : Int)))))), (q_713, .inl (cA_713, 301, .inl (fun j : Nat => zI (a_13 (j : Int))))), (q_103, .inl (cA_103, 1024, .inl (fun j : Nat => zI (a1_kinds (j : Int)))))]) (w1 := [(h0, .inr (1, [v1_0, .ref q_101, .ref q_102, .ref q_103, .ref q_104, .int (zI (z1_changed))])), (q_101, .inl (cA_101, 300, .inl (fun j : Nat => zI (a1_firstOpen (j : Int))))), (q_102, .inl (cA_102, 300, .inl (fun j : Nat => zI (a1_secondOpen (j : Int))))), (hc, .inr (0, [.int (zI (B1)), v_1, .int (zI (P1)), v_3, v_4, v_5, v_6, v_7, v_8, v_9, v_10, .ref q_711, .ref q_712, .ref q_713, .ref q_714, .ref q_715, .ref q_716, .ref q_717, .ref q_718])), (q_711, .inl (cA_711, 300, .inl (fun j : Nat => zI (a_11 (j : Int))))), (q_712, .inl (cA_712, 300, .inl (fun j : Nat => zI (a_12 (j : Int)))))]) hP hD [12, 0, 1, 10, 3, 4] [2, 5, 6, 7, 8, 9, 11, 13] rfl rfl (by decide) (by decide) hk1 hFc hP1 hD1
          have hK := (hK.sub (tys' := [(cA_104, .long), (cA_714, .int), (cA_715, .int), (cA_716, .int), (cA_717, .int), (cA_718, .long), (cA_713, .int), (cA_103, .int)]) [2, 5, 6, 7, 8, 9, 10, 11] rfl).app hK1
          generalize H1 = H at hP hS ⊢
          have hP : va_P (dC, dI) vwP [(q_104, .inl (cA_104, 1024, .inr (.inl (fun j : Nat => lI (a1_instead (j : Int)))))), (q_714, .inl (cA_714, 600, .inl (fun j : Nat => zI (a_14 (j : Int))))), (q_715, .inl (cA_715, 301, .inl (fun j : Nat => zI (a_15 (j : Int))))), (q_716, .inl (cA_716, 1000, .inl (fun j : Nat => zI (a_16 (j : Int))))), (q_717, .inl (cA_717, 1000, .inl (fun j : Nat => zI (a_17 (j : Int))))), (q_718, .inl (cA_718, na1, .inr (.inl (fun j : Nat => lI (a_18 (j : Int)))))), (q_713, .inl (cA_713, 301, .inl (fun j : Nat => zI (a_13 (j : Int))))), (q_103, .inl (cA_103, 1024, .inl (fun j : Nat => zI (a1_kinds (j : Int))))), (h0, .inr (1, [v1_0, .ref q_101, .ref q_102, .ref q_103, .ref q_104, .int (zI (z1_changed))])), (q_101, .inl (cA_101, 300, .inl (fun j : Nat => zI (a1_firstOpen (j : Int))))), (q_102, .inl (cA_102, 300, .inl (fun j : Nat => zI (a1_secondOpen (j : Int))))), (hc, .inr (0, [.int (zI (B1)), v_1, .int (zI (P1)), v_3, v_4, v_5, v_6, v_7, v_8, v_9, v_10, .ref q_711, .ref q_712, .ref q_713, .ref q_714, .ref q_715, .ref q_716, .ref q_717, .ref q_718])), (q_711, .inl (cA_711, 300, .inl (fun j : Nat => zI (a_11 (j : Int))))), (q_712, .inl (cA_712, 300, .inl (fun j : Nat => zI (a_12 (j : Int)))))] H := hP
          have hD : va_D A [(q_104, .inl (cA_104, 1024, .inr (.inl (fun j : Nat => lI (a1_instead (j : Int)))))), (q_714, .inl (cA_714, 600, .inl (fun j : Nat => zI (a_14 (j : Int))))), (q_715, .inl (cA_715, 301, .inl (fun j : Nat => zI (a_15 (j : Int))))), (q_716, .inl (cA_716, 1000, .inl (fun j : Nat => zI (a_16 (j : Int))))), (q_717, .inl (cA_717, 1000, .inl (fun j : Nat => zI (a_17 (j : Int))))), (q_718, .inl (cA_718, na1, .inr (.inl (fun j : Nat => lI (a_18 (j : Int)))))), (q_713, .inl (cA_713, 301, .inl (fun j : Nat => zI (a_13 (j : Int))))), (q_103, .inl (cA_103, 1024, .inl (fun j : Nat => zI (a1_kinds (j : Int))))), (h0, .inr (1, [v1_0, .ref q_101, .ref q_102, .ref q_103, .ref q_104, .int (zI (z1_changed))])), (q_101, .inl (cA_101, 300, .inl (fun j : Nat => zI (a1_firstOpen (j : Int))))), (q_102, .inl (cA_102, 300, .inl (fun j : Nat => zI (a1_secondOpen (j : Int))))), (hc, .inr (0, [.int (zI (B1)), v_1, .int (zI (P1)), v_3, v_4, v_5, v_6, v_7, v_8, v_9, v_10, .ref q_711, .ref q_712, .ref q_713, .ref q_714, .ref q_715, .ref q_716, .ref q_717, .ref q_718])), (q_711, .inl (cA_711, 300, .inl (fun j : Nat => zI (a_11 (j : Int))))), (q_712, .inl (cA_712, 300, .inl (fun j : Nat => zI (a_12 (j : Int)))))] := hD
          have hK : va_K (dC, dI) vwP [(cA_104, .long), (cA_714, .int), (cA_715, .int), (cA_716, .int), (cA_717, .int), (cA_718, .long), (cA_713, .int), (cA_103, .int), (cA_101, .boolean), (cA_102, .boolean), (cA_711, .int), (cA_712, .int)] s := hK
          refine W.widen (k := 0) (n := 0) (Nat.le_of_ble_eq_true rfl) (Nat.le_of_ble_eq_true rfl) ?_
          have hw_2012 := hw
          obtain ⟨z_2013, rfl, hzz_2013⟩ := hw_2012
          refine lv_if_ne (tgt := 74) hx hb dX1_lookAtPhi_68 (by decide) (fun b68 => ?_) (fun b68 => ?_)
          · have yb68 : ¬ (z_2013 : Int) = (0 : Int) := fun q => b68 ((zI_eq (a := z_2013) (b := 0) (by omega) (by omega) (by omega) (by omega)).mpr q)
            refine lv_iload hx hb dX1_lookAtPhi_74 (lv_at hl 6 rfl) ?_
            refine lv_if_ne (tgt := 99) hx hb dX1_lookAtPhi_76 (by decide) (fun b76 => ?_) (fun b76 => ?_)
            · have yb76 : ¬ (d9_4 : Int) = (0 : Int) := fun q => b76 ((zI_eq (a := d9_4) (b := 0) (by omega) (by omega) (by omega) (by omega)).mpr q)
              refine lv_iload hx hb dX1_lookAtPhi_99 (lv_at hl 0 rfl) ?_
              refine lv_iconst (v := 2) hx hb dX1_lookAtPhi_101 (by decide) ?_
              refine lv_icmp_eq (tgt := 116) hx hb dX1_lookAtPhi_102 (by decide) (fun b102 => ?_) (fun b102 => ?_)
              · have yb102 : (z_2010 : Int) = (2 : Int) := (zI_eq (a := z_2010) (b := 2) (by omega) (by omega) (by omega) (by omega)).mp b102
                refine lv_iconst (v := 2) hx hb dX1_lookAtPhi_116 (by decide) ?_
                refine lv_istore (lv' := [(4, .int 2), (9, .int (zI (z_2010))), (7, .long (lI (a_18 ((a_17 (i)) + d9_6)))), (0, .ref h0), (1, .ref hc), (2, .int (zI (b))), (3, .int (zI (i))), (5, .int d9_5), (6, .int (zI (d9_6)))]) hx hb dX1_lookAtPhi_117 hl (by decide) rfl (fun ls hl => ?_)
                refine lv_iinc (v := zI (d9_6 + 1)) (lv' := [(6, .int (zI (d9_6 + 1))), (4, .int 2), (9, .int (zI (z_2010))), (7, .long (lI (a_18 ((a_17 (i)) + d9_6)))), (0, .ref h0), (1, .ref hc), (2, .int (zI (b))), (3, .int (zI (i))), (5, .int d9_5)]) hx hb dX1_lookAtPhi_119 hl (k := 8) rfl (zI_add (d9_6) (1)) (by decide) rfl (fun ls hl => ?_)
                refine lv_goto (tgt := 9) hx hb dX1_lookAtPhi_122 (by decide) ?_
                have hP := hP.sub (ws' := [(h0, .inr (1, [v1_0, .ref q_101, .ref q_102, .ref q_103, .ref q_104, .int (zI (z1_changed))])), (q_101, .inl (cA_101, 300, .inl (fun j : Nat => zI (a1_firstOpen (j : Int))))), (q_102, .inl (cA_102, 300, .inl (fun j : Nat => zI (a1_secondOpen (j : Int))))), (q_103, .inl (cA_103, 1024, .inl (fun j : Nat => zI (a1_kinds (j : Int))))), (q_104, .inl (cA_104, 1024, .inr (.inl (fun j : Nat => lI (a1_instead (j : Int)))))), (hc, .inr (0, [.int (zI (B1)), v_1, .int (zI (P1)), v_3, v_4, v_5, v_6, v_7, v_8, v_9, v_10, .ref q_711, .ref q_712, .ref q_713, .ref q_714, .ref q_715, .ref q_716, .ref q_717, .ref q_718])), (q_711, .inl (cA_711, 300, .inl (fun j : Nat => zI (a_11 (j : Int))))), (q_712, .inl (cA_712, 300, .inl (fun j : Nat => zI (a_12 (j : Int))))), (q_713, .inl (cA_713, 301, .inl (fun j : Nat => zI (a_13 (j : Int))))), (q_714, .inl (cA_714, 600, .inl (fun j : Nat => zI (a_14 (j : Int))))), (q_715, .inl (cA_715, 301, .inl (fun j : Nat => zI (a_15 (j : Int))))), (q_716, .inl (cA_716, 1000, .inl (fun j : Nat => zI (a_16 (j : Int))))), (q_717, .inl (cA_717, 1000, .inl (fun j : Nat => zI (a_17 (j : Int))))), (q_718, .inl (cA_718, na1, .inr (.inl (fun j : Nat => lI (a_18 (j : Int))))))]) [8, 9, 10, 7, 0, 11, 12, 13, 6, 1, 2, 3, 4, 5] rfl
                have hD := hD.sub (ws' := [(h0, .inr (1, [v1_0, .ref q_101, .ref q_102, .ref q_103, .ref q_104, .int (zI (z1_changed))])), (q_101, .inl (cA_101, 300, .inl (fun j : Nat => zI (a1_firstOpen (j : Int))))), (q_102, .inl (cA_102, 300, .inl (fun j : Nat => zI (a1_secondOpen (j : Int))))), (q_103, .inl (cA_103, 1024, .inl (fun j : Nat => zI (a1_kinds (j : Int))))), (q_104, .inl (cA_104, 1024, .inr (.inl (fun j : Nat => lI (a1_instead (j : Int)))))), (hc, .inr (0, [.int (zI (B1)), v_1, .int (zI (P1)), v_3, v_4, v_5, v_6, v_7, v_8, v_9, v_10, .ref q_711, .ref q_712, .ref q_713, .ref q_714, .ref q_715, .ref q_716, .ref q_717, .ref q_718])), (q_711, .inl (cA_711, 300, .inl (fun j : Nat => zI (a_11 (j : Int))))), (q_712, .inl (cA_712, 300, .inl (fun j : Nat => zI (a_12 (j : Int))))), (q_713, .inl (cA_713, 301, .inl (fun j : Nat => zI (a_13 (j : Int))))), (q_714, .inl (cA_714, 600, .inl (fun j : Nat => zI (a_14 (j : Int))))), (q_715, .inl (cA_715, 301, .inl (fun j : Nat => zI (a_15 (j : Int))))), (q_716, .inl (cA_716, 1000, .inl (fun j : Nat => zI (a_16 (j : Int))))), (q_717, .inl (cA_717, 1000, .inl (fun j : Nat => zI (a_17 (j : Int))))), (q_718, .inl (cA_718, na1, .inr (.inl (fun j : Nat => lI (a_18 (j : Int))))))]) [8, 9, 10, 7, 0, 11, 12, 13, 6, 1, 2, 3, 4, 5] (by decide) rfl
                exact ih9 (d9_6 + 1) d9_5 2 ls H _ (by omega) (by omega) (by omega) (lv_sub hl [4, 5, 6, 7, 1, 8, 0] rfl) hP hD hS
              · have yb102 : ¬ (z_2010 : Int) = (2 : Int) := fun q => b102 ((zI_eq (a := z_2010) (b := 2) (by omega) (by omega) (by omega) (by omega)).mpr q)
                refine lv_aload_n hx hb dX1_lookAtPhi_105 rfl (lv_at hl 2 rfl) ?_
                refine lv_lload hx hb dX1_lookAtPhi_106 (lv_at hl 1 rfl) ?_
                have hPc := hP.sub (ws' := [(h0, .inr (1, [v1_0, .ref q_101, .ref q_102, .ref q_103, .ref q_104, .int (zI (z1_changed))])), (q_104, .inl (cA_104, 1024, .inr (.inl (fun j : Nat => lI (a1_instead (j : Int))))))]) [8, 0] rfl
                have hDc := hD.sub (ws' := [(h0, .inr (1, [v1_0, .ref q_101, .ref q_102, .ref q_103, .ref q_104, .int (zI (z1_changed))])), (q_104, .inl (cA_104, 1024, .inr (.inl (fun j : Nat => lI (a1_instead (j : Int))))))]) [8, 0] (by decide) rfl
                have hKc := hK.sub (tys' := [(cA_104, .long)]) [0] rfl
                have hFc := va_free (wc := [(h0, .inr (1, [v1_0, .ref q_101, .ref q_102, .ref q_103, .ref q_104, .int (zI (z1_changed))])), (q_104, .inl (cA_104, 1024, .inr (.inl (fun j : Nat => lI (a1_instead (j : Int))))))]) hD hS hA [8, 0] rfl
                refine va_calli (va_runV (As := [.long (lI (a_18 ((a_17 (i)) + d9_6)))]) (rest := []) ⟨hx, hb, hml, hown, hts⟩ (c_X1_numberOf l dC dI h0 v1_0 (.ref q_101) (.ref q_102) (.ref q_103) q_104 cA_104 a1_instead (.int (zI (z1_changed))) (a_18 ((a_17 (i)) + d9_6)) hR_a1_instead (by omega) H.size) (cwV 1 hts g_X1_lookAtPhi_X1_numberOf rfl rfl rfl (by decide +kernel) ⟨(Nat.le_of_ble_eq_true rfl), (Nat.le_of_ble_eq_true rfl)⟩) ⟨fun a U g mk q => by obtain ⟨q0, q1, qP, qK, qD, e0, e1⟩ := q; exact ⟨q0, q1, qP, va_K.moved (u := U) (U := U.calling g mk a) (Vm.Alike.refl U.vm) qK, qD, va_Nw.same rfl (u := U) (U := U.calling g mk a) rfl e0, va_Nw.same rfl (u := U) (U := U.calling g mk a) rfl e1⟩, va_recv hKc hPc (ci := 1) (q0 := 0) rfl rfl, fun U hU hW => ⟨rfl, by rw [hU], by rw [hU]; exact hPc, va_K.moved hW.alike hKc, hDc.weaken (fun _ _ _ _ => trivial), va_Nw.warmM hW hp0, va_Nw.warmM hW hp1⟩⟩ rfl rfl hl.1 rfl (lv_room (Nat.le_of_ble_eq_true rfl)) dX1_lookAtPhi_108 ⟨(Nat.le_of_ble_eq_true rfl), (Nat.le_of_ble_eq_true rfl)⟩) hS (fun q _ h => hFc q h) hFc (fun r_2014 u t H1 locs ht hvm hw hB hz1 hk1 hS => ?_)
                obtain ⟨hP1, hK1, hD1⟩ := hB
                rw [ht] at hP1
                have hK1 := va_K.moved hvm.symm hK1
                obtain ⟨hP, hD⟩ := va_join (wr := [(q_714, .inl (cA_714, 600, .inl (fun j : Nat => zI (a_14 (j : Int))))), (q_715, .inl (cA_715, 301, .inl (fun j : Nat => zI (a_15 (j : Int))))), (q_716, .inl (cA_716, 1000, .inl (fun j : Nat => zI (a_16 (j : Int))))), (q_717, .inl (cA_717, 1000, .inl (fun j : Nat => zI (a_17 (j : Int))))), (q_718, .inl (cA_718, na1, .inr (.inl (fun j : Nat => lI (a_18 (j : Int)))))), (q_713, .inl (cA_713, 301, .inl (fun j : Nat => zI (a_13 (j : Int))))), (q_103, .inl (cA_103, 1024, .inl (fun j : Nat => zI (a1_kinds (j : Int))))), (q_101, .inl (cA_101, 300, .inl (fun j : Nat => zI (a1_firstOpen (j : Int))))), (q_102, .inl (cA_102, 300, .inl (fun j : Nat => zI (a1_secondOpen (j : Int))))), (hc, .inr (0, [.int (zI (B1)), v_1, .int (zI (P1)), v_3, v_4, v_5, v_6, v_7, v_8, v_9, v_10, .ref q_711, .ref q_712, .ref q_713, .ref q_714, .ref q_715, .ref q_716, .ref q_717, .ref q_718])), (q_711, .inl (cA_711, 300, .inl (fun j : Nat => zI (a_11 (j : Int))))), (q_712, .inl (cA_712, 300, .inl (fun j : Nat => zI (a_12 (j : Int)))))]) (w1 := [(h0, .inr (1, [v1_0, .ref q_101, .ref q_102, .ref q_103, .ref q_104, .int (zI (z1_changed))])), (q_104, .inl (cA_104, 1024, .inr (.inl (fun j : Nat => lI (a1_instead (j : Int))))))]) hP hD [8, 0] [1, 2, 3, 4, 5, 6, 7, 9, 10, 11, 12, 13] rfl rfl (by decide) (by decide) hk1 hFc hP1 hD1
                have hK := (hK.sub (tys' := [(cA_714, .int), (cA_715, .int), (cA_716, .int), (cA_717, .int), (cA_718, .long), (cA_713, .int), (cA_103, .int), (cA_101, .boolean), (cA_102, .boolean), (cA_711, .int), (cA_712, .int)]) [1, 2, 3, 4, 5, 6, 7, 8, 9, 10, 11] rfl).app hK1
                generalize H1 = H at hP hS ⊢
                have hP : va_P (dC, dI) vwP [(q_714, .inl (cA_714, 600, .inl (fun j : Nat => zI (a_14 (j : Int))))), (q_715, .inl (cA_715, 301, .inl (fun j : Nat => zI (a_15 (j : Int))))), (q_716, .inl (cA_716, 1000, .inl (fun j : Nat => zI (a_16 (j : Int))))), (q_717, .inl (cA_717, 1000, .inl (fun j : Nat => zI (a_17 (j : Int))))), (q_718, .inl (cA_718, na1, .inr (.inl (fun j : Nat => lI (a_18 (j : Int)))))), (q_713, .inl (cA_713, 301, .inl (fun j : Nat => zI (a_13 (j : Int))))), (q_103, .inl (cA_103, 1024, .inl (fun j : Nat => zI (a1_kinds (j : Int))))), (q_101, .inl (cA_101, 300, .inl (fun j : Nat => zI (a1_firstOpen (j : Int))))), (q_102, .inl (cA_102, 300, .inl (fun j : Nat => zI (a1_secondOpen (j : Int))))), (hc, .inr (0, [.int (zI (B1)), v_1, .int (zI (P1)), v_3, v_4, v_5, v_6, v_7, v_8, v_9, v_10, .ref q_711, .ref q_712, .ref q_713, .ref q_714, .ref q_715, .ref q_716, .ref q_717, .ref q_718])), (q_711, .inl (cA_711, 300, .inl (fun j : Nat => zI (a_11 (j : Int))))), (q_712, .inl (cA_712, 300, .inl (fun j : Nat => zI (a_12 (j : Int))))), (h0, .inr (1, [v1_0, .ref q_101, .ref q_102, .ref q_103, .ref q_104, .int (zI (z1_changed))])), (q_104, .inl (cA_104, 1024, .inr (.inl (fun j : Nat => lI (a1_instead (j : Int))))))] H := hP
                have hD : va_D A [(q_714, .inl (cA_714, 600, .inl (fun j : Nat => zI (a_14 (j : Int))))), (q_715, .inl (cA_715, 301, .inl (fun j : Nat => zI (a_15 (j : Int))))), (q_716, .inl (cA_716, 1000, .inl (fun j : Nat => zI (a_16 (j : Int))))), (q_717, .inl (cA_717, 1000, .inl (fun j : Nat => zI (a_17 (j : Int))))), (q_718, .inl (cA_718, na1, .inr (.inl (fun j : Nat => lI (a_18 (j : Int)))))), (q_713, .inl (cA_713, 301, .inl (fun j : Nat => zI (a_13 (j : Int))))), (q_103, .inl (cA_103, 1024, .inl (fun j : Nat => zI (a1_kinds (j : Int))))), (q_101, .inl (cA_101, 300, .inl (fun j : Nat => zI (a1_firstOpen (j : Int))))), (q_102, .inl (cA_102, 300, .inl (fun j : Nat => zI (a1_secondOpen (j : Int))))), (hc, .inr (0, [.int (zI (B1)), v_1, .int (zI (P1)), v_3, v_4, v_5, v_6, v_7, v_8, v_9, v_10, .ref q_711, .ref q_712, .ref q_713, .ref q_714, .ref q_715, .ref q_716, .ref q_717, .ref q_718])), (q_711, .inl (cA_711, 300, .inl (fun j : Nat => zI (a_11 (j : Int))))), (q_712, .inl (cA_712, 300, .inl (fun j : Nat => zI (a_12 (j : Int))))), (h0, .inr (1, [v1_0, .ref q_101, .ref q_102, .ref q_103, .ref q_104, .int (zI (z1_changed))])), (q_104, .inl (cA_104, 1024, .inr (.inl (fun j : Nat => lI (a1_instead (j : Int))))))] := hD
                have hK : va_K (dC, dI) vwP [(cA_714, .int), (cA_715, .int), (cA_716, .int), (cA_717, .int), (cA_718, .long), (cA_713, .int), (cA_103, .int), (cA_101, .boolean), (cA_102, .boolean), (cA_711, .int), (cA_712, .int), (cA_104, .long)] s := hK
                refine W.widen (k := 0) (n := 0) (Nat.le_of_ble_eq_true rfl) (Nat.le_of_ble_eq_true rfl) ?_
                refine lv_iload hx hb dX1_lookAtPhi_111 (lv_at hl 7 rfl) ?_
                refine lv_icmp_eq (tgt := 119) hx hb dX1_lookAtPhi_113 (by decide) (fun b113 => ?_) (fun b113 => ?_)
                · refine lv_iinc (v := zI (d9_6 + 1)) (lv' := [(6, .int (zI (d9_6 + 1))), (9, .int (zI (z_2010))), (7, .long (lI (a_18 ((a_17 (i)) + d9_6)))), (0, .ref h0), (1, .ref hc), (2, .int (zI (b))), (3, .int (zI (i))), (4, .int (zI (d9_4))), (5, .int d9_5)]) hx hb dX1_lookAtPhi_119 hl (k := 8) rfl (zI_add (d9_6) (1)) (by decide) rfl (fun ls hl => ?_)
                  refine lv_goto (tgt := 9) hx hb dX1_lookAtPhi_122 (by decide) ?_
                  have hP := hP.sub (ws' := [(h0, .inr (1, [v1_0, .ref q_101, .ref q_102, .ref q_103, .ref q_104, .int (zI (z1_changed))])), (q_101, .inl (cA_101, 300, .inl (fun j : Nat => zI (a1_firstOpen (j : Int))))), (q_102, .inl (cA_102, 300, .inl (fun j : Nat => zI (a1_secondOpen (j : Int))))), (q_103, .inl (cA_103, 1024, .inl (fun j : Nat => zI (a1_kinds (j : Int))))), (q_104, .inl (cA_104, 1024, .inr (.inl (fun j : Nat => lI (a1_instead (j : Int)))))), (hc, .inr (0, [.int (zI (B1)), v_1, .int (zI (P1)), v_3, v_4, v_5, v_6, v_7, v_8, v_9, v_10, .ref q_711, .ref q_712, .ref q_713, .ref q_714, .ref q_715, .ref q_716, .ref q_717, .ref q_718])), (q_711, .inl (cA_711, 300, .inl (fun j : Nat => zI (a_11 (j : Int))))), (q_712, .inl (cA_712, 300, .inl (fun j : Nat => zI (a_12 (j : Int))))), (q_713, .inl (cA_713, 301, .inl (fun j : Nat => zI (a_13 (j : Int))))), (q_714, .inl (cA_714, 600, .inl (fun j : Nat => zI (a_14 (j : Int))))), (q_715, .inl (cA_715, 301, .inl (fun j : Nat => zI (a_15 (j : Int))))), (q_716, .inl (cA_716, 1000, .inl (fun j : Nat => zI (a_16 (j : Int))))), (q_717, .inl (cA_717, 1000, .inl (fun j : Nat => zI (a_17 (j : Int))))), (q_718, .inl (cA_718, na1, .inr (.inl (fun j : Nat => lI (a_18 (j : Int))))))]) [12, 7, 8, 6, 13, 9, 10, 11, 5, 0, 1, 2, 3, 4] rfl
                  have hD := hD.sub (ws' := [(h0, .inr (1, [v1_0, .ref q_101, .ref q_102, .ref q_103, .ref q_104, .int (zI (z1_changed))])), (q_101, .inl (cA_101, 300, .inl (fun j : Nat => zI (a1_firstOpen (j : Int))))), (q_102, .inl (cA_102, 300, .inl (fun j : Nat => zI (a1_secondOpen (j : Int))))), (q_103, .inl (cA_103, 1024, .inl (fun j : Nat => zI (a1_kinds (j : Int))))), (q_104, .inl (cA_104, 1024, .inr (.inl (fun j : Nat => lI (a1_instead (j : Int)))))), (hc, .inr (0, [.int (zI (B1)), v_1, .int (zI (P1)), v_3, v_4, v_5, v_6, v_7, v_8, v_9, v_10, .ref q_711, .ref q_712, .ref q_713, .ref q_714, .ref q_715, .ref q_716, .ref q_717, .ref q_718])), (q_711, .inl (cA_711, 300, .inl (fun j : Nat => zI (a_11 (j : Int))))), (q_712, .inl (cA_712, 300, .inl (fun j : Nat => zI (a_12 (j : Int))))), (q_713, .inl (cA_713, 301, .inl (fun j : Nat => zI (a_13 (j : Int))))), (q_714, .inl (cA_714, 600, .inl (fun j : Nat => zI (a_14 (j : Int))))), (q_715, .inl (cA_715, 301, .inl (fun j : Nat => zI (a_15 (j : Int))))), (q_716, .inl (cA_716, 1000, .inl (fun j : Nat => zI (a_16 (j : Int))))), (q_717, .inl (cA_717, 1000, .inl (fun j : Nat => zI (a_17 (j : Int))))), (q_718, .inl (cA_718, na1, .inr (.inl (fun j : Nat => lI (a_18 (j : Int))))))]) [12, 7, 8, 6, 13, 9, 10, 11, 5, 0, 1, 2, 3, 4] (by decide) rfl
                  exact ih9 (d9_6 + 1) d9_5 d9_4 ls H _ (by omega) (by omega) (by omega) (lv_sub hl [3, 4, 5, 6, 7, 8, 0] rfl) hP hD hS
                · refine lv_iconst (v := 2) hx hb dX1_lookAtPhi_116 (by decide) ?_
                  refine lv_istore (lv' := [(4, .int 2), (9, .int (zI (z_2010))), (7, .long (lI (a_18 ((a_17 (i)) + d9_6)))), (0, .ref h0), (1, .ref hc), (2, .int (zI (b))), (3, .int (zI (i))), (5, .int d9_5), (6, .int (zI (d9_6)))]) hx hb dX1_lookAtPhi_117 hl (by decide) rfl (fun ls hl => ?_)
                  refine lv_iinc (v := zI (d9_6 + 1)) (lv' := [(6, .int (zI (d9_6 + 1))), (4, .int 2), (9, .int (zI (z_2010))), (7, .long (lI (a_18 ((a_17 (i)) + d9_6)))), (0, .ref h0), (1, .ref hc), (2, .int (zI (b))), (3, .int (zI (i))), (5, .int d9_5)]) hx hb dX1_lookAtPhi_119 hl (k := 8) rfl (zI_add (d9_6) (1)) (by decide) rfl (fun ls hl => ?_)
                  refine lv_goto (tgt := 9) hx hb dX1_lookAtPhi_122 (by decide) ?_
                  have hP := hP.sub (ws' := [(h0, .inr (1, [v1_0, .ref q_101, .ref q_102, .ref q_103, .ref q_104, .int (zI (z1_changed))])), (q_101, .inl (cA_101, 300, .inl (fun j : Nat => zI (a1_firstOpen (j : Int))))), (q_102, .inl (cA_102, 300, .inl (fun j : Nat => zI (a1_secondOpen (j : Int))))), (q_103, .inl (cA_103, 1024, .inl (fun j : Nat => zI (a1_kinds (j : Int))))), (q_104, .inl (cA_104, 1024, .inr (.inl (fun j : Nat => lI (a1_instead (j : Int)))))), (hc, .inr (0, [.int (zI (B1)), v_1, .int (zI (P1)), v_3, v_4, v_5, v_6, v_7, v_8, v_9, v_10, .ref q_711, .ref q_712, .ref q_713, .ref q_714, .ref q_715, .ref q_716, .ref q_717, .ref q_718])), (q_711, .inl (cA_711, 300, .inl (fun j : Nat => zI (a_11 (j : Int))))), (q_712, .inl (cA_712, 300, .inl (fun j : Nat => zI (a_12 (j : Int))))), (q_713, .inl (cA_713, 301, .inl (fun j : Nat => zI (a_13 (j : Int))))), (q_714, .inl (cA_714, 600, .inl (fun j : Nat => zI (a_14 (j : Int))))), (q_715, .inl (cA_715, 301, .inl (fun j : Nat => zI (a_15 (j : Int))))), (q_716, .inl (cA_716, 1000, .inl (fun j : Nat => zI (a_16 (j : Int))))), (q_717, .inl (cA_717, 1000, .inl (fun j : Nat => zI (a_17 (j : Int))))), (q_718, .inl (cA_718, na1, .inr (.inl (fun j : Nat => lI (a_18 (j : Int))))))]) [12, 7, 8, 6, 13, 9, 10, 11, 5, 0, 1, 2, 3, 4] rfl
                  have hD := hD.sub (ws' := [(h0, .inr (1, [v1_0, .ref q_101, .ref q_102, .ref q_103, .ref q_104, .int (zI (z1_changed))])), (q_101, .inl (cA_101, 300, .inl (fun j : Nat => zI (a1_firstOpen (j : Int))))), (q_102, .inl (cA_102, 300, .inl (fun j : Nat => zI (a1_secondOpen (j : Int))))), (q_103, .inl (cA_103, 1024, .inl (fun j : Nat => zI (a1_kinds (j : Int))))), (q_104, .inl (cA_104, 1024, .inr (.inl (fun j : Nat => lI (a1_instead (j : Int)))))), (hc, .inr (0, [.int (zI (B1)), v_1, .int (zI (P1)), v_3, v_4, v_5, v_6, v_7, v_8, v_9, v_10, .ref q_711, .ref q_712, .ref q_713, .ref q_714, .ref q_715, .ref q_716, .ref q_717, .ref q_718])), (q_711, .inl (cA_711, 300, .inl (fun j : Nat => zI (a_11 (j : Int))))), (q_712, .inl (cA_712, 300, .inl (fun j : Nat => zI (a_12 (j : Int))))), (q_713, .inl (cA_713, 301, .inl (fun j : Nat => zI (a_13 (j : Int))))), (q_714, .inl (cA_714, 600, .inl (fun j : Nat => zI (a_14 (j : Int))))), (q_715, .inl (cA_715, 301, .inl (fun j : Nat => zI (a_15 (j : Int))))), (q_716, .inl (cA_716, 1000, .inl (fun j : Nat => zI (a_16 (j : Int))))), (q_717, .inl (cA_717, 1000, .inl (fun j : Nat => zI (a_17 (j : Int))))), (q_718, .inl (cA_718, na1, .inr (.inl (fun j : Nat => lI (a_18 (j : Int))))))]) [12, 7, 8, 6, 13, 9, 10, 11, 5, 0, 1, 2, 3, 4] (by decide) rfl
                  exact ih9 (d9_6 + 1) d9_5 2 ls H _ (by omega) (by omega) (by omega) (lv_sub hl [4, 5, 6, 7, 1, 8, 0] rfl) hP hD hS
            · have yb76 : (d9_4 : Int) = (0 : Int) := (zI_eq (a := d9_4) (b := 0) (by omega) (by omega) (by omega) (by omega)).mp b76
              refine lv_iload hx hb dX1_lookAtPhi_79 (lv_at hl 0 rfl) ?_
              refine lv_iconst (v := 1) hx hb dX1_lookAtPhi_81 (by decide) ?_
              refine lv_icmp_ne (tgt := 99) hx hb dX1_lookAtPhi_82 (by decide) (fun b82 => ?_) (fun b82 => ?_)
              · have yb82 : ¬ (z_2010 : Int) = (1 : Int) := fun q => b82 ((zI_eq (a := z_2010) (b := 1) (by omega) (by omega) (by omega) (by omega)).mpr q)
                refine lv_iload hx hb dX1_lookAtPhi_99 (lv_at hl 0 rfl) ?_
                refine lv_iconst (v := 2) hx hb dX1_lookAtPhi_101 (by decide) ?_
                refine lv_icmp_eq (tgt := 116) hx hb dX1_lookAtPhi_102 (by decide) (fun b102 => ?_) (fun b102 => ?_)
                · have yb102 : (z_2010 : Int) = (2 : Int) := (zI_eq (a := z_2010) (b := 2) (by omega) (by omega) (by omega) (by omega)).mp b102
                  refine lv_iconst (v := 2) hx hb dX1_lookAtPhi_116 (by decide) ?_
                  refine lv_istore (lv' := [(4, .int 2), (9, .int (zI (z_2010))), (7, .long (lI (a_18 ((a_17 (i)) + d9_6)))), (0, .ref h0), (1, .ref hc), (2, .int (zI (b))), (3, .int (zI (i))), (5, .int d9_5), (6, .int (zI (d9_6)))]) hx hb dX1_lookAtPhi_117 hl (by decide) rfl (fun ls hl => ?_)
                  refine lv_iinc (v := zI (d9_6 + 1)) (lv' := [(6, .int (zI (d9_6 + 1))), (4, .int 2), (9, .int (zI (z_2010))), (7, .long (lI (a_18 ((a_17 (i)) + d9_6)))), (0, .ref h0), (1, .ref hc), (2, .int (zI (b))), (3, .int (zI (i))), (5, .int d9_5)]) hx hb dX1_lookAtPhi_119 hl (k := 8) rfl (zI_add (d9_6) (1)) (by decide) rfl (fun ls hl => ?_)
                  refine lv_goto (tgt := 9) hx hb dX1_lookAtPhi_122 (by decide) ?_
                  have hP := hP.sub (ws' := [(h0, .inr (1, [v1_0, .ref q_101, .ref q_102, .ref q_103, .ref q_104, .int (zI (z1_changed))])), (q_101, .inl (cA_101, 300, .inl (fun j : Nat => zI (a1_firstOpen (j : Int))))), (q_102, .inl (cA_102, 300, .inl (fun j : Nat => zI (a1_secondOpen (j : Int))))), (q_103, .inl (cA_103, 1024, .inl (fun j : Nat => zI (a1_kinds (j : Int))))), (q_104, .inl (cA_104, 1024, .inr (.inl (fun j : Nat => lI (a1_instead (j : Int)))))), (hc, .inr (0, [.int (zI (B1)), v_1, .int (zI (P1)), v_3, v_4, v_5, v_6, v_7, v_8, v_9, v_10, .ref q_711, .ref q_712, .ref q_713, .ref q_714, .ref q_715, .ref q_716, .ref q_717, .ref q_718])), (q_711, .inl (cA_711, 300, .inl (fun j : Nat => zI (a_11 (j : Int))))), (q_712, .inl (cA_712, 300, .inl (fun j : Nat => zI (a_12 (j : Int))))), (q_713, .inl (cA_713, 301, .inl (fun j : Nat => zI (a_13 (j : Int))))), (q_714, .inl (cA_714, 600, .inl (fun j : Nat => zI (a_14 (j : Int))))), (q_715, .inl (cA_715, 301, .inl (fun j : Nat => zI (a_15 (j : Int))))), (q_716, .inl (cA_716, 1000, .inl (fun j : Nat => zI (a_16 (j : Int))))), (q_717, .inl (cA_717, 1000, .inl (fun j : Nat => zI (a_17 (j : Int))))), (q_718, .inl (cA_718, na1, .inr (.inl (fun j : Nat => lI (a_18 (j : Int))))))]) [8, 9, 10, 7, 0, 11, 12, 13, 6, 1, 2, 3, 4, 5] rfl
                  have hD := hD.sub (ws' := [(h0, .inr (1, [v1_0, .ref q_101, .ref q_102, .ref q_103, .ref q_104, .int (zI (z1_changed))])), (q_101, .inl (cA_101, 300, .inl (fun j : Nat => zI (a1_firstOpen (j : Int))))), (q_102, .inl (cA_102, 300, .inl (fun j : Nat => zI (a1_secondOpen (j : Int))))), (q_103, .inl (cA_103, 1024, .inl (fun j : Nat => zI (a1_kinds (j : Int))))), (q_104, .inl (cA_104, 1024, .inr (.inl (fun j : Nat => lI (a1_instead (j : Int)))))), (hc, .inr (0, [.int (zI (B1)), v_1, .int (zI (P1)), v_3, v_4, v_5, v_6, v_7, v_8, v_9, v_10, .ref q_711, .ref q_712, .ref q_713, .ref q_714, .ref q_715, .ref q_716, .ref q_717, .ref q_718])), (q_711, .inl (cA_711, 300, .inl (fun j : Nat => zI (a_11 (j : Int))))), (q_712, .inl (cA_712, 300, .inl (fun j : Nat => zI (a_12 (j : Int))))), (q_713, .inl (cA_713, 301, .inl (fun j : Nat => zI (a_13 (j : Int))))), (q_714, .inl (cA_714, 600, .inl (fun j : Nat => zI (a_14 (j : Int))))), (q_715, .inl (cA_715, 301, .inl (fun j : Nat => zI (a_15 (j : Int))))), (q_716, .inl (cA_716, 1000, .inl (fun j : Nat => zI (a_16 (j : Int))))), (q_717, .inl (cA_717, 1000, .inl (fun j : Nat => zI (a_17 (j : Int))))), (q_718, .inl (cA_718, na1, .inr (.inl (fun j : Nat => lI (a_18 (j : Int))))))]) [8, 9, 10, 7, 0, 11, 12, 13, 6, 1, 2, 3, 4, 5] (by decide) rfl
                  exact ih9 (d9_6 + 1) d9_5 2 ls H _ (by omega) (by omega) (by omega) (lv_sub hl [4, 5, 6, 7, 1, 8, 0] rfl) hP hD hS
                · have yb102 : ¬ (z_2010 : Int) = (2 : Int) := fun q => b102 ((zI_eq (a := z_2010) (b := 2) (by omega) (by omega) (by omega) (by omega)).mpr q)
                  refine lv_aload_n hx hb dX1_lookAtPhi_105 rfl (lv_at hl 2 rfl) ?_
                  refine lv_lload hx hb dX1_lookAtPhi_106 (lv_at hl 1 rfl) ?_
                  have hPc := hP.sub (ws' := [(h0, .inr (1, [v1_0, .ref q_101, .ref q_102, .ref q_103, .ref q_104, .int (zI (z1_changed))])), (q_104, .inl (cA_104, 1024, .inr (.inl (fun j : Nat => lI (a1_instead (j : Int))))))]) [8, 0] rfl
                  have hDc := hD.sub (ws' := [(h0, .inr (1, [v1_0, .ref q_101, .ref q_102, .ref q_103, .ref q_104, .int (zI (z1_changed))])), (q_104, .inl (cA_104, 1024, .inr (.inl (fun j : Nat => lI (a1_instead (j : Int))))))]) [8, 0] (by decide) rfl
                  have hKc := hK.sub (tys' := [(cA_104, .long)]) [0] rfl
                  have hFc := va_free (wc := [(h0, .inr (1, [v1_0, .ref q_101, .ref q_102, .ref q_103, .ref q_104, .int (zI (z1_changed))])), (q_104, .inl (cA_104, 1024, .inr (.inl (fun j : Nat => lI (a1_instead (j : Int))))))]) hD hS hA [8, 0] rfl
                  refine va_calli (va_runV (As := [.long (lI (a_18 ((a_17 (i)) + d9_6)))]) (rest := []) ⟨hx, hb, hml, hown, hts⟩ (c_X1_numberOf l dC dI h0 v1_0 (.ref q_101) (.ref q_102) (.ref q_103) q_104 cA_104 a1_instead (.int (zI (z1_changed))) (a_18 ((a_17 (i)) + d9_6)) hR_a1_instead (by omega) H.size) (cwV 1 hts g_X1_lookAtPhi_X1_numberOf rfl rfl rfl (by decide +kernel) ⟨(Nat.le_of_ble_eq_true rfl), (Nat.le_of_ble_eq_true rfl)⟩) ⟨fun a U g mk q => by obtain ⟨q0, q1, qP, qK, qD, e0, e1⟩ := q; exact ⟨q0, q1, qP, va_K.moved (u := U) (U := U.calling g mk a) (Vm.Alike.refl U.vm) qK, qD, va_Nw.same rfl (u := U) (U := U.calling g mk a) rfl e0, va_Nw.same rfl (u := U) (U := U.calling g mk a) rfl e1⟩, va_recv hKc hPc (ci := 1) (q0 := 0) rfl rfl, fun U hU hW => ⟨rfl, by rw [hU], by rw [hU]; exact hPc, va_K.moved hW.alike hKc, hDc.weaken (fun _ _ _ _ => trivial), va_Nw.warmM hW hp0, va_Nw.warmM hW hp1⟩⟩ rfl rfl hl.1 rfl (lv_room (Nat.le_of_ble_eq_true rfl)) dX1_lookAtPhi_108 ⟨(Nat.le_of_ble_eq_true rfl), (Nat.le_of_ble_eq_true rfl)⟩) hS (fun q _ h => hFc q h) hFc (fun r_2015 u t H1 locs ht hvm hw hB hz1 hk1 hS => ?_)
                  obtain ⟨hP1, hK1, hD1⟩ := hB
                  rw [ht] at hP1
                  have hK1 := va_K.moved hvm.symm hK1
                  obtain ⟨hP, hD⟩ := va_join (wr := [(q_714, .inl (cA_714, 600, .inl (fun j : Nat => zI (a_14 (j : Int))))), (q_715, .inl (cA_715, 301, .inl (fun j : Nat => zI (a_15 (j : Int))))), (q_716, .inl (cA_716, 1000, .inl (fun j : Nat => zI (a_16 (j : Int))))), (q_717, .inl (cA_717, 1000, .inl (fun j : Nat => zI (a_17 (j : Int))))), (q_718, .inl (cA_718, na1, .inr (.inl (fun j : Nat => lI (a_18 (j : Int)))))), (q_713, .inl (cA_713, 301, .inl (fun j : Nat => zI (a_13 (j : Int))))), (q_103, .inl (cA_103, 1024, .inl (fun j : Nat => zI (a1_kinds (j : Int))))), (q_101, .inl (cA_101, 300, .inl (fun j : Nat => zI (a1_firstOpen (j : Int))))), (q_102, .inl (cA_102, 300, .inl (fun j : Nat => zI (a1_secondOpen (j : Int))))), (hc, .inr (0, [.int (zI (B1)), v_1, .int (zI (P1)), v_3, v_4, v_5, v_6, v_7, v_8, v_9, v_10, .ref q_711, .ref q_712, .ref q_713, .ref q_714, .ref q_715, .ref q_716, .ref q_717, .ref q_718])), (q_711, .inl (cA_711, 300, .inl (fun j : Nat => zI (a_11 (j : Int))))), (q_712, .inl (cA_712, 300, .inl (fun j : Nat => zI (a_12 (j : Int)))))]) (w1 := [(h0, .inr (1, [v1_0, .ref q_101, .ref q_102, .ref q_103, .ref q_104, .int (zI (z1_changed))])), (q_104, .inl (cA_104, 1024, .inr (.inl (fun j : Nat => lI (a1_instead (j : Int))))))]) hP hD [8, 0] [1, 2, 3, 4, 5, 6, 7, 9, 10, 11, 12, 13] rfl rfl (by decide) (by decide) hk1 hFc hP1 hD1
                  have hK := (hK.sub (tys' := [(cA_714, .int), (cA_715, .int), (cA_716, .int), (cA_717, .int), (cA_718, .long), (cA_713, .int), (cA_103, .int), (cA_101, .boolean), (cA_102, .boolean), (cA_711, .int), (cA_712, .int)]) [1, 2, 3, 4, 5, 6, 7, 8, 9, 10, 11] rfl).app hK1
                  generalize H1 = H at hP hS ⊢
                  have hP : va_P (dC, dI) vwP [(q_714, .inl (cA_714, 600, .inl (fun j : Nat => zI (a_14 (j : Int))))), (q_715, .inl (cA_715, 301, .inl (fun j : Nat => zI (a_15 (j : Int))))), (q_716, .inl (cA_716, 1000, .inl (fun j : Nat => zI (a_16 (j : Int))))), (q_717, .inl (cA_717, 1000, .inl (fun j : Nat => zI (a_17 (j : Int))))), (q_718, .inl (cA_718, na1, .inr (.inl (fun j : Nat => lI (a_18 (j : Int)))))), (q_713, .inl (cA_713, 301, .inl (fun j : Nat => zI (a_13 (j : Int))))), (q_103, .inl (cA_103, 1024, .inl (fun j : Nat => zI (a1_kinds (j : Int))))), (q_101, .inl (cA_101, 300, .inl (fun j : Nat => zI (a1_firstOpen (j : Int))))), (q_102, .inl (cA_102, 300, .inl (fun j : Nat => zI (a1_secondOpen (j : Int))))), (hc, .inr (0, [.int (zI (B1)), v_1, .int (zI (P1)), v_3, v_4, v_5, v_6, v_7, v_8, v_9, v_10, .ref q_711, .ref q_712, .ref q_713, .ref q_714, .ref q_715, .ref q_716, .ref q_717, .ref q_718])), (q_711, .inl (cA_711, 300, .inl (fun j : Nat => zI (a_11 (j : Int))))), (q_712, .inl (cA_712, 300, .inl (fun j : Nat => zI (a_12 (j : Int))))), (h0, .inr (1, [v1_0, .ref q_101, .ref q_102, .ref q_103, .ref q_104, .int (zI (z1_changed))])), (q_104, .inl (cA_104, 1024, .inr (.inl (fun j : Nat => lI (a1_instead (j : Int))))))] H := hP
                  have hD : va_D A [(q_714, .inl (cA_714, 600, .inl (fun j : Nat => zI (a_14 (j : Int))))), (q_715, .inl (cA_715, 301, .inl (fun j : Nat => zI (a_15 (j : Int))))), (q_716, .inl (cA_716, 1000, .inl (fun j : Nat => zI (a_16 (j : Int))))), (q_717, .inl (cA_717, 1000, .inl (fun j : Nat => zI (a_17 (j : Int))))), (q_718, .inl (cA_718, na1, .inr (.inl (fun j : Nat => lI (a_18 (j : Int)))))), (q_713, .inl (cA_713, 301, .inl (fun j : Nat => zI (a_13 (j : Int))))), (q_103, .inl (cA_103, 1024, .inl (fun j : Nat => zI (a1_kinds (j : Int))))), (q_101, .inl (cA_101, 300, .inl (fun j : Nat => zI (a1_firstOpen (j : Int))))), (q_102, .inl (cA_102, 300, .inl (fun j : Nat => zI (a1_secondOpen (j : Int))))), (hc, .inr (0, [.int (zI (B1)), v_1, .int (zI (P1)), v_3, v_4, v_5, v_6, v_7, v_8, v_9, v_10, .ref q_711, .ref q_712, .ref q_713, .ref q_714, .ref q_715, .ref q_716, .ref q_717, .ref q_718])), (q_711, .inl (cA_711, 300, .inl (fun j : Nat => zI (a_11 (j : Int))))), (q_712, .inl (cA_712, 300, .inl (fun j : Nat => zI (a_12 (j : Int))))), (h0, .inr (1, [v1_0, .ref q_101, .ref q_102, .ref q_103, .ref q_104, .int (zI (z1_changed))])), (q_104, .inl (cA_104, 1024, .inr (.inl (fun j : Nat => lI (a1_instead (j : Int))))))] := hD
                  have hK : va_K (dC, dI) vwP [(cA_714, .int), (cA_715, .int), (cA_716, .int), (cA_717, .int), (cA_718, .long), (cA_713, .int), (cA_103, .int), (cA_101, .boolean), (cA_102, .boolean), (cA_711, .int), (cA_712, .int), (cA_104, .long)] s := hK
                  refine W.widen (k := 0) (n := 0) (Nat.le_of_ble_eq_true rfl) (Nat.le_of_ble_eq_true rfl) ?_
                  refine lv_iload hx hb dX1_lookAtPhi_111 (lv_at hl 7 rfl) ?_
                  refine lv_icmp_eq (tgt := 119) hx hb dX1_lookAtPhi_113 (by decide) (fun b113 => ?_) (fun b113 => ?_)
                  · refine lv_iinc (v := zI (d9_6 + 1)) (lv' := [(6, .int (zI (d9_6 + 1))), (9, .int (zI (z_2010))), (7, .long (lI (a_18 ((a_17 (i)) + d9_6)))), (0, .ref h0), (1, .ref hc), (2, .int (zI (b))), (3, .int (zI (i))), (4, .int (zI (d9_4))), (5, .int d9_5)]) hx hb dX1_lookAtPhi_119 hl (k := 8) rfl (zI_add (d9_6) (1)) (by decide) rfl (fun ls hl => ?_)
                    refine lv_goto (tgt := 9) hx hb dX1_lookAtPhi_122 (by decide) ?_
                    have hP := hP.sub (ws' := [(h0, .inr (1, [v1_0, .ref q_101, .ref q_102, .ref q_103, .ref q_104, .int (zI (z1_changed))])), (q_101, .inl (cA_101, 300, .inl (fun j : Nat => zI (a1_firstOpen (j : Int))))), (q_102, .inl (cA_102, 300, .inl (fun j : Nat => zI (a1_secondOpen (j : Int))))), (q_103, .inl (cA_103, 1024, .inl (fun j : Nat => zI (a1_kinds (j : Int))))), (q_104, .inl (cA_104, 1024, .inr (.inl (fun j : Nat => lI (a1_instead (j : Int)))))), (hc, .inr (0, [.int (zI (B1)), v_1, .int (zI (P1)), v_3, v_4, v_5, v_6, v_7, v_8, v_9, v_10, .ref q_711, .ref q_712, .ref q_713, .ref q_714, .ref q_715, .ref q_716, .ref q_717, .ref q_718])), (q_711, .inl (cA_711, 300, .inl (fun j : Nat => zI (a_11 (j : Int))))), (q_712, .inl (cA_712, 300, .inl (fun j : Nat => zI (a_12 (j : Int))))), (q_713, .inl (cA_713, 301, .inl (fun j : Nat => zI (a_13 (j : Int))))), (q_714, .inl (cA_714, 600, .inl (fun j : Nat => zI (a_14 (j : Int))))), (q_715, .inl (cA_715, 301, .inl (fun j : Nat => zI (a_15 (j : Int))))), (q_716, .inl (cA_716, 1000, .inl (fun j : Nat => zI (a_16 (j : Int))))), (q_717, .inl (cA_717, 1000, .inl (fun j : Nat => zI (a_17 (j : Int))))), (q_718, .inl (cA_718, na1, .inr (.inl (fun j : Nat => lI (a_18 (j : Int))))))]) [12, 7, 8, 6, 13, 9, 10, 11, 5, 0, 1, 2, 3, 4] rfl
                    have hD := hD.sub (ws' := [(h0, .inr (1, [v1_0, .ref q_101, .ref q_102, .ref q_103, .ref q_104, .int (zI (z1_changed))])), (q_101, .inl (cA_101, 300, .inl (fun j : Nat => zI (a1_firstOpen (j : Int))))), (q_102, .inl (cA_102, 300, .inl (fun j : Nat => zI (a1_secondOpen (j : Int))))), (q_103, .inl (cA_103, 1024, .inl (fun j : Nat => zI (a1_kinds (j : Int))))), (q_104, .inl (cA_104, 1024, .inr (.inl (fun j : Nat => lI (a1_instead (j : Int)))))), (hc, .inr (0, [.int (zI (B1)), v_1, .int (zI (P1)), v_3, v_4, v_5, v_6, v_7, v_8, v_9, v_10, .ref q_711, .ref q_712, .ref q_713, .ref q_714, .ref q_715, .ref q_716, .ref q_717, .ref q_718])), (q_711, .inl (cA_711, 300, .inl (fun j : Nat => zI (a_11 (j : Int))))), (q_712, .inl (cA_712, 300, .inl (fun j : Nat => zI (a_12 (j : Int))))), (q_713, .inl (cA_713, 301, .inl (fun j : Nat => zI (a_13 (j : Int))))), (q_714, .inl (cA_714, 600, .inl (fun j : Nat => zI (a_14 (j : Int))))), (q_715, .inl (cA_715, 301, .inl (fun j : Nat => zI (a_15 (j : Int))))), (q_716, .inl (cA_716, 1000, .inl (fun j : Nat => zI (a_16 (j : Int))))), (q_717, .inl (cA_717, 1000, .inl (fun j : Nat => zI (a_17 (j : Int))))), (q_718, .inl (cA_718, na1, .inr (.inl (fun j : Nat => lI (a_18 (j : Int))))))]) [12, 7, 8, 6, 13, 9, 10, 11, 5, 0, 1, 2, 3, 4] (by decide) rfl
                    exact ih9 (d9_6 + 1) d9_5 d9_4 ls H _ (by omega) (by omega) (by omega) (lv_sub hl [3, 4, 5, 6, 7, 8, 0] rfl) hP hD hS
                  · refine lv_iconst (v := 2) hx hb dX1_lookAtPhi_116 (by decide) ?_
                    refine lv_istore (lv' := [(4, .int 2), (9, .int (zI (z_2010))), (7, .long (lI (a_18 ((a_17 (i)) + d9_6)))), (0, .ref h0), (1, .ref hc), (2, .int (zI (b))), (3, .int (zI (i))), (5, .int d9_5), (6, .int (zI (d9_6)))]) hx hb dX1_lookAtPhi_117 hl (by decide) rfl (fun ls hl => ?_)
                    refine lv_iinc (v := zI (d9_6 + 1)) (lv' := [(6, .int (zI (d9_6 + 1))), (4, .int 2), (9, .int (zI (z_2010))), (7, .long (lI (a_18 ((a_17 (i)) + d9_6)))), (0, .ref h0), (1, .ref hc), (2, .int (zI (b))), (3, .int (zI (i))), (5, .int d9_5)]) hx hb dX1_lookAtPhi_119 hl (k := 8) rfl (zI_add (d9_6) (1)) (by decide) rfl (fun ls hl => ?_)
                    refine lv_goto (tgt := 9) hx hb dX1_lookAtPhi_122 (by decide) ?_
                    have hP := hP.sub (ws' := [(h0, .inr (1, [v1_0, .ref q_101, .ref q_102, .ref q_103, .ref q_104, .int (zI (z1_changed))])), (q_101, .inl (cA_101, 300, .inl (fun j : Nat => zI (a1_firstOpen (j : Int))))), (q_102, .inl (cA_102, 300, .inl (fun j : Nat => zI (a1_secondOpen (j : Int))))), (q_103, .inl (cA_103, 1024, .inl (fun j : Nat => zI (a1_kinds (j : Int))))), (q_104, .inl (cA_104, 1024, .inr (.inl (fun j : Nat => lI (a1_instead (j : Int)))))), (hc, .inr (0, [.int (zI (B1)), v_1, .int (zI (P1)), v_3, v_4, v_5, v_6, v_7, v_8, v_9, v_10, .ref q_711, .ref q_712, .ref q_713, .ref q_714, .ref q_715, .ref q_716, .ref q_717, .ref q_718])), (q_711, .inl (cA_711, 300, .inl (fun j : Nat => zI (a_11 (j : Int))))), (q_712, .inl (cA_712, 300, .inl (fun j : Nat => zI (a_12 (j : Int))))), (q_713, .inl (cA_713, 301, .inl (fun j : Nat => zI (a_13 (j : Int))))), (q_714, .inl (cA_714, 600, .inl (fun j : Nat => zI (a_14 (j : Int))))), (q_715, .inl (cA_715, 301, .inl (fun j : Nat => zI (a_15 (j : Int))))), (q_716, .inl (cA_716, 1000, .inl (fun j : Nat => zI (a_16 (j : Int))))), (q_717, .inl (cA_717, 1000, .inl (fun j : Nat => zI (a_17 (j : Int))))), (q_718, .inl (cA_718, na1, .inr (.inl (fun j : Nat => lI (a_18 (j : Int))))))]) [12, 7, 8, 6, 13, 9, 10, 11, 5, 0, 1, 2, 3, 4] rfl
                    have hD := hD.sub (ws' := [(h0, .inr (1, [v1_0, .ref q_101, .ref q_102, .ref q_103, .ref q_104, .int (zI (z1_changed))])), (q_101, .inl (cA_101, 300, .inl (fun j : Nat => zI (a1_firstOpen (j : Int))))), (q_102, .inl (cA_102, 300, .inl (fun j : Nat => zI (a1_secondOpen (j : Int))))), (q_103, .inl (cA_103, 1024, .inl (fun j : Nat => zI (a1_kinds (j : Int))))), (q_104, .inl (cA_104, 1024, .inr (.inl (fun j : Nat => lI (a1_instead (j : Int)))))), (hc, .inr (0, [.int (zI (B1)), v_1, .int (zI (P1)), v_3, v_4, v_5, v_6, v_7, v_8, v_9, v_10, .ref q_711, .ref q_712, .ref q_713, .ref q_714, .ref q_715, .ref q_716, .ref q_717, .ref q_718])), (q_711, .inl (cA_711, 300, .inl (fun j : Nat => zI (a_11 (j : Int))))), (q_712, .inl (cA_712, 300, .inl (fun j : Nat => zI (a_12 (j : Int))))), (q_713, .inl (cA_713, 301, .inl (fun j : Nat => zI (a_13 (j : Int))))), (q_714, .inl (cA_714, 600, .inl (fun j : Nat => zI (a_14 (j : Int))))), (q_715, .inl (cA_715, 301, .inl (fun j : Nat => zI (a_15 (j : Int))))), (q_716, .inl (cA_716, 1000, .inl (fun j : Nat => zI (a_16 (j : Int))))), (q_717, .inl (cA_717, 1000, .inl (fun j : Nat => zI (a_17 (j : Int))))), (q_718, .inl (cA_718, na1, .inr (.inl (fun j : Nat => lI (a_18 (j : Int))))))]) [12, 7, 8, 6, 13, 9, 10, 11, 5, 0, 1, 2, 3, 4] (by decide) rfl
                    exact ih9 (d9_6 + 1) d9_5 2 ls H _ (by omega) (by omega) (by omega) (lv_sub hl [4, 5, 6, 7, 1, 8, 0] rfl) hP hD hS
              · have yb82 : (z_2010 : Int) = (1 : Int) := (zI_eq (a := z_2010) (b := 1) (by omega) (by omega) (by omega) (by omega)).mp b82
                refine lv_iconst (v := 1) hx hb dX1_lookAtPhi_85 (by decide) ?_
                refine lv_istore (lv' := [(4, .int 1), (9, .int (zI (z_2010))), (7, .long (lI (a_18 ((a_17 (i)) + d9_6)))), (0, .ref h0), (1, .ref hc), (2, .int (zI (b))), (3, .int (zI (i))), (5, .int d9_5), (6, .int (zI (d9_6)))]) hx hb dX1_lookAtPhi_86 hl (by decide) rfl (fun ls hl => ?_)
                refine lv_aload_n hx hb dX1_lookAtPhi_88 rfl (lv_at hl 3 rfl) ?_
                refine lv_lload hx hb dX1_lookAtPhi_89 (lv_at hl 2 rfl) ?_
                have hPc := hP.sub (ws' := [(h0, .inr (1, [v1_0, .ref q_101, .ref q_102, .ref q_103, .ref q_104, .int (zI (z1_changed))])), (q_104, .inl (cA_104, 1024, .inr (.inl (fun j : Nat => lI (a1_instead (j : Int))))))]) [8, 0] rfl
                have hDc := hD.sub (ws' := [(h0, .inr (1, [v1_0, .ref q_101, .ref q_102, .ref q_103, .ref q_104, .int (zI (z1_changed))])), (q_104, .inl (cA_104, 1024, .inr (.inl (fun j : Nat => lI (a1_instead (j : Int))))))]) [8, 0] (by decide) rfl
                have hKc := hK.sub (tys' := [(cA_104, .long)]) [0] rfl
                have hFc := va_free (wc := [(h0, .inr (1, [v1_0, .ref q_101, .ref q_102, .ref q_103, .ref q_104, .int (zI (z1_changed))])), (q_104, .inl (cA_104, 1024, .inr (.inl (fun j : Nat => lI (a1_instead (j : Int))))))]) hD hS hA [8, 0] rfl
                refine va_calli (va_runV (As := [.long (lI (a_18 ((a_17 (i)) + d9_6)))]) (rest := []) ⟨hx, hb, hml, hown, hts⟩ (c_X1_numberOf l dC dI h0 v1_0 (.ref q_101) (.ref q_102) (.ref q_103) q_104 cA_104 a1_instead (.int (zI (z1_changed))) (a_18 ((a_17 (i)) + d9_6)) hR_a1_instead (by omega) H.size) (cwV 1 hts g_X1_lookAtPhi_X1_numberOf rfl rfl rfl (by decide +kernel) ⟨(Nat.le_of_ble_eq_true rfl), (Nat.le_of_ble_eq_true rfl)⟩) ⟨fun a U g mk q => by obtain ⟨q0, q1, qP, qK, qD, e0, e1⟩ := q; exact ⟨q0, q1, qP, va_K.moved (u := U) (U := U.calling g mk a) (Vm.Alike.refl U.vm) qK, qD, va_Nw.same rfl (u := U) (U := U.calling g mk a) rfl e0, va_Nw.same rfl (u := U) (U := U.calling g mk a) rfl e1⟩, va_recv hKc hPc (ci := 1) (q0 := 0) rfl rfl, fun U hU hW => ⟨rfl, by rw [hU], by rw [hU]; exact hPc, va_K.moved hW.alike hKc, hDc.weaken (fun _ _ _ _ => trivial), va_Nw.warmM hW hp0, va_Nw.warmM hW hp1⟩⟩ rfl rfl hl.1 rfl (lv_room (Nat.le_of_ble_eq_true rfl)) dX1_lookAtPhi_91 ⟨(Nat.le_of_ble_eq_true rfl), (Nat.le_of_ble_eq_true rfl)⟩) hS (fun q _ h => hFc q h) hFc (fun r_2016 u t H1 locs ht hvm hw hB hz1 hk1 hS => ?_)
                obtain ⟨hP1, hK1, hD1⟩ := hB
                rw [ht] at hP1
                have hK1 := va_K.moved hvm.symm hK1
                obtain ⟨hP, hD⟩ := va_join (wr := [(q_714, .inl (cA_714, 600, .inl (fun j : Nat => zI (a_14 (j : Int))))), (q_715, .inl (cA_715, 301, .inl (fun j : Nat => zI (a_15 (j : Int))))), (q_716, .inl (cA_716, 1000, .inl (fun j : Nat => zI (a_16 (j : Int))))), (q_717, .inl (cA_717, 1000, .inl (fun j : Nat => zI (a_17 (j : Int))))), (q_718, .inl (cA_718, na1, .inr (.inl (fun j : Nat => lI (a_18 (j : Int)))))), (q_713, .inl (cA_713, 301, .inl (fun j : Nat => zI (a_13 (j : Int))))), (q_103, .inl (cA_103, 1024, .inl (fun j : Nat => zI (a1_kinds (j : Int))))), (q_101, .inl (cA_101, 300, .inl (fun j : Nat => zI (a1_firstOpen (j : Int))))), (q_102, .inl (cA_102, 300, .inl (fun j : Nat => zI (a1_secondOpen (j : Int))))), (hc, .inr (0, [.int (zI (B1)), v_1, .int (zI (P1)), v_3, v_4, v_5, v_6, v_7, v_8, v_9, v_10, .ref q_711, .ref q_712, .ref q_713, .ref q_714, .ref q_715, .ref q_716, .ref q_717, .ref q_718])), (q_711, .inl (cA_711, 300, .inl (fun j : Nat => zI (a_11 (j : Int))))), (q_712, .inl (cA_712, 300, .inl (fun j : Nat => zI (a_12 (j : Int)))))]) (w1 := [(h0, .inr (1, [v1_0, .ref q_101, .ref q_102, .ref q_103, .ref q_104, .int (zI (z1_changed))])), (q_104, .inl (cA_104, 1024, .inr (.inl (fun j : Nat => lI (a1_instead (j : Int))))))]) hP hD [8, 0] [1, 2, 3, 4, 5, 6, 7, 9, 10, 11, 12, 13] rfl rfl (by decide) (by decide) hk1 hFc hP1 hD1
                have hK := (hK.sub (tys' := [(cA_714, .int), (cA_715, .int), (cA_716, .int), (cA_717, .int), (cA_718, .long), (cA_713, .int), (cA_103, .int), (cA_101, .boolean), (cA_102, .boolean), (cA_711, .int), (cA_712, .int)]) [1, 2, 3, 4, 5, 6, 7, 8, 9, 10, 11] rfl).app hK1
                generalize H1 = H at hP hS ⊢
                have hP : va_P (dC, dI) vwP [(q_714, .inl (cA_714, 600, .inl (fun j : Nat => zI (a_14 (j : Int))))), (q_715, .inl (cA_715, 301, .inl (fun j : Nat => zI (a_15 (j : Int))))), (q_716, .inl (cA_716, 1000, .inl (fun j : Nat => zI (a_16 (j : Int))))), (q_717, .inl (cA_717, 1000, .inl (fun j : Nat => zI (a_17 (j : Int))))), (q_718, .inl (cA_718, na1, .inr (.inl (fun j : Nat => lI (a_18 (j : Int)))))), (q_713, .inl (cA_713, 301, .inl (fun j : Nat => zI (a_13 (j : Int))))), (q_103, .inl (cA_103, 1024, .inl (fun j : Nat => zI (a1_kinds (j : Int))))), (q_101, .inl (cA_101, 300, .inl (fun j : Nat => zI (a1_firstOpen (j : Int))))), (q_102, .inl (cA_102, 300, .inl (fun j : Nat => zI (a1_secondOpen (j : Int))))), (hc, .inr (0, [.int (zI (B1)), v_1, .int (zI (P1)), v_3, v_4, v_5, v_6, v_7, v_8, v_9, v_10, .ref q_711, .ref q_712, .ref q_713, .ref q_714, .ref q_715, .ref q_716, .ref q_717, .ref q_718])), (q_711, .inl (cA_711, 300, .inl (fun j : Nat => zI (a_11 (j : Int))))), (q_712, .inl (cA_712, 300, .inl (fun j : Nat => zI (a_12 (j : Int))))), (h0, .inr (1, [v1_0, .ref q_101, .ref q_102, .ref q_103, .ref q_104, .int (zI (z1_changed))])), (q_104, .inl (cA_104, 1024, .inr (.inl (fun j : Nat => lI (a1_instead (j : Int))))))] H := hP
                have hD : va_D A [(q_714, .inl (cA_714, 600, .inl (fun j : Nat => zI (a_14 (j : Int))))), (q_715, .inl (cA_715, 301, .inl (fun j : Nat => zI (a_15 (j : Int))))), (q_716, .inl (cA_716, 1000, .inl (fun j : Nat => zI (a_16 (j : Int))))), (q_717, .inl (cA_717, 1000, .inl (fun j : Nat => zI (a_17 (j : Int))))), (q_718, .inl (cA_718, na1, .inr (.inl (fun j : Nat => lI (a_18 (j : Int)))))), (q_713, .inl (cA_713, 301, .inl (fun j : Nat => zI (a_13 (j : Int))))), (q_103, .inl (cA_103, 1024, .inl (fun j : Nat => zI (a1_kinds (j : Int))))), (q_101, .inl (cA_101, 300, .inl (fun j : Nat => zI (a1_firstOpen (j : Int))))), (q_102, .inl (cA_102, 300, .inl (fun j : Nat => zI (a1_secondOpen (j : Int))))), (hc, .inr (0, [.int (zI (B1)), v_1, .int (zI (P1)), v_3, v_4, v_5, v_6, v_7, v_8, v_9, v_10, .ref q_711, .ref q_712, .ref q_713, .ref q_714, .ref q_715, .ref q_716, .ref q_717, .ref q_718])), (q_711, .inl (cA_711, 300, .inl (fun j : Nat => zI (a_11 (j : Int))))), (q_712, .inl (cA_712, 300, .inl (fun j : Nat => zI (a_12 (j : Int))))), (h0, .inr (1, [v1_0, .ref q_101, .ref q_102, .ref q_103, .ref q_104, .int (zI (z1_changed))])), (q_104, .inl (cA_104, 1024, .inr (.inl (fun j : Nat => lI (a1_instead (j : Int))))))] := hD
                have hK : va_K (dC, dI) vwP [(cA_714, .int), (cA_715, .int), (cA_716, .int), (cA_717, .int), (cA_718, .long), (cA_713, .int), (cA_103, .int), (cA_101, .boolean), (cA_102, .boolean), (cA_711, .int), (cA_712, .int), (cA_104, .long)] s := hK
                refine W.widen (k := 0) (n := 0) (Nat.le_of_ble_eq_true rfl) (Nat.le_of_ble_eq_true rfl) ?_
                refine lv_istore (lv' := [(5, .int r_2016), (4, .int 1), (9, .int (zI (z_2010))), (7, .long (lI (a_18 ((a_17 (i)) + d9_6)))), (0, .ref h0), (1, .ref hc), (2, .int (zI (b))), (3, .int (zI (i))), (6, .int (zI (d9_6)))]) hx hb dX1_lookAtPhi_94 hl (by decide) rfl (fun ls hl => ?_)
                refine lv_goto (tgt := 119) hx hb dX1_lookAtPhi_96 (by decide) ?_
                refine lv_iinc (v := zI (d9_6 + 1)) (lv' := [(6, .int (zI (d9_6 + 1))), (5, .int r_2016), (4, .int 1), (9, .int (zI (z_2010))), (7, .long (lI (a_18 ((a_17 (i)) + d9_6)))), (0, .ref h0), (1, .ref hc), (2, .int (zI (b))), (3, .int (zI (i)))]) hx hb dX1_lookAtPhi_119 hl (k := 8) rfl (zI_add (d9_6) (1)) (by decide) rfl (fun ls hl => ?_)
                refine lv_goto (tgt := 9) hx hb dX1_lookAtPhi_122 (by decide) ?_
                have hP := hP.sub (ws' := [(h0, .inr (1, [v1_0, .ref q_101, .ref q_102, .ref q_103, .ref q_104, .int (zI (z1_changed))])), (q_101, .inl (cA_101, 300, .inl (fun j : Nat => zI (a1_firstOpen (j : Int))))), (q_102, .inl (cA_102, 300, .inl (fun j : Nat => zI (a1_secondOpen (j : Int))))), (q_103, .inl (cA_103, 1024, .inl (fun j : Nat => zI (a1_kinds (j : Int))))), (q_104, .inl (cA_104, 1024, .inr (.inl (fun j : Nat => lI (a1_instead (j : Int)))))), (hc, .inr (0, [.int (zI (B1)), v_1, .int (zI (P1)), v_3, v_4, v_5, v_6, v_7, v_8, v_9, v_10, .ref q_711, .ref q_712, .ref q_713, .ref q_714, .ref q_715, .ref q_716, .ref q_717, .ref q_718])), (q_711, .inl (cA_711, 300, .inl (fun j : Nat => zI (a_11 (j : Int))))), (q_712, .inl (cA_712, 300, .inl (fun j : Nat => zI (a_12 (j : Int))))), (q_713, .inl (cA_713, 301, .inl (fun j : Nat => zI (a_13 (j : Int))))), (q_714, .inl (cA_714, 600, .inl (fun j : Nat => zI (a_14 (j : Int))))), (q_715, .inl (cA_715, 301, .inl (fun j : Nat => zI (a_15 (j : Int))))), (q_716, .inl (cA_716, 1000, .inl (fun j : Nat => zI (a_16 (j : Int))))), (q_717, .inl (cA_717, 1000, .inl (fun j : Nat => zI (a_17 (j : Int))))), (q_718, .inl (cA_718, na1, .inr (.inl (fun j : Nat => lI (a_18 (j : Int))))))]) [12, 7, 8, 6, 13, 9, 10, 11, 5, 0, 1, 2, 3, 4] rfl
                have hD := hD.sub (ws' := [(h0, .inr (1, [v1_0, .ref q_101, .ref q_102, .ref q_103, .ref q_104, .int (zI (z1_changed))])), (q_101, .inl (cA_101, 300, .inl (fun j : Nat => zI (a1_firstOpen (j : Int))))), (q_102, .inl (cA_102, 300, .inl (fun j : Nat => zI (a1_secondOpen (j : Int))))), (q_103, .inl (cA_103, 1024, .inl (fun j : Nat => zI (a1_kinds (j : Int))))), (q_104, .inl (cA_104, 1024, .inr (.inl (fun j : Nat => lI (a1_instead (j : Int)))))), (hc, .inr (0, [.int (zI (B1)), v_1, .int (zI (P1)), v_3, v_4, v_5, v_6, v_7, v_8, v_9, v_10, .ref q_711, .ref q_712, .ref q_713, .ref q_714, .ref q_715, .ref q_716, .ref q_717, .ref q_718])), (q_711, .inl (cA_711, 300, .inl (fun j : Nat => zI (a_11 (j : Int))))), (q_712, .inl (cA_712, 300, .inl (fun j : Nat => zI (a_12 (j : Int))))), (q_713, .inl (cA_713, 301, .inl (fun j : Nat => zI (a_13 (j : Int))))), (q_714, .inl (cA_714, 600, .inl (fun j : Nat => zI (a_14 (j : Int))))), (q_715, .inl (cA_715, 301, .inl (fun j : Nat => zI (a_15 (j : Int))))), (q_716, .inl (cA_716, 1000, .inl (fun j : Nat => zI (a_16 (j : Int))))), (q_717, .inl (cA_717, 1000, .inl (fun j : Nat => zI (a_17 (j : Int))))), (q_718, .inl (cA_718, na1, .inr (.inl (fun j : Nat => lI (a_18 (j : Int))))))]) [12, 7, 8, 6, 13, 9, 10, 11, 5, 0, 1, 2, 3, 4] (by decide) rfl
                exact ih9 (d9_6 + 1) r_2016 1 ls H _ (by omega) (by omega) (by omega) (lv_sub hl [5, 6, 7, 8, 2, 1, 0] rfl) hP hD hS
          · have yb68 : (z_2013 : Int) = (0 : Int) := (zI_eq (a := z_2013) (b := 0) (by omega) (by omega) (by omega) (by omega)).mp b68
            refine lv_goto (tgt := 119) hx hb dX1_lookAtPhi_71 (by decide) ?_
            refine lv_iinc (v := zI (d9_6 + 1)) (lv' := [(6, .int (zI (d9_6 + 1))), (9, .int (zI (z_2010))), (7, .long (lI (a_18 ((a_17 (i)) + d9_6)))), (0, .ref h0), (1, .ref hc), (2, .int (zI (b))), (3, .int (zI (i))), (4, .int (zI (d9_4))), (5, .int d9_5)]) hx hb dX1_lookAtPhi_119 hl (k := 8) rfl (zI_add (d9_6) (1)) (by decide) rfl (fun ls hl => ?_)
            refine lv_goto (tgt := 9) hx hb dX1_lookAtPhi_122 (by decide) ?_
            have hP := hP.sub (ws' := [(h0, .inr (1, [v1_0, .ref q_101, .ref q_102, .ref q_103, .ref q_104, .int (zI (z1_changed))])), (q_101, .inl (cA_101, 300, .inl (fun j : Nat => zI (a1_firstOpen (j : Int))))), (q_102, .inl (cA_102, 300, .inl (fun j : Nat => zI (a1_secondOpen (j : Int))))), (q_103, .inl (cA_103, 1024, .inl (fun j : Nat => zI (a1_kinds (j : Int))))), (q_104, .inl (cA_104, 1024, .inr (.inl (fun j : Nat => lI (a1_instead (j : Int)))))), (hc, .inr (0, [.int (zI (B1)), v_1, .int (zI (P1)), v_3, v_4, v_5, v_6, v_7, v_8, v_9, v_10, .ref q_711, .ref q_712, .ref q_713, .ref q_714, .ref q_715, .ref q_716, .ref q_717, .ref q_718])), (q_711, .inl (cA_711, 300, .inl (fun j : Nat => zI (a_11 (j : Int))))), (q_712, .inl (cA_712, 300, .inl (fun j : Nat => zI (a_12 (j : Int))))), (q_713, .inl (cA_713, 301, .inl (fun j : Nat => zI (a_13 (j : Int))))), (q_714, .inl (cA_714, 600, .inl (fun j : Nat => zI (a_14 (j : Int))))), (q_715, .inl (cA_715, 301, .inl (fun j : Nat => zI (a_15 (j : Int))))), (q_716, .inl (cA_716, 1000, .inl (fun j : Nat => zI (a_16 (j : Int))))), (q_717, .inl (cA_717, 1000, .inl (fun j : Nat => zI (a_17 (j : Int))))), (q_718, .inl (cA_718, na1, .inr (.inl (fun j : Nat => lI (a_18 (j : Int))))))]) [8, 9, 10, 7, 0, 11, 12, 13, 6, 1, 2, 3, 4, 5] rfl
            have hD := hD.sub (ws' := [(h0, .inr (1, [v1_0, .ref q_101, .ref q_102, .ref q_103, .ref q_104, .int (zI (z1_changed))])), (q_101, .inl (cA_101, 300, .inl (fun j : Nat => zI (a1_firstOpen (j : Int))))), (q_102, .inl (cA_102, 300, .inl (fun j : Nat => zI (a1_secondOpen (j : Int))))), (q_103, .inl (cA_103, 1024, .inl (fun j : Nat => zI (a1_kinds (j : Int))))), (q_104, .inl (cA_104, 1024, .inr (.inl (fun j : Nat => lI (a1_instead (j : Int)))))), (hc, .inr (0, [.int (zI (B1)), v_1, .int (zI (P1)), v_3, v_4, v_5, v_6, v_7, v_8, v_9, v_10, .ref q_711, .ref q_712, .ref q_713, .ref q_714, .ref q_715, .ref q_716, .ref q_717, .ref q_718])), (q_711, .inl (cA_711, 300, .inl (fun j : Nat => zI (a_11 (j : Int))))), (q_712, .inl (cA_712, 300, .inl (fun j : Nat => zI (a_12 (j : Int))))), (q_713, .inl (cA_713, 301, .inl (fun j : Nat => zI (a_13 (j : Int))))), (q_714, .inl (cA_714, 600, .inl (fun j : Nat => zI (a_14 (j : Int))))), (q_715, .inl (cA_715, 301, .inl (fun j : Nat => zI (a_15 (j : Int))))), (q_716, .inl (cA_716, 1000, .inl (fun j : Nat => zI (a_16 (j : Int))))), (q_717, .inl (cA_717, 1000, .inl (fun j : Nat => zI (a_17 (j : Int))))), (q_718, .inl (cA_718, na1, .inr (.inl (fun j : Nat => lI (a_18 (j : Int))))))]) [8, 9, 10, 7, 0, 11, 12, 13, 6, 1, 2, 3, 4, 5] (by decide) rfl
            exact ih9 (d9_6 + 1) d9_5 d9_4 ls H _ (by omega) (by omega) (by omega) (lv_sub hl [3, 4, 5, 6, 7, 8, 0] rfl) hP hD hS
  exact key9 (((a_13 (b + 1) - a_13 (b)) - (0) : Int).toNat + 1) 0 0 0 ls H _ (by omega) (by omega) (by omega) (lv_sub hl [3, 4, 5, 6, 2, 1, 0] rfl) hP hD hS
