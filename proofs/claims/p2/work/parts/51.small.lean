theorem dX3_turnsRound_0 : decode cX3_turnsRound 0 = .ok (.iload_n 0, 1) := by decide +kernel
theorem dX3_turnsRound_1 : decode cX3_turnsRound 1 = .ok (.tableswitch 73 3 16 #[71, 73, 71, 73, 73, 71, 71, 71, 73, 73, 73, 73, 71, 71], 71) := by decide +kernel
theorem dX3_turnsRound_72 : decode cX3_turnsRound 72 = .ok (.iconst 1, 1) := by decide +kernel
theorem dX3_turnsRound_73 : decode cX3_turnsRound 73 = .ok (.ireturn, 1) := by decide +kernel
theorem dX3_turnsRound_74 : decode cX3_turnsRound 74 = .ok (.iconst 0, 1) := by decide +kernel
theorem dX3_turnsRound_75 : decode cX3_turnsRound 75 = .ok (.ireturn, 1) := by decide +kernel
def o_X3_turnsRound : List Cond := []
def v_X3_turnsRound : List Cond := .code yX3_turnsRound cX3_turnsRound 1 (some .boolean) :: (o_X3_turnsRound ++ [])
theorem mow_X3_turnsRound : ∀ w ∈ o_X3_turnsRound, w ∈ v_X3_turnsRound := fun _ h => List.mem_cons_of_mem _ (List.mem_append_left _ h)
set_option maxRecDepth 20000 in
theorem gw_X3_turnsRound : v_X3_turnsRound.all goodWord = true := by decide +kernel
set_option maxHeartbeats 4000000 in
set_option maxRecDepth 100000 in
theorem c_X3_turnsRound (l : Launch) (dC : Nat → ClassId) (dI : Nat → Nat → Nat) (o : Int) (hNo : -1 ≤ o ∧ o ≤ 100) (sz : Nat) : Met l yX3_turnsRound v_X3_turnsRound ({ frames := 0, cells := 0, slots := 0, locals := 0 }) (va_Pc [.int (zI (o))] (fun U => U.heap.size = sz ∧ va_P (dC, dI) vwP [] U.heap ∧ va_K (dC, dI) vwP [] U ∧ va_D (fun _ => True) [])) (va_Qi (fun (r : Int32) (_ : Unit) => ∃ z : Int, r = zI z ∧ (0 ≤ z ∧ z ≤ 1)) (fun (_ : Unit) (t : State) => va_P (dC, dI) vwP [] t.heap ∧ va_K (dC, dI) vwP [] t ∧ va_D (va_A [] sz) []) (va_A [] sz)) 0 0 (va_A [] sz) := by
  refine Met.ofW (cc := cX3_turnsRound) (maxL := 1) (ret := (some .boolean)) (by decide) rfl ?_
  intro p e s m args below meth c s₁ B hml hv
  obtain ⟨rfl, hsz, hP, hK, hD0⟩ := hv
  have hx := B.exec
  have hb := B.bytes
  have hr := B.returns
  have hts := atoms_spec (ws := v_X3_turnsRound) B.pre
  have hown : s.vm.findClass RX3 = some m.cls := findClass_of_methodNamed B.named
  have hlocks := B.notSynchronized
  have ow : ∀ {k : Nat} {w : Cond}, o_X3_turnsRound[k]? = some w → w.before ([.int (zI (o))] : List Value).toArray s = true := fun h => hts _ (mow_X3_turnsRound _ (List.mem_of_getElem? h))
  subst hsz
  have hD := hD0.self (sz := s.heap.size)
  generalize hAe : va_A [] s.heap.size = A at hD ⊢
  have hA : ∀ q : Nat, s.heap.size ≤ q → A q := fun q h => by rw [← hAe]; exact Or.inr h
  have hS : va_S A s.heap s.heap [] := va_S.rf
  have hP : va_P (dC, dI) vwP [] s.heap := hP
  have hl := lv_entry ([.int (zI (o))]) (n := 1) (Nat.le_of_ble_eq_true rfl)
  rw [lg_entry_eq]
  generalize (lg_sl ([.int (zI (o))]) ++ List.replicate (1 - (lg_sl ([.int (zI (o))])).length) Slot.unset).toArray = ls at hl ⊢
  have hl : lv_has ls 1 [(0, .int (zI (o)))] := hl
  obtain ⟨H, hH⟩ : ∃ H, H = s.heap := ⟨_, rfl⟩
  rw [← hH] at hP
  have hS : va_S A s.heap H [] := by rw [hH]; exact hS
  rw [← hH]
  refine zW_cap (fun Q hQ => ?_)
  refine lv_iload_n hx hb dX3_turnsRound_0 rfl (lv_at hl 0 rfl) ?_
  by_cases s1_0 : o = 3
  · refine lv_tableIn (off := 71) (tgt := 72) hx hb dX3_turnsRound_1 (by rw [s1_0]; decide) (by rw [s1_0]; decide) (by rw [s1_0]; decide) (by decide) ?_
    refine lv_iconst (v := 1) hx hb dX3_turnsRound_72 (by decide) ?_
    subst hQ
    refine W.widen (k := 0) (n := 0) (Nat.le_of_ble_eq_true rfl) (Nat.le_of_ble_eq_true rfl) ?_
    exact W.zret (v := 1) hx hb hr (by decide) (fun t ht hW => ⟨⟨1, (), rfl, ⟨1, rfl, by omega⟩, by rw [ht]; exact hP, va_K.moved hW.alike hK, hD⟩, hS.F ht⟩) hS.2.2 dX3_turnsRound_73
  by_cases s1_1 : o = 4
  · refine lv_tableIn (off := 73) (tgt := 74) hx hb dX3_turnsRound_1 (by rw [s1_1]; decide) (by rw [s1_1]; decide) (by rw [s1_1]; decide) (by decide) ?_
    refine lv_iconst (v := 0) hx hb dX3_turnsRound_74 (by decide) ?_
    subst hQ
    refine W.widen (k := 0) (n := 0) (Nat.le_of_ble_eq_true rfl) (Nat.le_of_ble_eq_true rfl) ?_
    exact W.zret (v := 0) hx hb hr (by decide) (fun t ht hW => ⟨⟨0, (), rfl, ⟨0, rfl, by omega⟩, by rw [ht]; exact hP, va_K.moved hW.alike hK, hD⟩, hS.F ht⟩) hS.2.2 dX3_turnsRound_75
  by_cases s1_2 : o = 5
  · refine lv_tableIn (off := 71) (tgt := 72) hx hb dX3_turnsRound_1 (by rw [s1_2]; decide) (by rw [s1_2]; decide) (by rw [s1_2]; decide) (by decide) ?_
    refine lv_iconst (v := 1) hx hb dX3_turnsRound_72 (by decide) ?_
    subst hQ
    refine W.widen (k := 0) (n := 0) (Nat.le_of_ble_eq_true rfl) (Nat.le_of_ble_eq_true rfl) ?_
    exact W.zret (v := 1) hx hb hr (by decide) (fun t ht hW => ⟨⟨1, (), rfl, ⟨1, rfl, by omega⟩, by rw [ht]; exact hP, va_K.moved hW.alike hK, hD⟩, hS.F ht⟩) hS.2.2 dX3_turnsRound_73
  by_cases s1_3 : o = 6
  · refine lv_tableIn (off := 73) (tgt := 74) hx hb dX3_turnsRound_1 (by rw [s1_3]; decide) (by rw [s1_3]; decide) (by rw [s1_3]; decide) (by decide) ?_
    refine lv_iconst (v := 0) hx hb dX3_turnsRound_74 (by decide) ?_
    subst hQ
    refine W.widen (k := 0) (n := 0) (Nat.le_of_ble_eq_true rfl) (Nat.le_of_ble_eq_true rfl) ?_
    exact W.zret (v := 0) hx hb hr (by decide) (fun t ht hW => ⟨⟨0, (), rfl, ⟨0, rfl, by omega⟩, by rw [ht]; exact hP, va_K.moved hW.alike hK, hD⟩, hS.F ht⟩) hS.2.2 dX3_turnsRound_75
  by_cases s1_4 : o = 7
  · refine lv_tableIn (off := 73) (tgt := 74) hx hb dX3_turnsRound_1 (by rw [s1_4]; decide) (by rw [s1_4]; decide) (by rw [s1_4]; decide) (by decide) ?_
    refine lv_iconst (v := 0) hx hb dX3_turnsRound_74 (by decide) ?_
    subst hQ
    refine W.widen (k := 0) (n := 0) (Nat.le_of_ble_eq_true rfl) (Nat.le_of_ble_eq_true rfl) ?_
    exact W.zret (v := 0) hx hb hr (by decide) (fun t ht hW => ⟨⟨0, (), rfl, ⟨0, rfl, by omega⟩, by rw [ht]; exact hP, va_K.moved hW.alike hK, hD⟩, hS.F ht⟩) hS.2.2 dX3_turnsRound_75
  by_cases s1_5 : o = 8
  · refine lv_tableIn (off := 71) (tgt := 72) hx hb dX3_turnsRound_1 (by rw [s1_5]; decide) (by rw [s1_5]; decide) (by rw [s1_5]; decide) (by decide) ?_
    refine lv_iconst (v := 1) hx hb dX3_turnsRound_72 (by decide) ?_
    subst hQ
    refine W.widen (k := 0) (n := 0) (Nat.le_of_ble_eq_true rfl) (Nat.le_of_ble_eq_true rfl) ?_
    exact W.zret (v := 1) hx hb hr (by decide) (fun t ht hW => ⟨⟨1, (), rfl, ⟨1, rfl, by omega⟩, by rw [ht]; exact hP, va_K.moved hW.alike hK, hD⟩, hS.F ht⟩) hS.2.2 dX3_turnsRound_73
  by_cases s1_6 : o = 9
  · refine lv_tableIn (off := 71) (tgt := 72) hx hb dX3_turnsRound_1 (by rw [s1_6]; decide) (by rw [s1_6]; decide) (by rw [s1_6]; decide) (by decide) ?_
    refine lv_iconst (v := 1) hx hb dX3_turnsRound_72 (by decide) ?_
    subst hQ
    refine W.widen (k := 0) (n := 0) (Nat.le_of_ble_eq_true rfl) (Nat.le_of_ble_eq_true rfl) ?_
    exact W.zret (v := 1) hx hb hr (by decide) (fun t ht hW => ⟨⟨1, (), rfl, ⟨1, rfl, by omega⟩, by rw [ht]; exact hP, va_K.moved hW.alike hK, hD⟩, hS.F ht⟩) hS.2.2 dX3_turnsRound_73
  by_cases s1_7 : o = 10
  · refine lv_tableIn (off := 71) (tgt := 72) hx hb dX3_turnsRound_1 (by rw [s1_7]; decide) (by rw [s1_7]; decide) (by rw [s1_7]; decide) (by decide) ?_
    refine lv_iconst (v := 1) hx hb dX3_turnsRound_72 (by decide) ?_
    subst hQ
    refine W.widen (k := 0) (n := 0) (Nat.le_of_ble_eq_true rfl) (Nat.le_of_ble_eq_true rfl) ?_
    exact W.zret (v := 1) hx hb hr (by decide) (fun t ht hW => ⟨⟨1, (), rfl, ⟨1, rfl, by omega⟩, by rw [ht]; exact hP, va_K.moved hW.alike hK, hD⟩, hS.F ht⟩) hS.2.2 dX3_turnsRound_73
  by_cases s1_8 : o = 11
  · refine lv_tableIn (off := 73) (tgt := 74) hx hb dX3_turnsRound_1 (by rw [s1_8]; decide) (by rw [s1_8]; decide) (by rw [s1_8]; decide) (by decide) ?_
    refine lv_iconst (v := 0) hx hb dX3_turnsRound_74 (by decide) ?_
    subst hQ
    refine W.widen (k := 0) (n := 0) (Nat.le_of_ble_eq_true rfl) (Nat.le_of_ble_eq_true rfl) ?_
    exact W.zret (v := 0) hx hb hr (by decide) (fun t ht hW => ⟨⟨0, (), rfl, ⟨0, rfl, by omega⟩, by rw [ht]; exact hP, va_K.moved hW.alike hK, hD⟩, hS.F ht⟩) hS.2.2 dX3_turnsRound_75
  by_cases s1_9 : o = 12
  · refine lv_tableIn (off := 73) (tgt := 74) hx hb dX3_turnsRound_1 (by rw [s1_9]; decide) (by rw [s1_9]; decide) (by rw [s1_9]; decide) (by decide) ?_
    refine lv_iconst (v := 0) hx hb dX3_turnsRound_74 (by decide) ?_
    subst hQ
    refine W.widen (k := 0) (n := 0) (Nat.le_of_ble_eq_true rfl) (Nat.le_of_ble_eq_true rfl) ?_
    exact W.zret (v := 0) hx hb hr (by decide) (fun t ht hW => ⟨⟨0, (), rfl, ⟨0, rfl, by omega⟩, by rw [ht]; exact hP, va_K.moved hW.alike hK, hD⟩, hS.F ht⟩) hS.2.2 dX3_turnsRound_75
  by_cases s1_10 : o = 13
  · refine lv_tableIn (off := 73) (tgt := 74) hx hb dX3_turnsRound_1 (by rw [s1_10]; decide) (by rw [s1_10]; decide) (by rw [s1_10]; decide) (by decide) ?_
    refine lv_iconst (v := 0) hx hb dX3_turnsRound_74 (by decide) ?_
    subst hQ
    refine W.widen (k := 0) (n := 0) (Nat.le_of_ble_eq_true rfl) (Nat.le_of_ble_eq_true rfl) ?_
    exact W.zret (v := 0) hx hb hr (by decide) (fun t ht hW => ⟨⟨0, (), rfl, ⟨0, rfl, by omega⟩, by rw [ht]; exact hP, va_K.moved hW.alike hK, hD⟩, hS.F ht⟩) hS.2.2 dX3_turnsRound_75
  by_cases s1_11 : o = 14
  · refine lv_tableIn (off := 73) (tgt := 74) hx hb dX3_turnsRound_1 (by rw [s1_11]; decide) (by rw [s1_11]; decide) (by rw [s1_11]; decide) (by decide) ?_
    refine lv_iconst (v := 0) hx hb dX3_turnsRound_74 (by decide) ?_
    subst hQ
    refine W.widen (k := 0) (n := 0) (Nat.le_of_ble_eq_true rfl) (Nat.le_of_ble_eq_true rfl) ?_
    exact W.zret (v := 0) hx hb hr (by decide) (fun t ht hW => ⟨⟨0, (), rfl, ⟨0, rfl, by omega⟩, by rw [ht]; exact hP, va_K.moved hW.alike hK, hD⟩, hS.F ht⟩) hS.2.2 dX3_turnsRound_75
  by_cases s1_12 : o = 15
  · refine lv_tableIn (off := 71) (tgt := 72) hx hb dX3_turnsRound_1 (by rw [s1_12]; decide) (by rw [s1_12]; decide) (by rw [s1_12]; decide) (by decide) ?_
    refine lv_iconst (v := 1) hx hb dX3_turnsRound_72 (by decide) ?_
    subst hQ
    refine W.widen (k := 0) (n := 0) (Nat.le_of_ble_eq_true rfl) (Nat.le_of_ble_eq_true rfl) ?_
    exact W.zret (v := 1) hx hb hr (by decide) (fun t ht hW => ⟨⟨1, (), rfl, ⟨1, rfl, by omega⟩, by rw [ht]; exact hP, va_K.moved hW.alike hK, hD⟩, hS.F ht⟩) hS.2.2 dX3_turnsRound_73
  by_cases s1_13 : o = 16
  · refine lv_tableIn (off := 71) (tgt := 72) hx hb dX3_turnsRound_1 (by rw [s1_13]; decide) (by rw [s1_13]; decide) (by rw [s1_13]; decide) (by decide) ?_
    refine lv_iconst (v := 1) hx hb dX3_turnsRound_72 (by decide) ?_
    subst hQ
    refine W.widen (k := 0) (n := 0) (Nat.le_of_ble_eq_true rfl) (Nat.le_of_ble_eq_true rfl) ?_
    exact W.zret (v := 1) hx hb hr (by decide) (fun t ht hW => ⟨⟨1, (), rfl, ⟨1, rfl, by omega⟩, by rw [ht]; exact hP, va_K.moved hW.alike hK, hD⟩, hS.F ht⟩) hS.2.2 dX3_turnsRound_73
  refine lv_tableOut (tgt := 74) hx hb dX3_turnsRound_1 (by rw [zI_toInt (by omega) (by omega)]; omega) (by decide) ?_
  refine lv_iconst (v := 0) hx hb dX3_turnsRound_74 (by decide) ?_
  subst hQ
  refine W.widen (k := 0) (n := 0) (Nat.le_of_ble_eq_true rfl) (Nat.le_of_ble_eq_true rfl) ?_
  exact W.zret (v := 0) hx hb hr (by decide) (fun t ht hW => ⟨⟨0, (), rfl, ⟨0, rfl, by omega⟩, by rw [ht]; exact hP, va_K.moved hW.alike hK, hD⟩, hS.F ht⟩) hS.2.2 dX3_turnsRound_75
theorem dX3_alike_0 : decode cX3_alike 0 = .ok (.aload_n 0, 1) := by decide +kernel
theorem dX3_alike_1 : decode cX3_alike 1 = .ok (.getfield 82, 3) := by decide +kernel
theorem dX3_alike_4 : decode cX3_alike 4 = .ok (.iload_n 1, 1) := by decide +kernel
theorem dX3_alike_5 : decode cX3_alike 5 = .ok (.iaload, 1) := by decide +kernel
theorem dX3_alike_6 : decode cX3_alike 6 = .ok (.aload_n 0, 1) := by decide +kernel
theorem dX3_alike_7 : decode cX3_alike 7 = .ok (.getfield 82, 3) := by decide +kernel
theorem dX3_alike_10 : decode cX3_alike 10 = .ok (.iload_n 2, 1) := by decide +kernel
theorem dX3_alike_11 : decode cX3_alike 11 = .ok (.iaload, 1) := by decide +kernel
theorem dX3_alike_12 : decode cX3_alike 12 = .ok (.if_icmp .eq 5, 3) := by decide +kernel
theorem dX3_alike_17 : decode cX3_alike 17 = .ok (.aload_n 0, 1) := by decide +kernel
theorem dX3_alike_18 : decode cX3_alike 18 = .ok (.getfield 76, 3) := by decide +kernel
theorem dX3_alike_21 : decode cX3_alike 21 = .ok (.iload_n 1, 1) := by decide +kernel
theorem dX3_alike_22 : decode cX3_alike 22 = .ok (.laload, 1) := by decide +kernel
theorem dX3_alike_23 : decode cX3_alike 23 = .ok (.aload_n 0, 1) := by decide +kernel
theorem dX3_alike_24 : decode cX3_alike 24 = .ok (.getfield 76, 3) := by decide +kernel
theorem dX3_alike_27 : decode cX3_alike 27 = .ok (.iload_n 2, 1) := by decide +kernel
theorem dX3_alike_28 : decode cX3_alike 28 = .ok (.laload, 1) := by decide +kernel
theorem dX3_alike_29 : decode cX3_alike 29 = .ok (.lcmp, 1) := by decide +kernel
theorem dX3_alike_30 : decode cX3_alike 30 = .ok (.ifCond .ne 21, 3) := by decide +kernel
theorem dX3_alike_51 : decode cX3_alike 51 = .ok (.aload_n 0, 1) := by decide +kernel
theorem dX3_alike_52 : decode cX3_alike 52 = .ok (.getfield 82, 3) := by decide +kernel
theorem dX3_alike_55 : decode cX3_alike 55 = .ok (.iload_n 1, 1) := by decide +kernel
theorem dX3_alike_56 : decode cX3_alike 56 = .ok (.iaload, 1) := by decide +kernel
theorem dX3_alike_57 : decode cX3_alike 57 = .ok (.invokestatic 104, 3) := by decide +kernel
theorem dX3_alike_60 : decode cX3_alike 60 = .ok (.ifCond .eq 39, 3) := by decide +kernel
theorem dX3_alike_99 : decode cX3_alike 99 = .ok (.iconst 0, 1) := by decide +kernel
theorem dX3_alike_100 : decode cX3_alike 100 = .ok (.ireturn, 1) := by decide +kernel
theorem dX3_alike_63 : decode cX3_alike 63 = .ok (.aload_n 0, 1) := by decide +kernel
theorem dX3_alike_64 : decode cX3_alike 64 = .ok (.getfield 76, 3) := by decide +kernel
theorem dX3_alike_67 : decode cX3_alike 67 = .ok (.iload_n 1, 1) := by decide +kernel
theorem dX3_alike_68 : decode cX3_alike 68 = .ok (.laload, 1) := by decide +kernel
theorem dX3_alike_69 : decode cX3_alike 69 = .ok (.aload_n 0, 1) := by decide +kernel
theorem dX3_alike_70 : decode cX3_alike 70 = .ok (.getfield 79, 3) := by decide +kernel
theorem dX3_alike_73 : decode cX3_alike 73 = .ok (.iload_n 2, 1) := by decide +kernel
theorem dX3_alike_74 : decode cX3_alike 74 = .ok (.laload, 1) := by decide +kernel
theorem dX3_alike_75 : decode cX3_alike 75 = .ok (.lcmp, 1) := by decide +kernel
theorem dX3_alike_76 : decode cX3_alike 76 = .ok (.ifCond .ne 23, 3) := by decide +kernel
theorem dX3_alike_79 : decode cX3_alike 79 = .ok (.aload_n 0, 1) := by decide +kernel
theorem dX3_alike_80 : decode cX3_alike 80 = .ok (.getfield 79, 3) := by decide +kernel
theorem dX3_alike_83 : decode cX3_alike 83 = .ok (.iload_n 1, 1) := by decide +kernel
theorem dX3_alike_84 : decode cX3_alike 84 = .ok (.laload, 1) := by decide +kernel
theorem dX3_alike_85 : decode cX3_alike 85 = .ok (.aload_n 0, 1) := by decide +kernel
theorem dX3_alike_86 : decode cX3_alike 86 = .ok (.getfield 76, 3) := by decide +kernel
theorem dX3_alike_89 : decode cX3_alike 89 = .ok (.iload_n 2, 1) := by decide +kernel
theorem dX3_alike_90 : decode cX3_alike 90 = .ok (.laload, 1) := by decide +kernel
theorem dX3_alike_91 : decode cX3_alike 91 = .ok (.lcmp, 1) := by decide +kernel
theorem dX3_alike_92 : decode cX3_alike 92 = .ok (.ifCond .ne 7, 3) := by decide +kernel
theorem dX3_alike_95 : decode cX3_alike 95 = .ok (.iconst 1, 1) := by decide +kernel
theorem dX3_alike_96 : decode cX3_alike 96 = .ok (.goto 4, 3) := by decide +kernel
theorem dX3_alike_33 : decode cX3_alike 33 = .ok (.aload_n 0, 1) := by decide +kernel
theorem dX3_alike_34 : decode cX3_alike 34 = .ok (.getfield 79, 3) := by decide +kernel
theorem dX3_alike_37 : decode cX3_alike 37 = .ok (.iload_n 1, 1) := by decide +kernel
theorem dX3_alike_38 : decode cX3_alike 38 = .ok (.laload, 1) := by decide +kernel
theorem dX3_alike_39 : decode cX3_alike 39 = .ok (.aload_n 0, 1) := by decide +kernel
theorem dX3_alike_40 : decode cX3_alike 40 = .ok (.getfield 79, 3) := by decide +kernel
theorem dX3_alike_43 : decode cX3_alike 43 = .ok (.iload_n 2, 1) := by decide +kernel
theorem dX3_alike_44 : decode cX3_alike 44 = .ok (.laload, 1) := by decide +kernel
theorem dX3_alike_45 : decode cX3_alike 45 = .ok (.lcmp, 1) := by decide +kernel
theorem dX3_alike_46 : decode cX3_alike 46 = .ok (.ifCond .ne 5, 3) := by decide +kernel
theorem dX3_alike_49 : decode cX3_alike 49 = .ok (.iconst 1, 1) := by decide +kernel
theorem dX3_alike_50 : decode cX3_alike 50 = .ok (.ireturn, 1) := by decide +kernel
theorem dX3_alike_15 : decode cX3_alike 15 = .ok (.iconst 0, 1) := by decide +kernel
theorem dX3_alike_16 : decode cX3_alike 16 = .ok (.ireturn, 1) := by decide +kernel
def o_X3_alike : List Cond := [.fieldLink RX3 82 "SsaForge$Code" "op" "[I", .fieldLink RX3 76 "SsaForge$Code" "left" "[J", .methodLink RX3 104 yX3_turnsRound, .static yX3_turnsRound, .initialized RX3, .fieldLink RX3 79 "SsaForge$Code" "right" "[J"]
def v_X3_alike : List Cond := .code yX3_alike cX3_alike 3 (some .boolean) :: (o_X3_alike ++ (wsX00 ++ (v_X3_turnsRound ++ [])))
theorem mow_X3_alike : ∀ w ∈ o_X3_alike, w ∈ v_X3_alike := fun _ h => List.mem_cons_of_mem _ (List.mem_append_left _ h)
theorem mem_X3_alike_0 : ∀ w ∈ wsX00, w ∈ v_X3_alike := fun _ h => List.mem_cons_of_mem _ (List.mem_append_right _ (List.mem_append_left _ h))
theorem mem_X3_alike_1 : ∀ w ∈ v_X3_turnsRound, w ∈ v_X3_alike := fun _ h => List.mem_cons_of_mem _ (List.mem_append_right _ (List.mem_append_right _ (List.mem_append_left _ h)))
set_option maxRecDepth 20000 in
theorem gw_X3_alike : v_X3_alike.all goodWord = true := by decide +kernel
set_option maxRecDepth 20000 in
theorem g_X3_alike_X3_turnsRound : GoodIn v_X3_alike (wsS RX3 104 yX3_turnsRound v_X3_turnsRound) := goodIn_app (goodIn_sub (fun w h => mow_X3_alike w (by revert w h; decide +kernel)) (by decide +kernel)) (goodIn_sub mem_X3_alike_1 gw_X3_turnsRound)
set_option maxHeartbeats 4000000 in
set_option maxRecDepth 100000 in
theorem c_X3_alike (l : Launch) (dC : Nat → ClassId) (dI : Nat → Nat → Nat) (hc : Nat) (v_0 : Value) (v_1 : Value) (v_2 : Value) (v_3 : Value) (v_4 : Value) (q_705 : Nat) (cA_705 : ClassId) (a_5 : Int → Int) (q_706 : Nat) (cA_706 : ClassId) (a_6 : Int → Int) (q_707 : Nat) (cA_707 : ClassId) (a_7 : Int → Int) (q_708 : Nat) (cA_708 : ClassId) (a_8 : Int → Int) (v_9 : Value) (v_10 : Value) (v_11 : Value) (v_12 : Value) (v_13 : Value) (v_14 : Value) (v_15 : Value) (v_16 : Value) (v_17 : Value) (v_18 : Value) (i : Int) (i2 : Int) (hR_a_5 : ∀ j : Int, -1 ≤ a_5 j ∧ a_5 j ≤ 100) (hR_a_6 : ∀ j : Int, -1 ≤ a_6 j ∧ a_6 j ≤ 1023) (hR_a_7 : ∀ j : Int, ((-2147483648 ≤ a_7 j ∧ a_7 j ≤ 4294968319) ∨ a_7 j = 1099511627776)) (hR_a_8 : ∀ j : Int, ((-2147483648 ≤ a_8 j ∧ a_8 j ≤ 4294968319) ∨ a_8 j = 1099511627776)) (hNi : 0 ≤ i ∧ i < 2000 ∧ 0 ≤ i2 ∧ i2 < 2000) (sz : Nat) : Met l yX3_alike v_X3_alike ({ frames := 1, cells := 0, slots := 0, locals := 20 }) (va_Pc [.ref hc, .int (zI (i)), .int (zI (i2))] (fun U => U.heap.size = sz ∧ va_P (dC, dI) vwP [(hc, .inr (0, [v_0, v_1, v_2, v_3, v_4, .ref q_705, .ref q_706, .ref q_707, .ref q_708, v_9, v_10, v_11, v_12, v_13, v_14, v_15, v_16, v_17, v_18])), (q_705, .inl (cA_705, 2000, .inl (fun j : Nat => zI (a_5 (j : Int))))), (q_706, .inl (cA_706, 2000, .inl (fun j : Nat => zI (a_6 (j : Int))))), (q_707, .inl (cA_707, 2000, .inr (.inl (fun j : Nat => lI (a_7 (j : Int)))))), (q_708, .inl (cA_708, 2000, .inr (.inl (fun j : Nat => lI (a_8 (j : Int))))))] U.heap ∧ va_K (dC, dI) vwP [(cA_705, .int), (cA_706, .int), (cA_707, .long), (cA_708, .long)] U ∧ va_D (fun _ => True) [(hc, .inr (0, [v_0, v_1, v_2, v_3, v_4, .ref q_705, .ref q_706, .ref q_707, .ref q_708, v_9, v_10, v_11, v_12, v_13, v_14, v_15, v_16, v_17, v_18])), (q_705, .inl (cA_705, 2000, .inl (fun j : Nat => zI (a_5 (j : Int))))), (q_706, .inl (cA_706, 2000, .inl (fun j : Nat => zI (a_6 (j : Int))))), (q_707, .inl (cA_707, 2000, .inr (.inl (fun j : Nat => lI (a_7 (j : Int)))))), (q_708, .inl (cA_708, 2000, .inr (.inl (fun j : Nat => lI (a_8 (j : Int))))))])) (va_Qi (fun (r : Int32) (_ : Unit) => ∃ z : Int, r = zI z ∧ (0 ≤ z ∧ z ≤ 1)) (fun (_ : Unit) (t : State) => va_P (dC, dI) vwP [(hc, .inr (0, [v_0, v_1, v_2, v_3, v_4, .ref q_705, .ref q_706, .ref q_707, .ref q_708, v_9, v_10, v_11, v_12, v_13, v_14, v_15, v_16, v_17, v_18])), (q_705, .inl (cA_705, 2000, .inl (fun j : Nat => zI (a_5 (j : Int))))), (q_706, .inl (cA_706, 2000, .inl (fun j : Nat => zI (a_6 (j : Int))))), (q_707, .inl (cA_707, 2000, .inr (.inl (fun j : Nat => lI (a_7 (j : Int)))))), (q_708, .inl (cA_708, 2000, .inr (.inl (fun j : Nat => lI (a_8 (j : Int))))))] t.heap ∧ va_K (dC, dI) vwP [(cA_705, .int), (cA_706, .int), (cA_707, .long), (cA_708, .long)] t ∧ va_D (va_A [(hc, .inr (0, [v_0, v_1, v_2, v_3, v_4, .ref q_705, .ref q_706, .ref q_707, .ref q_708, v_9, v_10, v_11, v_12, v_13, v_14, v_15, v_16, v_17, v_18])), (q_705, .inl (cA_705, 2000, .inl (fun j : Nat => zI (a_5 (j : Int))))), (q_706, .inl (cA_706, 2000, .inl (fun j : Nat => zI (a_6 (j : Int))))), (q_707, .inl (cA_707, 2000, .inr (.inl (fun j : Nat => lI (a_7 (j : Int)))))), (q_708, .inl (cA_708, 2000, .inr (.inl (fun j : Nat => lI (a_8 (j : Int))))))] sz) [(hc, .inr (0, [v_0, v_1, v_2, v_3, v_4, .ref q_705, .ref q_706, .ref q_707, .ref q_708, v_9, v_10, v_11, v_12, v_13, v_14, v_15, v_16, v_17, v_18])), (q_705, .inl (cA_705, 2000, .inl (fun j : Nat => zI (a_5 (j : Int))))), (q_706, .inl (cA_706, 2000, .inl (fun j : Nat => zI (a_6 (j : Int))))), (q_707, .inl (cA_707, 2000, .inr (.inl (fun j : Nat => lI (a_7 (j : Int)))))), (q_708, .inl (cA_708, 2000, .inr (.inl (fun j : Nat => lI (a_8 (j : Int))))))]) (va_A [(hc, .inr (0, [v_0, v_1, v_2, v_3, v_4, .ref q_705, .ref q_706, .ref q_707, .ref q_708, v_9, v_10, v_11, v_12, v_13, v_14, v_15, v_16, v_17, v_18])), (q_705, .inl (cA_705, 2000, .inl (fun j : Nat => zI (a_5 (j : Int))))), (q_706, .inl (cA_706, 2000, .inl (fun j : Nat => zI (a_6 (j : Int))))), (q_707, .inl (cA_707, 2000, .inr (.inl (fun j : Nat => lI (a_7 (j : Int)))))), (q_708, .inl (cA_708, 2000, .inr (.inl (fun j : Nat => lI (a_8 (j : Int))))))] sz)) 0 0 (va_A [(hc, .inr (0, [v_0, v_1, v_2, v_3, v_4, .ref q_705, .ref q_706, .ref q_707, .ref q_708, v_9, v_10, v_11, v_12, v_13, v_14, v_15, v_16, v_17, v_18])), (q_705, .inl (cA_705, 2000, .inl (fun j : Nat => zI (a_5 (j : Int))))), (q_706, .inl (cA_706, 2000, .inl (fun j : Nat => zI (a_6 (j : Int))))), (q_707, .inl (cA_707, 2000, .inr (.inl (fun j : Nat => lI (a_7 (j : Int)))))), (q_708, .inl (cA_708, 2000, .inr (.inl (fun j : Nat => lI (a_8 (j : Int))))))] sz) := by
  refine Met.ofW (cc := cX3_alike) (maxL := 3) (ret := (some .boolean)) (by decide) rfl ?_
  intro p e s m args below meth c s₁ B hml hv
  obtain ⟨rfl, hsz, hP, hK, hD0⟩ := hv
  have hx := B.exec
  have hb := B.bytes
  have hr := B.returns
  have hts := atoms_spec (ws := v_X3_alike) B.pre
  have hown : s.vm.findClass RX3 = some m.cls := findClass_of_methodNamed B.named
  have hlocks := B.notSynchronized
  have ow : ∀ {k : Nat} {w : Cond}, o_X3_alike[k]? = some w → w.before ([.ref hc, .int (zI (i)), .int (zI (i2))] : List Value).toArray s = true := fun h => hts _ (mow_X3_alike _ (List.mem_of_getElem? h))
  subst hsz
  have hD := hD0.self (sz := s.heap.size)
  generalize hAe : va_A [(hc, .inr (0, [v_0, v_1, v_2, v_3, v_4, .ref q_705, .ref q_706, .ref q_707, .ref q_708, v_9, v_10, v_11, v_12, v_13, v_14, v_15, v_16, v_17, v_18])), (q_705, .inl (cA_705, 2000, .inl (fun j : Nat => zI (a_5 (j : Int))))), (q_706, .inl (cA_706, 2000, .inl (fun j : Nat => zI (a_6 (j : Int))))), (q_707, .inl (cA_707, 2000, .inr (.inl (fun j : Nat => lI (a_7 (j : Int)))))), (q_708, .inl (cA_708, 2000, .inr (.inl (fun j : Nat => lI (a_8 (j : Int))))))] s.heap.size = A at hD ⊢
  have hA : ∀ q : Nat, s.heap.size ≤ q → A q := fun q h => by rw [← hAe]; exact Or.inr h
  have hS : va_S A s.heap s.heap [] := va_S.rf
  have hP : va_P (dC, dI) vwP [(hc, .inr (0, [v_0, v_1, v_2, v_3, v_4, .ref q_705, .ref q_706, .ref q_707, .ref q_708, v_9, v_10, v_11, v_12, v_13, v_14, v_15, v_16, v_17, v_18])), (q_705, .inl (cA_705, 2000, .inl (fun j : Nat => zI (a_5 (j : Int))))), (q_706, .inl (cA_706, 2000, .inl (fun j : Nat => zI (a_6 (j : Int))))), (q_707, .inl (cA_707, 2000, .inr (.inl (fun j : Nat => lI (a_7 (j : Int)))))), (q_708, .inl (cA_708, 2000, .inr (.inl (fun j : Nat => lI (a_8 (j : Int))))))] s.heap := hP
  have hl := lv_entry ([.ref hc, .int (zI (i)), .int (zI (i2))]) (n := 3) (Nat.le_of_ble_eq_true rfl)
  rw [lg_entry_eq]
  generalize (lg_sl ([.ref hc, .int (zI (i)), .int (zI (i2))]) ++ List.replicate (3 - (lg_sl ([.ref hc, .int (zI (i)), .int (zI (i2))])).length) Slot.unset).toArray = ls at hl ⊢
  have hl : lv_has ls 3 [(0, .ref hc), (1, .int (zI (i))), (2, .int (zI (i2)))] := hl
  obtain ⟨H, hH⟩ : ∃ H, H = s.heap := ⟨_, rfl⟩
  rw [← hH] at hP
  have hS : va_S A s.heap H [] := by rw [hH]; exact hS
  rw [← hH]
  refine zW_cap (fun Q hQ => ?_)
  refine lv_aload_n hx hb dX3_alike_0 rfl (lv_at hl 0 rfl) ?_
  refine va_get (D := (dC, dI)) (ci := 0) (v := .ref q_705) (C := RX0) (T := TX0) (N := 19) hx hb hts mem_X3_alike_0 hown hK hP 0 rfl rfl 5 (by decide) (ow (k := 0) rfl) (fun _ h9 => h9) rfl dX3_alike_1 ?_
  refine lv_iload_n hx hb dX3_alike_4 rfl (lv_at hl 1 rfl) ?_
  refine va_iald hx hb hK hP 1 0 rfl rfl (zI_in (a := i) (n := 2000) (by omega) (by omega) (by decide)) dX3_alike_5 ?_
  refine lv_topi (fun z ez => ?_)
  obtain rfl : z = zI (a_5 (i)) := ez.trans (zI_ld (a_5) (by omega) (by omega))
  have k1 := hR_a_5 (i)
  refine lv_aload_n hx hb dX3_alike_6 rfl (lv_at hl 0 rfl) ?_
  refine va_get (D := (dC, dI)) (ci := 0) (v := .ref q_705) (C := RX0) (T := TX0) (N := 19) hx hb hts mem_X3_alike_0 hown hK hP 0 rfl rfl 5 (by decide) (ow (k := 0) rfl) (fun _ h9 => h9) rfl dX3_alike_7 ?_
  refine lv_iload_n hx hb dX3_alike_10 rfl (lv_at hl 2 rfl) ?_
  refine va_iald hx hb hK hP 1 0 rfl rfl (zI_in (a := i2) (n := 2000) (by omega) (by omega) (by decide)) dX3_alike_11 ?_
  refine lv_topi (fun z ez => ?_)
  obtain rfl : z = zI (a_5 (i2)) := ez.trans (zI_ld (a_5) (by omega) (by omega))
  have k2 := hR_a_5 (i2)
  refine lv_icmp_eq (tgt := 17) hx hb dX3_alike_12 (by decide) (fun b12 => ?_) (fun b12 => ?_)
  · have yb12 : (a_5 (i) : Int) = (a_5 (i2) : Int) := (zI_eq (a := a_5 (i)) (b := a_5 (i2)) (by omega) (by omega) (by omega) (by omega)).mp b12
    refine lv_aload_n hx hb dX3_alike_17 rfl (lv_at hl 0 rfl) ?_
    refine va_get (D := (dC, dI)) (ci := 0) (v := .ref q_707) (C := RX0) (T := TX0) (N := 19) hx hb hts mem_X3_alike_0 hown hK hP 0 rfl rfl 7 (by decide) (ow (k := 1) rfl) (fun _ h9 => h9) rfl dX3_alike_18 ?_
    refine lv_iload_n hx hb dX3_alike_21 rfl (lv_at hl 1 rfl) ?_
    refine va_lald hx hb hK hP 3 2 rfl rfl (zI_in (a := i) (n := 2000) (by omega) (by omega) (by decide)) dX3_alike_22 ?_
    refine lv_topl (fun z ez => ?_)
    obtain rfl : z = lI (a_7 (i)) := ez.trans (lI_ld (a_7) (by omega) (by omega))
    have k3 := hR_a_7 (i)
    refine lv_aload_n hx hb dX3_alike_23 rfl (lv_at hl 0 rfl) ?_
    refine va_get (D := (dC, dI)) (ci := 0) (v := .ref q_707) (C := RX0) (T := TX0) (N := 19) hx hb hts mem_X3_alike_0 hown hK hP 0 rfl rfl 7 (by decide) (ow (k := 1) rfl) (fun _ h9 => h9) rfl dX3_alike_24 ?_
    refine lv_iload_n hx hb dX3_alike_27 rfl (lv_at hl 2 rfl) ?_
    refine va_lald hx hb hK hP 3 2 rfl rfl (zI_in (a := i2) (n := 2000) (by omega) (by omega) (by decide)) dX3_alike_28 ?_
    refine lv_topl (fun z ez => ?_)
    obtain rfl : z = lI (a_7 (i2)) := ez.trans (lI_ld (a_7) (by omega) (by omega))
    have k4 := hR_a_7 (i2)
    refine W.lcmp hx hb dX3_alike_29 ?_
    refine lv_if_ne (tgt := 51) hx hb dX3_alike_30 (by decide) (fun b30 => ?_) (fun b30 => ?_)
    · have yb30 : ¬ (a_7 (i) : Int) = a_7 (i2) := fun q => b30 ((lc_eq (a := a_7 (i)) (b := a_7 (i2)) (by omega) (by omega) (by omega) (by omega)).mpr q)
      refine lv_aload_n hx hb dX3_alike_51 rfl (lv_at hl 0 rfl) ?_
      refine va_get (D := (dC, dI)) (ci := 0) (v := .ref q_705) (C := RX0) (T := TX0) (N := 19) hx hb hts mem_X3_alike_0 hown hK hP 0 rfl rfl 5 (by decide) (ow (k := 0) rfl) (fun _ h9 => h9) rfl dX3_alike_52 ?_
      refine lv_iload_n hx hb dX3_alike_55 rfl (lv_at hl 1 rfl) ?_
      refine va_iald hx hb hK hP 1 0 rfl rfl (zI_in (a := i) (n := 2000) (by omega) (by omega) (by decide)) dX3_alike_56 ?_
      refine lv_topi (fun z ez => ?_)
      obtain rfl : z = zI (a_5 (i)) := ez.trans (zI_ld (a_5) (by omega) (by omega))
      have k5 := hR_a_5 (i)
      have hPc := hP.sub (ws' := []) [] rfl
      have hDc := hD.sub (ws' := []) [] (by decide) rfl
      have hKc := hK.sub (tys' := []) [] rfl
      have hFc := va_free (wc := []) hD hS hA [] rfl
      refine va_calli (va_runS (As := [.int (zI (a_5 (i)))]) (rest := []) ⟨hx, hb, hml, hown, hts⟩ (c_X3_turnsRound l dC dI (a_5 (i)) (by omega) H.size) (cwS 1 hts g_X3_alike_X3_turnsRound rfl rfl rfl (by decide +kernel) ⟨(Nat.le_of_ble_eq_true rfl), (Nat.le_of_ble_eq_true rfl)⟩) ⟨fun a U g mk q => by obtain ⟨q0, q1, qP, qK, qD⟩ := q; exact ⟨q0, q1, qP, va_K.moved (u := U) (U := U.calling g mk a) (Vm.Alike.refl U.vm) qK, qD⟩, fun U hU hW => ⟨rfl, by rw [hU], by rw [hU]; exact hPc, va_K.moved hW.alike hKc, hDc.weaken (fun _ _ _ _ => trivial)⟩⟩ rfl rfl hl.1 rfl (lv_room (Nat.le_of_ble_eq_true rfl)) dX3_alike_57 ⟨(Nat.le_of_ble_eq_true rfl), (Nat.le_of_ble_eq_true rfl)⟩) hS (fun q _ h => hFc q h) hFc (fun r_2001 u t H1 locs ht hvm hw hB hz1 hk1 hS => ?_)
      obtain ⟨hP1, hK1, hD1⟩ := hB
      rw [ht] at hP1
      have hK1 := va_K.moved hvm.symm hK1
      obtain ⟨hP, hD⟩ := va_join (wr := [(hc, .inr (0, [v_0, v_1, v_2, v_3, v_4, .ref q_705, .ref q_706, .ref q_707, .ref q_708, v_9, v_10, v_11, v_12, v_13, v_14, v_15, v_16, v_17, v_18])), (q_705, .inl (cA_705, 2000, .inl (fun j : Nat => zI (a_5 (j : Int))))), (q_706, .inl (cA_706, 2000, .inl (fun j : Nat => zI (a_6 (j : Int))))), (q_707, .inl (cA_707, 2000, .inr (.inl (fun j : Nat => lI (a_7 (j : Int)))))), (q_708, .inl (cA_708, 2000, .inr (.inl (fun j : Nat => lI (a_8 (j : Int))))))]) (w1 := []) hP hD [] [0, 1, 2, 3, 4] rfl rfl (by decide) (by decide) hk1 hFc hP1 hD1
      have hK := (hK.sub (tys' := [(cA_705, .int), (cA_706, .int), (cA_707, .long), (cA_708, .long)]) [0, 1, 2, 3] rfl).app hK1
      generalize H1 = H at hP hS ⊢
      have hP : va_P (dC, dI) vwP [(hc, .inr (0, [v_0, v_1, v_2, v_3, v_4, .ref q_705, .ref q_706, .ref q_707, .ref q_708, v_9, v_10, v_11, v_12, v_13, v_14, v_15, v_16, v_17, v_18])), (q_705, .inl (cA_705, 2000, .inl (fun j : Nat => zI (a_5 (j : Int))))), (q_706, .inl (cA_706, 2000, .inl (fun j : Nat => zI (a_6 (j : Int))))), (q_707, .inl (cA_707, 2000, .inr (.inl (fun j : Nat => lI (a_7 (j : Int)))))), (q_708, .inl (cA_708, 2000, .inr (.inl (fun j : Nat => lI (a_8 (j : Int))))))] H := hP
      have hD : va_D A [(hc, .inr (0, [v_0, v_1, v_2, v_3, v_4, .ref q_705, .ref q_706, .ref q_707, .ref q_708, v_9, v_10, v_11, v_12, v_13, v_14, v_15, v_16, v_17, v_18])), (q_705, .inl (cA_705, 2000, .inl (fun j : Nat => zI (a_5 (j : Int))))), (q_706, .inl (cA_706, 2000, .inl (fun j : Nat => zI (a_6 (j : Int))))), (q_707, .inl (cA_707, 2000, .inr (.inl (fun j : Nat => lI (a_7 (j : Int)))))), (q_708, .inl (cA_708, 2000, .inr (.inl (fun j : Nat => lI (a_8 (j : Int))))))] := hD
      have hK : va_K (dC, dI) vwP [(cA_705, .int), (cA_706, .int), (cA_707, .long), (cA_708, .long)] s := hK
      refine W.widen (k := 0) (n := 0) (Nat.le_of_ble_eq_true rfl) (Nat.le_of_ble_eq_true rfl) ?_
      have hw_2002 := hw
      obtain ⟨z_2003, rfl, hzz_2003⟩ := hw_2002
      refine lv_if_eq (tgt := 99) hx hb dX3_alike_60 (by decide) (fun b60 => ?_) (fun b60 => ?_)
      · have yb60 : (z_2003 : Int) = (0 : Int) := (zI_eq (a := z_2003) (b := 0) (by omega) (by omega) (by omega) (by omega)).mp b60
        refine lv_iconst (v := 0) hx hb dX3_alike_99 (by decide) ?_
        subst hQ
        refine W.widen (k := 0) (n := 0) (Nat.le_of_ble_eq_true rfl) (Nat.le_of_ble_eq_true rfl) ?_
        exact W.zret (v := 0) hx hb hr (by decide) (fun t ht hW => ⟨⟨0, (), rfl, ⟨0, rfl, by omega⟩, by rw [ht]; exact hP, va_K.moved hW.alike hK, hD⟩, hS.F ht⟩) hS.2.2 dX3_alike_100
      · have yb60 : ¬ (z_2003 : Int) = (0 : Int) := fun q => b60 ((zI_eq (a := z_2003) (b := 0) (by omega) (by omega) (by omega) (by omega)).mpr q)
        refine lv_aload_n hx hb dX3_alike_63 rfl (lv_at hl 0 rfl) ?_
        refine va_get (D := (dC, dI)) (ci := 0) (v := .ref q_707) (C := RX0) (T := TX0) (N := 19) hx hb hts mem_X3_alike_0 hown hK hP 0 rfl rfl 7 (by decide) (ow (k := 1) rfl) (fun _ h9 => h9) rfl dX3_alike_64 ?_
        refine lv_iload_n hx hb dX3_alike_67 rfl (lv_at hl 1 rfl) ?_
        refine va_lald hx hb hK hP 3 2 rfl rfl (zI_in (a := i) (n := 2000) (by omega) (by omega) (by decide)) dX3_alike_68 ?_
        refine lv_topl (fun z ez => ?_)
        obtain rfl : z = lI (a_7 (i)) := ez.trans (lI_ld (a_7) (by omega) (by omega))
        have k6 := hR_a_7 (i)
        refine lv_aload_n hx hb dX3_alike_69 rfl (lv_at hl 0 rfl) ?_
        refine va_get (D := (dC, dI)) (ci := 0) (v := .ref q_708) (C := RX0) (T := TX0) (N := 19) hx hb hts mem_X3_alike_0 hown hK hP 0 rfl rfl 8 (by decide) (ow (k := 5) rfl) (fun _ h9 => h9) rfl dX3_alike_70 ?_
        refine lv_iload_n hx hb dX3_alike_73 rfl (lv_at hl 2 rfl) ?_
        refine va_lald hx hb hK hP 4 3 rfl rfl (zI_in (a := i2) (n := 2000) (by omega) (by omega) (by decide)) dX3_alike_74 ?_
        refine lv_topl (fun z ez => ?_)
        obtain rfl : z = lI (a_8 (i2)) := ez.trans (lI_ld (a_8) (by omega) (by omega))
        have k7 := hR_a_8 (i2)
        refine W.lcmp hx hb dX3_alike_75 ?_
        refine lv_if_ne (tgt := 99) hx hb dX3_alike_76 (by decide) (fun b76 => ?_) (fun b76 => ?_)
        · have yb76 : ¬ (a_7 (i) : Int) = a_8 (i2) := fun q => b76 ((lc_eq (a := a_7 (i)) (b := a_8 (i2)) (by omega) (by omega) (by omega) (by omega)).mpr q)
          refine lv_iconst (v := 0) hx hb dX3_alike_99 (by decide) ?_
          subst hQ
          refine W.widen (k := 0) (n := 0) (Nat.le_of_ble_eq_true rfl) (Nat.le_of_ble_eq_true rfl) ?_
          exact W.zret (v := 0) hx hb hr (by decide) (fun t ht hW => ⟨⟨0, (), rfl, ⟨0, rfl, by omega⟩, by rw [ht]; exact hP, va_K.moved hW.alike hK, hD⟩, hS.F ht⟩) hS.2.2 dX3_alike_100
        · have yb76 : (a_7 (i) : Int) = a_8 (i2) := (lc_eq (a := a_7 (i)) (b := a_8 (i2)) (by omega) (by omega) (by omega) (by omega)).mp b76
          refine lv_aload_n hx hb dX3_alike_79 rfl (lv_at hl 0 rfl) ?_
          refine va_get (D := (dC, dI)) (ci := 0) (v := .ref q_708) (C := RX0) (T := TX0) (N := 19) hx hb hts mem_X3_alike_0 hown hK hP 0 rfl rfl 8 (by decide) (ow (k := 5) rfl) (fun _ h9 => h9) rfl dX3_alike_80 ?_
          refine lv_iload_n hx hb dX3_alike_83 rfl (lv_at hl 1 rfl) ?_
          refine va_lald hx hb hK hP 4 3 rfl rfl (zI_in (a := i) (n := 2000) (by omega) (by omega) (by decide)) dX3_alike_84 ?_
          refine lv_topl (fun z ez => ?_)
          obtain rfl : z = lI (a_8 (i)) := ez.trans (lI_ld (a_8) (by omega) (by omega))
          have k8 := hR_a_8 (i)
          refine lv_aload_n hx hb dX3_alike_85 rfl (lv_at hl 0 rfl) ?_
          refine va_get (D := (dC, dI)) (ci := 0) (v := .ref q_707) (C := RX0) (T := TX0) (N := 19) hx hb hts mem_X3_alike_0 hown hK hP 0 rfl rfl 7 (by decide) (ow (k := 1) rfl) (fun _ h9 => h9) rfl dX3_alike_86 ?_
          refine lv_iload_n hx hb dX3_alike_89 rfl (lv_at hl 2 rfl) ?_
          refine va_lald hx hb hK hP 3 2 rfl rfl (zI_in (a := i2) (n := 2000) (by omega) (by omega) (by decide)) dX3_alike_90 ?_
          refine lv_topl (fun z ez => ?_)
          obtain rfl : z = lI (a_7 (i2)) := ez.trans (lI_ld (a_7) (by omega) (by omega))
          have k9 := hR_a_7 (i2)
          refine W.lcmp hx hb dX3_alike_91 ?_
          refine lv_if_ne (tgt := 99) hx hb dX3_alike_92 (by decide) (fun b92 => ?_) (fun b92 => ?_)
          · have yb92 : ¬ (a_8 (i) : Int) = a_7 (i2) := fun q => b92 ((lc_eq (a := a_8 (i)) (b := a_7 (i2)) (by omega) (by omega) (by omega) (by omega)).mpr q)
            refine lv_iconst (v := 0) hx hb dX3_alike_99 (by decide) ?_
            subst hQ
            refine W.widen (k := 0) (n := 0) (Nat.le_of_ble_eq_true rfl) (Nat.le_of_ble_eq_true rfl) ?_
            exact W.zret (v := 0) hx hb hr (by decide) (fun t ht hW => ⟨⟨0, (), rfl, ⟨0, rfl, by omega⟩, by rw [ht]; exact hP, va_K.moved hW.alike hK, hD⟩, hS.F ht⟩) hS.2.2 dX3_alike_100
          · have yb92 : (a_8 (i) : Int) = a_7 (i2) := (lc_eq (a := a_8 (i)) (b := a_7 (i2)) (by omega) (by omega) (by omega) (by omega)).mp b92
            refine lv_iconst (v := 1) hx hb dX3_alike_95 (by decide) ?_
            refine lv_goto (tgt := 100) hx hb dX3_alike_96 (by decide) ?_
            subst hQ
            refine W.widen (k := 0) (n := 0) (Nat.le_of_ble_eq_true rfl) (Nat.le_of_ble_eq_true rfl) ?_
            exact W.zret (v := 1) hx hb hr (by decide) (fun t ht hW => ⟨⟨1, (), rfl, ⟨1, rfl, by omega⟩, by rw [ht]; exact hP, va_K.moved hW.alike hK, hD⟩, hS.F ht⟩) hS.2.2 dX3_alike_100
    · have yb30 : (a_7 (i) : Int) = a_7 (i2) := (lc_eq (a := a_7 (i)) (b := a_7 (i2)) (by omega) (by omega) (by omega) (by omega)).mp b30
      refine lv_aload_n hx hb dX3_alike_33 rfl (lv_at hl 0 rfl) ?_
      refine va_get (D := (dC, dI)) (ci := 0) (v := .ref q_708) (C := RX0) (T := TX0) (N := 19) hx hb hts mem_X3_alike_0 hown hK hP 0 rfl rfl 8 (by decide) (ow (k := 5) rfl) (fun _ h9 => h9) rfl dX3_alike_34 ?_
      refine lv_iload_n hx hb dX3_alike_37 rfl (lv_at hl 1 rfl) ?_
      refine va_lald hx hb hK hP 4 3 rfl rfl (zI_in (a := i) (n := 2000) (by omega) (by omega) (by decide)) dX3_alike_38 ?_
      refine lv_topl (fun z ez => ?_)
      obtain rfl : z = lI (a_8 (i)) := ez.trans (lI_ld (a_8) (by omega) (by omega))
      have k10 := hR_a_8 (i)
      refine lv_aload_n hx hb dX3_alike_39 rfl (lv_at hl 0 rfl) ?_
      refine va_get (D := (dC, dI)) (ci := 0) (v := .ref q_708) (C := RX0) (T := TX0) (N := 19) hx hb hts mem_X3_alike_0 hown hK hP 0 rfl rfl 8 (by decide) (ow (k := 5) rfl) (fun _ h9 => h9) rfl dX3_alike_40 ?_
      refine lv_iload_n hx hb dX3_alike_43 rfl (lv_at hl 2 rfl) ?_
      refine va_lald hx hb hK hP 4 3 rfl rfl (zI_in (a := i2) (n := 2000) (by omega) (by omega) (by decide)) dX3_alike_44 ?_
      refine lv_topl (fun z ez => ?_)
      obtain rfl : z = lI (a_8 (i2)) := ez.trans (lI_ld (a_8) (by omega) (by omega))
      have k11 := hR_a_8 (i2)
      refine W.lcmp hx hb dX3_alike_45 ?_
      refine lv_if_ne (tgt := 51) hx hb dX3_alike_46 (by decide) (fun b46 => ?_) (fun b46 => ?_)
      · have yb46 : ¬ (a_8 (i) : Int) = a_8 (i2) := fun q => b46 ((lc_eq (a := a_8 (i)) (b := a_8 (i2)) (by omega) (by omega) (by omega) (by omega)).mpr q)
        refine lv_aload_n hx hb dX3_alike_51 rfl (lv_at hl 0 rfl) ?_
        refine va_get (D := (dC, dI)) (ci := 0) (v := .ref q_705) (C := RX0) (T := TX0) (N := 19) hx hb hts mem_X3_alike_0 hown hK hP 0 rfl rfl 5 (by decide) (ow (k := 0) rfl) (fun _ h9 => h9) rfl dX3_alike_52 ?_
        refine lv_iload_n hx hb dX3_alike_55 rfl (lv_at hl 1 rfl) ?_
        refine va_iald hx hb hK hP 1 0 rfl rfl (zI_in (a := i) (n := 2000) (by omega) (by omega) (by decide)) dX3_alike_56 ?_
        refine lv_topi (fun z ez => ?_)
        obtain rfl : z = zI (a_5 (i)) := ez.trans (zI_ld (a_5) (by omega) (by omega))
        have k12 := hR_a_5 (i)
        have hPc := hP.sub (ws' := []) [] rfl
        have hDc := hD.sub (ws' := []) [] (by decide) rfl
        have hKc := hK.sub (tys' := []) [] rfl
        have hFc := va_free (wc := []) hD hS hA [] rfl
        refine va_calli (va_runS (As := [.int (zI (a_5 (i)))]) (rest := []) ⟨hx, hb, hml, hown, hts⟩ (c_X3_turnsRound l dC dI (a_5 (i)) (by omega) H.size) (cwS 1 hts g_X3_alike_X3_turnsRound rfl rfl rfl (by decide +kernel) ⟨(Nat.le_of_ble_eq_true rfl), (Nat.le_of_ble_eq_true rfl)⟩) ⟨fun a U g mk q => by obtain ⟨q0, q1, qP, qK, qD⟩ := q; exact ⟨q0, q1, qP, va_K.moved (u := U) (U := U.calling g mk a) (Vm.Alike.refl U.vm) qK, qD⟩, fun U hU hW => ⟨rfl, by rw [hU], by rw [hU]; exact hPc, va_K.moved hW.alike hKc, hDc.weaken (fun _ _ _ _ => trivial)⟩⟩ rfl rfl hl.1 rfl (lv_room (Nat.le_of_ble_eq_true rfl)) dX3_alike_57 ⟨(Nat.le_of_ble_eq_true rfl), (Nat.le_of_ble_eq_true rfl)⟩) hS (fun q _ h => hFc q h) hFc (fun r_2004 u t H1 locs ht hvm hw hB hz1 hk1 hS => ?_)
        obtain ⟨hP1, hK1, hD1⟩ := hB
        rw [ht] at hP1
        have hK1 := va_K.moved hvm.symm hK1
        obtain ⟨hP, hD⟩ := va_join (wr := [(hc, .inr (0, [v_0, v_1, v_2, v_3, v_4, .ref q_705, .ref q_706, .ref q_707, .ref q_708, v_9, v_10, v_11, v_12, v_13, v_14, v_15, v_16, v_17, v_18])), (q_705, .inl (cA_705, 2000, .inl (fun j : Nat => zI (a_5 (j : Int))))), (q_706, .inl (cA_706, 2000, .inl (fun j : Nat => zI (a_6 (j : Int))))), (q_707, .inl (cA_707, 2000, .inr (.inl (fun j : Nat => lI (a_7 (j : Int)))))), (q_708, .inl (cA_708, 2000, .inr (.inl (fun j : Nat => lI (a_8 (j : Int))))))]) (w1 := []) hP hD [] [0, 1, 2, 3, 4] rfl rfl (by decide) (by decide) hk1 hFc hP1 hD1
        have hK := (hK.sub (tys' := [(cA_705, .int), (cA_706, .int), (cA_707, .long), (cA_708, .long)]) [0, 1, 2, 3] rfl).app hK1
        generalize H1 = H at hP hS ⊢
        have hP : va_P (dC, dI) vwP [(hc, .inr (0, [v_0, v_1, v_2, v_3, v_4, .ref q_705, .ref q_706, .ref q_707, .ref q_708, v_9, v_10, v_11, v_12, v_13, v_14, v_15, v_16, v_17, v_18])), (q_705, .inl (cA_705, 2000, .inl (fun j : Nat => zI (a_5 (j : Int))))), (q_706, .inl (cA_706, 2000, .inl (fun j : Nat => zI (a_6 (j : Int))))), (q_707, .inl (cA_707, 2000, .inr (.inl (fun j : Nat => lI (a_7 (j : Int)))))), (q_708, .inl (cA_708, 2000, .inr (.inl (fun j : Nat => lI (a_8 (j : Int))))))] H := hP
        have hD : va_D A [(hc, .inr (0, [v_0, v_1, v_2, v_3, v_4, .ref q_705, .ref q_706, .ref q_707, .ref q_708, v_9, v_10, v_11, v_12, v_13, v_14, v_15, v_16, v_17, v_18])), (q_705, .inl (cA_705, 2000, .inl (fun j : Nat => zI (a_5 (j : Int))))), (q_706, .inl (cA_706, 2000, .inl (fun j : Nat => zI (a_6 (j : Int))))), (q_707, .inl (cA_707, 2000, .inr (.inl (fun j : Nat => lI (a_7 (j : Int)))))), (q_708, .inl (cA_708, 2000, .inr (.inl (fun j : Nat => lI (a_8 (j : Int))))))] := hD
        have hK : va_K (dC, dI) vwP [(cA_705, .int), (cA_706, .int), (cA_707, .long), (cA_708, .long)] s := hK
        refine W.widen (k := 0) (n := 0) (Nat.le_of_ble_eq_true rfl) (Nat.le_of_ble_eq_true rfl) ?_
        have hw_2005 := hw
        obtain ⟨z_2006, rfl, hzz_2006⟩ := hw_2005
        refine lv_if_eq (tgt := 99) hx hb dX3_alike_60 (by decide) (fun b60 => ?_) (fun b60 => ?_)
        · have yb60 : (z_2006 : Int) = (0 : Int) := (zI_eq (a := z_2006) (b := 0) (by omega) (by omega) (by omega) (by omega)).mp b60
          refine lv_iconst (v := 0) hx hb dX3_alike_99 (by decide) ?_
          subst hQ
          refine W.widen (k := 0) (n := 0) (Nat.le_of_ble_eq_true rfl) (Nat.le_of_ble_eq_true rfl) ?_
          exact W.zret (v := 0) hx hb hr (by decide) (fun t ht hW => ⟨⟨0, (), rfl, ⟨0, rfl, by omega⟩, by rw [ht]; exact hP, va_K.moved hW.alike hK, hD⟩, hS.F ht⟩) hS.2.2 dX3_alike_100
        · have yb60 : ¬ (z_2006 : Int) = (0 : Int) := fun q => b60 ((zI_eq (a := z_2006) (b := 0) (by omega) (by omega) (by omega) (by omega)).mpr q)
          refine lv_aload_n hx hb dX3_alike_63 rfl (lv_at hl 0 rfl) ?_
          refine va_get (D := (dC, dI)) (ci := 0) (v := .ref q_707) (C := RX0) (T := TX0) (N := 19) hx hb hts mem_X3_alike_0 hown hK hP 0 rfl rfl 7 (by decide) (ow (k := 1) rfl) (fun _ h9 => h9) rfl dX3_alike_64 ?_
          refine lv_iload_n hx hb dX3_alike_67 rfl (lv_at hl 1 rfl) ?_
          refine va_lald hx hb hK hP 3 2 rfl rfl (zI_in (a := i) (n := 2000) (by omega) (by omega) (by decide)) dX3_alike_68 ?_
          refine lv_topl (fun z ez => ?_)
          obtain rfl : z = lI (a_7 (i)) := ez.trans (lI_ld (a_7) (by omega) (by omega))
          have k13 := hR_a_7 (i)
          refine lv_aload_n hx hb dX3_alike_69 rfl (lv_at hl 0 rfl) ?_
          refine va_get (D := (dC, dI)) (ci := 0) (v := .ref q_708) (C := RX0) (T := TX0) (N := 19) hx hb hts mem_X3_alike_0 hown hK hP 0 rfl rfl 8 (by decide) (ow (k := 5) rfl) (fun _ h9 => h9) rfl dX3_alike_70 ?_
          refine lv_iload_n hx hb dX3_alike_73 rfl (lv_at hl 2 rfl) ?_
          refine va_lald hx hb hK hP 4 3 rfl rfl (zI_in (a := i2) (n := 2000) (by omega) (by omega) (by decide)) dX3_alike_74 ?_
          refine lv_topl (fun z ez => ?_)
          obtain rfl : z = lI (a_8 (i2)) := ez.trans (lI_ld (a_8) (by omega) (by omega))
          have k14 := hR_a_8 (i2)
          refine W.lcmp hx hb dX3_alike_75 ?_
          refine lv_if_ne (tgt := 99) hx hb dX3_alike_76 (by decide) (fun b76 => ?_) (fun b76 => ?_)
          · have yb76 : ¬ (a_7 (i) : Int) = a_8 (i2) := fun q => b76 ((lc_eq (a := a_7 (i)) (b := a_8 (i2)) (by omega) (by omega) (by omega) (by omega)).mpr q)
            refine lv_iconst (v := 0) hx hb dX3_alike_99 (by decide) ?_
            subst hQ
            refine W.widen (k := 0) (n := 0) (Nat.le_of_ble_eq_true rfl) (Nat.le_of_ble_eq_true rfl) ?_
            exact W.zret (v := 0) hx hb hr (by decide) (fun t ht hW => ⟨⟨0, (), rfl, ⟨0, rfl, by omega⟩, by rw [ht]; exact hP, va_K.moved hW.alike hK, hD⟩, hS.F ht⟩) hS.2.2 dX3_alike_100
          · have yb76 : (a_7 (i) : Int) = a_8 (i2) := (lc_eq (a := a_7 (i)) (b := a_8 (i2)) (by omega) (by omega) (by omega) (by omega)).mp b76
            refine lv_aload_n hx hb dX3_alike_79 rfl (lv_at hl 0 rfl) ?_
            refine va_get (D := (dC, dI)) (ci := 0) (v := .ref q_708) (C := RX0) (T := TX0) (N := 19) hx hb hts mem_X3_alike_0 hown hK hP 0 rfl rfl 8 (by decide) (ow (k := 5) rfl) (fun _ h9 => h9) rfl dX3_alike_80 ?_
            refine lv_iload_n hx hb dX3_alike_83 rfl (lv_at hl 1 rfl) ?_
            refine va_lald hx hb hK hP 4 3 rfl rfl (zI_in (a := i) (n := 2000) (by omega) (by omega) (by decide)) dX3_alike_84 ?_
            refine lv_topl (fun z ez => ?_)
            obtain rfl : z = lI (a_8 (i)) := ez.trans (lI_ld (a_8) (by omega) (by omega))
            have k15 := hR_a_8 (i)
            refine lv_aload_n hx hb dX3_alike_85 rfl (lv_at hl 0 rfl) ?_
            refine va_get (D := (dC, dI)) (ci := 0) (v := .ref q_707) (C := RX0) (T := TX0) (N := 19) hx hb hts mem_X3_alike_0 hown hK hP 0 rfl rfl 7 (by decide) (ow (k := 1) rfl) (fun _ h9 => h9) rfl dX3_alike_86 ?_
            refine lv_iload_n hx hb dX3_alike_89 rfl (lv_at hl 2 rfl) ?_
            refine va_lald hx hb hK hP 3 2 rfl rfl (zI_in (a := i2) (n := 2000) (by omega) (by omega) (by decide)) dX3_alike_90 ?_
            refine lv_topl (fun z ez => ?_)
            obtain rfl : z = lI (a_7 (i2)) := ez.trans (lI_ld (a_7) (by omega) (by omega))
            have k16 := hR_a_7 (i2)
            refine W.lcmp hx hb dX3_alike_91 ?_
            refine lv_if_ne (tgt := 99) hx hb dX3_alike_92 (by decide) (fun b92 => ?_) (fun b92 => ?_)
            · have yb92 : ¬ (a_8 (i) : Int) = a_7 (i2) := fun q => b92 ((lc_eq (a := a_8 (i)) (b := a_7 (i2)) (by omega) (by omega) (by omega) (by omega)).mpr q)
              refine lv_iconst (v := 0) hx hb dX3_alike_99 (by decide) ?_
              subst hQ
              refine W.widen (k := 0) (n := 0) (Nat.le_of_ble_eq_true rfl) (Nat.le_of_ble_eq_true rfl) ?_
              exact W.zret (v := 0) hx hb hr (by decide) (fun t ht hW => ⟨⟨0, (), rfl, ⟨0, rfl, by omega⟩, by rw [ht]; exact hP, va_K.moved hW.alike hK, hD⟩, hS.F ht⟩) hS.2.2 dX3_alike_100
            · have yb92 : (a_8 (i) : Int) = a_7 (i2) := (lc_eq (a := a_8 (i)) (b := a_7 (i2)) (by omega) (by omega) (by omega) (by omega)).mp b92
              refine lv_iconst (v := 1) hx hb dX3_alike_95 (by decide) ?_
              refine lv_goto (tgt := 100) hx hb dX3_alike_96 (by decide) ?_
              subst hQ
              refine W.widen (k := 0) (n := 0) (Nat.le_of_ble_eq_true rfl) (Nat.le_of_ble_eq_true rfl) ?_
              exact W.zret (v := 1) hx hb hr (by decide) (fun t ht hW => ⟨⟨1, (), rfl, ⟨1, rfl, by omega⟩, by rw [ht]; exact hP, va_K.moved hW.alike hK, hD⟩, hS.F ht⟩) hS.2.2 dX3_alike_100
      · have yb46 : (a_8 (i) : Int) = a_8 (i2) := (lc_eq (a := a_8 (i)) (b := a_8 (i2)) (by omega) (by omega) (by omega) (by omega)).mp b46
        refine lv_iconst (v := 1) hx hb dX3_alike_49 (by decide) ?_
        subst hQ
        refine W.widen (k := 0) (n := 0) (Nat.le_of_ble_eq_true rfl) (Nat.le_of_ble_eq_true rfl) ?_
        exact W.zret (v := 1) hx hb hr (by decide) (fun t ht hW => ⟨⟨1, (), rfl, ⟨1, rfl, by omega⟩, by rw [ht]; exact hP, va_K.moved hW.alike hK, hD⟩, hS.F ht⟩) hS.2.2 dX3_alike_50
  · have yb12 : ¬ (a_5 (i) : Int) = (a_5 (i2) : Int) := fun q => b12 ((zI_eq (a := a_5 (i)) (b := a_5 (i2)) (by omega) (by omega) (by omega) (by omega)).mpr q)
    refine lv_iconst (v := 0) hx hb dX3_alike_15 (by decide) ?_
    subst hQ
    refine W.widen (k := 0) (n := 0) (Nat.le_of_ble_eq_true rfl) (Nat.le_of_ble_eq_true rfl) ?_
    exact W.zret (v := 0) hx hb hr (by decide) (fun t ht hW => ⟨⟨0, (), rfl, ⟨0, rfl, by omega⟩, by rw [ht]; exact hP, va_K.moved hW.alike hK, hD⟩, hS.F ht⟩) hS.2.2 dX3_alike_16
theorem dX9_clearMarks_0 : decode cX9_clearMarks 0 = .ok (.iconst 0, 1) := by decide +kernel
theorem dX9_clearMarks_1 : decode cX9_clearMarks 1 = .ok (.istore_n 1, 1) := by decide +kernel
theorem dX9_clearMarks_2 : decode cX9_clearMarks 2 = .ok (.iload_n 1, 1) := by decide +kernel
theorem dX9_clearMarks_3 : decode cX9_clearMarks 3 = .ok (.sipush 1024, 3) := by decide +kernel
theorem dX9_clearMarks_6 : decode cX9_clearMarks 6 = .ok (.if_icmp .ge 16, 3) := by decide +kernel
theorem dX9_clearMarks_22 : decode cX9_clearMarks 22 = .ok (.return_, 1) := by decide +kernel
theorem dX9_clearMarks_9 : decode cX9_clearMarks 9 = .ok (.aload_n 0, 1) := by decide +kernel
theorem dX9_clearMarks_10 : decode cX9_clearMarks 10 = .ok (.getfield 28, 3) := by decide +kernel
theorem dX9_clearMarks_13 : decode cX9_clearMarks 13 = .ok (.iload_n 1, 1) := by decide +kernel
theorem dX9_clearMarks_14 : decode cX9_clearMarks 14 = .ok (.iconst 0, 1) := by decide +kernel
theorem dX9_clearMarks_15 : decode cX9_clearMarks 15 = .ok (.bastore, 1) := by decide +kernel
theorem dX9_clearMarks_16 : decode cX9_clearMarks 16 = .ok (.iinc 1 1, 3) := by decide +kernel
theorem dX9_clearMarks_19 : decode cX9_clearMarks 19 = .ok (.goto (-17), 3) := by decide +kernel
def o_X9_clearMarks : List Cond := [.fieldLink RX9 28 "SsaForge$Tidier" "marked" "[Z"]
def v_X9_clearMarks : List Cond := .code yX9_clearMarks cX9_clearMarks 2 none :: (o_X9_clearMarks ++ (wsX90 ++ []))
theorem mow_X9_clearMarks : ∀ w ∈ o_X9_clearMarks, w ∈ v_X9_clearMarks := fun _ h => List.mem_cons_of_mem _ (List.mem_append_left _ h)
theorem mem_X9_clearMarks_0 : ∀ w ∈ wsX90, w ∈ v_X9_clearMarks := fun _ h => List.mem_cons_of_mem _ (List.mem_append_right _ (List.mem_append_left _ h))
set_option maxRecDepth 20000 in
theorem gw_X9_clearMarks : v_X9_clearMarks.all goodWord = true := by decide +kernel
set_option maxHeartbeats 4000000 in
set_option maxRecDepth 100000 in
theorem c_X9_clearMarks (l : Launch) (dC : Nat → ClassId) (dI : Nat → Nat → Nat) (h0 : Nat) (v9_0 : Value) (v9_1 : Value) (v9_2 : Value) (v9_3 : Value) (v9_4 : Value) (q_905 : Nat) (cA_905 : ClassId) (a9_marked : Int → Int) (v9_6 : Value) (v9_7 : Value) (v9_8 : Value) (hR_a9_marked : ∀ j : Int, 0 ≤ a9_marked j ∧ a9_marked j ≤ 1) (sz : Nat) : Met l yX9_clearMarks v_X9_clearMarks ({ frames := 0, cells := 0, slots := 0, locals := 0 }) (va_Pc [.ref h0] (fun U => U.heap.size = sz ∧ va_P (dC, dI) vwP [(h0, .inr (9, [v9_0, v9_1, v9_2, v9_3, v9_4, .ref q_905, v9_6, v9_7, v9_8])), (q_905, .inl (cA_905, 1024, .inl (fun j : Nat => zI (a9_marked (j : Int)))))] U.heap ∧ va_K (dC, dI) vwP [(cA_905, .boolean)] U ∧ va_D (fun _ => True) [(h0, .inr (9, [v9_0, v9_1, v9_2, v9_3, v9_4, .ref q_905, v9_6, v9_7, v9_8])), (q_905, .inl (cA_905, 1024, .inl (fun j : Nat => zI (a9_marked (j : Int)))))])) (va_Qv (fun _ : Unit => True) (fun (_ : Unit) (t : State) => ∃ (a0_9 : Int → Int), ((∀ j : Int, 0 ≤ a0_9 j ∧ a0_9 j ≤ 1)) ∧ va_P (dC, dI) vwP [(h0, .inr (9, [v9_0, v9_1, v9_2, v9_3, v9_4, .ref q_905, v9_6, v9_7, v9_8])), (q_905, .inl (cA_905, 1024, .inl (fun j : Nat => zI (a0_9 (j : Int)))))] t.heap ∧ va_K (dC, dI) vwP [(cA_905, .boolean)] t ∧ va_D (va_A [(h0, .inr (9, [v9_0, v9_1, v9_2, v9_3, v9_4, .ref q_905, v9_6, v9_7, v9_8])), (q_905, .inl (cA_905, 1024, .inl (fun j : Nat => zI (a9_marked (j : Int)))))] sz) [(h0, .inr (9, [v9_0, v9_1, v9_2, v9_3, v9_4, .ref q_905, v9_6, v9_7, v9_8])), (q_905, .inl (cA_905, 1024, .inl (fun j : Nat => zI (a0_9 (j : Int)))))]) (va_A [(h0, .inr (9, [v9_0, v9_1, v9_2, v9_3, v9_4, .ref q_905, v9_6, v9_7, v9_8])), (q_905, .inl (cA_905, 1024, .inl (fun j : Nat => zI (a9_marked (j : Int)))))] sz)) 0 0 (va_A [(h0, .inr (9, [v9_0, v9_1, v9_2, v9_3, v9_4, .ref q_905, v9_6, v9_7, v9_8])), (q_905, .inl (cA_905, 1024, .inl (fun j : Nat => zI (a9_marked (j : Int)))))] sz) := by
  refine Met.ofW (cc := cX9_clearMarks) (maxL := 2) (ret := none) (by decide) rfl ?_
  intro p e s m args below meth c s₁ B hml hv
  obtain ⟨rfl, hsz, hP, hK, hD0⟩ := hv
  have hx := B.exec
  have hb := B.bytes
  have hr := B.returns
  have hts := atoms_spec (ws := v_X9_clearMarks) B.pre
  have hown : s.vm.findClass RX9 = some m.cls := findClass_of_methodNamed B.named
  have hlocks := B.notSynchronized
  have ow : ∀ {k : Nat} {w : Cond}, o_X9_clearMarks[k]? = some w → w.before ([.ref h0] : List Value).toArray s = true := fun h => hts _ (mow_X9_clearMarks _ (List.mem_of_getElem? h))
  subst hsz
  have hD := hD0.self (sz := s.heap.size)
  generalize hAe : va_A [(h0, .inr (9, [v9_0, v9_1, v9_2, v9_3, v9_4, .ref q_905, v9_6, v9_7, v9_8])), (q_905, .inl (cA_905, 1024, .inl (fun j : Nat => zI (a9_marked (j : Int)))))] s.heap.size = A at hD ⊢
  have hA : ∀ q : Nat, s.heap.size ≤ q → A q := fun q h => by rw [← hAe]; exact Or.inr h
  have hS : va_S A s.heap s.heap [] := va_S.rf
  have hP : va_P (dC, dI) vwP [(h0, .inr (9, [v9_0, v9_1, v9_2, v9_3, v9_4, .ref q_905, v9_6, v9_7, v9_8])), (q_905, .inl (cA_905, 1024, .inl (fun j : Nat => zI (a9_marked (j : Int)))))] s.heap := hP
  have hl := lv_entry ([.ref h0]) (n := 2) (Nat.le_of_ble_eq_true rfl)
  rw [lg_entry_eq]
  generalize (lg_sl ([.ref h0]) ++ List.replicate (2 - (lg_sl ([.ref h0])).length) Slot.unset).toArray = ls at hl ⊢
  have hl : lv_has ls 2 [(0, .ref h0)] := hl
  obtain ⟨H, hH⟩ : ∃ H, H = s.heap := ⟨_, rfl⟩
  rw [← hH] at hP
  have hS : va_S A s.heap H [] := by rw [hH]; exact hS
  rw [← hH]
  refine zW_cap (fun Q hQ => ?_)
  refine lv_iconst (v := 0) hx hb dX9_clearMarks_0 (by decide) ?_
  refine lv_istore_n (lv' := [(1, .int 0), (0, .ref h0)]) hx hb dX9_clearMarks_1 rfl hl (by decide) rfl (fun ls hl => ?_)
  have key2 : ∀ n2 : Nat, ∀ (d2_1 : Int) (w2_905 : Int → Int) (ls : Array Slot) (H : Heap) (locs : List Loc), (0 ≤ d2_1 ∧ d2_1 ≤ 1000000000) → (∀ j : Int, 0 ≤ w2_905 j ∧ w2_905 j ≤ 1) → (((1024) - (d2_1) : Int).toNat) < n2 → lv_has ls 2 [(0, .ref h0), (1, .int (zI (d2_1)))] → va_P (dC, dI) vwP [(h0, .inr (9, [v9_0, v9_1, v9_2, v9_3, v9_4, .ref q_905, v9_6, v9_7, v9_8])), (q_905, .inl (cA_905, 1024, .inl (fun j : Nat => zI (w2_905 (j : Int)))))] H → va_D A [(h0, .inr (9, [v9_0, v9_1, v9_2, v9_3, v9_4, .ref q_905, v9_6, v9_7, v9_8])), (q_905, .inl (cA_905, 1024, .inl (fun j : Nat => zI (w2_905 (j : Int)))))] → va_S A s.heap H locs → W p l e (headSpec v_X9_clearMarks ({ frames := 0, cells := 0, slots := 0, locals := 0 })).room s m ([.ref h0] : List Value).toArray below meth c H locs 0 0 Q (F0 m 2 ls []) := by
    intro n2
    induction n2 with
    | zero => intro d2_1 w2_905 ls H locs jd2_1 jw2_905 hm2; exact absurd hm2 (by omega)
    | succ n2 ih2 =>
      intro d2_1 w2_905 ls H locs jd2_1 jw2_905 hm2 hl hP hD hS
      refine lv_iload_n hx hb dX9_clearMarks_2 rfl (lv_at hl 1 rfl) ?_
      refine lv_sipush (v := 1024) hx hb dX9_clearMarks_3 (by decide) ?_
      refine lv_icmp_ge (tgt := 22) hx hb dX9_clearMarks_6 (by decide) (fun b6 => ?_) (fun b6 => ?_)
      · have yb6 : (1024 : Int) ≤ (d2_1 : Int) := (zI_le (a := 1024) (b := d2_1) (by omega) (by omega) (by omega) (by omega)).mp b6
        subst hQ
        refine W.widen (k := 0) (n := 0) (Nat.le_of_ble_eq_true rfl) (Nat.le_of_ble_eq_true rfl) ?_
        exact W.vret hx hb hr (fun t ht hW => ⟨⟨(), rfl, trivial, w2_905, jw2_905, by rw [ht]; exact hP, va_K.moved hW.alike hK, hD⟩, hS.F ht⟩) hS.2.2 dX9_clearMarks_22
      · have yb6 : ¬ (1024 : Int) ≤ (d2_1 : Int) := fun q => b6 ((zI_le (a := 1024) (b := d2_1) (by omega) (by omega) (by omega) (by omega)).mpr q)
        refine lv_aload_n hx hb dX9_clearMarks_9 rfl (lv_at hl 0 rfl) ?_
        refine va_get (D := (dC, dI)) (ci := 9) (v := .ref q_905) (C := RX9) (T := TX9) (N := 9) hx hb hts mem_X9_clearMarks_0 hown hK hP 0 rfl rfl 5 (by decide) (ow (k := 0) rfl) (fun _ h9 => h9) rfl dX9_clearMarks_10 ?_
        refine lv_iload_n hx hb dX9_clearMarks_13 rfl (lv_at hl 1 rfl) ?_
        refine lv_iconst (v := 0) hx hb dX9_clearMarks_14 (by decide) ?_
        refine va_zast (i := zI (d2_1)) hx hb hK hP hD hS 1 0 rfl rfl (zI_in (a := d2_1) (n := 1024) (by omega) (by omega) (by decide)) dX9_clearMarks_15 (fun H locs hP hD hS => ?_)
        rw [show vp_nar .boolean 0 = 0 from zI_nar (a := 0) (by omega) (by omega)] at hP hD
        have eQ : upd (fun j : Nat => zI (w2_905 (j : Int))) (zI (d2_1)).toNatClampNeg 0 = (fun j : Nat => zI (zup w2_905 (d2_1) (0) (j : Int))) := zI_st w2_905 (e := d2_1) (v := 0) (by omega) (by omega)
        rw [eQ] at hP hD
        clear eQ
        have ra_2001 : ∀ j : Int, 0 ≤ zup w2_905 (d2_1) (0) j ∧ zup w2_905 (d2_1) (0) j ≤ 1 := zup_P (P := fun x9 => 0 ≤ x9 ∧ x9 ≤ 1) jw2_905 (show 0 ≤ (0) ∧ (0) ≤ 1 by omega)
        generalize zup w2_905 (d2_1) (0) = a_2001 at hP hD ra_2001
        have hP : va_P (dC, dI) vwP [(h0, .inr (9, [v9_0, v9_1, v9_2, v9_3, v9_4, .ref q_905, v9_6, v9_7, v9_8])), (q_905, .inl (cA_905, 1024, .inl (fun j : Nat => zI (a_2001 (j : Int)))))] H := hP
        have hD : va_D A [(h0, .inr (9, [v9_0, v9_1, v9_2, v9_3, v9_4, .ref q_905, v9_6, v9_7, v9_8])), (q_905, .inl (cA_905, 1024, .inl (fun j : Nat => zI (a_2001 (j : Int)))))] := hD
        refine lv_iinc (v := zI (d2_1 + 1)) (lv' := [(1, .int (zI (d2_1 + 1))), (0, .ref h0)]) hx hb dX9_clearMarks_16 hl (k := 1) rfl (zI_add (d2_1) (1)) (by decide) rfl (fun ls hl => ?_)
        refine lv_goto (tgt := 2) hx hb dX9_clearMarks_19 (by decide) ?_
        exact ih2 (d2_1 + 1) a_2001 ls H _ (by omega) ra_2001 (by omega) (lv_sub hl [1, 0] rfl) hP hD hS
  exact key2 (((1024) - (0) : Int).toNat + 1) 0 a9_marked ls H _ (by omega) hR_a9_marked (by omega) (lv_sub hl [1, 0] rfl) hP hD hS
theorem dX9_mark_0 : decode cX9_mark 0 = .ok (.lload_n 1, 1) := by decide +kernel
theorem dX9_mark_1 : decode cX9_mark 1 = .ok (.invokestatic 83, 3) := by decide +kernel
theorem dX9_mark_4 : decode cX9_mark 4 = .ok (.ifCond .eq 30, 3) := by decide +kernel
theorem dX9_mark_34 : decode cX9_mark 34 = .ok (.return_, 1) := by decide +kernel
theorem dX9_mark_7 : decode cX9_mark 7 = .ok (.aload_n 0, 1) := by decide +kernel
theorem dX9_mark_8 : decode cX9_mark 8 = .ok (.getfield 28, 3) := by decide +kernel
theorem dX9_mark_11 : decode cX9_mark 11 = .ok (.lload_n 1, 1) := by decide +kernel
theorem dX9_mark_12 : decode cX9_mark 12 = .ok (.invokestatic 87, 3) := by decide +kernel
theorem dX9_mark_15 : decode cX9_mark 15 = .ok (.baload, 1) := by decide +kernel
theorem dX9_mark_16 : decode cX9_mark 16 = .ok (.ifCond .ne 18, 3) := by decide +kernel
theorem dX9_mark_19 : decode cX9_mark 19 = .ok (.aload_n 0, 1) := by decide +kernel
theorem dX9_mark_20 : decode cX9_mark 20 = .ok (.getfield 28, 3) := by decide +kernel
theorem dX9_mark_23 : decode cX9_mark 23 = .ok (.lload_n 1, 1) := by decide +kernel
theorem dX9_mark_24 : decode cX9_mark 24 = .ok (.invokestatic 87, 3) := by decide +kernel
theorem dX9_mark_27 : decode cX9_mark 27 = .ok (.iconst 1, 1) := by decide +kernel
theorem dX9_mark_28 : decode cX9_mark 28 = .ok (.bastore, 1) := by decide +kernel
theorem dX9_mark_29 : decode cX9_mark 29 = .ok (.aload_n 0, 1) := by decide +kernel
theorem dX9_mark_30 : decode cX9_mark 30 = .ok (.iconst 1, 1) := by decide +kernel
theorem dX9_mark_31 : decode cX9_mark 31 = .ok (.putfield 35, 3) := by decide +kernel
def o_X9_mark : List Cond := [.initialized RX11, .static yX11_isRegister, .fieldLink RX9 28 "SsaForge$Tidier" "marked" "[Z", .static yX11_registerOf, .fieldLink RX9 35 "SsaForge$Tidier" "changed" "Z"]
def v_X9_mark : List Cond := .code yX9_mark cX9_mark 3 none :: (o_X9_mark ++ (v_X11_isRegister ++ (wsX90 ++ (v_X11_registerOf ++ []))))
theorem mow_X9_mark : ∀ w ∈ o_X9_mark, w ∈ v_X9_mark := fun _ h => List.mem_cons_of_mem _ (List.mem_append_left _ h)
theorem mem_X9_mark_0 : ∀ w ∈ v_X11_isRegister, w ∈ v_X9_mark := fun _ h => List.mem_cons_of_mem _ (List.mem_append_right _ (List.mem_append_left _ h))
theorem mem_X9_mark_1 : ∀ w ∈ wsX90, w ∈ v_X9_mark := fun _ h => List.mem_cons_of_mem _ (List.mem_append_right _ (List.mem_append_right _ (List.mem_append_left _ h)))
theorem mem_X9_mark_2 : ∀ w ∈ v_X11_registerOf, w ∈ v_X9_mark := fun _ h => List.mem_cons_of_mem _ (List.mem_append_right _ (List.mem_append_right _ (List.mem_append_right _ (List.mem_append_left _ h))))
set_option maxRecDepth 20000 in
theorem gw_X9_mark : v_X9_mark.all goodWord = true := by decide +kernel
set_option maxHeartbeats 4000000 in
set_option maxRecDepth 100000 in
theorem c_X9_mark (l : Launch) (dC : Nat → ClassId) (dI : Nat → Nat → Nat) (h0 : Nat) (v9_0 : Value) (v9_1 : Value) (v9_2 : Value) (v9_3 : Value) (v9_4 : Value) (q_905 : Nat) (cA_905 : ClassId) (a9_marked : Int → Int) (v9_6 : Value) (z9_changed : Int) (v9_8 : Value) (x : Int) (hR_a9_marked : ∀ j : Int, 0 ≤ a9_marked j ∧ a9_marked j ≤ 1) (hNz9_changed : 0 ≤ z9_changed ∧ z9_changed ≤ 1) (hNx : ((-2147483648 ≤ x ∧ x ≤ 4294968319) ∨ x = 1099511627776)) (sz : Nat) : Met l yX9_mark v_X9_mark ({ frames := 1, cells := 0, slots := 0, locals := 21 }) (va_Pc [.ref h0, .long (lI (x))] (fun U => U.heap.size = sz ∧ va_P (dC, dI) vwP [(h0, .inr (9, [v9_0, v9_1, v9_2, v9_3, v9_4, .ref q_905, v9_6, .int (zI (z9_changed)), v9_8])), (q_905, .inl (cA_905, 1024, .inl (fun j : Nat => zI (a9_marked (j : Int)))))] U.heap ∧ va_K (dC, dI) vwP [(cA_905, .boolean)] U ∧ va_D (fun _ => True) [(h0, .inr (9, [v9_0, v9_1, v9_2, v9_3, v9_4, .ref q_905, v9_6, .int (zI (z9_changed)), v9_8])), (q_905, .inl (cA_905, 1024, .inl (fun j : Nat => zI (a9_marked (j : Int)))))] ∧ va_Nw (.methodLinkNest RX9 83 yX11_isRegister "SsaForge") U ∧ va_Nw (.methodLinkNest RX9 87 yX11_registerOf "SsaForge") U)) (va_Qv (fun _ : Unit => True) (fun (_ : Unit) (t : State) => ∃ (z0_9 : Int) (a1_9 : Int → Int), ((0 ≤ z0_9 ∧ z0_9 ≤ 1) ∧ (∀ j : Int, 0 ≤ a1_9 j ∧ a1_9 j ≤ 1)) ∧ va_P (dC, dI) vwP [(h0, .inr (9, [v9_0, v9_1, v9_2, v9_3, v9_4, .ref q_905, v9_6, .int (zI (z0_9)), v9_8])), (q_905, .inl (cA_905, 1024, .inl (fun j : Nat => zI (a1_9 (j : Int)))))] t.heap ∧ va_K (dC, dI) vwP [(cA_905, .boolean)] t ∧ va_D (va_A [(h0, .inr (9, [v9_0, v9_1, v9_2, v9_3, v9_4, .ref q_905, v9_6, .int (zI (z9_changed)), v9_8])), (q_905, .inl (cA_905, 1024, .inl (fun j : Nat => zI (a9_marked (j : Int)))))] sz) [(h0, .inr (9, [v9_0, v9_1, v9_2, v9_3, v9_4, .ref q_905, v9_6, .int (zI (z0_9)), v9_8])), (q_905, .inl (cA_905, 1024, .inl (fun j : Nat => zI (a1_9 (j : Int)))))]) (va_A [(h0, .inr (9, [v9_0, v9_1, v9_2, v9_3, v9_4, .ref q_905, v9_6, .int (zI (z9_changed)), v9_8])), (q_905, .inl (cA_905, 1024, .inl (fun j : Nat => zI (a9_marked (j : Int)))))] sz)) 0 0 (va_A [(h0, .inr (9, [v9_0, v9_1, v9_2, v9_3, v9_4, .ref q_905, v9_6, .int (zI (z9_changed)), v9_8])), (q_905, .inl (cA_905, 1024, .inl (fun j : Nat => zI (a9_marked (j : Int)))))] sz) := by
  refine Met.ofW (cc := cX9_mark) (maxL := 3) (ret := none) (by decide) rfl ?_
  intro p e s m args below meth c s₁ B hml hv
  obtain ⟨rfl, hsz, hP, hK, hD0, hp0, hp1⟩ := hv
  have hx := B.exec
  have hb := B.bytes
  have hr := B.returns
  have hts := atoms_spec (ws := v_X9_mark) B.pre
  have hown : s.vm.findClass RX9 = some m.cls := findClass_of_methodNamed B.named
  have hlocks := B.notSynchronized
  have ow : ∀ {k : Nat} {w : Cond}, o_X9_mark[k]? = some w → w.before ([.ref h0, .long (lI (x))] : List Value).toArray s = true := fun h => hts _ (mow_X9_mark _ (List.mem_of_getElem? h))
  subst hsz
  have hD := hD0.self (sz := s.heap.size)
  generalize hAe : va_A [(h0, .inr (9, [v9_0, v9_1, v9_2, v9_3, v9_4, .ref q_905, v9_6, .int (zI (z9_changed)), v9_8])), (q_905, .inl (cA_905, 1024, .inl (fun j : Nat => zI (a9_marked (j : Int)))))] s.heap.size = A at hD ⊢
  have hA : ∀ q : Nat, s.heap.size ≤ q → A q := fun q h => by rw [← hAe]; exact Or.inr h
  have hS : va_S A s.heap s.heap [] := va_S.rf
  have hP : va_P (dC, dI) vwP [(h0, .inr (9, [v9_0, v9_1, v9_2, v9_3, v9_4, .ref q_905, v9_6, .int (zI (z9_changed)), v9_8])), (q_905, .inl (cA_905, 1024, .inl (fun j : Nat => zI (a9_marked (j : Int)))))] s.heap := hP
  have hl := lv_entry ([.ref h0, .long (lI (x))]) (n := 3) (Nat.le_of_ble_eq_true rfl)
  rw [lg_entry_eq]
  generalize (lg_sl ([.ref h0, .long (lI (x))]) ++ List.replicate (3 - (lg_sl ([.ref h0, .long (lI (x))])).length) Slot.unset).toArray = ls at hl ⊢
  have hl : lv_has ls 3 [(0, .ref h0), (1, .long (lI (x)))] := hl
  obtain ⟨H, hH⟩ : ∃ H, H = s.heap := ⟨_, rfl⟩
  rw [← hH] at hP
  have hS : va_S A s.heap H [] := by rw [hH]; exact hS
  rw [← hH]
  refine zW_cap (fun Q hQ => ?_)
  refine lv_lload_n hx hb dX9_mark_0 rfl (lv_at hl 1 rfl) ?_
  have hPc := hP.sub (ws' := []) [] rfl
  have hDc := hD.sub (ws' := []) [] (by decide) rfl
  have hKc := hK.sub (tys' := []) [] rfl
  have hFc := va_free (wc := []) hD hS hA [] rfl
  refine va_calli (va_runSN (As := [.long (lI (x))]) (rest := []) ⟨hx, hb, hml, hown, hts⟩ (c_X11_isRegister l dC dI x (by omega) H.size) ⟨va_cnB 1 hts (goodIn_sub mem_X9_mark_0 gw_X11_isRegister) rfl rfl rfl hp0 (ow (k := 0) rfl) (by decide +kernel) ⟨(Nat.le_of_ble_eq_true rfl), (Nat.le_of_ble_eq_true rfl)⟩, (ow (k := 1) rfl), trivial⟩ ⟨fun a U g mk q => by obtain ⟨q0, q1, qP, qK, qD⟩ := q; exact ⟨q0, q1, qP, va_K.moved (u := U) (U := U.calling g mk a) (Vm.Alike.refl U.vm) qK, qD⟩, fun U hU hW => ⟨rfl, by rw [hU], by rw [hU]; exact hPc, va_K.moved hW.alike hKc, hDc.weaken (fun _ _ _ _ => trivial)⟩⟩ rfl rfl hl.1 rfl (lv_room (Nat.le_of_ble_eq_true rfl)) dX9_mark_1 ⟨(Nat.le_of_ble_eq_true rfl), (Nat.le_of_ble_eq_true rfl)⟩) hS (fun q _ h => hFc q h) hFc (fun r_2001 u t H1 locs ht hvm hw hB hz1 hk1 hS => ?_)
  obtain ⟨hP1, hK1, hD1⟩ := hB
  rw [ht] at hP1
  have hK1 := va_K.moved hvm.symm hK1
  obtain ⟨hP, hD⟩ := va_join (wr := [(h0, .inr (9, [v9_0, v9_1, v9_2, v9_3, v9_4, .ref q_905, v9_6, .int (zI (z9_changed)), v9_8])), (q_905, .inl (cA_905, 1024, .inl (fun j : Nat => zI (a9_marked (j : Int)))))]) (w1 := []) hP hD [] [0, 1] rfl rfl (by decide) (by decide) hk1 hFc hP1 hD1
  have hK := (hK.sub (tys' := [(cA_905, .boolean)]) [0] rfl).app hK1
  generalize H1 = H at hP hS ⊢
  have hP : va_P (dC, dI) vwP [(h0, .inr (9, [v9_0, v9_1, v9_2, v9_3, v9_4, .ref q_905, v9_6, .int (zI (z9_changed)), v9_8])), (q_905, .inl (cA_905, 1024, .inl (fun j : Nat => zI (a9_marked (j : Int)))))] H := hP
  have hD : va_D A [(h0, .inr (9, [v9_0, v9_1, v9_2, v9_3, v9_4, .ref q_905, v9_6, .int (zI (z9_changed)), v9_8])), (q_905, .inl (cA_905, 1024, .inl (fun j : Nat => zI (a9_marked (j : Int)))))] := hD
  have hK : va_K (dC, dI) vwP [(cA_905, .boolean)] s := hK
  refine W.widen (k := 0) (n := 0) (Nat.le_of_ble_eq_true rfl) (Nat.le_of_ble_eq_true rfl) ?_
  obtain rfl : r_2001 = (zI (isR (x))) := hw
  have := isR_spec (x)
  refine lv_if_eq (tgt := 34) hx hb dX9_mark_4 (by decide) (fun b4 => ?_) (fun b4 => ?_)
  · have yb4 : (isR (x) : Int) = (0 : Int) := (zI_eq (a := isR (x)) (b := 0) (by omega) (by omega) (by omega) (by omega)).mp b4
    subst hQ
    refine W.widen (k := 0) (n := 0) (Nat.le_of_ble_eq_true rfl) (Nat.le_of_ble_eq_true rfl) ?_
    exact W.vret hx hb hr (fun t ht hW => ⟨⟨(), rfl, trivial, z9_changed, a9_marked, ⟨(by omega), hR_a9_marked⟩, by rw [ht]; exact hP, va_K.moved hW.alike hK, hD⟩, hS.F ht⟩) hS.2.2 dX9_mark_34
  · have yb4 : ¬ (isR (x) : Int) = (0 : Int) := fun q => b4 ((zI_eq (a := isR (x)) (b := 0) (by omega) (by omega) (by omega) (by omega)).mpr q)
    refine lv_aload_n hx hb dX9_mark_7 rfl (lv_at hl 0 rfl) ?_
    refine va_get (D := (dC, dI)) (ci := 9) (v := .ref q_905) (C := RX9) (T := TX9) (N := 9) hx hb hts mem_X9_mark_1 hown hK hP 0 rfl rfl 5 (by decide) (ow (k := 2) rfl) (fun _ h9 => h9) rfl dX9_mark_8 ?_
    refine lv_lload_n hx hb dX9_mark_11 rfl (lv_at hl 1 rfl) ?_
    have hPc := hP.sub (ws' := []) [] rfl
    have hDc := hD.sub (ws' := []) [] (by decide) rfl
    have hKc := hK.sub (tys' := []) [] rfl
    have hFc := va_free (wc := []) hD hS hA [] rfl
    refine va_calli (va_runSN (As := [.long (lI (x))]) (rest := [.ref q_905]) ⟨hx, hb, hml, hown, hts⟩ (c_X11_registerOf l dC dI x (by omega) H.size) ⟨va_cnB 1 hts (goodIn_sub mem_X9_mark_2 gw_X11_registerOf) rfl rfl rfl hp1 (ow (k := 0) rfl) (by decide +kernel) ⟨(Nat.le_of_ble_eq_true rfl), (Nat.le_of_ble_eq_true rfl)⟩, (ow (k := 3) rfl), trivial⟩ ⟨fun a U g mk q => by obtain ⟨q0, q1, qP, qK, qD⟩ := q; exact ⟨q0, q1, qP, va_K.moved (u := U) (U := U.calling g mk a) (Vm.Alike.refl U.vm) qK, qD⟩, fun U hU hW => ⟨rfl, by rw [hU], by rw [hU]; exact hPc, va_K.moved hW.alike hKc, hDc.weaken (fun _ _ _ _ => trivial)⟩⟩ rfl rfl hl.1 rfl (lv_room (Nat.le_of_ble_eq_true rfl)) dX9_mark_12 ⟨(Nat.le_of_ble_eq_true rfl), (Nat.le_of_ble_eq_true rfl)⟩) hS (fun q _ h => hFc q h) hFc (fun r_2002 u t H1 locs ht hvm hw hB hz1 hk1 hS => ?_)
    obtain ⟨hP1, hK1, hD1⟩ := hB
    rw [ht] at hP1
    have hK1 := va_K.moved hvm.symm hK1
    obtain ⟨hP, hD⟩ := va_join (wr := [(h0, .inr (9, [v9_0, v9_1, v9_2, v9_3, v9_4, .ref q_905, v9_6, .int (zI (z9_changed)), v9_8])), (q_905, .inl (cA_905, 1024, .inl (fun j : Nat => zI (a9_marked (j : Int)))))]) (w1 := []) hP hD [] [0, 1] rfl rfl (by decide) (by decide) hk1 hFc hP1 hD1
    have hK := (hK.sub (tys' := [(cA_905, .boolean)]) [0] rfl).app hK1
    generalize H1 = H at hP hS ⊢
    have hP : va_P (dC, dI) vwP [(h0, .inr (9, [v9_0, v9_1, v9_2, v9_3, v9_4, .ref q_905, v9_6, .int (zI (z9_changed)), v9_8])), (q_905, .inl (cA_905, 1024, .inl (fun j : Nat => zI (a9_marked (j : Int)))))] H := hP
    have hD : va_D A [(h0, .inr (9, [v9_0, v9_1, v9_2, v9_3, v9_4, .ref q_905, v9_6, .int (zI (z9_changed)), v9_8])), (q_905, .inl (cA_905, 1024, .inl (fun j : Nat => zI (a9_marked (j : Int)))))] := hD
    have hK : va_K (dC, dI) vwP [(cA_905, .boolean)] s := hK
    refine W.widen (k := 0) (n := 0) (Nat.le_of_ble_eq_true rfl) (Nat.le_of_ble_eq_true rfl) ?_
    obtain rfl : r_2002 = (zI (x - 4294967296)) := hw
    refine va_zald hx hb hK hP 1 0 rfl rfl (zI_in (a := x - 4294967296) (n := 1024) (by omega) (by omega) (by decide)) dX9_mark_15 ?_
    refine lv_topi (fun z ez => ?_)
    obtain rfl : z = zI (a9_marked (x - 4294967296)) := ez.trans (zI_ld (a9_marked) (by omega) (by omega))
    have k1 := hR_a9_marked (x - 4294967296)
    refine lv_if_ne (tgt := 34) hx hb dX9_mark_16 (by decide) (fun b16 => ?_) (fun b16 => ?_)
    · have yb16 : ¬ (a9_marked (x - 4294967296) : Int) = (0 : Int) := fun q => b16 ((zI_eq (a := a9_marked (x - 4294967296)) (b := 0) (by omega) (by omega) (by omega) (by omega)).mpr q)
      subst hQ
      refine W.widen (k := 0) (n := 0) (Nat.le_of_ble_eq_true rfl) (Nat.le_of_ble_eq_true rfl) ?_
      exact W.vret hx hb hr (fun t ht hW => ⟨⟨(), rfl, trivial, z9_changed, a9_marked, ⟨(by omega), hR_a9_marked⟩, by rw [ht]; exact hP, va_K.moved hW.alike hK, hD⟩, hS.F ht⟩) hS.2.2 dX9_mark_34
    · have yb16 : (a9_marked (x - 4294967296) : Int) = (0 : Int) := (zI_eq (a := a9_marked (x - 4294967296)) (b := 0) (by omega) (by omega) (by omega) (by omega)).mp b16
      refine lv_aload_n hx hb dX9_mark_19 rfl (lv_at hl 0 rfl) ?_
      refine va_get (D := (dC, dI)) (ci := 9) (v := .ref q_905) (C := RX9) (T := TX9) (N := 9) hx hb hts mem_X9_mark_1 hown hK hP 0 rfl rfl 5 (by decide) (ow (k := 2) rfl) (fun _ h9 => h9) rfl dX9_mark_20 ?_
      refine lv_lload_n hx hb dX9_mark_23 rfl (lv_at hl 1 rfl) ?_
      have hPc := hP.sub (ws' := []) [] rfl
      have hDc := hD.sub (ws' := []) [] (by decide) rfl
      have hKc := hK.sub (tys' := []) [] rfl
      have hFc := va_free (wc := []) hD hS hA [] rfl
      refine va_calli (va_runSN (As := [.long (lI (x))]) (rest := [.ref q_905]) ⟨hx, hb, hml, hown, hts⟩ (c_X11_registerOf l dC dI x (by omega) H.size) ⟨va_cnB 1 hts (goodIn_sub mem_X9_mark_2 gw_X11_registerOf) rfl rfl rfl hp1 (ow (k := 0) rfl) (by decide +kernel) ⟨(Nat.le_of_ble_eq_true rfl), (Nat.le_of_ble_eq_true rfl)⟩, (ow (k := 3) rfl), trivial⟩ ⟨fun a U g mk q => by obtain ⟨q0, q1, qP, qK, qD⟩ := q; exact ⟨q0, q1, qP, va_K.moved (u := U) (U := U.calling g mk a) (Vm.Alike.refl U.vm) qK, qD⟩, fun U hU hW => ⟨rfl, by rw [hU], by rw [hU]; exact hPc, va_K.moved hW.alike hKc, hDc.weaken (fun _ _ _ _ => trivial)⟩⟩ rfl rfl hl.1 rfl (lv_room (Nat.le_of_ble_eq_true rfl)) dX9_mark_24 ⟨(Nat.le_of_ble_eq_true rfl), (Nat.le_of_ble_eq_true rfl)⟩) hS (fun q _ h => hFc q h) hFc (fun r_2003 u t H1 locs ht hvm hw hB hz1 hk1 hS => ?_)
      obtain ⟨hP1, hK1, hD1⟩ := hB
      rw [ht] at hP1
      have hK1 := va_K.moved hvm.symm hK1
      obtain ⟨hP, hD⟩ := va_join (wr := [(h0, .inr (9, [v9_0, v9_1, v9_2, v9_3, v9_4, .ref q_905, v9_6, .int (zI (z9_changed)), v9_8])), (q_905, .inl (cA_905, 1024, .inl (fun j : Nat => zI (a9_marked (j : Int)))))]) (w1 := []) hP hD [] [0, 1] rfl rfl (by decide) (by decide) hk1 hFc hP1 hD1
      have hK := (hK.sub (tys' := [(cA_905, .boolean)]) [0] rfl).app hK1
      generalize H1 = H at hP hS ⊢
      have hP : va_P (dC, dI) vwP [(h0, .inr (9, [v9_0, v9_1, v9_2, v9_3, v9_4, .ref q_905, v9_6, .int (zI (z9_changed)), v9_8])), (q_905, .inl (cA_905, 1024, .inl (fun j : Nat => zI (a9_marked (j : Int)))))] H := hP
      have hD : va_D A [(h0, .inr (9, [v9_0, v9_1, v9_2, v9_3, v9_4, .ref q_905, v9_6, .int (zI (z9_changed)), v9_8])), (q_905, .inl (cA_905, 1024, .inl (fun j : Nat => zI (a9_marked (j : Int)))))] := hD
      have hK : va_K (dC, dI) vwP [(cA_905, .boolean)] s := hK
      refine W.widen (k := 0) (n := 0) (Nat.le_of_ble_eq_true rfl) (Nat.le_of_ble_eq_true rfl) ?_
      obtain rfl : r_2003 = (zI (x - 4294967296)) := hw
      refine lv_iconst (v := 1) hx hb dX9_mark_27 (by decide) ?_
      refine va_zast (i := zI (x - 4294967296)) hx hb hK hP hD hS 1 0 rfl rfl (zI_in (a := x - 4294967296) (n := 1024) (by omega) (by omega) (by decide)) dX9_mark_28 (fun H locs hP hD hS => ?_)
      rw [show vp_nar .boolean 1 = 1 from zI_nar (a := 1) (by omega) (by omega)] at hP hD
      have eQ : upd (fun j : Nat => zI (a9_marked (j : Int))) (zI (x - 4294967296)).toNatClampNeg 1 = (fun j : Nat => zI (zup a9_marked (x - 4294967296) (1) (j : Int))) := zI_st a9_marked (e := x - 4294967296) (v := 1) (by omega) (by omega)
      rw [eQ] at hP hD
      clear eQ
      have ra_2004 : ∀ j : Int, 0 ≤ zup a9_marked (x - 4294967296) (1) j ∧ zup a9_marked (x - 4294967296) (1) j ≤ 1 := zup_P (P := fun x9 => 0 ≤ x9 ∧ x9 ≤ 1) hR_a9_marked (show 0 ≤ (1) ∧ (1) ≤ 1 by omega)
      generalize zup a9_marked (x - 4294967296) (1) = a_2004 at hP hD ra_2004
      have hP : va_P (dC, dI) vwP [(h0, .inr (9, [v9_0, v9_1, v9_2, v9_3, v9_4, .ref q_905, v9_6, .int (zI (z9_changed)), v9_8])), (q_905, .inl (cA_905, 1024, .inl (fun j : Nat => zI (a_2004 (j : Int)))))] H := hP
      have hD : va_D A [(h0, .inr (9, [v9_0, v9_1, v9_2, v9_3, v9_4, .ref q_905, v9_6, .int (zI (z9_changed)), v9_8])), (q_905, .inl (cA_905, 1024, .inl (fun j : Nat => zI (a_2004 (j : Int)))))] := hD
      refine lv_aload_n hx hb dX9_mark_29 rfl (lv_at hl 0 rfl) ?_
      refine lv_iconst (v := 1) hx hb dX9_mark_30 (by decide) ?_
      refine va_put (D := (dC, dI)) (ci := 9) (v := .int 1) (ty := .boolean) (C := RX9) (T := TX9) (N := 9) hx hb hts mem_X9_mark_1 tyX9 tyX9_ok nmX9 hown hK hP hD hS 0 rfl rfl 7 (by decide) (ow (k := 4) rfl) (fun _ h9 => h9) rfl (by decide +kernel) rfl rfl (Nat.le_of_ble_eq_true rfl) dX9_mark_31 (fun H locs hP hD hS => ?_)
      have hP : va_P (dC, dI) vwP [(h0, .inr (9, [v9_0, v9_1, v9_2, v9_3, v9_4, .ref q_905, v9_6, .int 1, v9_8])), (q_905, .inl (cA_905, 1024, .inl (fun j : Nat => zI (a_2004 (j : Int)))))] H := hP
      have hD : va_D A [(h0, .inr (9, [v9_0, v9_1, v9_2, v9_3, v9_4, .ref q_905, v9_6, .int 1, v9_8])), (q_905, .inl (cA_905, 1024, .inl (fun j : Nat => zI (a_2004 (j : Int)))))] := hD
      subst hQ
      refine W.widen (k := 0) (n := 0) (Nat.le_of_ble_eq_true rfl) (Nat.le_of_ble_eq_true rfl) ?_
      exact W.vret hx hb hr (fun t ht hW => ⟨⟨(), rfl, trivial, 1, a_2004, ⟨(by omega), ra_2004⟩, by rw [ht]; exact hP, va_K.moved hW.alike hK, hD⟩, hS.F ht⟩) hS.2.2 dX9_mark_34
theorem dX9_setInLoop_0 : decode cX9_setInLoop 0 = .ok (.lload_n 1, 1) := by decide +kernel
theorem dX9_setInLoop_1 : decode cX9_setInLoop 1 = .ok (.invokestatic 83, 3) := by decide +kernel
theorem dX9_setInLoop_4 : decode cX9_setInLoop 4 = .ok (.ifCond .eq 19, 3) := by decide +kernel
theorem dX9_setInLoop_23 : decode cX9_setInLoop 23 = .ok (.iconst 0, 1) := by decide +kernel
theorem dX9_setInLoop_24 : decode cX9_setInLoop 24 = .ok (.ireturn, 1) := by decide +kernel
theorem dX9_setInLoop_7 : decode cX9_setInLoop 7 = .ok (.aload_n 0, 1) := by decide +kernel
theorem dX9_setInLoop_8 : decode cX9_setInLoop 8 = .ok (.getfield 28, 3) := by decide +kernel
theorem dX9_setInLoop_11 : decode cX9_setInLoop 11 = .ok (.lload_n 1, 1) := by decide +kernel
theorem dX9_setInLoop_12 : decode cX9_setInLoop 12 = .ok (.invokestatic 87, 3) := by decide +kernel
theorem dX9_setInLoop_15 : decode cX9_setInLoop 15 = .ok (.baload, 1) := by decide +kernel
theorem dX9_setInLoop_16 : decode cX9_setInLoop 16 = .ok (.ifCond .eq 7, 3) := by decide +kernel
theorem dX9_setInLoop_19 : decode cX9_setInLoop 19 = .ok (.iconst 1, 1) := by decide +kernel
theorem dX9_setInLoop_20 : decode cX9_setInLoop 20 = .ok (.goto 4, 3) := by decide +kernel
def o_X9_setInLoop : List Cond := [.initialized RX11, .static yX11_isRegister, .fieldLink RX9 28 "SsaForge$Tidier" "marked" "[Z", .static yX11_registerOf]
def v_X9_setInLoop : List Cond := .code yX9_setInLoop cX9_setInLoop 3 (some .boolean) :: (o_X9_setInLoop ++ (v_X11_isRegister ++ (wsX90 ++ (v_X11_registerOf ++ []))))
theorem mow_X9_setInLoop : ∀ w ∈ o_X9_setInLoop, w ∈ v_X9_setInLoop := fun _ h => List.mem_cons_of_mem _ (List.mem_append_left _ h)
theorem mem_X9_setInLoop_0 : ∀ w ∈ v_X11_isRegister, w ∈ v_X9_setInLoop := fun _ h => List.mem_cons_of_mem _ (List.mem_append_right _ (List.mem_append_left _ h))
theorem mem_X9_setInLoop_1 : ∀ w ∈ wsX90, w ∈ v_X9_setInLoop := fun _ h => List.mem_cons_of_mem _ (List.mem_append_right _ (List.mem_append_right _ (List.mem_append_left _ h)))
theorem mem_X9_setInLoop_2 : ∀ w ∈ v_X11_registerOf, w ∈ v_X9_setInLoop := fun _ h => List.mem_cons_of_mem _ (List.mem_append_right _ (List.mem_append_right _ (List.mem_append_right _ (List.mem_append_left _ h))))
set_option maxRecDepth 20000 in
theorem gw_X9_setInLoop : v_X9_setInLoop.all goodWord = true := by decide +kernel
set_option maxHeartbeats 4000000 in
set_option maxRecDepth 100000 in
theorem c_X9_setInLoop (l : Launch) (dC : Nat → ClassId) (dI : Nat → Nat → Nat) (h0 : Nat) (v9_0 : Value) (v9_1 : Value) (v9_2 : Value) (v9_3 : Value) (v9_4 : Value) (q_905 : Nat) (cA_905 : ClassId) (a9_marked : Int → Int) (v9_6 : Value) (v9_7 : Value) (v9_8 : Value) (x : Int) (hR_a9_marked : ∀ j : Int, 0 ≤ a9_marked j ∧ a9_marked j ≤ 1) (hNx : ((-2147483648 ≤ x ∧ x ≤ 4294968319) ∨ x = 1099511627776)) (sz : Nat) : Met l yX9_setInLoop v_X9_setInLoop ({ frames := 1, cells := 0, slots := 0, locals := 21 }) (va_Pc [.ref h0, .long (lI (x))] (fun U => U.heap.size = sz ∧ va_P (dC, dI) vwP [(h0, .inr (9, [v9_0, v9_1, v9_2, v9_3, v9_4, .ref q_905, v9_6, v9_7, v9_8])), (q_905, .inl (cA_905, 1024, .inl (fun j : Nat => zI (a9_marked (j : Int)))))] U.heap ∧ va_K (dC, dI) vwP [(cA_905, .boolean)] U ∧ va_D (fun _ => True) [(h0, .inr (9, [v9_0, v9_1, v9_2, v9_3, v9_4, .ref q_905, v9_6, v9_7, v9_8])), (q_905, .inl (cA_905, 1024, .inl (fun j : Nat => zI (a9_marked (j : Int)))))] ∧ va_Nw (.methodLinkNest RX9 83 yX11_isRegister "SsaForge") U ∧ va_Nw (.methodLinkNest RX9 87 yX11_registerOf "SsaForge") U)) (va_Qi (fun (r : Int32) (_ : Unit) => ∃ z : Int, r = zI z ∧ (0 ≤ z ∧ z ≤ 1)) (fun (_ : Unit) (t : State) => va_P (dC, dI) vwP [(h0, .inr (9, [v9_0, v9_1, v9_2, v9_3, v9_4, .ref q_905, v9_6, v9_7, v9_8])), (q_905, .inl (cA_905, 1024, .inl (fun j : Nat => zI (a9_marked (j : Int)))))] t.heap ∧ va_K (dC, dI) vwP [(cA_905, .boolean)] t ∧ va_D (va_A [(h0, .inr (9, [v9_0, v9_1, v9_2, v9_3, v9_4, .ref q_905, v9_6, v9_7, v9_8])), (q_905, .inl (cA_905, 1024, .inl (fun j : Nat => zI (a9_marked (j : Int)))))] sz) [(h0, .inr (9, [v9_0, v9_1, v9_2, v9_3, v9_4, .ref q_905, v9_6, v9_7, v9_8])), (q_905, .inl (cA_905, 1024, .inl (fun j : Nat => zI (a9_marked (j : Int)))))]) (va_A [(h0, .inr (9, [v9_0, v9_1, v9_2, v9_3, v9_4, .ref q_905, v9_6, v9_7, v9_8])), (q_905, .inl (cA_905, 1024, .inl (fun j : Nat => zI (a9_marked (j : Int)))))] sz)) 0 0 (va_A [(h0, .inr (9, [v9_0, v9_1, v9_2, v9_3, v9_4, .ref q_905, v9_6, v9_7, v9_8])), (q_905, .inl (cA_905, 1024, .inl (fun j : Nat => zI (a9_marked (j : Int)))))] sz) := by
  refine Met.ofW (cc := cX9_setInLoop) (maxL := 3) (ret := (some .boolean)) (by decide) rfl ?_
  intro p e s m args below meth c s₁ B hml hv
  obtain ⟨rfl, hsz, hP, hK, hD0, hp0, hp1⟩ := hv
  have hx := B.exec
  have hb := B.bytes
  have hr := B.returns
  have hts := atoms_spec (ws := v_X9_setInLoop) B.pre
  have hown : s.vm.findClass RX9 = some m.cls := findClass_of_methodNamed B.named
  have hlocks := B.notSynchronized
  have ow : ∀ {k : Nat} {w : Cond}, o_X9_setInLoop[k]? = some w → w.before ([.ref h0, .long (lI (x))] : List Value).toArray s = true := fun h => hts _ (mow_X9_setInLoop _ (List.mem_of_getElem? h))
  subst hsz
  have hD := hD0.self (sz := s.heap.size)
  generalize hAe : va_A [(h0, .inr (9, [v9_0, v9_1, v9_2, v9_3, v9_4, .ref q_905, v9_6, v9_7, v9_8])), (q_905, .inl (cA_905, 1024, .inl (fun j : Nat => zI (a9_marked (j : Int)))))] s.heap.size = A at hD ⊢
  have hA : ∀ q : Nat, s.heap.size ≤ q → A q := fun q h => by rw [← hAe]; exact Or.inr h
  have hS : va_S A s.heap s.heap [] := va_S.rf
  have hP : va_P (dC, dI) vwP [(h0, .inr (9, [v9_0, v9_1, v9_2, v9_3, v9_4, .ref q_905, v9_6, v9_7, v9_8])), (q_905, .inl (cA_905, 1024, .inl (fun j : Nat => zI (a9_marked (j : Int)))))] s.heap := hP
  have hl := lv_entry ([.ref h0, .long (lI (x))]) (n := 3) (Nat.le_of_ble_eq_true rfl)
  rw [lg_entry_eq]
  generalize (lg_sl ([.ref h0, .long (lI (x))]) ++ List.replicate (3 - (lg_sl ([.ref h0, .long (lI (x))])).length) Slot.unset).toArray = ls at hl ⊢
  have hl : lv_has ls 3 [(0, .ref h0), (1, .long (lI (x)))] := hl
  obtain ⟨H, hH⟩ : ∃ H, H = s.heap := ⟨_, rfl⟩
  rw [← hH] at hP
  have hS : va_S A s.heap H [] := by rw [hH]; exact hS
  rw [← hH]
  refine zW_cap (fun Q hQ => ?_)
  refine lv_lload_n hx hb dX9_setInLoop_0 rfl (lv_at hl 1 rfl) ?_
  have hPc := hP.sub (ws' := []) [] rfl
  have hDc := hD.sub (ws' := []) [] (by decide) rfl
  have hKc := hK.sub (tys' := []) [] rfl
  have hFc := va_free (wc := []) hD hS hA [] rfl
  refine va_calli (va_runSN (As := [.long (lI (x))]) (rest := []) ⟨hx, hb, hml, hown, hts⟩ (c_X11_isRegister l dC dI x (by omega) H.size) ⟨va_cnB 1 hts (goodIn_sub mem_X9_setInLoop_0 gw_X11_isRegister) rfl rfl rfl hp0 (ow (k := 0) rfl) (by decide +kernel) ⟨(Nat.le_of_ble_eq_true rfl), (Nat.le_of_ble_eq_true rfl)⟩, (ow (k := 1) rfl), trivial⟩ ⟨fun a U g mk q => by obtain ⟨q0, q1, qP, qK, qD⟩ := q; exact ⟨q0, q1, qP, va_K.moved (u := U) (U := U.calling g mk a) (Vm.Alike.refl U.vm) qK, qD⟩, fun U hU hW => ⟨rfl, by rw [hU], by rw [hU]; exact hPc, va_K.moved hW.alike hKc, hDc.weaken (fun _ _ _ _ => trivial)⟩⟩ rfl rfl hl.1 rfl (lv_room (Nat.le_of_ble_eq_true rfl)) dX9_setInLoop_1 ⟨(Nat.le_of_ble_eq_true rfl), (Nat.le_of_ble_eq_true rfl)⟩) hS (fun q _ h => hFc q h) hFc (fun r_2001 u t H1 locs ht hvm hw hB hz1 hk1 hS => ?_)
  obtain ⟨hP1, hK1, hD1⟩ := hB
  rw [ht] at hP1
  have hK1 := va_K.moved hvm.symm hK1
  obtain ⟨hP, hD⟩ := va_join (wr := [(h0, .inr (9, [v9_0, v9_1, v9_2, v9_3, v9_4, .ref q_905, v9_6, v9_7, v9_8])), (q_905, .inl (cA_905, 1024, .inl (fun j : Nat => zI (a9_marked (j : Int)))))]) (w1 := []) hP hD [] [0, 1] rfl rfl (by decide) (by decide) hk1 hFc hP1 hD1
  have hK := (hK.sub (tys' := [(cA_905, .boolean)]) [0] rfl).app hK1
  generalize H1 = H at hP hS ⊢
  have hP : va_P (dC, dI) vwP [(h0, .inr (9, [v9_0, v9_1, v9_2, v9_3, v9_4, .ref q_905, v9_6, v9_7, v9_8])), (q_905, .inl (cA_905, 1024, .inl (fun j : Nat => zI (a9_marked (j : Int)))))] H := hP
  have hD : va_D A [(h0, .inr (9, [v9_0, v9_1, v9_2, v9_3, v9_4, .ref q_905, v9_6, v9_7, v9_8])), (q_905, .inl (cA_905, 1024, .inl (fun j : Nat => zI (a9_marked (j : Int)))))] := hD
  have hK : va_K (dC, dI) vwP [(cA_905, .boolean)] s := hK
  refine W.widen (k := 0) (n := 0) (Nat.le_of_ble_eq_true rfl) (Nat.le_of_ble_eq_true rfl) ?_
  obtain rfl : r_2001 = (zI (isR (x))) := hw
  have := isR_spec (x)
  refine lv_if_eq (tgt := 23) hx hb dX9_setInLoop_4 (by decide) (fun b4 => ?_) (fun b4 => ?_)
  · have yb4 : (isR (x) : Int) = (0 : Int) := (zI_eq (a := isR (x)) (b := 0) (by omega) (by omega) (by omega) (by omega)).mp b4
    refine lv_iconst (v := 0) hx hb dX9_setInLoop_23 (by decide) ?_
    subst hQ
    refine W.widen (k := 0) (n := 0) (Nat.le_of_ble_eq_true rfl) (Nat.le_of_ble_eq_true rfl) ?_
    exact W.zret (v := 0) hx hb hr (by decide) (fun t ht hW => ⟨⟨0, (), rfl, ⟨0, rfl, by omega⟩, by rw [ht]; exact hP, va_K.moved hW.alike hK, hD⟩, hS.F ht⟩) hS.2.2 dX9_setInLoop_24
  · have yb4 : ¬ (isR (x) : Int) = (0 : Int) := fun q => b4 ((zI_eq (a := isR (x)) (b := 0) (by omega) (by omega) (by omega) (by omega)).mpr q)
    refine lv_aload_n hx hb dX9_setInLoop_7 rfl (lv_at hl 0 rfl) ?_
    refine va_get (D := (dC, dI)) (ci := 9) (v := .ref q_905) (C := RX9) (T := TX9) (N := 9) hx hb hts mem_X9_setInLoop_1 hown hK hP 0 rfl rfl 5 (by decide) (ow (k := 2) rfl) (fun _ h9 => h9) rfl dX9_setInLoop_8 ?_
    refine lv_lload_n hx hb dX9_setInLoop_11 rfl (lv_at hl 1 rfl) ?_
    have hPc := hP.sub (ws' := []) [] rfl
    have hDc := hD.sub (ws' := []) [] (by decide) rfl
    have hKc := hK.sub (tys' := []) [] rfl
    have hFc := va_free (wc := []) hD hS hA [] rfl
    refine va_calli (va_runSN (As := [.long (lI (x))]) (rest := [.ref q_905]) ⟨hx, hb, hml, hown, hts⟩ (c_X11_registerOf l dC dI x (by omega) H.size) ⟨va_cnB 1 hts (goodIn_sub mem_X9_setInLoop_2 gw_X11_registerOf) rfl rfl rfl hp1 (ow (k := 0) rfl) (by decide +kernel) ⟨(Nat.le_of_ble_eq_true rfl), (Nat.le_of_ble_eq_true rfl)⟩, (ow (k := 3) rfl), trivial⟩ ⟨fun a U g mk q => by obtain ⟨q0, q1, qP, qK, qD⟩ := q; exact ⟨q0, q1, qP, va_K.moved (u := U) (U := U.calling g mk a) (Vm.Alike.refl U.vm) qK, qD⟩, fun U hU hW => ⟨rfl, by rw [hU], by rw [hU]; exact hPc, va_K.moved hW.alike hKc, hDc.weaken (fun _ _ _ _ => trivial)⟩⟩ rfl rfl hl.1 rfl (lv_room (Nat.le_of_ble_eq_true rfl)) dX9_setInLoop_12 ⟨(Nat.le_of_ble_eq_true rfl), (Nat.le_of_ble_eq_true rfl)⟩) hS (fun q _ h => hFc q h) hFc (fun r_2002 u t H1 locs ht hvm hw hB hz1 hk1 hS => ?_)
    obtain ⟨hP1, hK1, hD1⟩ := hB
    rw [ht] at hP1
    have hK1 := va_K.moved hvm.symm hK1
    obtain ⟨hP, hD⟩ := va_join (wr := [(h0, .inr (9, [v9_0, v9_1, v9_2, v9_3, v9_4, .ref q_905, v9_6, v9_7, v9_8])), (q_905, .inl (cA_905, 1024, .inl (fun j : Nat => zI (a9_marked (j : Int)))))]) (w1 := []) hP hD [] [0, 1] rfl rfl (by decide) (by decide) hk1 hFc hP1 hD1
    have hK := (hK.sub (tys' := [(cA_905, .boolean)]) [0] rfl).app hK1
    generalize H1 = H at hP hS ⊢
    have hP : va_P (dC, dI) vwP [(h0, .inr (9, [v9_0, v9_1, v9_2, v9_3, v9_4, .ref q_905, v9_6, v9_7, v9_8])), (q_905, .inl (cA_905, 1024, .inl (fun j : Nat => zI (a9_marked (j : Int)))))] H := hP
    have hD : va_D A [(h0, .inr (9, [v9_0, v9_1, v9_2, v9_3, v9_4, .ref q_905, v9_6, v9_7, v9_8])), (q_905, .inl (cA_905, 1024, .inl (fun j : Nat => zI (a9_marked (j : Int)))))] := hD
    have hK : va_K (dC, dI) vwP [(cA_905, .boolean)] s := hK
    refine W.widen (k := 0) (n := 0) (Nat.le_of_ble_eq_true rfl) (Nat.le_of_ble_eq_true rfl) ?_
    obtain rfl : r_2002 = (zI (x - 4294967296)) := hw
    refine va_zald hx hb hK hP 1 0 rfl rfl (zI_in (a := x - 4294967296) (n := 1024) (by omega) (by omega) (by decide)) dX9_setInLoop_15 ?_
    refine lv_topi (fun z ez => ?_)
    obtain rfl : z = zI (a9_marked (x - 4294967296)) := ez.trans (zI_ld (a9_marked) (by omega) (by omega))
    have k1 := hR_a9_marked (x - 4294967296)
    refine lv_if_eq (tgt := 23) hx hb dX9_setInLoop_16 (by decide) (fun b16 => ?_) (fun b16 => ?_)
    · have yb16 : (a9_marked (x - 4294967296) : Int) = (0 : Int) := (zI_eq (a := a9_marked (x - 4294967296)) (b := 0) (by omega) (by omega) (by omega) (by omega)).mp b16
      refine lv_iconst (v := 0) hx hb dX9_setInLoop_23 (by decide) ?_
      subst hQ
      refine W.widen (k := 0) (n := 0) (Nat.le_of_ble_eq_true rfl) (Nat.le_of_ble_eq_true rfl) ?_
      exact W.zret (v := 0) hx hb hr (by decide) (fun t ht hW => ⟨⟨0, (), rfl, ⟨0, rfl, by omega⟩, by rw [ht]; exact hP, va_K.moved hW.alike hK, hD⟩, hS.F ht⟩) hS.2.2 dX9_setInLoop_24
    · have yb16 : ¬ (a9_marked (x - 4294967296) : Int) = (0 : Int) := fun q => b16 ((zI_eq (a := a9_marked (x - 4294967296)) (b := 0) (by omega) (by omega) (by omega) (by omega)).mpr q)
      refine lv_iconst (v := 1) hx hb dX9_setInLoop_19 (by decide) ?_
      refine lv_goto (tgt := 24) hx hb dX9_setInLoop_20 (by decide) ?_
      subst hQ
      refine W.widen (k := 0) (n := 0) (Nat.le_of_ble_eq_true rfl) (Nat.le_of_ble_eq_true rfl) ?_
      exact W.zret (v := 1) hx hb hr (by decide) (fun t ht hW => ⟨⟨1, (), rfl, ⟨1, rfl, by omega⟩, by rw [ht]; exact hP, va_K.moved hW.alike hK, hD⟩, hS.F ht⟩) hS.2.2 dX9_setInLoop_24
theorem dX9_onlyPredOutside_0 : decode cX9_onlyPredOutside 0 = .ok (.iconst (-1), 1) := by decide +kernel
theorem dX9_onlyPredOutside_1 : decode cX9_onlyPredOutside 1 = .ok (.istore_n 3, 1) := by decide +kernel
theorem dX9_onlyPredOutside_2 : decode cX9_onlyPredOutside 2 = .ok (.aload_n 0, 1) := by decide +kernel
theorem dX9_onlyPredOutside_3 : decode cX9_onlyPredOutside 3 = .ok (.getfield 145, 3) := by decide +kernel
theorem dX9_onlyPredOutside_6 : decode cX9_onlyPredOutside 6 = .ok (.iload_n 2, 1) := by decide +kernel
theorem dX9_onlyPredOutside_7 : decode cX9_onlyPredOutside 7 = .ok (.iaload, 1) := by decide +kernel
theorem dX9_onlyPredOutside_8 : decode cX9_onlyPredOutside 8 = .ok (.istore 4, 2) := by decide +kernel
theorem dX9_onlyPredOutside_10 : decode cX9_onlyPredOutside 10 = .ok (.iload 4, 2) := by decide +kernel
theorem dX9_onlyPredOutside_12 : decode cX9_onlyPredOutside 12 = .ok (.aload_n 0, 1) := by decide +kernel
theorem dX9_onlyPredOutside_13 : decode cX9_onlyPredOutside 13 = .ok (.getfield 145, 3) := by decide +kernel
theorem dX9_onlyPredOutside_16 : decode cX9_onlyPredOutside 16 = .ok (.iload_n 2, 1) := by decide +kernel
theorem dX9_onlyPredOutside_17 : decode cX9_onlyPredOutside 17 = .ok (.iconst 1, 1) := by decide +kernel
theorem dX9_onlyPredOutside_18 : decode cX9_onlyPredOutside 18 = .ok (.iadd, 1) := by decide +kernel
theorem dX9_onlyPredOutside_19 : decode cX9_onlyPredOutside 19 = .ok (.iaload, 1) := by decide +kernel
theorem dX9_onlyPredOutside_20 : decode cX9_onlyPredOutside 20 = .ok (.if_icmp .ge 38, 3) := by decide +kernel
theorem dX9_onlyPredOutside_58 : decode cX9_onlyPredOutside 58 = .ok (.iload_n 3, 1) := by decide +kernel
theorem dX9_onlyPredOutside_59 : decode cX9_onlyPredOutside 59 = .ok (.ireturn, 1) := by decide +kernel
theorem dX9_onlyPredOutside_23 : decode cX9_onlyPredOutside 23 = .ok (.aload_n 1, 1) := by decide +kernel
theorem dX9_onlyPredOutside_24 : decode cX9_onlyPredOutside 24 = .ok (.getfield 148, 3) := by decide +kernel
theorem dX9_onlyPredOutside_27 : decode cX9_onlyPredOutside 27 = .ok (.aload_n 0, 1) := by decide +kernel
theorem dX9_onlyPredOutside_28 : decode cX9_onlyPredOutside 28 = .ok (.getfield 151, 3) := by decide +kernel
theorem dX9_onlyPredOutside_31 : decode cX9_onlyPredOutside 31 = .ok (.iload 4, 2) := by decide +kernel
theorem dX9_onlyPredOutside_33 : decode cX9_onlyPredOutside 33 = .ok (.iaload, 1) := by decide +kernel
theorem dX9_onlyPredOutside_34 : decode cX9_onlyPredOutside 34 = .ok (.baload, 1) := by decide +kernel
theorem dX9_onlyPredOutside_35 : decode cX9_onlyPredOutside 35 = .ok (.ifCond .ne 17, 3) := by decide +kernel
theorem dX9_onlyPredOutside_52 : decode cX9_onlyPredOutside 52 = .ok (.iinc 4 1, 3) := by decide +kernel
theorem dX9_onlyPredOutside_55 : decode cX9_onlyPredOutside 55 = .ok (.goto (-45), 3) := by decide +kernel
theorem dX9_onlyPredOutside_38 : decode cX9_onlyPredOutside 38 = .ok (.iload_n 3, 1) := by decide +kernel
theorem dX9_onlyPredOutside_39 : decode cX9_onlyPredOutside 39 = .ok (.ifCond .lt 5, 3) := by decide +kernel
theorem dX9_onlyPredOutside_44 : decode cX9_onlyPredOutside 44 = .ok (.aload_n 0, 1) := by decide +kernel
theorem dX9_onlyPredOutside_45 : decode cX9_onlyPredOutside 45 = .ok (.getfield 151, 3) := by decide +kernel
theorem dX9_onlyPredOutside_48 : decode cX9_onlyPredOutside 48 = .ok (.iload 4, 2) := by decide +kernel
theorem dX9_onlyPredOutside_50 : decode cX9_onlyPredOutside 50 = .ok (.iaload, 1) := by decide +kernel
theorem dX9_onlyPredOutside_51 : decode cX9_onlyPredOutside 51 = .ok (.istore_n 3, 1) := by decide +kernel
theorem dX9_onlyPredOutside_42 : decode cX9_onlyPredOutside 42 = .ok (.iconst (-1), 1) := by decide +kernel
theorem dX9_onlyPredOutside_43 : decode cX9_onlyPredOutside 43 = .ok (.ireturn, 1) := by decide +kernel
def o_X9_onlyPredOutside : List Cond := [.fieldLink RX9 145 "SsaForge$Code" "predStart" "[I", .fieldLink RX9 148 "SsaForge$Flow" "inLoop" "[Z", .fieldLink RX9 151 "SsaForge$Code" "preds" "[I"]
def v_X9_onlyPredOutside : List Cond := .code yX9_onlyPredOutside cX9_onlyPredOutside 5 (some .int) :: (o_X9_onlyPredOutside ++ (wsX00 ++ (wsX20 ++ [])))
theorem mow_X9_onlyPredOutside : ∀ w ∈ o_X9_onlyPredOutside, w ∈ v_X9_onlyPredOutside := fun _ h => List.mem_cons_of_mem _ (List.mem_append_left _ h)
theorem mem_X9_onlyPredOutside_0 : ∀ w ∈ wsX00, w ∈ v_X9_onlyPredOutside := fun _ h => List.mem_cons_of_mem _ (List.mem_append_right _ (List.mem_append_left _ h))
theorem mem_X9_onlyPredOutside_1 : ∀ w ∈ wsX20, w ∈ v_X9_onlyPredOutside := fun _ h => List.mem_cons_of_mem _ (List.mem_append_right _ (List.mem_append_right _ (List.mem_append_left _ h)))
set_option maxRecDepth 20000 in
theorem gw_X9_onlyPredOutside : v_X9_onlyPredOutside.all goodWord = true := by decide +kernel
set_option maxHeartbeats 4000000 in
set_option maxRecDepth 100000 in
theorem c_X9_onlyPredOutside (l : Launch) (dC : Nat → ClassId) (dI : Nat → Nat → Nat) (hc : Nat) (v_0 : Value) (v_1 : Value) (v_2 : Value) (v_3 : Value) (v_4 : Value) (v_5 : Value) (v_6 : Value) (v_7 : Value) (v_8 : Value) (v_9 : Value) (v_10 : Value) (v_11 : Value) (v_12 : Value) (q_713 : Nat) (cA_713 : ClassId) (a_13 : Int → Int) (q_714 : Nat) (cA_714 : ClassId) (a_14 : Int → Int) (v_15 : Value) (v_16 : Value) (v_17 : Value) (v_18 : Value) (hf : Nat) (v2_0 : Value) (v2_1 : Value) (v2_2 : Value) (q_203 : Nat) (cA_203 : ClassId) (a2_inLoop : Int → Int) (v2_4 : Value) (v2_5 : Value) (v2_6 : Value) (v2_7 : Value) (v2_8 : Value) (v2_9 : Value) (v2_10 : Value) (v2_11 : Value) (v2_12 : Value) (b : Int) (hR_a_13 : ∀ j : Int, 0 ≤ a_13 j ∧ a_13 j ≤ 600) (hR_a_14 : ∀ j : Int, 0 ≤ a_14 j ∧ a_14 j ≤ 299) (hR_a2_inLoop : ∀ j : Int, 0 ≤ a2_inLoop j ∧ a2_inLoop j ≤ 1) (hNb : 0 ≤ b ∧ b < 300) (sz : Nat) : Met l yX9_onlyPredOutside v_X9_onlyPredOutside ({ frames := 0, cells := 0, slots := 0, locals := 0 }) (va_Pc [.ref hc, .ref hf, .int (zI (b))] (fun U => U.heap.size = sz ∧ va_P (dC, dI) vwP [(hc, .inr (0, [v_0, v_1, v_2, v_3, v_4, v_5, v_6, v_7, v_8, v_9, v_10, v_11, v_12, .ref q_713, .ref q_714, v_15, v_16, v_17, v_18])), (q_713, .inl (cA_713, 301, .inl (fun j : Nat => zI (a_13 (j : Int))))), (q_714, .inl (cA_714, 600, .inl (fun j : Nat => zI (a_14 (j : Int))))), (hf, .inr (2, [v2_0, v2_1, v2_2, .ref q_203, v2_4, v2_5, v2_6, v2_7, v2_8, v2_9, v2_10, v2_11, v2_12])), (q_203, .inl (cA_203, 300, .inl (fun j : Nat => zI (a2_inLoop (j : Int)))))] U.heap ∧ va_K (dC, dI) vwP [(cA_713, .int), (cA_714, .int), (cA_203, .boolean)] U ∧ va_D (fun _ => True) [(hc, .inr (0, [v_0, v_1, v_2, v_3, v_4, v_5, v_6, v_7, v_8, v_9, v_10, v_11, v_12, .ref q_713, .ref q_714, v_15, v_16, v_17, v_18])), (q_713, .inl (cA_713, 301, .inl (fun j : Nat => zI (a_13 (j : Int))))), (q_714, .inl (cA_714, 600, .inl (fun j : Nat => zI (a_14 (j : Int))))), (hf, .inr (2, [v2_0, v2_1, v2_2, .ref q_203, v2_4, v2_5, v2_6, v2_7, v2_8, v2_9, v2_10, v2_11, v2_12])), (q_203, .inl (cA_203, 300, .inl (fun j : Nat => zI (a2_inLoop (j : Int)))))])) (va_Qi (fun (r : Int32) (_ : Unit) => ∃ z : Int, r = zI z ∧ (-1 ≤ z ∧ z ≤ 299)) (fun (_ : Unit) (t : State) => va_P (dC, dI) vwP [(hc, .inr (0, [v_0, v_1, v_2, v_3, v_4, v_5, v_6, v_7, v_8, v_9, v_10, v_11, v_12, .ref q_713, .ref q_714, v_15, v_16, v_17, v_18])), (q_713, .inl (cA_713, 301, .inl (fun j : Nat => zI (a_13 (j : Int))))), (q_714, .inl (cA_714, 600, .inl (fun j : Nat => zI (a_14 (j : Int))))), (hf, .inr (2, [v2_0, v2_1, v2_2, .ref q_203, v2_4, v2_5, v2_6, v2_7, v2_8, v2_9, v2_10, v2_11, v2_12])), (q_203, .inl (cA_203, 300, .inl (fun j : Nat => zI (a2_inLoop (j : Int)))))] t.heap ∧ va_K (dC, dI) vwP [(cA_713, .int), (cA_714, .int), (cA_203, .boolean)] t ∧ va_D (va_A [(hc, .inr (0, [v_0, v_1, v_2, v_3, v_4, v_5, v_6, v_7, v_8, v_9, v_10, v_11, v_12, .ref q_713, .ref q_714, v_15, v_16, v_17, v_18])), (q_713, .inl (cA_713, 301, .inl (fun j : Nat => zI (a_13 (j : Int))))), (q_714, .inl (cA_714, 600, .inl (fun j : Nat => zI (a_14 (j : Int))))), (hf, .inr (2, [v2_0, v2_1, v2_2, .ref q_203, v2_4, v2_5, v2_6, v2_7, v2_8, v2_9, v2_10, v2_11, v2_12])), (q_203, .inl (cA_203, 300, .inl (fun j : Nat => zI (a2_inLoop (j : Int)))))] sz) [(hc, .inr (0, [v_0, v_1, v_2, v_3, v_4, v_5, v_6, v_7, v_8, v_9, v_10, v_11, v_12, .ref q_713, .ref q_714, v_15, v_16, v_17, v_18])), (q_713, .inl (cA_713, 301, .inl (fun j : Nat => zI (a_13 (j : Int))))), (q_714, .inl (cA_714, 600, .inl (fun j : Nat => zI (a_14 (j : Int))))), (hf, .inr (2, [v2_0, v2_1, v2_2, .ref q_203, v2_4, v2_5, v2_6, v2_7, v2_8, v2_9, v2_10, v2_11, v2_12])), (q_203, .inl (cA_203, 300, .inl (fun j : Nat => zI (a2_inLoop (j : Int)))))]) (va_A [(hc, .inr (0, [v_0, v_1, v_2, v_3, v_4, v_5, v_6, v_7, v_8, v_9, v_10, v_11, v_12, .ref q_713, .ref q_714, v_15, v_16, v_17, v_18])), (q_713, .inl (cA_713, 301, .inl (fun j : Nat => zI (a_13 (j : Int))))), (q_714, .inl (cA_714, 600, .inl (fun j : Nat => zI (a_14 (j : Int))))), (hf, .inr (2, [v2_0, v2_1, v2_2, .ref q_203, v2_4, v2_5, v2_6, v2_7, v2_8, v2_9, v2_10, v2_11, v2_12])), (q_203, .inl (cA_203, 300, .inl (fun j : Nat => zI (a2_inLoop (j : Int)))))] sz)) 0 0 (va_A [(hc, .inr (0, [v_0, v_1, v_2, v_3, v_4, v_5, v_6, v_7, v_8, v_9, v_10, v_11, v_12, .ref q_713, .ref q_714, v_15, v_16, v_17, v_18])), (q_713, .inl (cA_713, 301, .inl (fun j : Nat => zI (a_13 (j : Int))))), (q_714, .inl (cA_714, 600, .inl (fun j : Nat => zI (a_14 (j : Int))))), (hf, .inr (2, [v2_0, v2_1, v2_2, .ref q_203, v2_4, v2_5, v2_6, v2_7, v2_8, v2_9, v2_10, v2_11, v2_12])), (q_203, .inl (cA_203, 300, .inl (fun j : Nat => zI (a2_inLoop (j : Int)))))] sz) := by
  refine Met.ofW (cc := cX9_onlyPredOutside) (maxL := 5) (ret := (some .int)) (by decide) rfl ?_
  intro p e s m args below meth c s₁ B hml hv
  obtain ⟨rfl, hsz, hP, hK, hD0⟩ := hv
  have hx := B.exec
  have hb := B.bytes
  have hr := B.returns
  have hts := atoms_spec (ws := v_X9_onlyPredOutside) B.pre
  have hown : s.vm.findClass RX9 = some m.cls := findClass_of_methodNamed B.named
  have hlocks := B.notSynchronized
  have ow : ∀ {k : Nat} {w : Cond}, o_X9_onlyPredOutside[k]? = some w → w.before ([.ref hc, .ref hf, .int (zI (b))] : List Value).toArray s = true := fun h => hts _ (mow_X9_onlyPredOutside _ (List.mem_of_getElem? h))
  subst hsz
  have hD := hD0.self (sz := s.heap.size)
  generalize hAe : va_A [(hc, .inr (0, [v_0, v_1, v_2, v_3, v_4, v_5, v_6, v_7, v_8, v_9, v_10, v_11, v_12, .ref q_713, .ref q_714, v_15, v_16, v_17, v_18])), (q_713, .inl (cA_713, 301, .inl (fun j : Nat => zI (a_13 (j : Int))))), (q_714, .inl (cA_714, 600, .inl (fun j : Nat => zI (a_14 (j : Int))))), (hf, .inr (2, [v2_0, v2_1, v2_2, .ref q_203, v2_4, v2_5, v2_6, v2_7, v2_8, v2_9, v2_10, v2_11, v2_12])), (q_203, .inl (cA_203, 300, .inl (fun j : Nat => zI (a2_inLoop (j : Int)))))] s.heap.size = A at hD ⊢
  have hA : ∀ q : Nat, s.heap.size ≤ q → A q := fun q h => by rw [← hAe]; exact Or.inr h
  have hS : va_S A s.heap s.heap [] := va_S.rf
  have hP : va_P (dC, dI) vwP [(hc, .inr (0, [v_0, v_1, v_2, v_3, v_4, v_5, v_6, v_7, v_8, v_9, v_10, v_11, v_12, .ref q_713, .ref q_714, v_15, v_16, v_17, v_18])), (q_713, .inl (cA_713, 301, .inl (fun j : Nat => zI (a_13 (j : Int))))), (q_714, .inl (cA_714, 600, .inl (fun j : Nat => zI (a_14 (j : Int))))), (hf, .inr (2, [v2_0, v2_1, v2_2, .ref q_203, v2_4, v2_5, v2_6, v2_7, v2_8, v2_9, v2_10, v2_11, v2_12])), (q_203, .inl (cA_203, 300, .inl (fun j : Nat => zI (a2_inLoop (j : Int)))))] s.heap := hP
  have hl := lv_entry ([.ref hc, .ref hf, .int (zI (b))]) (n := 5) (Nat.le_of_ble_eq_true rfl)
  rw [lg_entry_eq]
  generalize (lg_sl ([.ref hc, .ref hf, .int (zI (b))]) ++ List.replicate (5 - (lg_sl ([.ref hc, .ref hf, .int (zI (b))])).length) Slot.unset).toArray = ls at hl ⊢
  have hl : lv_has ls 5 [(0, .ref hc), (1, .ref hf), (2, .int (zI (b)))] := hl
  obtain ⟨H, hH⟩ : ∃ H, H = s.heap := ⟨_, rfl⟩
  rw [← hH] at hP
  have hS : va_S A s.heap H [] := by rw [hH]; exact hS
  rw [← hH]
  refine zW_cap (fun Q hQ => ?_)
  refine lv_iconst (v := (-1)) hx hb dX9_onlyPredOutside_0 (by decide) ?_
  refine lv_istore_n (lv' := [(3, .int (-1)), (0, .ref hc), (1, .ref hf), (2, .int (zI (b)))]) hx hb dX9_onlyPredOutside_1 rfl hl (by decide) rfl (fun ls hl => ?_)
  refine lv_aload_n hx hb dX9_onlyPredOutside_2 rfl (lv_at hl 1 rfl) ?_
  refine va_get (D := (dC, dI)) (ci := 0) (v := .ref q_713) (C := RX0) (T := TX0) (N := 19) hx hb hts mem_X9_onlyPredOutside_0 hown hK hP 0 rfl rfl 13 (by decide) (ow (k := 0) rfl) (fun _ h9 => h9) rfl dX9_onlyPredOutside_3 ?_
  refine lv_iload_n hx hb dX9_onlyPredOutside_6 rfl (lv_at hl 3 rfl) ?_
  refine va_iald hx hb hK hP 1 0 rfl rfl (zI_in (a := b) (n := 301) (by omega) (by omega) (by decide)) dX9_onlyPredOutside_7 ?_
  refine lv_topi (fun z ez => ?_)
  obtain rfl : z = zI (a_13 (b)) := ez.trans (zI_ld (a_13) (by omega) (by omega))
  have k1 := hR_a_13 (b)
  refine lv_istore (lv' := [(4, .int (zI (a_13 (b)))), (3, .int (-1)), (0, .ref hc), (1, .ref hf), (2, .int (zI (b)))]) hx hb dX9_onlyPredOutside_8 hl (by decide) rfl (fun ls hl => ?_)
  have key10 : ∀ n10 : Nat, ∀ (d10_4 : Int) (d10_3 : Int) (ls : Array Slot) (H : Heap) (locs : List Loc), (a_13 (b) ≤ d10_4 ∧ d10_4 ≤ 1000000000) → (-1 ≤ d10_3 ∧ d10_3 ≤ 299) → (((a_13 (b + 1)) - (d10_4) : Int).toNat) < n10 → lv_has ls 5 [(0, .ref hc), (1, .ref hf), (2, .int (zI (b))), (3, .int (zI (d10_3))), (4, .int (zI (d10_4)))] → va_P (dC, dI) vwP [(hc, .inr (0, [v_0, v_1, v_2, v_3, v_4, v_5, v_6, v_7, v_8, v_9, v_10, v_11, v_12, .ref q_713, .ref q_714, v_15, v_16, v_17, v_18])), (q_713, .inl (cA_713, 301, .inl (fun j : Nat => zI (a_13 (j : Int))))), (q_714, .inl (cA_714, 600, .inl (fun j : Nat => zI (a_14 (j : Int))))), (hf, .inr (2, [v2_0, v2_1, v2_2, .ref q_203, v2_4, v2_5, v2_6, v2_7, v2_8, v2_9, v2_10, v2_11, v2_12])), (q_203, .inl (cA_203, 300, .inl (fun j : Nat => zI (a2_inLoop (j : Int)))))] H → va_D A [(hc, .inr (0, [v_0, v_1, v_2, v_3, v_4, v_5, v_6, v_7, v_8, v_9, v_10, v_11, v_12, .ref q_713, .ref q_714, v_15, v_16, v_17, v_18])), (q_713, .inl (cA_713, 301, .inl (fun j : Nat => zI (a_13 (j : Int))))), (q_714, .inl (cA_714, 600, .inl (fun j : Nat => zI (a_14 (j : Int))))), (hf, .inr (2, [v2_0, v2_1, v2_2, .ref q_203, v2_4, v2_5, v2_6, v2_7, v2_8, v2_9, v2_10, v2_11, v2_12])), (q_203, .inl (cA_203, 300, .inl (fun j : Nat => zI (a2_inLoop (j : Int)))))] → va_S A s.heap H locs → W p l e (headSpec v_X9_onlyPredOutside ({ frames := 0, cells := 0, slots := 0, locals := 0 })).room s m ([.ref hc, .ref hf, .int (zI (b))] : List Value).toArray below meth c H locs 0 0 Q (F0 m 10 ls []) := by
    intro n10
    induction n10 with
    | zero => intro d10_4 d10_3 ls H locs jd10_4 jd10_3 hm10; exact absurd hm10 (by omega)
    | succ n10 ih10 =>
      intro d10_4 d10_3 ls H locs jd10_4 jd10_3 hm10 hl hP hD hS
      refine lv_iload hx hb dX9_onlyPredOutside_10 (lv_at hl 4 rfl) ?_
      refine lv_aload_n hx hb dX9_onlyPredOutside_12 rfl (lv_at hl 0 rfl) ?_
      refine va_get (D := (dC, dI)) (ci := 0) (v := .ref q_713) (C := RX0) (T := TX0) (N := 19) hx hb hts mem_X9_onlyPredOutside_0 hown hK hP 0 rfl rfl 13 (by decide) (ow (k := 0) rfl) (fun _ h9 => h9) rfl dX9_onlyPredOutside_13 ?_
      refine lv_iload_n hx hb dX9_onlyPredOutside_16 rfl (lv_at hl 2 rfl) ?_
      refine lv_iconst (v := 1) hx hb dX9_onlyPredOutside_17 (by decide) ?_
      refine lv_iadd hx hb dX9_onlyPredOutside_18 ?_
      refine lv_topi (fun z ez => ?_)
      obtain rfl : z = zI (b + 1) := ez.trans (zI_add (b) (1))
      refine va_iald hx hb hK hP 1 0 rfl rfl (zI_in (a := b + 1) (n := 301) (by omega) (by omega) (by decide)) dX9_onlyPredOutside_19 ?_
      refine lv_topi (fun z ez => ?_)
      obtain rfl : z = zI (a_13 (b + 1)) := ez.trans (zI_ld (a_13) (by omega) (by omega))
      have k2 := hR_a_13 (b + 1)
      refine lv_icmp_ge (tgt := 58) hx hb dX9_onlyPredOutside_20 (by decide) (fun b20 => ?_) (fun b20 => ?_)
      · have yb20 : (a_13 (b + 1) : Int) ≤ (d10_4 : Int) := (zI_le (a := a_13 (b + 1)) (b := d10_4) (by omega) (by omega) (by omega) (by omega)).mp b20
        refine lv_iload_n hx hb dX9_onlyPredOutside_58 rfl (lv_at hl 3 rfl) ?_
        subst hQ
        refine W.widen (k := 0) (n := 0) (Nat.le_of_ble_eq_true rfl) (Nat.le_of_ble_eq_true rfl) ?_
        exact W.iret (v := (zI (d10_3))) hx hb hr (fun t ht hW => ⟨⟨(zI (d10_3)), (), rfl, ⟨d10_3, rfl, by omega⟩, by rw [ht]; exact hP, va_K.moved hW.alike hK, hD⟩, hS.F ht⟩) hS.2.2 dX9_onlyPredOutside_59
      · have yb20 : ¬ (a_13 (b + 1) : Int) ≤ (d10_4 : Int) := fun q => b20 ((zI_le (a := a_13 (b + 1)) (b := d10_4) (by omega) (by omega) (by omega) (by omega)).mpr q)
        refine lv_aload_n hx hb dX9_onlyPredOutside_23 rfl (lv_at hl 1 rfl) ?_
        refine va_get (D := (dC, dI)) (ci := 2) (v := .ref q_203) (C := RX2) (T := TX2) (N := 13) hx hb hts mem_X9_onlyPredOutside_1 hown hK hP 3 rfl rfl 3 (by decide) (ow (k := 1) rfl) (fun _ h9 => h9) rfl dX9_onlyPredOutside_24 ?_
        refine lv_aload_n hx hb dX9_onlyPredOutside_27 rfl (lv_at hl 0 rfl) ?_
        refine va_get (D := (dC, dI)) (ci := 0) (v := .ref q_714) (C := RX0) (T := TX0) (N := 19) hx hb hts mem_X9_onlyPredOutside_0 hown hK hP 0 rfl rfl 14 (by decide) (ow (k := 2) rfl) (fun _ h9 => h9) rfl dX9_onlyPredOutside_28 ?_
        refine lv_iload hx hb dX9_onlyPredOutside_31 (lv_at hl 4 rfl) ?_
        refine va_iald hx hb hK hP 2 1 rfl rfl (zI_in (a := d10_4) (n := 600) (by omega) (by omega) (by decide)) dX9_onlyPredOutside_33 ?_
        refine lv_topi (fun z ez => ?_)
        obtain rfl : z = zI (a_14 (d10_4)) := ez.trans (zI_ld (a_14) (by omega) (by omega))
        have k3 := hR_a_14 (d10_4)
        refine va_zald hx hb hK hP 4 2 rfl rfl (zI_in (a := a_14 (d10_4)) (n := 300) (by omega) (by omega) (by decide)) dX9_onlyPredOutside_34 ?_
        refine lv_topi (fun z ez => ?_)
        obtain rfl : z = zI (a2_inLoop (a_14 (d10_4))) := ez.trans (zI_ld (a2_inLoop) (by omega) (by omega))
        have k4 := hR_a2_inLoop (a_14 (d10_4))
        refine lv_if_ne (tgt := 52) hx hb dX9_onlyPredOutside_35 (by decide) (fun b35 => ?_) (fun b35 => ?_)
        · have yb35 : ¬ (a2_inLoop (a_14 (d10_4)) : Int) = (0 : Int) := fun q => b35 ((zI_eq (a := a2_inLoop (a_14 (d10_4))) (b := 0) (by omega) (by omega) (by omega) (by omega)).mpr q)
          refine lv_iinc (v := zI (d10_4 + 1)) (lv' := [(4, .int (zI (d10_4 + 1))), (0, .ref hc), (1, .ref hf), (2, .int (zI (b))), (3, .int (zI (d10_3)))]) hx hb dX9_onlyPredOutside_52 hl (k := 4) rfl (zI_add (d10_4) (1)) (by decide) rfl (fun ls hl => ?_)
          refine lv_goto (tgt := 10) hx hb dX9_onlyPredOutside_55 (by decide) ?_
          exact ih10 (d10_4 + 1) d10_3 ls H _ (by omega) (by omega) (by omega) (lv_sub hl [1, 2, 3, 4, 0] rfl) hP hD hS
        · have yb35 : (a2_inLoop (a_14 (d10_4)) : Int) = (0 : Int) := (zI_eq (a := a2_inLoop (a_14 (d10_4))) (b := 0) (by omega) (by omega) (by omega) (by omega)).mp b35
          refine lv_iload_n hx hb dX9_onlyPredOutside_38 rfl (lv_at hl 3 rfl) ?_
          refine lv_if_lt (tgt := 44) hx hb dX9_onlyPredOutside_39 (by decide) (fun b39 => ?_) (fun b39 => ?_)
          · have yb39 : (d10_3 : Int) < (0 : Int) := (zI_lt (a := d10_3) (b := 0) (by omega) (by omega) (by omega) (by omega)).mp b39
            refine lv_aload_n hx hb dX9_onlyPredOutside_44 rfl (lv_at hl 0 rfl) ?_
            refine va_get (D := (dC, dI)) (ci := 0) (v := .ref q_714) (C := RX0) (T := TX0) (N := 19) hx hb hts mem_X9_onlyPredOutside_0 hown hK hP 0 rfl rfl 14 (by decide) (ow (k := 2) rfl) (fun _ h9 => h9) rfl dX9_onlyPredOutside_45 ?_
            refine lv_iload hx hb dX9_onlyPredOutside_48 (lv_at hl 4 rfl) ?_
            refine va_iald hx hb hK hP 2 1 rfl rfl (zI_in (a := d10_4) (n := 600) (by omega) (by omega) (by decide)) dX9_onlyPredOutside_50 ?_
            refine lv_topi (fun z ez => ?_)
            obtain rfl : z = zI (a_14 (d10_4)) := ez.trans (zI_ld (a_14) (by omega) (by omega))
            have k5 := hR_a_14 (d10_4)
            refine lv_istore_n (lv' := [(3, .int (zI (a_14 (d10_4)))), (0, .ref hc), (1, .ref hf), (2, .int (zI (b))), (4, .int (zI (d10_4)))]) hx hb dX9_onlyPredOutside_51 rfl hl (by decide) rfl (fun ls hl => ?_)
            refine lv_iinc (v := zI (d10_4 + 1)) (lv' := [(4, .int (zI (d10_4 + 1))), (3, .int (zI (a_14 (d10_4)))), (0, .ref hc), (1, .ref hf), (2, .int (zI (b)))]) hx hb dX9_onlyPredOutside_52 hl (k := 4) rfl (zI_add (d10_4) (1)) (by decide) rfl (fun ls hl => ?_)
            refine lv_goto (tgt := 10) hx hb dX9_onlyPredOutside_55 (by decide) ?_
            exact ih10 (d10_4 + 1) (a_14 (d10_4)) ls H _ (by omega) (by omega) (by omega) (lv_sub hl [2, 3, 4, 1, 0] rfl) hP hD hS
          · have yb39 : ¬ (d10_3 : Int) < (0 : Int) := fun q => b39 ((zI_lt (a := d10_3) (b := 0) (by omega) (by omega) (by omega) (by omega)).mpr q)
            refine lv_iconst (v := (-1)) hx hb dX9_onlyPredOutside_42 (by decide) ?_
            subst hQ
            refine W.widen (k := 0) (n := 0) (Nat.le_of_ble_eq_true rfl) (Nat.le_of_ble_eq_true rfl) ?_
            exact W.iret (v := (-1)) hx hb hr (fun t ht hW => ⟨⟨(-1), (), rfl, ⟨-1, rfl, by omega⟩, by rw [ht]; exact hP, va_K.moved hW.alike hK, hD⟩, hS.F ht⟩) hS.2.2 dX9_onlyPredOutside_43
  exact key10 (((a_13 (b + 1)) - (a_13 (b)) : Int).toNat + 1) (a_13 (b)) (-1) ls H _ (by omega) (by omega) (by omega) (lv_sub hl [2, 3, 4, 1, 0] rfl) hP hD hS
theorem dX10_addNow_0 : decode cX10_addNow 0 = .ok (.lload_n 1, 1) := by decide +kernel
theorem dX10_addNow_1 : decode cX10_addNow 1 = .ok (.invokestatic 82, 3) := by decide +kernel
theorem dX10_addNow_4 : decode cX10_addNow 4 = .ok (.ifCond .eq 15, 3) := by decide +kernel
theorem dX10_addNow_19 : decode cX10_addNow 19 = .ok (.return_, 1) := by decide +kernel
theorem dX10_addNow_7 : decode cX10_addNow 7 = .ok (.aload_n 0, 1) := by decide +kernel
theorem dX10_addNow_8 : decode cX10_addNow 8 = .ok (.getfield 21, 3) := by decide +kernel
theorem dX10_addNow_11 : decode cX10_addNow 11 = .ok (.iconst 0, 1) := by decide +kernel
theorem dX10_addNow_12 : decode cX10_addNow 12 = .ok (.lload_n 1, 1) := by decide +kernel
theorem dX10_addNow_13 : decode cX10_addNow 13 = .ok (.invokestatic 86, 3) := by decide +kernel
theorem dX10_addNow_16 : decode cX10_addNow 16 = .ok (.invokestatic 90, 3) := by decide +kernel
def o_X10_addNow : List Cond := [.initialized RX11, .static yX11_isRegister, .fieldLink RX10 21 "SsaForge$WayOut" "now" "[J", .static yX11_registerOf, .static yX11_putBit]
def v_X10_addNow : List Cond := .code yX10_addNow cX10_addNow 3 none :: (o_X10_addNow ++ (v_X11_isRegister ++ (wsX100 ++ (v_X11_registerOf ++ (v_X11_putBit ++ [])))))
theorem mow_X10_addNow : ∀ w ∈ o_X10_addNow, w ∈ v_X10_addNow := fun _ h => List.mem_cons_of_mem _ (List.mem_append_left _ h)
theorem mem_X10_addNow_0 : ∀ w ∈ v_X11_isRegister, w ∈ v_X10_addNow := fun _ h => List.mem_cons_of_mem _ (List.mem_append_right _ (List.mem_append_left _ h))
theorem mem_X10_addNow_1 : ∀ w ∈ wsX100, w ∈ v_X10_addNow := fun _ h => List.mem_cons_of_mem _ (List.mem_append_right _ (List.mem_append_right _ (List.mem_append_left _ h)))
theorem mem_X10_addNow_2 : ∀ w ∈ v_X11_registerOf, w ∈ v_X10_addNow := fun _ h => List.mem_cons_of_mem _ (List.mem_append_right _ (List.mem_append_right _ (List.mem_append_right _ (List.mem_append_left _ h))))
theorem mem_X10_addNow_3 : ∀ w ∈ v_X11_putBit, w ∈ v_X10_addNow := fun _ h => List.mem_cons_of_mem _ (List.mem_append_right _ (List.mem_append_right _ (List.mem_append_right _ (List.mem_append_right _ (List.mem_append_left _ h)))))
set_option maxRecDepth 20000 in
theorem gw_X10_addNow : v_X10_addNow.all goodWord = true := by decide +kernel
set_option maxHeartbeats 4000000 in
set_option maxRecDepth 100000 in
theorem c_X10_addNow (l : Launch) (dC : Nat → ClassId) (dI : Nat → Nat → Nat) (h0 : Nat) (v7_0 : Value) (v7_1 : Value) (v7_2 : Value) (q_703 : Nat) (cA_703 : ClassId) (fa7_now : Nat → Int64) (v7_4 : Value) (v7_5 : Value) (v7_6 : Value) (v7_7 : Value) (v7_8 : Value) (v7_9 : Value) (v7_10 : Value) (v7_11 : Value) (v7_12 : Value) (v7_13 : Value) (x : Int) (hNx : ((-2147483648 ≤ x ∧ x ≤ 4294968319) ∨ x = 1099511627776)) (sz : Nat) : Met l yX10_addNow v_X10_addNow ({ frames := 1, cells := 0, slots := 0, locals := 22 }) (va_Pc [.ref h0, .long (lI (x))] (fun U => U.heap.size = sz ∧ va_P (dC, dI) vwP [(h0, .inr (10, [v7_0, v7_1, v7_2, .ref q_703, v7_4, v7_5, v7_6, v7_7, v7_8, v7_9, v7_10, v7_11, v7_12, v7_13])), (q_703, .inl (cA_703, 16, .inr (.inl fa7_now)))] U.heap ∧ va_K (dC, dI) vwP [(cA_703, .long)] U ∧ va_D (fun _ => True) [(h0, .inr (10, [v7_0, v7_1, v7_2, .ref q_703, v7_4, v7_5, v7_6, v7_7, v7_8, v7_9, v7_10, v7_11, v7_12, v7_13])), (q_703, .inl (cA_703, 16, .inr (.inl fa7_now)))] ∧ va_Nw (.methodLinkNest RX10 82 yX11_isRegister "SsaForge") U ∧ va_Nw (.methodLinkNest RX10 86 yX11_registerOf "SsaForge") U ∧ va_Nw (.methodLinkNest RX10 90 yX11_putBit "SsaForge") U)) (va_Qv (fun _ : Unit => True) (fun (_ : Unit) (t : State) => ∃ (g0_9 : Nat → Int64), va_P (dC, dI) vwP [(h0, .inr (10, [v7_0, v7_1, v7_2, .ref q_703, v7_4, v7_5, v7_6, v7_7, v7_8, v7_9, v7_10, v7_11, v7_12, v7_13])), (q_703, .inl (cA_703, 16, .inr (.inl g0_9)))] t.heap ∧ va_K (dC, dI) vwP [(cA_703, .long)] t ∧ va_D (va_A [(h0, .inr (10, [v7_0, v7_1, v7_2, .ref q_703, v7_4, v7_5, v7_6, v7_7, v7_8, v7_9, v7_10, v7_11, v7_12, v7_13])), (q_703, .inl (cA_703, 16, .inr (.inl fa7_now)))] sz) [(h0, .inr (10, [v7_0, v7_1, v7_2, .ref q_703, v7_4, v7_5, v7_6, v7_7, v7_8, v7_9, v7_10, v7_11, v7_12, v7_13])), (q_703, .inl (cA_703, 16, .inr (.inl g0_9)))]) (va_A [(h0, .inr (10, [v7_0, v7_1, v7_2, .ref q_703, v7_4, v7_5, v7_6, v7_7, v7_8, v7_9, v7_10, v7_11, v7_12, v7_13])), (q_703, .inl (cA_703, 16, .inr (.inl fa7_now)))] sz)) 0 0 (va_A [(h0, .inr (10, [v7_0, v7_1, v7_2, .ref q_703, v7_4, v7_5, v7_6, v7_7, v7_8, v7_9, v7_10, v7_11, v7_12, v7_13])), (q_703, .inl (cA_703, 16, .inr (.inl fa7_now)))] sz) := by
  refine Met.ofW (cc := cX10_addNow) (maxL := 3) (ret := none) (by decide) rfl ?_
  intro p e s m args below meth c s₁ B hml hv
  obtain ⟨rfl, hsz, hP, hK, hD0, hp0, hp1, hp2⟩ := hv
  have hx := B.exec
  have hb := B.bytes
  have hr := B.returns
  have hts := atoms_spec (ws := v_X10_addNow) B.pre
  have hown : s.vm.findClass RX10 = some m.cls := findClass_of_methodNamed B.named
  have hlocks := B.notSynchronized
  have ow : ∀ {k : Nat} {w : Cond}, o_X10_addNow[k]? = some w → w.before ([.ref h0, .long (lI (x))] : List Value).toArray s = true := fun h => hts _ (mow_X10_addNow _ (List.mem_of_getElem? h))
  subst hsz
  have hD := hD0.self (sz := s.heap.size)
  generalize hAe : va_A [(h0, .inr (10, [v7_0, v7_1, v7_2, .ref q_703, v7_4, v7_5, v7_6, v7_7, v7_8, v7_9, v7_10, v7_11, v7_12, v7_13])), (q_703, .inl (cA_703, 16, .inr (.inl fa7_now)))] s.heap.size = A at hD ⊢
  have hA : ∀ q : Nat, s.heap.size ≤ q → A q := fun q h => by rw [← hAe]; exact Or.inr h
  have hS : va_S A s.heap s.heap [] := va_S.rf
  have hP : va_P (dC, dI) vwP [(h0, .inr (10, [v7_0, v7_1, v7_2, .ref q_703, v7_4, v7_5, v7_6, v7_7, v7_8, v7_9, v7_10, v7_11, v7_12, v7_13])), (q_703, .inl (cA_703, 16, .inr (.inl fa7_now)))] s.heap := hP
  have hl := lv_entry ([.ref h0, .long (lI (x))]) (n := 3) (Nat.le_of_ble_eq_true rfl)
  rw [lg_entry_eq]
  generalize (lg_sl ([.ref h0, .long (lI (x))]) ++ List.replicate (3 - (lg_sl ([.ref h0, .long (lI (x))])).length) Slot.unset).toArray = ls at hl ⊢
  have hl : lv_has ls 3 [(0, .ref h0), (1, .long (lI (x)))] := hl
  obtain ⟨H, hH⟩ : ∃ H, H = s.heap := ⟨_, rfl⟩
  rw [← hH] at hP
  have hS : va_S A s.heap H [] := by rw [hH]; exact hS
  rw [← hH]
  refine zW_cap (fun Q hQ => ?_)
  refine lv_lload_n hx hb dX10_addNow_0 rfl (lv_at hl 1 rfl) ?_
  have hPc := hP.sub (ws' := []) [] rfl
  have hDc := hD.sub (ws' := []) [] (by decide) rfl
  have hKc := hK.sub (tys' := []) [] rfl
  have hFc := va_free (wc := []) hD hS hA [] rfl
  refine va_calli (va_runSN (As := [.long (lI (x))]) (rest := []) ⟨hx, hb, hml, hown, hts⟩ (c_X11_isRegister l dC dI x (by omega) H.size) ⟨va_cnB 1 hts (goodIn_sub mem_X10_addNow_0 gw_X11_isRegister) rfl rfl rfl hp0 (ow (k := 0) rfl) (by decide +kernel) ⟨(Nat.le_of_ble_eq_true rfl), (Nat.le_of_ble_eq_true rfl)⟩, (ow (k := 1) rfl), trivial⟩ ⟨fun a U g mk q => by obtain ⟨q0, q1, qP, qK, qD⟩ := q; exact ⟨q0, q1, qP, va_K.moved (u := U) (U := U.calling g mk a) (Vm.Alike.refl U.vm) qK, qD⟩, fun U hU hW => ⟨rfl, by rw [hU], by rw [hU]; exact hPc, va_K.moved hW.alike hKc, hDc.weaken (fun _ _ _ _ => trivial)⟩⟩ rfl rfl hl.1 rfl (lv_room (Nat.le_of_ble_eq_true rfl)) dX10_addNow_1 ⟨(Nat.le_of_ble_eq_true rfl), (Nat.le_of_ble_eq_true rfl)⟩) hS (fun q _ h => hFc q h) hFc (fun r_2001 u t H1 locs ht hvm hw hB hz1 hk1 hS => ?_)
  obtain ⟨hP1, hK1, hD1⟩ := hB
  rw [ht] at hP1
  have hK1 := va_K.moved hvm.symm hK1
  obtain ⟨hP, hD⟩ := va_join (wr := [(h0, .inr (10, [v7_0, v7_1, v7_2, .ref q_703, v7_4, v7_5, v7_6, v7_7, v7_8, v7_9, v7_10, v7_11, v7_12, v7_13])), (q_703, .inl (cA_703, 16, .inr (.inl fa7_now)))]) (w1 := []) hP hD [] [0, 1] rfl rfl (by decide) (by decide) hk1 hFc hP1 hD1
  have hK := (hK.sub (tys' := [(cA_703, .long)]) [0] rfl).app hK1
  generalize H1 = H at hP hS ⊢
  have hP : va_P (dC, dI) vwP [(h0, .inr (10, [v7_0, v7_1, v7_2, .ref q_703, v7_4, v7_5, v7_6, v7_7, v7_8, v7_9, v7_10, v7_11, v7_12, v7_13])), (q_703, .inl (cA_703, 16, .inr (.inl fa7_now)))] H := hP
  have hD : va_D A [(h0, .inr (10, [v7_0, v7_1, v7_2, .ref q_703, v7_4, v7_5, v7_6, v7_7, v7_8, v7_9, v7_10, v7_11, v7_12, v7_13])), (q_703, .inl (cA_703, 16, .inr (.inl fa7_now)))] := hD
  have hK : va_K (dC, dI) vwP [(cA_703, .long)] s := hK
  refine W.widen (k := 0) (n := 0) (Nat.le_of_ble_eq_true rfl) (Nat.le_of_ble_eq_true rfl) ?_
  obtain rfl : r_2001 = (zI (isR (x))) := hw
  have := isR_spec (x)
  refine lv_if_eq (tgt := 19) hx hb dX10_addNow_4 (by decide) (fun b4 => ?_) (fun b4 => ?_)
  · have yb4 : (isR (x) : Int) = (0 : Int) := (zI_eq (a := isR (x)) (b := 0) (by omega) (by omega) (by omega) (by omega)).mp b4
    subst hQ
    refine W.widen (k := 0) (n := 0) (Nat.le_of_ble_eq_true rfl) (Nat.le_of_ble_eq_true rfl) ?_
    exact W.vret hx hb hr (fun t ht hW => ⟨⟨(), rfl, trivial, fa7_now, by rw [ht]; exact hP, va_K.moved hW.alike hK, hD⟩, hS.F ht⟩) hS.2.2 dX10_addNow_19
  · have yb4 : ¬ (isR (x) : Int) = (0 : Int) := fun q => b4 ((zI_eq (a := isR (x)) (b := 0) (by omega) (by omega) (by omega) (by omega)).mpr q)
    refine lv_aload_n hx hb dX10_addNow_7 rfl (lv_at hl 0 rfl) ?_
    refine va_get (D := (dC, dI)) (ci := 10) (v := .ref q_703) (C := RX10) (T := TX10) (N := 14) hx hb hts mem_X10_addNow_1 hown hK hP 0 rfl rfl 3 (by decide) (ow (k := 2) rfl) (fun _ h9 => h9) rfl dX10_addNow_8 ?_
    refine lv_iconst (v := 0) hx hb dX10_addNow_11 (by decide) ?_
    refine lv_lload_n hx hb dX10_addNow_12 rfl (lv_at hl 1 rfl) ?_
    have hPc := hP.sub (ws' := []) [] rfl
    have hDc := hD.sub (ws' := []) [] (by decide) rfl
    have hKc := hK.sub (tys' := []) [] rfl
    have hFc := va_free (wc := []) hD hS hA [] rfl
    refine va_calli (va_runSN (As := [.long (lI (x))]) (rest := [.int 0, .ref q_703]) ⟨hx, hb, hml, hown, hts⟩ (c_X11_registerOf l dC dI x (by omega) H.size) ⟨va_cnB 1 hts (goodIn_sub mem_X10_addNow_2 gw_X11_registerOf) rfl rfl rfl hp1 (ow (k := 0) rfl) (by decide +kernel) ⟨(Nat.le_of_ble_eq_true rfl), (Nat.le_of_ble_eq_true rfl)⟩, (ow (k := 3) rfl), trivial⟩ ⟨fun a U g mk q => by obtain ⟨q0, q1, qP, qK, qD⟩ := q; exact ⟨q0, q1, qP, va_K.moved (u := U) (U := U.calling g mk a) (Vm.Alike.refl U.vm) qK, qD⟩, fun U hU hW => ⟨rfl, by rw [hU], by rw [hU]; exact hPc, va_K.moved hW.alike hKc, hDc.weaken (fun _ _ _ _ => trivial)⟩⟩ rfl rfl hl.1 rfl (lv_room (Nat.le_of_ble_eq_true rfl)) dX10_addNow_13 ⟨(Nat.le_of_ble_eq_true rfl), (Nat.le_of_ble_eq_true rfl)⟩) hS (fun q _ h => hFc q h) hFc (fun r_2002 u t H1 locs ht hvm hw hB hz1 hk1 hS => ?_)
    obtain ⟨hP1, hK1, hD1⟩ := hB
    rw [ht] at hP1
    have hK1 := va_K.moved hvm.symm hK1
    obtain ⟨hP, hD⟩ := va_join (wr := [(h0, .inr (10, [v7_0, v7_1, v7_2, .ref q_703, v7_4, v7_5, v7_6, v7_7, v7_8, v7_9, v7_10, v7_11, v7_12, v7_13])), (q_703, .inl (cA_703, 16, .inr (.inl fa7_now)))]) (w1 := []) hP hD [] [0, 1] rfl rfl (by decide) (by decide) hk1 hFc hP1 hD1
    have hK := (hK.sub (tys' := [(cA_703, .long)]) [0] rfl).app hK1
    generalize H1 = H at hP hS ⊢
    have hP : va_P (dC, dI) vwP [(h0, .inr (10, [v7_0, v7_1, v7_2, .ref q_703, v7_4, v7_5, v7_6, v7_7, v7_8, v7_9, v7_10, v7_11, v7_12, v7_13])), (q_703, .inl (cA_703, 16, .inr (.inl fa7_now)))] H := hP
    have hD : va_D A [(h0, .inr (10, [v7_0, v7_1, v7_2, .ref q_703, v7_4, v7_5, v7_6, v7_7, v7_8, v7_9, v7_10, v7_11, v7_12, v7_13])), (q_703, .inl (cA_703, 16, .inr (.inl fa7_now)))] := hD
    have hK : va_K (dC, dI) vwP [(cA_703, .long)] s := hK
    refine W.widen (k := 0) (n := 0) (Nat.le_of_ble_eq_true rfl) (Nat.le_of_ble_eq_true rfl) ?_
    obtain rfl : r_2002 = (zI (x - 4294967296)) := hw
    have hPc := hP.sub (ws' := [(q_703, .inl (cA_703, 16, .inr (.inl fa7_now)))]) [1] rfl
    have hDc := hD.sub (ws' := [(q_703, .inl (cA_703, 16, .inr (.inl fa7_now)))]) [1] (by decide) rfl
    have hKc := hK.sub (tys' := [(cA_703, .long)]) [0] rfl
    have hFc := va_free (wc := [(q_703, .inl (cA_703, 16, .inr (.inl fa7_now)))]) hD hS hA [1] rfl
    refine va_callv (va_runSN (As := [.ref q_703, .int 0, .int (zI (x - 4294967296))]) (rest := []) ⟨hx, hb, hml, hown, hts⟩ (c_X11_putBit l dC dI q_703 cA_703 16 fa7_now 0 (x - 4294967296) (by omega) H.size) ⟨va_cnB 3 hts (goodIn_sub mem_X10_addNow_3 gw_X11_putBit) rfl rfl rfl hp2 (ow (k := 0) rfl) (by decide +kernel) ⟨(Nat.le_of_ble_eq_true rfl), (Nat.le_of_ble_eq_true rfl)⟩, (ow (k := 4) rfl), trivial⟩ ⟨fun a U g mk q => by obtain ⟨q0, q1, qP, qK, qD⟩ := q; exact ⟨q0, q1, qP, va_K.moved (u := U) (U := U.calling g mk a) (Vm.Alike.refl U.vm) qK, qD⟩, fun U hU hW => ⟨rfl, by rw [hU], by rw [hU]; exact hPc, va_K.moved hW.alike hKc, hDc.weaken (fun _ _ _ _ => trivial)⟩⟩ rfl rfl hl.1 rfl (lv_room (Nat.le_of_ble_eq_true rfl)) dX10_addNow_16 ⟨(Nat.le_of_ble_eq_true rfl), (Nat.le_of_ble_eq_true rfl)⟩) hS (fun q _ h => hFc q h) hFc (fun  u t H1 locs ht hvm hw hB hz1 hk1 hS => ?_)
    obtain ⟨g0_2003, hP1, hK1, hD1⟩ := hB
    rw [ht] at hP1
    have hK1 := va_K.moved hvm.symm hK1
    obtain ⟨hP, hD⟩ := va_join (wr := [(h0, .inr (10, [v7_0, v7_1, v7_2, .ref q_703, v7_4, v7_5, v7_6, v7_7, v7_8, v7_9, v7_10, v7_11, v7_12, v7_13]))]) (w1 := [(q_703, .inl (cA_703, 16, .inr (.inl g0_2003)))]) hP hD [1] [0] rfl rfl (by decide) (by decide) hk1 hFc hP1 hD1
    have hK := (hK.sub (tys' := []) [] rfl).app hK1
    generalize H1 = H at hP hS ⊢
    have hP : va_P (dC, dI) vwP [(h0, .inr (10, [v7_0, v7_1, v7_2, .ref q_703, v7_4, v7_5, v7_6, v7_7, v7_8, v7_9, v7_10, v7_11, v7_12, v7_13])), (q_703, .inl (cA_703, 16, .inr (.inl g0_2003)))] H := hP
    have hD : va_D A [(h0, .inr (10, [v7_0, v7_1, v7_2, .ref q_703, v7_4, v7_5, v7_6, v7_7, v7_8, v7_9, v7_10, v7_11, v7_12, v7_13])), (q_703, .inl (cA_703, 16, .inr (.inl g0_2003)))] := hD
    have hK : va_K (dC, dI) vwP [(cA_703, .long)] s := hK
    refine W.widen (k := 0) (n := 0) (Nat.le_of_ble_eq_true rfl) (Nat.le_of_ble_eq_true rfl) ?_
    subst hQ
    refine W.widen (k := 0) (n := 0) (Nat.le_of_ble_eq_true rfl) (Nat.le_of_ble_eq_true rfl) ?_
    exact W.vret hx hb hr (fun t ht hW => ⟨⟨(), rfl, trivial, g0_2003, by rw [ht]; exact hP, va_K.moved hW.alike hK, hD⟩, hS.F ht⟩) hS.2.2 dX10_addNow_19
theorem dX10_isNow_0 : decode cX10_isNow 0 = .ok (.lload_n 1, 1) := by decide +kernel
theorem dX10_isNow_1 : decode cX10_isNow 1 = .ok (.invokestatic 82, 3) := by decide +kernel
theorem dX10_isNow_4 : decode cX10_isNow 4 = .ok (.ifCond .eq 18, 3) := by decide +kernel
theorem dX10_isNow_22 : decode cX10_isNow 22 = .ok (.iconst 1, 1) := by decide +kernel
theorem dX10_isNow_23 : decode cX10_isNow 23 = .ok (.goto 4, 3) := by decide +kernel
theorem dX10_isNow_27 : decode cX10_isNow 27 = .ok (.ireturn, 1) := by decide +kernel
theorem dX10_isNow_7 : decode cX10_isNow 7 = .ok (.aload_n 0, 1) := by decide +kernel
theorem dX10_isNow_8 : decode cX10_isNow 8 = .ok (.getfield 21, 3) := by decide +kernel
theorem dX10_isNow_11 : decode cX10_isNow 11 = .ok (.iconst 0, 1) := by decide +kernel
theorem dX10_isNow_12 : decode cX10_isNow 12 = .ok (.lload_n 1, 1) := by decide +kernel
theorem dX10_isNow_13 : decode cX10_isNow 13 = .ok (.invokestatic 86, 3) := by decide +kernel
theorem dX10_isNow_16 : decode cX10_isNow 16 = .ok (.invokestatic 94, 3) := by decide +kernel
theorem dX10_isNow_19 : decode cX10_isNow 19 = .ok (.ifCond .eq 7, 3) := by decide +kernel
theorem dX10_isNow_26 : decode cX10_isNow 26 = .ok (.iconst 0, 1) := by decide +kernel
def o_X10_isNow : List Cond := [.initialized RX11, .static yX11_isRegister, .fieldLink RX10 21 "SsaForge$WayOut" "now" "[J", .static yX11_registerOf, .static yX11_hasBit]
def v_X10_isNow : List Cond := .code yX10_isNow cX10_isNow 3 (some .boolean) :: (o_X10_isNow ++ (v_X11_isRegister ++ (wsX100 ++ (v_X11_registerOf ++ (v_X11_hasBit ++ [])))))
theorem mow_X10_isNow : ∀ w ∈ o_X10_isNow, w ∈ v_X10_isNow := fun _ h => List.mem_cons_of_mem _ (List.mem_append_left _ h)
theorem mem_X10_isNow_0 : ∀ w ∈ v_X11_isRegister, w ∈ v_X10_isNow := fun _ h => List.mem_cons_of_mem _ (List.mem_append_right _ (List.mem_append_left _ h))
theorem mem_X10_isNow_1 : ∀ w ∈ wsX100, w ∈ v_X10_isNow := fun _ h => List.mem_cons_of_mem _ (List.mem_append_right _ (List.mem_append_right _ (List.mem_append_left _ h)))
theorem mem_X10_isNow_2 : ∀ w ∈ v_X11_registerOf, w ∈ v_X10_isNow := fun _ h => List.mem_cons_of_mem _ (List.mem_append_right _ (List.mem_append_right _ (List.mem_append_right _ (List.mem_append_left _ h))))
theorem mem_X10_isNow_3 : ∀ w ∈ v_X11_hasBit, w ∈ v_X10_isNow := fun _ h => List.mem_cons_of_mem _ (List.mem_append_right _ (List.mem_append_right _ (List.mem_append_right _ (List.mem_append_right _ (List.mem_append_left _ h)))))
set_option maxRecDepth 20000 in
theorem gw_X10_isNow : v_X10_isNow.all goodWord = true := by decide +kernel
set_option maxHeartbeats 4000000 in
set_option maxRecDepth 100000 in
theorem c_X10_isNow (l : Launch) (dC : Nat → ClassId) (dI : Nat → Nat → Nat) (h0 : Nat) (v7_0 : Value) (v7_1 : Value) (v7_2 : Value) (q_703 : Nat) (cA_703 : ClassId) (fa7_now : Nat → Int64) (v7_4 : Value) (v7_5 : Value) (v7_6 : Value) (v7_7 : Value) (v7_8 : Value) (v7_9 : Value) (v7_10 : Value) (v7_11 : Value) (v7_12 : Value) (v7_13 : Value) (x : Int) (hNx : ((-2147483648 ≤ x ∧ x ≤ 4294968319) ∨ x = 1099511627776)) (sz : Nat) : Met l yX10_isNow v_X10_isNow ({ frames := 1, cells := 0, slots := 0, locals := 22 }) (va_Pc [.ref h0, .long (lI (x))] (fun U => U.heap.size = sz ∧ va_P (dC, dI) vwP [(h0, .inr (10, [v7_0, v7_1, v7_2, .ref q_703, v7_4, v7_5, v7_6, v7_7, v7_8, v7_9, v7_10, v7_11, v7_12, v7_13])), (q_703, .inl (cA_703, 16, .inr (.inl fa7_now)))] U.heap ∧ va_K (dC, dI) vwP [(cA_703, .long)] U ∧ va_D (fun _ => True) [(h0, .inr (10, [v7_0, v7_1, v7_2, .ref q_703, v7_4, v7_5, v7_6, v7_7, v7_8, v7_9, v7_10, v7_11, v7_12, v7_13])), (q_703, .inl (cA_703, 16, .inr (.inl fa7_now)))] ∧ va_Nw (.methodLinkNest RX10 82 yX11_isRegister "SsaForge") U ∧ va_Nw (.methodLinkNest RX10 86 yX11_registerOf "SsaForge") U ∧ va_Nw (.methodLinkNest RX10 94 yX11_hasBit "SsaForge") U)) (va_Qi (fun (r : Int32) (_ : Unit) => ∃ z : Int, r = zI z ∧ (0 ≤ z ∧ z ≤ 1)) (fun (_ : Unit) (t : State) => va_P (dC, dI) vwP [(h0, .inr (10, [v7_0, v7_1, v7_2, .ref q_703, v7_4, v7_5, v7_6, v7_7, v7_8, v7_9, v7_10, v7_11, v7_12, v7_13])), (q_703, .inl (cA_703, 16, .inr (.inl fa7_now)))] t.heap ∧ va_K (dC, dI) vwP [(cA_703, .long)] t ∧ va_D (va_A [(h0, .inr (10, [v7_0, v7_1, v7_2, .ref q_703, v7_4, v7_5, v7_6, v7_7, v7_8, v7_9, v7_10, v7_11, v7_12, v7_13])), (q_703, .inl (cA_703, 16, .inr (.inl fa7_now)))] sz) [(h0, .inr (10, [v7_0, v7_1, v7_2, .ref q_703, v7_4, v7_5, v7_6, v7_7, v7_8, v7_9, v7_10, v7_11, v7_12, v7_13])), (q_703, .inl (cA_703, 16, .inr (.inl fa7_now)))]) (va_A [(h0, .inr (10, [v7_0, v7_1, v7_2, .ref q_703, v7_4, v7_5, v7_6, v7_7, v7_8, v7_9, v7_10, v7_11, v7_12, v7_13])), (q_703, .inl (cA_703, 16, .inr (.inl fa7_now)))] sz)) 0 0 (va_A [(h0, .inr (10, [v7_0, v7_1, v7_2, .ref q_703, v7_4, v7_5, v7_6, v7_7, v7_8, v7_9, v7_10, v7_11, v7_12, v7_13])), (q_703, .inl (cA_703, 16, .inr (.inl fa7_now)))] sz) := by
  refine Met.ofW (cc := cX10_isNow) (maxL := 3) (ret := (some .boolean)) (by decide) rfl ?_
  intro p e s m args below meth c s₁ B hml hv
  obtain ⟨rfl, hsz, hP, hK, hD0, hp0, hp1, hp2⟩ := hv
  have hx := B.exec
  have hb := B.bytes
  have hr := B.returns
  have hts := atoms_spec (ws := v_X10_isNow) B.pre
  have hown : s.vm.findClass RX10 = some m.cls := findClass_of_methodNamed B.named
  have hlocks := B.notSynchronized
  have ow : ∀ {k : Nat} {w : Cond}, o_X10_isNow[k]? = some w → w.before ([.ref h0, .long (lI (x))] : List Value).toArray s = true := fun h => hts _ (mow_X10_isNow _ (List.mem_of_getElem? h))
  subst hsz
  have hD := hD0.self (sz := s.heap.size)
  generalize hAe : va_A [(h0, .inr (10, [v7_0, v7_1, v7_2, .ref q_703, v7_4, v7_5, v7_6, v7_7, v7_8, v7_9, v7_10, v7_11, v7_12, v7_13])), (q_703, .inl (cA_703, 16, .inr (.inl fa7_now)))] s.heap.size = A at hD ⊢
  have hA : ∀ q : Nat, s.heap.size ≤ q → A q := fun q h => by rw [← hAe]; exact Or.inr h
  have hS : va_S A s.heap s.heap [] := va_S.rf
  have hP : va_P (dC, dI) vwP [(h0, .inr (10, [v7_0, v7_1, v7_2, .ref q_703, v7_4, v7_5, v7_6, v7_7, v7_8, v7_9, v7_10, v7_11, v7_12, v7_13])), (q_703, .inl (cA_703, 16, .inr (.inl fa7_now)))] s.heap := hP
  have hl := lv_entry ([.ref h0, .long (lI (x))]) (n := 3) (Nat.le_of_ble_eq_true rfl)
  rw [lg_entry_eq]
  generalize (lg_sl ([.ref h0, .long (lI (x))]) ++ List.replicate (3 - (lg_sl ([.ref h0, .long (lI (x))])).length) Slot.unset).toArray = ls at hl ⊢
  have hl : lv_has ls 3 [(0, .ref h0), (1, .long (lI (x)))] := hl
  obtain ⟨H, hH⟩ : ∃ H, H = s.heap := ⟨_, rfl⟩
  rw [← hH] at hP
  have hS : va_S A s.heap H [] := by rw [hH]; exact hS
  rw [← hH]
  refine zW_cap (fun Q hQ => ?_)
  refine lv_lload_n hx hb dX10_isNow_0 rfl (lv_at hl 1 rfl) ?_
  have hPc := hP.sub (ws' := []) [] rfl
  have hDc := hD.sub (ws' := []) [] (by decide) rfl
  have hKc := hK.sub (tys' := []) [] rfl
  have hFc := va_free (wc := []) hD hS hA [] rfl
  refine va_calli (va_runSN (As := [.long (lI (x))]) (rest := []) ⟨hx, hb, hml, hown, hts⟩ (c_X11_isRegister l dC dI x (by omega) H.size) ⟨va_cnB 1 hts (goodIn_sub mem_X10_isNow_0 gw_X11_isRegister) rfl rfl rfl hp0 (ow (k := 0) rfl) (by decide +kernel) ⟨(Nat.le_of_ble_eq_true rfl), (Nat.le_of_ble_eq_true rfl)⟩, (ow (k := 1) rfl), trivial⟩ ⟨fun a U g mk q => by obtain ⟨q0, q1, qP, qK, qD⟩ := q; exact ⟨q0, q1, qP, va_K.moved (u := U) (U := U.calling g mk a) (Vm.Alike.refl U.vm) qK, qD⟩, fun U hU hW => ⟨rfl, by rw [hU], by rw [hU]; exact hPc, va_K.moved hW.alike hKc, hDc.weaken (fun _ _ _ _ => trivial)⟩⟩ rfl rfl hl.1 rfl (lv_room (Nat.le_of_ble_eq_true rfl)) dX10_isNow_1 ⟨(Nat.le_of_ble_eq_true rfl), (Nat.le_of_ble_eq_true rfl)⟩) hS (fun q _ h => hFc q h) hFc (fun r_2001 u t H1 locs ht hvm hw hB hz1 hk1 hS => ?_)
  obtain ⟨hP1, hK1, hD1⟩ := hB
  rw [ht] at hP1
  have hK1 := va_K.moved hvm.symm hK1
  obtain ⟨hP, hD⟩ := va_join (wr := [(h0, .inr (10, [v7_0, v7_1, v7_2, .ref q_703, v7_4, v7_5, v7_6, v7_7, v7_8, v7_9, v7_10, v7_11, v7_12, v7_13])), (q_703, .inl (cA_703, 16, .inr (.inl fa7_now)))]) (w1 := []) hP hD [] [0, 1] rfl rfl (by decide) (by decide) hk1 hFc hP1 hD1
  have hK := (hK.sub (tys' := [(cA_703, .long)]) [0] rfl).app hK1
  generalize H1 = H at hP hS ⊢
  have hP : va_P (dC, dI) vwP [(h0, .inr (10, [v7_0, v7_1, v7_2, .ref q_703, v7_4, v7_5, v7_6, v7_7, v7_8, v7_9, v7_10, v7_11, v7_12, v7_13])), (q_703, .inl (cA_703, 16, .inr (.inl fa7_now)))] H := hP
  have hD : va_D A [(h0, .inr (10, [v7_0, v7_1, v7_2, .ref q_703, v7_4, v7_5, v7_6, v7_7, v7_8, v7_9, v7_10, v7_11, v7_12, v7_13])), (q_703, .inl (cA_703, 16, .inr (.inl fa7_now)))] := hD
  have hK : va_K (dC, dI) vwP [(cA_703, .long)] s := hK
  refine W.widen (k := 0) (n := 0) (Nat.le_of_ble_eq_true rfl) (Nat.le_of_ble_eq_true rfl) ?_
  obtain rfl : r_2001 = (zI (isR (x))) := hw
  have := isR_spec (x)
  refine lv_if_eq (tgt := 22) hx hb dX10_isNow_4 (by decide) (fun b4 => ?_) (fun b4 => ?_)
  · have yb4 : (isR (x) : Int) = (0 : Int) := (zI_eq (a := isR (x)) (b := 0) (by omega) (by omega) (by omega) (by omega)).mp b4
    refine lv_iconst (v := 1) hx hb dX10_isNow_22 (by decide) ?_
    refine lv_goto (tgt := 27) hx hb dX10_isNow_23 (by decide) ?_
    subst hQ
    refine W.widen (k := 0) (n := 0) (Nat.le_of_ble_eq_true rfl) (Nat.le_of_ble_eq_true rfl) ?_
    exact W.zret (v := 1) hx hb hr (by decide) (fun t ht hW => ⟨⟨1, (), rfl, ⟨1, rfl, by omega⟩, by rw [ht]; exact hP, va_K.moved hW.alike hK, hD⟩, hS.F ht⟩) hS.2.2 dX10_isNow_27
  · have yb4 : ¬ (isR (x) : Int) = (0 : Int) := fun q => b4 ((zI_eq (a := isR (x)) (b := 0) (by omega) (by omega) (by omega) (by omega)).mpr q)
    refine lv_aload_n hx hb dX10_isNow_7 rfl (lv_at hl 0 rfl) ?_
    refine va_get (D := (dC, dI)) (ci := 10) (v := .ref q_703) (C := RX10) (T := TX10) (N := 14) hx hb hts mem_X10_isNow_1 hown hK hP 0 rfl rfl 3 (by decide) (ow (k := 2) rfl) (fun _ h9 => h9) rfl dX10_isNow_8 ?_
    refine lv_iconst (v := 0) hx hb dX10_isNow_11 (by decide) ?_
    refine lv_lload_n hx hb dX10_isNow_12 rfl (lv_at hl 1 rfl) ?_
    have hPc := hP.sub (ws' := []) [] rfl
    have hDc := hD.sub (ws' := []) [] (by decide) rfl
    have hKc := hK.sub (tys' := []) [] rfl
    have hFc := va_free (wc := []) hD hS hA [] rfl
    refine va_calli (va_runSN (As := [.long (lI (x))]) (rest := [.int 0, .ref q_703]) ⟨hx, hb, hml, hown, hts⟩ (c_X11_registerOf l dC dI x (by omega) H.size) ⟨va_cnB 1 hts (goodIn_sub mem_X10_isNow_2 gw_X11_registerOf) rfl rfl rfl hp1 (ow (k := 0) rfl) (by decide +kernel) ⟨(Nat.le_of_ble_eq_true rfl), (Nat.le_of_ble_eq_true rfl)⟩, (ow (k := 3) rfl), trivial⟩ ⟨fun a U g mk q => by obtain ⟨q0, q1, qP, qK, qD⟩ := q; exact ⟨q0, q1, qP, va_K.moved (u := U) (U := U.calling g mk a) (Vm.Alike.refl U.vm) qK, qD⟩, fun U hU hW => ⟨rfl, by rw [hU], by rw [hU]; exact hPc, va_K.moved hW.alike hKc, hDc.weaken (fun _ _ _ _ => trivial)⟩⟩ rfl rfl hl.1 rfl (lv_room (Nat.le_of_ble_eq_true rfl)) dX10_isNow_13 ⟨(Nat.le_of_ble_eq_true rfl), (Nat.le_of_ble_eq_true rfl)⟩) hS (fun q _ h => hFc q h) hFc (fun r_2002 u t H1 locs ht hvm hw hB hz1 hk1 hS => ?_)
    obtain ⟨hP1, hK1, hD1⟩ := hB
    rw [ht] at hP1
    have hK1 := va_K.moved hvm.symm hK1
    obtain ⟨hP, hD⟩ := va_join (wr := [(h0, .inr (10, [v7_0, v7_1, v7_2, .ref q_703, v7_4, v7_5, v7_6, v7_7, v7_8, v7_9, v7_10, v7_11, v7_12, v7_13])), (q_703, .inl (cA_703, 16, .inr (.inl fa7_now)))]) (w1 := []) hP hD [] [0, 1] rfl rfl (by decide) (by decide) hk1 hFc hP1 hD1
    have hK := (hK.sub (tys' := [(cA_703, .long)]) [0] rfl).app hK1
    generalize H1 = H at hP hS ⊢
    have hP : va_P (dC, dI) vwP [(h0, .inr (10, [v7_0, v7_1, v7_2, .ref q_703, v7_4, v7_5, v7_6, v7_7, v7_8, v7_9, v7_10, v7_11, v7_12, v7_13])), (q_703, .inl (cA_703, 16, .inr (.inl fa7_now)))] H := hP
    have hD : va_D A [(h0, .inr (10, [v7_0, v7_1, v7_2, .ref q_703, v7_4, v7_5, v7_6, v7_7, v7_8, v7_9, v7_10, v7_11, v7_12, v7_13])), (q_703, .inl (cA_703, 16, .inr (.inl fa7_now)))] := hD
    have hK : va_K (dC, dI) vwP [(cA_703, .long)] s := hK
    refine W.widen (k := 0) (n := 0) (Nat.le_of_ble_eq_true rfl) (Nat.le_of_ble_eq_true rfl) ?_
    obtain rfl : r_2002 = (zI (x - 4294967296)) := hw
    have hPc := hP.sub (ws' := [(q_703, .inl (cA_703, 16, .inr (.inl fa7_now)))]) [1] rfl
    have hDc := hD.sub (ws' := [(q_703, .inl (cA_703, 16, .inr (.inl fa7_now)))]) [1] (by decide) rfl
    have hKc := hK.sub (tys' := [(cA_703, .long)]) [0] rfl
    have hFc := va_free (wc := [(q_703, .inl (cA_703, 16, .inr (.inl fa7_now)))]) hD hS hA [1] rfl
    refine va_calli (va_runSN (As := [.ref q_703, .int 0, .int (zI (x - 4294967296))]) (rest := []) ⟨hx, hb, hml, hown, hts⟩ (c_X11_hasBit l dC dI q_703 cA_703 16 fa7_now 0 (x - 4294967296) (by omega) H.size) ⟨va_cnB 3 hts (goodIn_sub mem_X10_isNow_3 gw_X11_hasBit) rfl rfl rfl hp2 (ow (k := 0) rfl) (by decide +kernel) ⟨(Nat.le_of_ble_eq_true rfl), (Nat.le_of_ble_eq_true rfl)⟩, (ow (k := 4) rfl), trivial⟩ ⟨fun a U g mk q => by obtain ⟨q0, q1, qP, qK, qD⟩ := q; exact ⟨q0, q1, qP, va_K.moved (u := U) (U := U.calling g mk a) (Vm.Alike.refl U.vm) qK, qD⟩, fun U hU hW => ⟨rfl, by rw [hU], by rw [hU]; exact hPc, va_K.moved hW.alike hKc, hDc.weaken (fun _ _ _ _ => trivial)⟩⟩ rfl rfl hl.1 rfl (lv_room (Nat.le_of_ble_eq_true rfl)) dX10_isNow_16 ⟨(Nat.le_of_ble_eq_true rfl), (Nat.le_of_ble_eq_true rfl)⟩) hS (fun q _ h => hFc q h) hFc (fun r_2003 u t H1 locs ht hvm hw hB hz1 hk1 hS => ?_)
    obtain ⟨hP1, hK1, hD1⟩ := hB
    rw [ht] at hP1
    have hK1 := va_K.moved hvm.symm hK1
    obtain ⟨hP, hD⟩ := va_join (wr := [(h0, .inr (10, [v7_0, v7_1, v7_2, .ref q_703, v7_4, v7_5, v7_6, v7_7, v7_8, v7_9, v7_10, v7_11, v7_12, v7_13]))]) (w1 := [(q_703, .inl (cA_703, 16, .inr (.inl fa7_now)))]) hP hD [1] [0] rfl rfl (by decide) (by decide) hk1 hFc hP1 hD1
    have hK := (hK.sub (tys' := []) [] rfl).app hK1
    generalize H1 = H at hP hS ⊢
    have hP : va_P (dC, dI) vwP [(h0, .inr (10, [v7_0, v7_1, v7_2, .ref q_703, v7_4, v7_5, v7_6, v7_7, v7_8, v7_9, v7_10, v7_11, v7_12, v7_13])), (q_703, .inl (cA_703, 16, .inr (.inl fa7_now)))] H := hP
    have hD : va_D A [(h0, .inr (10, [v7_0, v7_1, v7_2, .ref q_703, v7_4, v7_5, v7_6, v7_7, v7_8, v7_9, v7_10, v7_11, v7_12, v7_13])), (q_703, .inl (cA_703, 16, .inr (.inl fa7_now)))] := hD
    have hK : va_K (dC, dI) vwP [(cA_703, .long)] s := hK
    refine W.widen (k := 0) (n := 0) (Nat.le_of_ble_eq_true rfl) (Nat.le_of_ble_eq_true rfl) ?_
    have hw_2004 := hw
    obtain ⟨z_2005, rfl, hzz_2005⟩ := hw_2004
    refine lv_if_eq (tgt := 26) hx hb dX10_isNow_19 (by decide) (fun b19 => ?_) (fun b19 => ?_)
    · have yb19 : (z_2005 : Int) = (0 : Int) := (zI_eq (a := z_2005) (b := 0) (by omega) (by omega) (by omega) (by omega)).mp b19
      refine lv_iconst (v := 0) hx hb dX10_isNow_26 (by decide) ?_
      subst hQ
      refine W.widen (k := 0) (n := 0) (Nat.le_of_ble_eq_true rfl) (Nat.le_of_ble_eq_true rfl) ?_
      exact W.zret (v := 0) hx hb hr (by decide) (fun t ht hW => ⟨⟨0, (), rfl, ⟨0, rfl, by omega⟩, by rw [ht]; exact hP, va_K.moved hW.alike hK, hD⟩, hS.F ht⟩) hS.2.2 dX10_isNow_27
    · have yb19 : ¬ (z_2005 : Int) = (0 : Int) := fun q => b19 ((zI_eq (a := z_2005) (b := 0) (by omega) (by omega) (by omega) (by omega)).mpr q)
      refine lv_iconst (v := 1) hx hb dX10_isNow_22 (by decide) ?_
      refine lv_goto (tgt := 27) hx hb dX10_isNow_23 (by decide) ?_
      subst hQ
      refine W.widen (k := 0) (n := 0) (Nat.le_of_ble_eq_true rfl) (Nat.le_of_ble_eq_true rfl) ?_
      exact W.zret (v := 1) hx hb hr (by decide) (fun t ht hW => ⟨⟨1, (), rfl, ⟨1, rfl, by omega⟩, by rw [ht]; exact hP, va_K.moved hW.alike hK, hD⟩, hS.F ht⟩) hS.2.2 dX10_isNow_27
theorem dX10_notePresent_0 : decode cX10_notePresent 0 = .ok (.lload_n 1, 1) := by decide +kernel
theorem dX10_notePresent_1 : decode cX10_notePresent 1 = .ok (.invokestatic 82, 3) := by decide +kernel
theorem dX10_notePresent_4 : decode cX10_notePresent 4 = .ok (.ifCond .eq 13, 3) := by decide +kernel
theorem dX10_notePresent_17 : decode cX10_notePresent 17 = .ok (.return_, 1) := by decide +kernel
theorem dX10_notePresent_7 : decode cX10_notePresent 7 = .ok (.aload_n 0, 1) := by decide +kernel
theorem dX10_notePresent_8 : decode cX10_notePresent 8 = .ok (.getfield 35, 3) := by decide +kernel
theorem dX10_notePresent_11 : decode cX10_notePresent 11 = .ok (.lload_n 1, 1) := by decide +kernel
theorem dX10_notePresent_12 : decode cX10_notePresent 12 = .ok (.invokestatic 86, 3) := by decide +kernel
theorem dX10_notePresent_15 : decode cX10_notePresent 15 = .ok (.iconst 1, 1) := by decide +kernel
theorem dX10_notePresent_16 : decode cX10_notePresent 16 = .ok (.bastore, 1) := by decide +kernel
def o_X10_notePresent : List Cond := [.initialized RX11, .static yX11_isRegister, .fieldLink RX10 35 "SsaForge$WayOut" "present" "[Z", .static yX11_registerOf]
def v_X10_notePresent : List Cond := .code yX10_notePresent cX10_notePresent 3 none :: (o_X10_notePresent ++ (v_X11_isRegister ++ (wsX100 ++ (v_X11_registerOf ++ []))))
theorem mow_X10_notePresent : ∀ w ∈ o_X10_notePresent, w ∈ v_X10_notePresent := fun _ h => List.mem_cons_of_mem _ (List.mem_append_left _ h)
theorem mem_X10_notePresent_0 : ∀ w ∈ v_X11_isRegister, w ∈ v_X10_notePresent := fun _ h => List.mem_cons_of_mem _ (List.mem_append_right _ (List.mem_append_left _ h))
theorem mem_X10_notePresent_1 : ∀ w ∈ wsX100, w ∈ v_X10_notePresent := fun _ h => List.mem_cons_of_mem _ (List.mem_append_right _ (List.mem_append_right _ (List.mem_append_left _ h)))
theorem mem_X10_notePresent_2 : ∀ w ∈ v_X11_registerOf, w ∈ v_X10_notePresent := fun _ h => List.mem_cons_of_mem _ (List.mem_append_right _ (List.mem_append_right _ (List.mem_append_right _ (List.mem_append_left _ h))))
set_option maxRecDepth 20000 in
theorem gw_X10_notePresent : v_X10_notePresent.all goodWord = true := by decide +kernel
set_option maxHeartbeats 4000000 in
set_option maxRecDepth 100000 in
theorem c_X10_notePresent (l : Launch) (dC : Nat → ClassId) (dI : Nat → Nat → Nat) (h0 : Nat) (v7_0 : Value) (v7_1 : Value) (v7_2 : Value) (v7_3 : Value) (v7_4 : Value) (v7_5 : Value) (v7_6 : Value) (q_707 : Nat) (cA_707 : ClassId) (a7_present : Int → Int) (v7_8 : Value) (v7_9 : Value) (v7_10 : Value) (v7_11 : Value) (v7_12 : Value) (v7_13 : Value) (x : Int) (hR_a7_present : ∀ j : Int, 0 ≤ a7_present j ∧ a7_present j ≤ 1) (hNx : ((-2147483648 ≤ x ∧ x ≤ 4294968319) ∨ x = 1099511627776)) (sz : Nat) : Met l yX10_notePresent v_X10_notePresent ({ frames := 1, cells := 0, slots := 0, locals := 21 }) (va_Pc [.ref h0, .long (lI (x))] (fun U => U.heap.size = sz ∧ va_P (dC, dI) vwP [(h0, .inr (10, [v7_0, v7_1, v7_2, v7_3, v7_4, v7_5, v7_6, .ref q_707, v7_8, v7_9, v7_10, v7_11, v7_12, v7_13])), (q_707, .inl (cA_707, 1024, .inl (fun j : Nat => zI (a7_present (j : Int)))))] U.heap ∧ va_K (dC, dI) vwP [(cA_707, .boolean)] U ∧ va_D (fun _ => True) [(h0, .inr (10, [v7_0, v7_1, v7_2, v7_3, v7_4, v7_5, v7_6, .ref q_707, v7_8, v7_9, v7_10, v7_11, v7_12, v7_13])), (q_707, .inl (cA_707, 1024, .inl (fun j : Nat => zI (a7_present (j : Int)))))] ∧ va_Nw (.methodLinkNest RX10 82 yX11_isRegister "SsaForge") U ∧ va_Nw (.methodLinkNest RX10 86 yX11_registerOf "SsaForge") U)) (va_Qv (fun _ : Unit => True) (fun (_ : Unit) (t : State) => ∃ (a0_9 : Int → Int), ((∀ j : Int, 0 ≤ a0_9 j ∧ a0_9 j ≤ 1)) ∧ va_P (dC, dI) vwP [(h0, .inr (10, [v7_0, v7_1, v7_2, v7_3, v7_4, v7_5, v7_6, .ref q_707, v7_8, v7_9, v7_10, v7_11, v7_12, v7_13])), (q_707, .inl (cA_707, 1024, .inl (fun j : Nat => zI (a0_9 (j : Int)))))] t.heap ∧ va_K (dC, dI) vwP [(cA_707, .boolean)] t ∧ va_D (va_A [(h0, .inr (10, [v7_0, v7_1, v7_2, v7_3, v7_4, v7_5, v7_6, .ref q_707, v7_8, v7_9, v7_10, v7_11, v7_12, v7_13])), (q_707, .inl (cA_707, 1024, .inl (fun j : Nat => zI (a7_present (j : Int)))))] sz) [(h0, .inr (10, [v7_0, v7_1, v7_2, v7_3, v7_4, v7_5, v7_6, .ref q_707, v7_8, v7_9, v7_10, v7_11, v7_12, v7_13])), (q_707, .inl (cA_707, 1024, .inl (fun j : Nat => zI (a0_9 (j : Int)))))]) (va_A [(h0, .inr (10, [v7_0, v7_1, v7_2, v7_3, v7_4, v7_5, v7_6, .ref q_707, v7_8, v7_9, v7_10, v7_11, v7_12, v7_13])), (q_707, .inl (cA_707, 1024, .inl (fun j : Nat => zI (a7_present (j : Int)))))] sz)) 0 0 (va_A [(h0, .inr (10, [v7_0, v7_1, v7_2, v7_3, v7_4, v7_5, v7_6, .ref q_707, v7_8, v7_9, v7_10, v7_11, v7_12, v7_13])), (q_707, .inl (cA_707, 1024, .inl (fun j : Nat => zI (a7_present (j : Int)))))] sz) := by
  refine Met.ofW (cc := cX10_notePresent) (maxL := 3) (ret := none) (by decide) rfl ?_
  intro p e s m args below meth c s₁ B hml hv
  obtain ⟨rfl, hsz, hP, hK, hD0, hp0, hp1⟩ := hv
  have hx := B.exec
  have hb := B.bytes
  have hr := B.returns
  have hts := atoms_spec (ws := v_X10_notePresent) B.pre
  have hown : s.vm.findClass RX10 = some m.cls := findClass_of_methodNamed B.named
  have hlocks := B.notSynchronized
  have ow : ∀ {k : Nat} {w : Cond}, o_X10_notePresent[k]? = some w → w.before ([.ref h0, .long (lI (x))] : List Value).toArray s = true := fun h => hts _ (mow_X10_notePresent _ (List.mem_of_getElem? h))
  subst hsz
  have hD := hD0.self (sz := s.heap.size)
  generalize hAe : va_A [(h0, .inr (10, [v7_0, v7_1, v7_2, v7_3, v7_4, v7_5, v7_6, .ref q_707, v7_8, v7_9, v7_10, v7_11, v7_12, v7_13])), (q_707, .inl (cA_707, 1024, .inl (fun j : Nat => zI (a7_present (j : Int)))))] s.heap.size = A at hD ⊢
  have hA : ∀ q : Nat, s.heap.size ≤ q → A q := fun q h => by rw [← hAe]; exact Or.inr h
  have hS : va_S A s.heap s.heap [] := va_S.rf
  have hP : va_P (dC, dI) vwP [(h0, .inr (10, [v7_0, v7_1, v7_2, v7_3, v7_4, v7_5, v7_6, .ref q_707, v7_8, v7_9, v7_10, v7_11, v7_12, v7_13])), (q_707, .inl (cA_707, 1024, .inl (fun j : Nat => zI (a7_present (j : Int)))))] s.heap := hP
  have hl := lv_entry ([.ref h0, .long (lI (x))]) (n := 3) (Nat.le_of_ble_eq_true rfl)
  rw [lg_entry_eq]
  generalize (lg_sl ([.ref h0, .long (lI (x))]) ++ List.replicate (3 - (lg_sl ([.ref h0, .long (lI (x))])).length) Slot.unset).toArray = ls at hl ⊢
  have hl : lv_has ls 3 [(0, .ref h0), (1, .long (lI (x)))] := hl
  obtain ⟨H, hH⟩ : ∃ H, H = s.heap := ⟨_, rfl⟩
  rw [← hH] at hP
  have hS : va_S A s.heap H [] := by rw [hH]; exact hS
  rw [← hH]
  refine zW_cap (fun Q hQ => ?_)
  refine lv_lload_n hx hb dX10_notePresent_0 rfl (lv_at hl 1 rfl) ?_
  have hPc := hP.sub (ws' := []) [] rfl
  have hDc := hD.sub (ws' := []) [] (by decide) rfl
  have hKc := hK.sub (tys' := []) [] rfl
  have hFc := va_free (wc := []) hD hS hA [] rfl
  refine va_calli (va_runSN (As := [.long (lI (x))]) (rest := []) ⟨hx, hb, hml, hown, hts⟩ (c_X11_isRegister l dC dI x (by omega) H.size) ⟨va_cnB 1 hts (goodIn_sub mem_X10_notePresent_0 gw_X11_isRegister) rfl rfl rfl hp0 (ow (k := 0) rfl) (by decide +kernel) ⟨(Nat.le_of_ble_eq_true rfl), (Nat.le_of_ble_eq_true rfl)⟩, (ow (k := 1) rfl), trivial⟩ ⟨fun a U g mk q => by obtain ⟨q0, q1, qP, qK, qD⟩ := q; exact ⟨q0, q1, qP, va_K.moved (u := U) (U := U.calling g mk a) (Vm.Alike.refl U.vm) qK, qD⟩, fun U hU hW => ⟨rfl, by rw [hU], by rw [hU]; exact hPc, va_K.moved hW.alike hKc, hDc.weaken (fun _ _ _ _ => trivial)⟩⟩ rfl rfl hl.1 rfl (lv_room (Nat.le_of_ble_eq_true rfl)) dX10_notePresent_1 ⟨(Nat.le_of_ble_eq_true rfl), (Nat.le_of_ble_eq_true rfl)⟩) hS (fun q _ h => hFc q h) hFc (fun r_2001 u t H1 locs ht hvm hw hB hz1 hk1 hS => ?_)
  obtain ⟨hP1, hK1, hD1⟩ := hB
  rw [ht] at hP1
  have hK1 := va_K.moved hvm.symm hK1
  obtain ⟨hP, hD⟩ := va_join (wr := [(h0, .inr (10, [v7_0, v7_1, v7_2, v7_3, v7_4, v7_5, v7_6, .ref q_707, v7_8, v7_9, v7_10, v7_11, v7_12, v7_13])), (q_707, .inl (cA_707, 1024, .inl (fun j : Nat => zI (a7_present (j : Int)))))]) (w1 := []) hP hD [] [0, 1] rfl rfl (by decide) (by decide) hk1 hFc hP1 hD1
  have hK := (hK.sub (tys' := [(cA_707, .boolean)]) [0] rfl).app hK1
  generalize H1 = H at hP hS ⊢
  have hP : va_P (dC, dI) vwP [(h0, .inr (10, [v7_0, v7_1, v7_2, v7_3, v7_4, v7_5, v7_6, .ref q_707, v7_8, v7_9, v7_10, v7_11, v7_12, v7_13])), (q_707, .inl (cA_707, 1024, .inl (fun j : Nat => zI (a7_present (j : Int)))))] H := hP
  have hD : va_D A [(h0, .inr (10, [v7_0, v7_1, v7_2, v7_3, v7_4, v7_5, v7_6, .ref q_707, v7_8, v7_9, v7_10, v7_11, v7_12, v7_13])), (q_707, .inl (cA_707, 1024, .inl (fun j : Nat => zI (a7_present (j : Int)))))] := hD
  have hK : va_K (dC, dI) vwP [(cA_707, .boolean)] s := hK
  refine W.widen (k := 0) (n := 0) (Nat.le_of_ble_eq_true rfl) (Nat.le_of_ble_eq_true rfl) ?_
  obtain rfl : r_2001 = (zI (isR (x))) := hw
  have := isR_spec (x)
  refine lv_if_eq (tgt := 17) hx hb dX10_notePresent_4 (by decide) (fun b4 => ?_) (fun b4 => ?_)
  · have yb4 : (isR (x) : Int) = (0 : Int) := (zI_eq (a := isR (x)) (b := 0) (by omega) (by omega) (by omega) (by omega)).mp b4
    subst hQ
    refine W.widen (k := 0) (n := 0) (Nat.le_of_ble_eq_true rfl) (Nat.le_of_ble_eq_true rfl) ?_
    exact W.vret hx hb hr (fun t ht hW => ⟨⟨(), rfl, trivial, a7_present, hR_a7_present, by rw [ht]; exact hP, va_K.moved hW.alike hK, hD⟩, hS.F ht⟩) hS.2.2 dX10_notePresent_17
  · have yb4 : ¬ (isR (x) : Int) = (0 : Int) := fun q => b4 ((zI_eq (a := isR (x)) (b := 0) (by omega) (by omega) (by omega) (by omega)).mpr q)
    refine lv_aload_n hx hb dX10_notePresent_7 rfl (lv_at hl 0 rfl) ?_
    refine va_get (D := (dC, dI)) (ci := 10) (v := .ref q_707) (C := RX10) (T := TX10) (N := 14) hx hb hts mem_X10_notePresent_1 hown hK hP 0 rfl rfl 7 (by decide) (ow (k := 2) rfl) (fun _ h9 => h9) rfl dX10_notePresent_8 ?_
    refine lv_lload_n hx hb dX10_notePresent_11 rfl (lv_at hl 1 rfl) ?_
    have hPc := hP.sub (ws' := []) [] rfl
    have hDc := hD.sub (ws' := []) [] (by decide) rfl
    have hKc := hK.sub (tys' := []) [] rfl
    have hFc := va_free (wc := []) hD hS hA [] rfl
    refine va_calli (va_runSN (As := [.long (lI (x))]) (rest := [.ref q_707]) ⟨hx, hb, hml, hown, hts⟩ (c_X11_registerOf l dC dI x (by omega) H.size) ⟨va_cnB 1 hts (goodIn_sub mem_X10_notePresent_2 gw_X11_registerOf) rfl rfl rfl hp1 (ow (k := 0) rfl) (by decide +kernel) ⟨(Nat.le_of_ble_eq_true rfl), (Nat.le_of_ble_eq_true rfl)⟩, (ow (k := 3) rfl), trivial⟩ ⟨fun a U g mk q => by obtain ⟨q0, q1, qP, qK, qD⟩ := q; exact ⟨q0, q1, qP, va_K.moved (u := U) (U := U.calling g mk a) (Vm.Alike.refl U.vm) qK, qD⟩, fun U hU hW => ⟨rfl, by rw [hU], by rw [hU]; exact hPc, va_K.moved hW.alike hKc, hDc.weaken (fun _ _ _ _ => trivial)⟩⟩ rfl rfl hl.1 rfl (lv_room (Nat.le_of_ble_eq_true rfl)) dX10_notePresent_12 ⟨(Nat.le_of_ble_eq_true rfl), (Nat.le_of_ble_eq_true rfl)⟩) hS (fun q _ h => hFc q h) hFc (fun r_2002 u t H1 locs ht hvm hw hB hz1 hk1 hS => ?_)
    obtain ⟨hP1, hK1, hD1⟩ := hB
    rw [ht] at hP1
    have hK1 := va_K.moved hvm.symm hK1
    obtain ⟨hP, hD⟩ := va_join (wr := [(h0, .inr (10, [v7_0, v7_1, v7_2, v7_3, v7_4, v7_5, v7_6, .ref q_707, v7_8, v7_9, v7_10, v7_11, v7_12, v7_13])), (q_707, .inl (cA_707, 1024, .inl (fun j : Nat => zI (a7_present (j : Int)))))]) (w1 := []) hP hD [] [0, 1] rfl rfl (by decide) (by decide) hk1 hFc hP1 hD1
    have hK := (hK.sub (tys' := [(cA_707, .boolean)]) [0] rfl).app hK1
    generalize H1 = H at hP hS ⊢
    have hP : va_P (dC, dI) vwP [(h0, .inr (10, [v7_0, v7_1, v7_2, v7_3, v7_4, v7_5, v7_6, .ref q_707, v7_8, v7_9, v7_10, v7_11, v7_12, v7_13])), (q_707, .inl (cA_707, 1024, .inl (fun j : Nat => zI (a7_present (j : Int)))))] H := hP
    have hD : va_D A [(h0, .inr (10, [v7_0, v7_1, v7_2, v7_3, v7_4, v7_5, v7_6, .ref q_707, v7_8, v7_9, v7_10, v7_11, v7_12, v7_13])), (q_707, .inl (cA_707, 1024, .inl (fun j : Nat => zI (a7_present (j : Int)))))] := hD
    have hK : va_K (dC, dI) vwP [(cA_707, .boolean)] s := hK
    refine W.widen (k := 0) (n := 0) (Nat.le_of_ble_eq_true rfl) (Nat.le_of_ble_eq_true rfl) ?_
    obtain rfl : r_2002 = (zI (x - 4294967296)) := hw
    refine lv_iconst (v := 1) hx hb dX10_notePresent_15 (by decide) ?_
    refine va_zast (i := zI (x - 4294967296)) hx hb hK hP hD hS 1 0 rfl rfl (zI_in (a := x - 4294967296) (n := 1024) (by omega) (by omega) (by decide)) dX10_notePresent_16 (fun H locs hP hD hS => ?_)
    rw [show vp_nar .boolean 1 = 1 from zI_nar (a := 1) (by omega) (by omega)] at hP hD
    have eQ : upd (fun j : Nat => zI (a7_present (j : Int))) (zI (x - 4294967296)).toNatClampNeg 1 = (fun j : Nat => zI (zup a7_present (x - 4294967296) (1) (j : Int))) := zI_st a7_present (e := x - 4294967296) (v := 1) (by omega) (by omega)
    rw [eQ] at hP hD
    clear eQ
    have ra_2003 : ∀ j : Int, 0 ≤ zup a7_present (x - 4294967296) (1) j ∧ zup a7_present (x - 4294967296) (1) j ≤ 1 := zup_P (P := fun x9 => 0 ≤ x9 ∧ x9 ≤ 1) hR_a7_present (show 0 ≤ (1) ∧ (1) ≤ 1 by omega)
    generalize zup a7_present (x - 4294967296) (1) = a_2003 at hP hD ra_2003
    have hP : va_P (dC, dI) vwP [(h0, .inr (10, [v7_0, v7_1, v7_2, v7_3, v7_4, v7_5, v7_6, .ref q_707, v7_8, v7_9, v7_10, v7_11, v7_12, v7_13])), (q_707, .inl (cA_707, 1024, .inl (fun j : Nat => zI (a_2003 (j : Int)))))] H := hP
    have hD : va_D A [(h0, .inr (10, [v7_0, v7_1, v7_2, v7_3, v7_4, v7_5, v7_6, .ref q_707, v7_8, v7_9, v7_10, v7_11, v7_12, v7_13])), (q_707, .inl (cA_707, 1024, .inl (fun j : Nat => zI (a_2003 (j : Int)))))] := hD
    subst hQ
    refine W.widen (k := 0) (n := 0) (Nat.le_of_ble_eq_true rfl) (Nat.le_of_ble_eq_true rfl) ?_
    exact W.vret hx hb hr (fun t ht hW => ⟨⟨(), rfl, trivial, a_2003, ra_2003, by rw [ht]; exact hP, va_K.moved hW.alike hK, hD⟩, hS.F ht⟩) hS.2.2 dX10_notePresent_17
theorem dX10_coloured_0 : decode cX10_coloured 0 = .ok (.lload_n 1, 1) := by decide +kernel
theorem dX10_coloured_1 : decode cX10_coloured 1 = .ok (.invokestatic 82, 3) := by decide +kernel
theorem dX10_coloured_4 : decode cX10_coloured 4 = .ok (.ifCond .eq 20, 3) := by decide +kernel
theorem dX10_coloured_24 : decode cX10_coloured 24 = .ok (.lload_n 1, 1) := by decide +kernel
theorem dX10_coloured_25 : decode cX10_coloured 25 = .ok (.lreturn, 1) := by decide +kernel
theorem dX10_coloured_7 : decode cX10_coloured 7 = .ok (.ldc2_w 174, 3) := by decide +kernel
theorem dX10_coloured_10 : decode cX10_coloured 10 = .ok (.aload_n 0, 1) := by decide +kernel
theorem dX10_coloured_11 : decode cX10_coloured 11 = .ok (.getfield 9, 3) := by decide +kernel
theorem dX10_coloured_14 : decode cX10_coloured 14 = .ok (.lload_n 1, 1) := by decide +kernel
theorem dX10_coloured_15 : decode cX10_coloured 15 = .ok (.invokestatic 86, 3) := by decide +kernel
theorem dX10_coloured_18 : decode cX10_coloured 18 = .ok (.iaload, 1) := by decide +kernel
theorem dX10_coloured_19 : decode cX10_coloured 19 = .ok (.i2l, 1) := by decide +kernel
theorem dX10_coloured_20 : decode cX10_coloured 20 = .ok (.ladd, 1) := by decide +kernel
theorem dX10_coloured_21 : decode cX10_coloured 21 = .ok (.goto 4, 3) := by decide +kernel
def o_X10_coloured : List Cond := [.initialized RX11, .static yX11_isRegister, .constantLong RX10 174 (4294967296), .fieldLink RX10 9 "SsaForge$WayOut" "colour" "[I", .static yX11_registerOf]
def v_X10_coloured : List Cond := .code yX10_coloured cX10_coloured 3 (some .long) :: (o_X10_coloured ++ (v_X11_isRegister ++ (wsX100 ++ (v_X11_registerOf ++ []))))
theorem mow_X10_coloured : ∀ w ∈ o_X10_coloured, w ∈ v_X10_coloured := fun _ h => List.mem_cons_of_mem _ (List.mem_append_left _ h)
theorem mem_X10_coloured_0 : ∀ w ∈ v_X11_isRegister, w ∈ v_X10_coloured := fun _ h => List.mem_cons_of_mem _ (List.mem_append_right _ (List.mem_append_left _ h))
theorem mem_X10_coloured_1 : ∀ w ∈ wsX100, w ∈ v_X10_coloured := fun _ h => List.mem_cons_of_mem _ (List.mem_append_right _ (List.mem_append_right _ (List.mem_append_left _ h)))
theorem mem_X10_coloured_2 : ∀ w ∈ v_X11_registerOf, w ∈ v_X10_coloured := fun _ h => List.mem_cons_of_mem _ (List.mem_append_right _ (List.mem_append_right _ (List.mem_append_right _ (List.mem_append_left _ h))))
set_option maxRecDepth 20000 in
theorem gw_X10_coloured : v_X10_coloured.all goodWord = true := by decide +kernel
set_option maxHeartbeats 4000000 in
set_option maxRecDepth 100000 in
theorem c_X10_coloured (l : Launch) (dC : Nat → ClassId) (dI : Nat → Nat → Nat) (h0 : Nat) (q_700 : Nat) (cA_700 : ClassId) (a7_colour : Int → Int) (v7_1 : Value) (v7_2 : Value) (v7_3 : Value) (v7_4 : Value) (v7_5 : Value) (v7_6 : Value) (v7_7 : Value) (v7_8 : Value) (v7_9 : Value) (v7_10 : Value) (v7_11 : Value) (v7_12 : Value) (v7_13 : Value) (x : Int) (hR_a7_colour : ∀ j : Int, -1 ≤ a7_colour j ∧ a7_colour j ≤ 1023) (hNx : ((-2147483648 ≤ x ∧ x ≤ 4294968319) ∨ x = 1099511627776)) (sz : Nat) : Met l yX10_coloured v_X10_coloured ({ frames := 1, cells := 0, slots := 0, locals := 21 }) (va_Pc [.ref h0, .long (lI (x))] (fun U => U.heap.size = sz ∧ va_P (dC, dI) vwP [(h0, .inr (10, [.ref q_700, v7_1, v7_2, v7_3, v7_4, v7_5, v7_6, v7_7, v7_8, v7_9, v7_10, v7_11, v7_12, v7_13])), (q_700, .inl (cA_700, 1024, .inl (fun j : Nat => zI (a7_colour (j : Int)))))] U.heap ∧ va_K (dC, dI) vwP [(cA_700, .int)] U ∧ va_D (fun _ => True) [(h0, .inr (10, [.ref q_700, v7_1, v7_2, v7_3, v7_4, v7_5, v7_6, v7_7, v7_8, v7_9, v7_10, v7_11, v7_12, v7_13])), (q_700, .inl (cA_700, 1024, .inl (fun j : Nat => zI (a7_colour (j : Int)))))] ∧ va_Nw (.methodLinkNest RX10 82 yX11_isRegister "SsaForge") U ∧ va_Nw (.methodLinkNest RX10 86 yX11_registerOf "SsaForge") U)) (va_Ql (fun (r : Int64) (_ : Unit) => ∃ z : Int, r = lI z ∧ (((-2147483648 ≤ z ∧ z ≤ 4294968319) ∨ z = 1099511627776))) (fun (_ : Unit) (t : State) => va_P (dC, dI) vwP [(h0, .inr (10, [.ref q_700, v7_1, v7_2, v7_3, v7_4, v7_5, v7_6, v7_7, v7_8, v7_9, v7_10, v7_11, v7_12, v7_13])), (q_700, .inl (cA_700, 1024, .inl (fun j : Nat => zI (a7_colour (j : Int)))))] t.heap ∧ va_K (dC, dI) vwP [(cA_700, .int)] t ∧ va_D (va_A [(h0, .inr (10, [.ref q_700, v7_1, v7_2, v7_3, v7_4, v7_5, v7_6, v7_7, v7_8, v7_9, v7_10, v7_11, v7_12, v7_13])), (q_700, .inl (cA_700, 1024, .inl (fun j : Nat => zI (a7_colour (j : Int)))))] sz) [(h0, .inr (10, [.ref q_700, v7_1, v7_2, v7_3, v7_4, v7_5, v7_6, v7_7, v7_8, v7_9, v7_10, v7_11, v7_12, v7_13])), (q_700, .inl (cA_700, 1024, .inl (fun j : Nat => zI (a7_colour (j : Int)))))]) (va_A [(h0, .inr (10, [.ref q_700, v7_1, v7_2, v7_3, v7_4, v7_5, v7_6, v7_7, v7_8, v7_9, v7_10, v7_11, v7_12, v7_13])), (q_700, .inl (cA_700, 1024, .inl (fun j : Nat => zI (a7_colour (j : Int)))))] sz)) 0 0 (va_A [(h0, .inr (10, [.ref q_700, v7_1, v7_2, v7_3, v7_4, v7_5, v7_6, v7_7, v7_8, v7_9, v7_10, v7_11, v7_12, v7_13])), (q_700, .inl (cA_700, 1024, .inl (fun j : Nat => zI (a7_colour (j : Int)))))] sz) := by
  refine Met.ofW (cc := cX10_coloured) (maxL := 3) (ret := (some .long)) (by decide) rfl ?_
  intro p e s m args below meth c s₁ B hml hv
  obtain ⟨rfl, hsz, hP, hK, hD0, hp0, hp1⟩ := hv
  have hx := B.exec
  have hb := B.bytes
  have hr := B.returns
  have hts := atoms_spec (ws := v_X10_coloured) B.pre
  have hown : s.vm.findClass RX10 = some m.cls := findClass_of_methodNamed B.named
  have hlocks := B.notSynchronized
  have ow : ∀ {k : Nat} {w : Cond}, o_X10_coloured[k]? = some w → w.before ([.ref h0, .long (lI (x))] : List Value).toArray s = true := fun h => hts _ (mow_X10_coloured _ (List.mem_of_getElem? h))
  subst hsz
  have hD := hD0.self (sz := s.heap.size)
  generalize hAe : va_A [(h0, .inr (10, [.ref q_700, v7_1, v7_2, v7_3, v7_4, v7_5, v7_6, v7_7, v7_8, v7_9, v7_10, v7_11, v7_12, v7_13])), (q_700, .inl (cA_700, 1024, .inl (fun j : Nat => zI (a7_colour (j : Int)))))] s.heap.size = A at hD ⊢
  have hA : ∀ q : Nat, s.heap.size ≤ q → A q := fun q h => by rw [← hAe]; exact Or.inr h
  have hS : va_S A s.heap s.heap [] := va_S.rf
  have hP : va_P (dC, dI) vwP [(h0, .inr (10, [.ref q_700, v7_1, v7_2, v7_3, v7_4, v7_5, v7_6, v7_7, v7_8, v7_9, v7_10, v7_11, v7_12, v7_13])), (q_700, .inl (cA_700, 1024, .inl (fun j : Nat => zI (a7_colour (j : Int)))))] s.heap := hP
  have hl := lv_entry ([.ref h0, .long (lI (x))]) (n := 3) (Nat.le_of_ble_eq_true rfl)
  rw [lg_entry_eq]
  generalize (lg_sl ([.ref h0, .long (lI (x))]) ++ List.replicate (3 - (lg_sl ([.ref h0, .long (lI (x))])).length) Slot.unset).toArray = ls at hl ⊢
  have hl : lv_has ls 3 [(0, .ref h0), (1, .long (lI (x)))] := hl
  obtain ⟨H, hH⟩ : ∃ H, H = s.heap := ⟨_, rfl⟩
  rw [← hH] at hP
  have hS : va_S A s.heap H [] := by rw [hH]; exact hS
  rw [← hH]
  refine zW_cap (fun Q hQ => ?_)
  refine lv_lload_n hx hb dX10_coloured_0 rfl (lv_at hl 1 rfl) ?_
  have hPc := hP.sub (ws' := []) [] rfl
  have hDc := hD.sub (ws' := []) [] (by decide) rfl
  have hKc := hK.sub (tys' := []) [] rfl
  have hFc := va_free (wc := []) hD hS hA [] rfl
  refine va_calli (va_runSN (As := [.long (lI (x))]) (rest := []) ⟨hx, hb, hml, hown, hts⟩ (c_X11_isRegister l dC dI x (by omega) H.size) ⟨va_cnB 1 hts (goodIn_sub mem_X10_coloured_0 gw_X11_isRegister) rfl rfl rfl hp0 (ow (k := 0) rfl) (by decide +kernel) ⟨(Nat.le_of_ble_eq_true rfl), (Nat.le_of_ble_eq_true rfl)⟩, (ow (k := 1) rfl), trivial⟩ ⟨fun a U g mk q => by obtain ⟨q0, q1, qP, qK, qD⟩ := q; exact ⟨q0, q1, qP, va_K.moved (u := U) (U := U.calling g mk a) (Vm.Alike.refl U.vm) qK, qD⟩, fun U hU hW => ⟨rfl, by rw [hU], by rw [hU]; exact hPc, va_K.moved hW.alike hKc, hDc.weaken (fun _ _ _ _ => trivial)⟩⟩ rfl rfl hl.1 rfl (lv_room (Nat.le_of_ble_eq_true rfl)) dX10_coloured_1 ⟨(Nat.le_of_ble_eq_true rfl), (Nat.le_of_ble_eq_true rfl)⟩) hS (fun q _ h => hFc q h) hFc (fun r_2001 u t H1 locs ht hvm hw hB hz1 hk1 hS => ?_)
  obtain ⟨hP1, hK1, hD1⟩ := hB
  rw [ht] at hP1
  have hK1 := va_K.moved hvm.symm hK1
  obtain ⟨hP, hD⟩ := va_join (wr := [(h0, .inr (10, [.ref q_700, v7_1, v7_2, v7_3, v7_4, v7_5, v7_6, v7_7, v7_8, v7_9, v7_10, v7_11, v7_12, v7_13])), (q_700, .inl (cA_700, 1024, .inl (fun j : Nat => zI (a7_colour (j : Int)))))]) (w1 := []) hP hD [] [0, 1] rfl rfl (by decide) (by decide) hk1 hFc hP1 hD1
  have hK := (hK.sub (tys' := [(cA_700, .int)]) [0] rfl).app hK1
  generalize H1 = H at hP hS ⊢
  have hP : va_P (dC, dI) vwP [(h0, .inr (10, [.ref q_700, v7_1, v7_2, v7_3, v7_4, v7_5, v7_6, v7_7, v7_8, v7_9, v7_10, v7_11, v7_12, v7_13])), (q_700, .inl (cA_700, 1024, .inl (fun j : Nat => zI (a7_colour (j : Int)))))] H := hP
  have hD : va_D A [(h0, .inr (10, [.ref q_700, v7_1, v7_2, v7_3, v7_4, v7_5, v7_6, v7_7, v7_8, v7_9, v7_10, v7_11, v7_12, v7_13])), (q_700, .inl (cA_700, 1024, .inl (fun j : Nat => zI (a7_colour (j : Int)))))] := hD
  have hK : va_K (dC, dI) vwP [(cA_700, .int)] s := hK
  refine W.widen (k := 0) (n := 0) (Nat.le_of_ble_eq_true rfl) (Nat.le_of_ble_eq_true rfl) ?_
  obtain rfl : r_2001 = (zI (isR (x))) := hw
  have := isR_spec (x)
  refine lv_if_eq (tgt := 24) hx hb dX10_coloured_4 (by decide) (fun b4 => ?_) (fun b4 => ?_)
  · have yb4 : (isR (x) : Int) = (0 : Int) := (zI_eq (a := isR (x)) (b := 0) (by omega) (by omega) (by omega) (by omega)).mp b4
    refine lv_lload_n hx hb dX10_coloured_24 rfl (lv_at hl 1 rfl) ?_
    subst hQ
    refine W.widen (k := 0) (n := 0) (Nat.le_of_ble_eq_true rfl) (Nat.le_of_ble_eq_true rfl) ?_
    exact W.lret (v := (lI (x))) hx hb hr (fun t ht hW => ⟨⟨(lI (x)), (), rfl, ⟨x, rfl, by omega⟩, by rw [ht]; exact hP, va_K.moved hW.alike hK, hD⟩, hS.F ht⟩) hS.2.2 dX10_coloured_25
  · have yb4 : ¬ (isR (x) : Int) = (0 : Int) := fun q => b4 ((zI_eq (a := isR (x)) (b := 0) (by omega) (by omega) (by omega) (by omega)).mpr q)
    refine lv_ldc2 (v := 4294967296) hx hb hown (ow (k := 2) rfl) dX10_coloured_7 ?_
    refine lv_topl (fun z ez => ?_)
    obtain rfl : z = lI (4294967296) := ez
    refine lv_aload_n hx hb dX10_coloured_10 rfl (lv_at hl 0 rfl) ?_
    refine va_get (D := (dC, dI)) (ci := 10) (v := .ref q_700) (C := RX10) (T := TX10) (N := 14) hx hb hts mem_X10_coloured_1 hown hK hP 0 rfl rfl 0 (by decide) (ow (k := 3) rfl) (fun _ h9 => h9) rfl dX10_coloured_11 ?_
    refine lv_lload_n hx hb dX10_coloured_14 rfl (lv_at hl 1 rfl) ?_
    have hPc := hP.sub (ws' := []) [] rfl
    have hDc := hD.sub (ws' := []) [] (by decide) rfl
    have hKc := hK.sub (tys' := []) [] rfl
    have hFc := va_free (wc := []) hD hS hA [] rfl
    refine va_calli (va_runSN (As := [.long (lI (x))]) (rest := [.ref q_700, .long (lI (4294967296))]) ⟨hx, hb, hml, hown, hts⟩ (c_X11_registerOf l dC dI x (by omega) H.size) ⟨va_cnB 1 hts (goodIn_sub mem_X10_coloured_2 gw_X11_registerOf) rfl rfl rfl hp1 (ow (k := 0) rfl) (by decide +kernel) ⟨(Nat.le_of_ble_eq_true rfl), (Nat.le_of_ble_eq_true rfl)⟩, (ow (k := 4) rfl), trivial⟩ ⟨fun a U g mk q => by obtain ⟨q0, q1, qP, qK, qD⟩ := q; exact ⟨q0, q1, qP, va_K.moved (u := U) (U := U.calling g mk a) (Vm.Alike.refl U.vm) qK, qD⟩, fun U hU hW => ⟨rfl, by rw [hU], by rw [hU]; exact hPc, va_K.moved hW.alike hKc, hDc.weaken (fun _ _ _ _ => trivial)⟩⟩ rfl rfl hl.1 rfl (lv_room (Nat.le_of_ble_eq_true rfl)) dX10_coloured_15 ⟨(Nat.le_of_ble_eq_true rfl), (Nat.le_of_ble_eq_true rfl)⟩) hS (fun q _ h => hFc q h) hFc (fun r_2002 u t H1 locs ht hvm hw hB hz1 hk1 hS => ?_)
    obtain ⟨hP1, hK1, hD1⟩ := hB
    rw [ht] at hP1
    have hK1 := va_K.moved hvm.symm hK1
    obtain ⟨hP, hD⟩ := va_join (wr := [(h0, .inr (10, [.ref q_700, v7_1, v7_2, v7_3, v7_4, v7_5, v7_6, v7_7, v7_8, v7_9, v7_10, v7_11, v7_12, v7_13])), (q_700, .inl (cA_700, 1024, .inl (fun j : Nat => zI (a7_colour (j : Int)))))]) (w1 := []) hP hD [] [0, 1] rfl rfl (by decide) (by decide) hk1 hFc hP1 hD1
    have hK := (hK.sub (tys' := [(cA_700, .int)]) [0] rfl).app hK1
    generalize H1 = H at hP hS ⊢
    have hP : va_P (dC, dI) vwP [(h0, .inr (10, [.ref q_700, v7_1, v7_2, v7_3, v7_4, v7_5, v7_6, v7_7, v7_8, v7_9, v7_10, v7_11, v7_12, v7_13])), (q_700, .inl (cA_700, 1024, .inl (fun j : Nat => zI (a7_colour (j : Int)))))] H := hP
    have hD : va_D A [(h0, .inr (10, [.ref q_700, v7_1, v7_2, v7_3, v7_4, v7_5, v7_6, v7_7, v7_8, v7_9, v7_10, v7_11, v7_12, v7_13])), (q_700, .inl (cA_700, 1024, .inl (fun j : Nat => zI (a7_colour (j : Int)))))] := hD
    have hK : va_K (dC, dI) vwP [(cA_700, .int)] s := hK
    refine W.widen (k := 0) (n := 0) (Nat.le_of_ble_eq_true rfl) (Nat.le_of_ble_eq_true rfl) ?_
    obtain rfl : r_2002 = (zI (x - 4294967296)) := hw
    refine va_iald hx hb hK hP 1 0 rfl rfl (zI_in (a := x - 4294967296) (n := 1024) (by omega) (by omega) (by decide)) dX10_coloured_18 ?_
    refine lv_topi (fun z ez => ?_)
    obtain rfl : z = zI (a7_colour (x - 4294967296)) := ez.trans (zI_ld (a7_colour) (by omega) (by omega))
    have k1 := hR_a7_colour (x - 4294967296)
    refine lv_i2l (v := lI (a7_colour (x - 4294967296))) hx hb dX10_coloured_19 (zI_l (a := a7_colour (x - 4294967296)) (by omega) (by omega)) ?_
    refine lv_ladd hx hb dX10_coloured_20 ?_
    refine lv_topl (fun z ez => ?_)
    obtain rfl : z = lI (4294967296 + (a7_colour (x - 4294967296))) := ez.trans (lI_add (4294967296) (a7_colour (x - 4294967296)))
    refine lv_goto (tgt := 25) hx hb dX10_coloured_21 (by decide) ?_
    subst hQ
    refine W.widen (k := 0) (n := 0) (Nat.le_of_ble_eq_true rfl) (Nat.le_of_ble_eq_true rfl) ?_
    exact W.lret (v := (lI (4294967296 + (a7_colour (x - 4294967296))))) hx hb hr (fun t ht hW => ⟨⟨(lI (4294967296 + (a7_colour (x - 4294967296)))), (), rfl, ⟨4294967296 + (a7_colour (x - 4294967296)), rfl, by omega⟩, by rw [ht]; exact hP, va_K.moved hW.alike hK, hD⟩, hS.F ht⟩) hS.2.2 dX10_coloured_25
