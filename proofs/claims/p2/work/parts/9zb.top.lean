theorem dX11_told_0 : decode cX11_told 0 = .ok (.iload_n 1, 1) := by decide +kernel
theorem dX11_told_1 : decode cX11_told 1 = .ok (.tableswitch 75 0 4 #[35, 43, 51, 59, 67], 35) := by decide +kernel
theorem dX11_told_36 : decode cX11_told 36 = .ok (.aload_n 0, 1) := by decide +kernel
theorem dX11_told_37 : decode cX11_told 37 = .ok (.getfield 96, 3) := by decide +kernel
theorem dX11_told_40 : decode cX11_told 40 = .ok (.getfield 215, 3) := by decide +kernel
theorem dX11_told_43 : decode cX11_told 43 = .ok (.ireturn, 1) := by decide +kernel
theorem dX11_told_44 : decode cX11_told 44 = .ok (.aload_n 0, 1) := by decide +kernel
theorem dX11_told_45 : decode cX11_told 45 = .ok (.getfield 96, 3) := by decide +kernel
theorem dX11_told_48 : decode cX11_told 48 = .ok (.getfield 218, 3) := by decide +kernel
theorem dX11_told_51 : decode cX11_told 51 = .ok (.ireturn, 1) := by decide +kernel
theorem dX11_told_52 : decode cX11_told 52 = .ok (.aload_n 0, 1) := by decide +kernel
theorem dX11_told_53 : decode cX11_told 53 = .ok (.getfield 96, 3) := by decide +kernel
theorem dX11_told_56 : decode cX11_told 56 = .ok (.getfield 221, 3) := by decide +kernel
theorem dX11_told_59 : decode cX11_told 59 = .ok (.ireturn, 1) := by decide +kernel
theorem dX11_told_60 : decode cX11_told 60 = .ok (.aload_n 0, 1) := by decide +kernel
theorem dX11_told_61 : decode cX11_told 61 = .ok (.getfield 96, 3) := by decide +kernel
theorem dX11_told_64 : decode cX11_told 64 = .ok (.getfield 224, 3) := by decide +kernel
theorem dX11_told_67 : decode cX11_told 67 = .ok (.ireturn, 1) := by decide +kernel
theorem dX11_told_68 : decode cX11_told 68 = .ok (.aload_n 0, 1) := by decide +kernel
theorem dX11_told_69 : decode cX11_told 69 = .ok (.getfield 96, 3) := by decide +kernel
theorem dX11_told_72 : decode cX11_told 72 = .ok (.getfield 212, 3) := by decide +kernel
theorem dX11_told_75 : decode cX11_told 75 = .ok (.ireturn, 1) := by decide +kernel
theorem dX11_told_76 : decode cX11_told 76 = .ok (.new 118, 3) := by decide +kernel
theorem dX11_told_79 : decode cX11_told 79 = .ok (.dup, 1) := by decide +kernel
theorem dX11_told_80 : decode cX11_told 80 = .ok (.ldc 227, 2) := by decide +kernel
theorem dX11_told_82 : decode cX11_told 82 = .ok (.invokespecial 122, 3) := by decide +kernel
theorem dX11_told_85 : decode cX11_told 85 = .ok (.athrow, 1) := by decide +kernel
def o_X11_told : List Cond := [.fieldLink RX11 96 "SsaForge" "machine" "LSsaForge$Machine;", .fieldLink RX11 215 "SsaForge$Machine" "answer" "I", .fieldLink RX11 218 "SsaForge$Machine" "shownCount" "I", .fieldLink RX11 221 "SsaForge$Machine" "steps" "I", .fieldLink RX11 224 "SsaForge$Machine" "inputRead" "I", .fieldLink RX11 212 "SsaForge$Machine" "ending" "I", .classLink RX11 118 "java/lang/IllegalArgumentException", .initialized "java/lang/IllegalArgumentException"]
def v_X11_told : List Cond := .code yX11_told cX11_told 2 (some .int) :: (o_X11_told ++ (wsX110 ++ (wsX50 ++ (((vx_atS RX11 122 "java/lang/IllegalArgumentException" ["java/lang/RuntimeException", "java/lang/Exception"]).filter goodWord) ++ []))))
theorem mow_X11_told : ∀ w ∈ o_X11_told, w ∈ v_X11_told := fun _ h => List.mem_cons_of_mem _ (List.mem_append_left _ h)
theorem mem_X11_told_0 : ∀ w ∈ wsX110, w ∈ v_X11_told := fun _ h => List.mem_cons_of_mem _ (List.mem_append_right _ (List.mem_append_left _ h))
theorem mem_X11_told_1 : ∀ w ∈ wsX50, w ∈ v_X11_told := fun _ h => List.mem_cons_of_mem _ (List.mem_append_right _ (List.mem_append_right _ (List.mem_append_left _ h)))
theorem mem_X11_told_2 : ∀ w ∈ ((vx_atS RX11 122 "java/lang/IllegalArgumentException" ["java/lang/RuntimeException", "java/lang/Exception"]).filter goodWord), w ∈ v_X11_told := fun _ h => List.mem_cons_of_mem _ (List.mem_append_right _ (List.mem_append_right _ (List.mem_append_right _ (List.mem_append_left _ h))))
set_option maxRecDepth 20000 in
theorem gw_X11_told : v_X11_told.all goodWord = true := by decide +kernel
set_option maxHeartbeats 4000000 in
set_option maxRecDepth 100000 in
theorem c_X11_told (l : Launch) (dC : Nat → ClassId) (dI : Nat → Nat → Nat) (hst : l.stackTraces = false) (h0 : Nat) (v11_0 : Value) (v11_1 : Value) (v11_2 : Value) (v11_3 : Value) (v11_4 : Value) (v11_5 : Value) (v11_6 : Value) (v11_7 : Value) (v11_8 : Value) (v11_9 : Value) (v11_10 : Value) (v11_11 : Value) (v11_12 : Value) (v11_13 : Value) (v11_14 : Value) (v11_16 : Value) (hma : Nat) (v5_0 : Value) (r5_answer : Int32) (z5_shownCount : Int) (z5_steps : Int) (z5_inputRead : Int) (z5_ending : Int) (v5_6 : Value) (v5_7 : Value) (v5_8 : Value) (v5_9 : Value) (v5_10 : Value) (n0 : Int) (hNz5_shownCount : 0 ≤ z5_shownCount ∧ z5_shownCount ≤ 512) (hNz5_steps : 0 ≤ z5_steps ∧ z5_steps ≤ 100000) (hNz5_inputRead : 0 ≤ z5_inputRead ∧ z5_inputRead ≤ 2048) (hNz5_ending : -1 ≤ z5_ending ∧ z5_ending ≤ 5) (hNn : -2147483648 ≤ n0 ∧ n0 ≤ 2147483647) (sz : Nat) (sa_RX11_227 : Nat) : vx_Met l yX11_told v_X11_told ({ frames := 6, cells := 1, slots := 6, locals := 82 }) (va_Pc [.ref h0, .int (zI (n0))] (fun U => U.heap.size = sz ∧ va_P (dC, dI) vwP [(h0, .inr (11, [v11_0, v11_1, v11_2, v11_3, v11_4, v11_5, v11_6, v11_7, v11_8, v11_9, v11_10, v11_11, v11_12, v11_13, v11_14, .ref hma, v11_16])), (hma, .inr (5, [v5_0, .int r5_answer, .int (zI (z5_shownCount)), .int (zI (z5_steps)), .int (zI (z5_inputRead)), .int (zI (z5_ending)), v5_6, v5_7, v5_8, v5_9, v5_10]))] U.heap ∧ va_K (dC, dI) vwP [] U ∧ va_D (fun _ => True) [(h0, .inr (11, [v11_0, v11_1, v11_2, v11_3, v11_4, v11_5, v11_6, v11_7, v11_8, v11_9, v11_10, v11_11, v11_12, v11_13, v11_14, .ref hma, v11_16])), (hma, .inr (5, [v5_0, .int r5_answer, .int (zI (z5_shownCount)), .int (zI (z5_steps)), .int (zI (z5_inputRead)), .int (zI (z5_ending)), v5_6, v5_7, v5_8, v5_9, v5_10]))] ∧ vx_Zq Bundle.tN "UNASSIGNED_STACK" Bundle.steD (va_A [(h0, .inr (11, [v11_0, v11_1, v11_2, v11_3, v11_4, v11_5, v11_6, v11_7, v11_8, v11_9, v11_10, v11_11, v11_12, v11_13, v11_14, .ref hma, v11_16])), (hma, .inr (5, [v5_0, .int r5_answer, .int (zI (z5_shownCount)), .int (zI (z5_steps)), .int (zI (z5_inputRead)), .int (zI (z5_ending)), v5_6, v5_7, v5_8, v5_9, v5_10]))] sz) U U.heap ∧ vx_Zq Bundle.tN "SUPPRESSED_SENTINEL" Bundle.listD (va_A [(h0, .inr (11, [v11_0, v11_1, v11_2, v11_3, v11_4, v11_5, v11_6, v11_7, v11_8, v11_9, v11_10, v11_11, v11_12, v11_13, v11_14, .ref hma, v11_16])), (hma, .inr (5, [v5_0, .int r5_answer, .int (zI (z5_shownCount)), .int (zI (z5_steps)), .int (zI (z5_inputRead)), .int (zI (z5_ending)), v5_6, v5_7, v5_8, v5_9, v5_10]))] sz) U U.heap ∧ va_Nw (.castable "java/lang/IllegalArgumentException" "java/lang/IllegalArgumentException") U ∧ vk_R RX11 227 "nothing is told of that" sa_RX11_227 U ∧ va_Nw (.declares (Bundle.initS "java/lang/RuntimeException")) U ∧ va_Nw (.declares (Bundle.initS "java/lang/Exception")) U ∧ va_Nw (.declares (Bundle.initS "java/lang/Throwable")) U)) (va_Qi (fun (r : Int32) (_ : Unit) => True) (fun (_ : Unit) (t : State) => va_P (dC, dI) vwP [(h0, .inr (11, [v11_0, v11_1, v11_2, v11_3, v11_4, v11_5, v11_6, v11_7, v11_8, v11_9, v11_10, v11_11, v11_12, v11_13, v11_14, .ref hma, v11_16])), (hma, .inr (5, [v5_0, .int r5_answer, .int (zI (z5_shownCount)), .int (zI (z5_steps)), .int (zI (z5_inputRead)), .int (zI (z5_ending)), v5_6, v5_7, v5_8, v5_9, v5_10]))] t.heap ∧ va_K (dC, dI) vwP [] t ∧ va_D (va_A [(h0, .inr (11, [v11_0, v11_1, v11_2, v11_3, v11_4, v11_5, v11_6, v11_7, v11_8, v11_9, v11_10, v11_11, v11_12, v11_13, v11_14, .ref hma, v11_16])), (hma, .inr (5, [v5_0, .int r5_answer, .int (zI (z5_shownCount)), .int (zI (z5_steps)), .int (zI (z5_inputRead)), .int (zI (z5_ending)), v5_6, v5_7, v5_8, v5_9, v5_10]))] sz) [(h0, .inr (11, [v11_0, v11_1, v11_2, v11_3, v11_4, v11_5, v11_6, v11_7, v11_8, v11_9, v11_10, v11_11, v11_12, v11_13, v11_14, .ref hma, v11_16])), (hma, .inr (5, [v5_0, .int r5_answer, .int (zI (z5_shownCount)), .int (zI (z5_steps)), .int (zI (z5_inputRead)), .int (zI (z5_ending)), v5_6, v5_7, v5_8, v5_9, v5_10]))]) (va_A [(h0, .inr (11, [v11_0, v11_1, v11_2, v11_3, v11_4, v11_5, v11_6, v11_7, v11_8, v11_9, v11_10, v11_11, v11_12, v11_13, v11_14, .ref hma, v11_16])), (hma, .inr (5, [v5_0, .int r5_answer, .int (zI (z5_shownCount)), .int (zI (z5_steps)), .int (zI (z5_inputRead)), .int (zI (z5_ending)), v5_6, v5_7, v5_8, v5_9, v5_10]))] sz)) (vx_X (fun _ : Unit => True) (fun E (q9 : Addr) (_ : Unit) (t9 : State) => (E = "java/lang/IllegalArgumentException" ∧ va_P (dC, dI) vwP [(h0, .inr (11, [v11_0, v11_1, v11_2, v11_3, v11_4, v11_5, v11_6, v11_7, v11_8, v11_9, v11_10, v11_11, v11_12, v11_13, v11_14, .ref hma, v11_16])), (hma, .inr (5, [v5_0, .int r5_answer, .int (zI (z5_shownCount)), .int (zI (z5_steps)), .int (zI (z5_inputRead)), .int (zI (z5_ending)), v5_6, v5_7, v5_8, v5_9, v5_10]))] t9.heap ∧ va_D (va_A [(h0, .inr (11, [v11_0, v11_1, v11_2, v11_3, v11_4, v11_5, v11_6, v11_7, v11_8, v11_9, v11_10, v11_11, v11_12, v11_13, v11_14, .ref hma, v11_16])), (hma, .inr (5, [v5_0, .int r5_answer, .int (zI (z5_shownCount)), .int (zI (z5_steps)), .int (zI (z5_inputRead)), .int (zI (z5_ending)), v5_6, v5_7, v5_8, v5_9, v5_10]))] sz) [(h0, .inr (11, [v11_0, v11_1, v11_2, v11_3, v11_4, v11_5, v11_6, v11_7, v11_8, v11_9, v11_10, v11_11, v11_12, v11_13, v11_14, .ref hma, v11_16])), (hma, .inr (5, [v5_0, .int r5_answer, .int (zI (z5_shownCount)), .int (zI (z5_steps)), .int (zI (z5_inputRead)), .int (zI (z5_ending)), v5_6, v5_7, v5_8, v5_9, v5_10]))])) (va_A [(h0, .inr (11, [v11_0, v11_1, v11_2, v11_3, v11_4, v11_5, v11_6, v11_7, v11_8, v11_9, v11_10, v11_11, v11_12, v11_13, v11_14, .ref hma, v11_16])), (hma, .inr (5, [v5_0, .int r5_answer, .int (zI (z5_shownCount)), .int (zI (z5_steps)), .int (zI (z5_inputRead)), .int (zI (z5_ending)), v5_6, v5_7, v5_8, v5_9, v5_10]))] sz)) 1 6 (va_A [(h0, .inr (11, [v11_0, v11_1, v11_2, v11_3, v11_4, v11_5, v11_6, v11_7, v11_8, v11_9, v11_10, v11_11, v11_12, v11_13, v11_14, .ref hma, v11_16])), (hma, .inr (5, [v5_0, .int r5_answer, .int (zI (z5_shownCount)), .int (zI (z5_steps)), .int (zI (z5_inputRead)), .int (zI (z5_ending)), v5_6, v5_7, v5_8, v5_9, v5_10]))] sz) := by
  refine vx_ofW (cc := cX11_told) (maxL := 2) (ret := (some .int)) (by decide) rfl ?_
  intro p e s m args below meth c s₁ B hml hnt hv
  obtain ⟨rfl, hsz, hP, hK, hD0, hp0, hp1, hp2, hp3, hp4, hp5, hp6⟩ := hv
  have hx := B.exec
  have hb := B.bytes
  have hr := B.returns
  have hts := atoms_spec (ws := v_X11_told) B.pre
  have hown : s.vm.findClass RX11 = some m.cls := findClass_of_methodNamed B.named
  have hlocks := B.notSynchronized
  have ow : ∀ {k : Nat} {w : Cond}, o_X11_told[k]? = some w → w.before ([.ref h0, .int (zI (n0))] : List Value).toArray s = true := fun h => hts _ (mow_X11_told _ (List.mem_of_getElem? h))
  subst hsz
  have hD := hD0.self (sz := s.heap.size)
  generalize hAe : va_A [(h0, .inr (11, [v11_0, v11_1, v11_2, v11_3, v11_4, v11_5, v11_6, v11_7, v11_8, v11_9, v11_10, v11_11, v11_12, v11_13, v11_14, .ref hma, v11_16])), (hma, .inr (5, [v5_0, .int r5_answer, .int (zI (z5_shownCount)), .int (zI (z5_steps)), .int (zI (z5_inputRead)), .int (zI (z5_ending)), v5_6, v5_7, v5_8, v5_9, v5_10]))] s.heap.size = A at hD hp0 hp1 ⊢
  have hA : ∀ q : Nat, s.heap.size ≤ q → A q := fun q h => by rw [← hAe]; exact Or.inr h
  have hS : va_S A s.heap s.heap [] := va_S.rf
  have hP : va_P (dC, dI) vwP [(h0, .inr (11, [v11_0, v11_1, v11_2, v11_3, v11_4, v11_5, v11_6, v11_7, v11_8, v11_9, v11_10, v11_11, v11_12, v11_13, v11_14, .ref hma, v11_16])), (hma, .inr (5, [v5_0, .int r5_answer, .int (zI (z5_shownCount)), .int (zI (z5_steps)), .int (zI (z5_inputRead)), .int (zI (z5_ending)), v5_6, v5_7, v5_8, v5_9, v5_10]))] s.heap := hP
  have hl := lv_entry ([.ref h0, .int (zI (n0))]) (n := 2) (Nat.le_of_ble_eq_true rfl)
  rw [lg_entry_eq]
  generalize (lg_sl ([.ref h0, .int (zI (n0))]) ++ List.replicate (2 - (lg_sl ([.ref h0, .int (zI (n0))])).length) Slot.unset).toArray = ls at hl ⊢
  have hl : lv_has ls 2 [(0, .ref h0), (1, .int (zI (n0)))] := hl
  obtain ⟨H, hH⟩ : ∃ H, H = s.heap := ⟨_, rfl⟩
  rw [← hH] at hP
  have hS : va_S A s.heap H [] := by rw [hH]; exact hS
  rw [← hH]
  refine zW_cap (fun Q hQ => ?_)
  refine lv_iload_n hx hb dX11_told_0 rfl (lv_at hl 1 rfl) ?_
  by_cases s1_0 : n0 = 0
  · refine lv_tableIn (off := 35) (tgt := 36) hx hb dX11_told_1 (by rw [s1_0]; decide) (by rw [s1_0]; decide) (by rw [s1_0]; decide) (by decide) ?_
    refine lv_aload_n hx hb dX11_told_36 rfl (lv_at hl 0 rfl) ?_
    refine va_get (D := (dC, dI)) (ci := 11) (v := .ref hma) (C := RX11) (T := TX11) (N := 17) hx hb hts mem_X11_told_0 hown hK hP 0 rfl rfl 15 (by decide) (ow (k := 0) rfl) (fun _ h9 => h9) rfl dX11_told_37 ?_
    refine va_get (D := (dC, dI)) (ci := 5) (v := .int r5_answer) (C := RX5) (T := TX5) (N := 11) hx hb hts mem_X11_told_1 hown hK hP 1 rfl rfl 1 (by decide) (ow (k := 1) rfl) (fun _ h9 => h9) rfl dX11_told_40 ?_
    subst hQ
    refine W.widen (k := 1) (n := 6) (Nat.le_of_ble_eq_true rfl) (Nat.le_of_ble_eq_true rfl) ?_
    refine vx_ret ?_
    exact W.iret (v := r5_answer) hx hb hr (fun t ht hW => ⟨⟨r5_answer, (), rfl, trivial, by rw [ht]; exact hP, va_K.moved hW.alike hK, hD⟩, hS.F ht⟩) hS.2.2 dX11_told_43
  by_cases s1_1 : n0 = 1
  · refine lv_tableIn (off := 43) (tgt := 44) hx hb dX11_told_1 (by rw [s1_1]; decide) (by rw [s1_1]; decide) (by rw [s1_1]; decide) (by decide) ?_
    refine lv_aload_n hx hb dX11_told_44 rfl (lv_at hl 0 rfl) ?_
    refine va_get (D := (dC, dI)) (ci := 11) (v := .ref hma) (C := RX11) (T := TX11) (N := 17) hx hb hts mem_X11_told_0 hown hK hP 0 rfl rfl 15 (by decide) (ow (k := 0) rfl) (fun _ h9 => h9) rfl dX11_told_45 ?_
    refine va_get (D := (dC, dI)) (ci := 5) (v := .int (zI (z5_shownCount))) (C := RX5) (T := TX5) (N := 11) hx hb hts mem_X11_told_1 hown hK hP 1 rfl rfl 2 (by decide) (ow (k := 2) rfl) (fun _ h9 => h9) rfl dX11_told_48 ?_
    subst hQ
    refine W.widen (k := 1) (n := 6) (Nat.le_of_ble_eq_true rfl) (Nat.le_of_ble_eq_true rfl) ?_
    refine vx_ret ?_
    exact W.iret (v := (zI (z5_shownCount))) hx hb hr (fun t ht hW => ⟨⟨(zI (z5_shownCount)), (), rfl, trivial, by rw [ht]; exact hP, va_K.moved hW.alike hK, hD⟩, hS.F ht⟩) hS.2.2 dX11_told_51
  by_cases s1_2 : n0 = 2
  · refine lv_tableIn (off := 51) (tgt := 52) hx hb dX11_told_1 (by rw [s1_2]; decide) (by rw [s1_2]; decide) (by rw [s1_2]; decide) (by decide) ?_
    refine lv_aload_n hx hb dX11_told_52 rfl (lv_at hl 0 rfl) ?_
    refine va_get (D := (dC, dI)) (ci := 11) (v := .ref hma) (C := RX11) (T := TX11) (N := 17) hx hb hts mem_X11_told_0 hown hK hP 0 rfl rfl 15 (by decide) (ow (k := 0) rfl) (fun _ h9 => h9) rfl dX11_told_53 ?_
    refine va_get (D := (dC, dI)) (ci := 5) (v := .int (zI (z5_steps))) (C := RX5) (T := TX5) (N := 11) hx hb hts mem_X11_told_1 hown hK hP 1 rfl rfl 3 (by decide) (ow (k := 3) rfl) (fun _ h9 => h9) rfl dX11_told_56 ?_
    subst hQ
    refine W.widen (k := 1) (n := 6) (Nat.le_of_ble_eq_true rfl) (Nat.le_of_ble_eq_true rfl) ?_
    refine vx_ret ?_
    exact W.iret (v := (zI (z5_steps))) hx hb hr (fun t ht hW => ⟨⟨(zI (z5_steps)), (), rfl, trivial, by rw [ht]; exact hP, va_K.moved hW.alike hK, hD⟩, hS.F ht⟩) hS.2.2 dX11_told_59
  by_cases s1_3 : n0 = 3
  · refine lv_tableIn (off := 59) (tgt := 60) hx hb dX11_told_1 (by rw [s1_3]; decide) (by rw [s1_3]; decide) (by rw [s1_3]; decide) (by decide) ?_
    refine lv_aload_n hx hb dX11_told_60 rfl (lv_at hl 0 rfl) ?_
    refine va_get (D := (dC, dI)) (ci := 11) (v := .ref hma) (C := RX11) (T := TX11) (N := 17) hx hb hts mem_X11_told_0 hown hK hP 0 rfl rfl 15 (by decide) (ow (k := 0) rfl) (fun _ h9 => h9) rfl dX11_told_61 ?_
    refine va_get (D := (dC, dI)) (ci := 5) (v := .int (zI (z5_inputRead))) (C := RX5) (T := TX5) (N := 11) hx hb hts mem_X11_told_1 hown hK hP 1 rfl rfl 4 (by decide) (ow (k := 4) rfl) (fun _ h9 => h9) rfl dX11_told_64 ?_
    subst hQ
    refine W.widen (k := 1) (n := 6) (Nat.le_of_ble_eq_true rfl) (Nat.le_of_ble_eq_true rfl) ?_
    refine vx_ret ?_
    exact W.iret (v := (zI (z5_inputRead))) hx hb hr (fun t ht hW => ⟨⟨(zI (z5_inputRead)), (), rfl, trivial, by rw [ht]; exact hP, va_K.moved hW.alike hK, hD⟩, hS.F ht⟩) hS.2.2 dX11_told_67
  by_cases s1_4 : n0 = 4
  · refine lv_tableIn (off := 67) (tgt := 68) hx hb dX11_told_1 (by rw [s1_4]; decide) (by rw [s1_4]; decide) (by rw [s1_4]; decide) (by decide) ?_
    refine lv_aload_n hx hb dX11_told_68 rfl (lv_at hl 0 rfl) ?_
    refine va_get (D := (dC, dI)) (ci := 11) (v := .ref hma) (C := RX11) (T := TX11) (N := 17) hx hb hts mem_X11_told_0 hown hK hP 0 rfl rfl 15 (by decide) (ow (k := 0) rfl) (fun _ h9 => h9) rfl dX11_told_69 ?_
    refine va_get (D := (dC, dI)) (ci := 5) (v := .int (zI (z5_ending))) (C := RX5) (T := TX5) (N := 11) hx hb hts mem_X11_told_1 hown hK hP 1 rfl rfl 5 (by decide) (ow (k := 5) rfl) (fun _ h9 => h9) rfl dX11_told_72 ?_
    subst hQ
    refine W.widen (k := 1) (n := 6) (Nat.le_of_ble_eq_true rfl) (Nat.le_of_ble_eq_true rfl) ?_
    refine vx_ret ?_
    exact W.iret (v := (zI (z5_ending))) hx hb hr (fun t ht hW => ⟨⟨(zI (z5_ending)), (), rfl, trivial, by rw [ht]; exact hP, va_K.moved hW.alike hK, hD⟩, hS.F ht⟩) hS.2.2 dX11_told_75
  refine lv_tableOut (tgt := 76) hx hb dX11_told_1 (by rw [zI_toInt (by omega) (by omega)]; omega) (by decide) ?_
  subst hQ
  exact vx_throwS (names := ["java/lang/RuntimeException", "java/lang/Exception"]) (is := 227) (ik := 118) (ic := 122) hx hb hst hown (by decide) (by decide) (ow (k := 6) rfl) (ow (k := 7) rfl) hp3 (vx_hat (B := [Cond.declares (Bundle.initS "java/lang/RuntimeException"), Cond.declares (Bundle.initS "java/lang/Exception"), Cond.declares (Bundle.initS "java/lang/Throwable"), Cond.castable "java/lang/IllegalArgumentException" "java/lang/IllegalArgumentException"]) (fun w h => hts w (mem_X11_told_2 w h)) (nb_RX11_122) (vx_c (va_Nw.use rfl hp4) (vx_c (va_Nw.use rfl hp5) (vx_c (va_Nw.use rfl hp6) (vx_c (va_Nw.use rfl hp2) vx_n))))) (go_RX11_118_122) hp0 hp1 hS (hl.1.trans hml.symm) dX11_told_76 dX11_told_79 dX11_told_80 dX11_told_82 dX11_told_85 (fun x9 h9 => (hnt x9 h9).elim) (Nat.le_of_ble_eq_true rfl) (Nat.le_of_ble_eq_true rfl) (Nat.le_of_ble_eq_true rfl) (Nat.le_of_ble_eq_true rfl) hlocks (fun _ t ha hz9 hk9 => ⟨(), trivial, ⟨rfl, tp_kept hP hk9, hD⟩, Nat.le_trans hS.1 hz9, fun q h1 h2 => (hk9 q (Nat.lt_of_lt_of_le h1 hS.1)).trans (hS.2.1 q h1 h2)⟩) hS.2.2 (Nat.le_of_ble_eq_true rfl) (Nat.le_of_ble_eq_true rfl)
theorem dX11_shown_0 : decode cX11_shown 0 = .ok (.iload_n 1, 1) := by decide +kernel
theorem dX11_shown_1 : decode cX11_shown 1 = .ok (.ifCond .lt 14, 3) := by decide +kernel
theorem dX11_shown_15 : decode cX11_shown 15 = .ok (.new 107, 3) := by decide +kernel
theorem dX11_shown_18 : decode cX11_shown 18 = .ok (.dup, 1) := by decide +kernel
theorem dX11_shown_19 : decode cX11_shown 19 = .ok (.ldc 229, 2) := by decide +kernel
theorem dX11_shown_21 : decode cX11_shown 21 = .ok (.invokespecial 111, 3) := by decide +kernel
theorem dX11_shown_24 : decode cX11_shown 24 = .ok (.athrow, 1) := by decide +kernel
theorem dX11_shown_4 : decode cX11_shown 4 = .ok (.iload_n 1, 1) := by decide +kernel
theorem dX11_shown_5 : decode cX11_shown 5 = .ok (.aload_n 0, 1) := by decide +kernel
theorem dX11_shown_6 : decode cX11_shown 6 = .ok (.getfield 96, 3) := by decide +kernel
theorem dX11_shown_9 : decode cX11_shown 9 = .ok (.getfield 218, 3) := by decide +kernel
theorem dX11_shown_12 : decode cX11_shown 12 = .ok (.if_icmp .lt 13, 3) := by decide +kernel
theorem dX11_shown_25 : decode cX11_shown 25 = .ok (.aload_n 0, 1) := by decide +kernel
theorem dX11_shown_26 : decode cX11_shown 26 = .ok (.getfield 96, 3) := by decide +kernel
theorem dX11_shown_29 : decode cX11_shown 29 = .ok (.getfield 231, 3) := by decide +kernel
theorem dX11_shown_32 : decode cX11_shown 32 = .ok (.iload_n 1, 1) := by decide +kernel
theorem dX11_shown_33 : decode cX11_shown 33 = .ok (.iaload, 1) := by decide +kernel
theorem dX11_shown_34 : decode cX11_shown 34 = .ok (.ireturn, 1) := by decide +kernel
def o_X11_shown : List Cond := [.classLink RX11 107 "java/lang/IndexOutOfBoundsException", .initialized "java/lang/IndexOutOfBoundsException", .fieldLink RX11 96 "SsaForge" "machine" "LSsaForge$Machine;", .fieldLink RX11 218 "SsaForge$Machine" "shownCount" "I", .fieldLink RX11 231 "SsaForge$Machine" "shownInts" "[I"]
def v_X11_shown : List Cond := .code yX11_shown cX11_shown 2 (some .int) :: (o_X11_shown ++ (((vx_atS RX11 111 "java/lang/IndexOutOfBoundsException" ["java/lang/RuntimeException", "java/lang/Exception"]).filter goodWord) ++ (wsX110 ++ (wsX50 ++ []))))
theorem mow_X11_shown : ∀ w ∈ o_X11_shown, w ∈ v_X11_shown := fun _ h => List.mem_cons_of_mem _ (List.mem_append_left _ h)
theorem mem_X11_shown_0 : ∀ w ∈ ((vx_atS RX11 111 "java/lang/IndexOutOfBoundsException" ["java/lang/RuntimeException", "java/lang/Exception"]).filter goodWord), w ∈ v_X11_shown := fun _ h => List.mem_cons_of_mem _ (List.mem_append_right _ (List.mem_append_left _ h))
theorem mem_X11_shown_1 : ∀ w ∈ wsX110, w ∈ v_X11_shown := fun _ h => List.mem_cons_of_mem _ (List.mem_append_right _ (List.mem_append_right _ (List.mem_append_left _ h)))
theorem mem_X11_shown_2 : ∀ w ∈ wsX50, w ∈ v_X11_shown := fun _ h => List.mem_cons_of_mem _ (List.mem_append_right _ (List.mem_append_right _ (List.mem_append_right _ (List.mem_append_left _ h))))
set_option maxRecDepth 20000 in
theorem gw_X11_shown : v_X11_shown.all goodWord = true := by decide +kernel
set_option maxHeartbeats 4000000 in
set_option maxRecDepth 100000 in
theorem c_X11_shown (l : Launch) (dC : Nat → ClassId) (dI : Nat → Nat → Nat) (hst : l.stackTraces = false) (h0 : Nat) (v11_0 : Value) (v11_1 : Value) (v11_2 : Value) (v11_3 : Value) (v11_4 : Value) (v11_5 : Value) (v11_6 : Value) (v11_7 : Value) (v11_8 : Value) (v11_9 : Value) (v11_10 : Value) (v11_11 : Value) (v11_12 : Value) (v11_13 : Value) (v11_14 : Value) (v11_16 : Value) (hma : Nat) (v5_0 : Value) (v5_1 : Value) (z5_shownCount : Int) (v5_3 : Value) (v5_4 : Value) (v5_5 : Value) (q_506 : Nat) (cA_506 : ClassId) (fa5_shownInts : Nat → Int32) (v5_7 : Value) (v5_8 : Value) (v5_9 : Value) (v5_10 : Value) (n0 : Int) (hNz5_shownCount : 0 ≤ z5_shownCount ∧ z5_shownCount ≤ 512) (hNn : -2147483648 ≤ n0 ∧ n0 ≤ 2147483647) (sz : Nat) (sa_RX11_229 : Nat) : vx_Met l yX11_shown v_X11_shown ({ frames := 6, cells := 1, slots := 6, locals := 82 }) (va_Pc [.ref h0, .int (zI (n0))] (fun U => U.heap.size = sz ∧ va_P (dC, dI) vwP [(h0, .inr (11, [v11_0, v11_1, v11_2, v11_3, v11_4, v11_5, v11_6, v11_7, v11_8, v11_9, v11_10, v11_11, v11_12, v11_13, v11_14, .ref hma, v11_16])), (hma, .inr (5, [v5_0, v5_1, .int (zI (z5_shownCount)), v5_3, v5_4, v5_5, .ref q_506, v5_7, v5_8, v5_9, v5_10])), (q_506, .inl (cA_506, 512, .inl fa5_shownInts))] U.heap ∧ va_K (dC, dI) vwP [(cA_506, .int)] U ∧ va_D (fun _ => True) [(h0, .inr (11, [v11_0, v11_1, v11_2, v11_3, v11_4, v11_5, v11_6, v11_7, v11_8, v11_9, v11_10, v11_11, v11_12, v11_13, v11_14, .ref hma, v11_16])), (hma, .inr (5, [v5_0, v5_1, .int (zI (z5_shownCount)), v5_3, v5_4, v5_5, .ref q_506, v5_7, v5_8, v5_9, v5_10])), (q_506, .inl (cA_506, 512, .inl fa5_shownInts))] ∧ vx_Zq Bundle.tN "UNASSIGNED_STACK" Bundle.steD (va_A [(h0, .inr (11, [v11_0, v11_1, v11_2, v11_3, v11_4, v11_5, v11_6, v11_7, v11_8, v11_9, v11_10, v11_11, v11_12, v11_13, v11_14, .ref hma, v11_16])), (hma, .inr (5, [v5_0, v5_1, .int (zI (z5_shownCount)), v5_3, v5_4, v5_5, .ref q_506, v5_7, v5_8, v5_9, v5_10])), (q_506, .inl (cA_506, 512, .inl fa5_shownInts))] sz) U U.heap ∧ vx_Zq Bundle.tN "SUPPRESSED_SENTINEL" Bundle.listD (va_A [(h0, .inr (11, [v11_0, v11_1, v11_2, v11_3, v11_4, v11_5, v11_6, v11_7, v11_8, v11_9, v11_10, v11_11, v11_12, v11_13, v11_14, .ref hma, v11_16])), (hma, .inr (5, [v5_0, v5_1, .int (zI (z5_shownCount)), v5_3, v5_4, v5_5, .ref q_506, v5_7, v5_8, v5_9, v5_10])), (q_506, .inl (cA_506, 512, .inl fa5_shownInts))] sz) U U.heap ∧ va_Nw (.castable "java/lang/IndexOutOfBoundsException" "java/lang/IndexOutOfBoundsException") U ∧ vk_R RX11 229 "not so many were shown" sa_RX11_229 U ∧ va_Nw (.declares (Bundle.initS "java/lang/RuntimeException")) U ∧ va_Nw (.declares (Bundle.initS "java/lang/Exception")) U ∧ va_Nw (.declares (Bundle.initS "java/lang/Throwable")) U)) (va_Qi (fun (r : Int32) (_ : Unit) => True) (fun (_ : Unit) (t : State) => va_P (dC, dI) vwP [(h0, .inr (11, [v11_0, v11_1, v11_2, v11_3, v11_4, v11_5, v11_6, v11_7, v11_8, v11_9, v11_10, v11_11, v11_12, v11_13, v11_14, .ref hma, v11_16])), (hma, .inr (5, [v5_0, v5_1, .int (zI (z5_shownCount)), v5_3, v5_4, v5_5, .ref q_506, v5_7, v5_8, v5_9, v5_10])), (q_506, .inl (cA_506, 512, .inl fa5_shownInts))] t.heap ∧ va_K (dC, dI) vwP [(cA_506, .int)] t ∧ va_D (va_A [(h0, .inr (11, [v11_0, v11_1, v11_2, v11_3, v11_4, v11_5, v11_6, v11_7, v11_8, v11_9, v11_10, v11_11, v11_12, v11_13, v11_14, .ref hma, v11_16])), (hma, .inr (5, [v5_0, v5_1, .int (zI (z5_shownCount)), v5_3, v5_4, v5_5, .ref q_506, v5_7, v5_8, v5_9, v5_10])), (q_506, .inl (cA_506, 512, .inl fa5_shownInts))] sz) [(h0, .inr (11, [v11_0, v11_1, v11_2, v11_3, v11_4, v11_5, v11_6, v11_7, v11_8, v11_9, v11_10, v11_11, v11_12, v11_13, v11_14, .ref hma, v11_16])), (hma, .inr (5, [v5_0, v5_1, .int (zI (z5_shownCount)), v5_3, v5_4, v5_5, .ref q_506, v5_7, v5_8, v5_9, v5_10])), (q_506, .inl (cA_506, 512, .inl fa5_shownInts))]) (va_A [(h0, .inr (11, [v11_0, v11_1, v11_2, v11_3, v11_4, v11_5, v11_6, v11_7, v11_8, v11_9, v11_10, v11_11, v11_12, v11_13, v11_14, .ref hma, v11_16])), (hma, .inr (5, [v5_0, v5_1, .int (zI (z5_shownCount)), v5_3, v5_4, v5_5, .ref q_506, v5_7, v5_8, v5_9, v5_10])), (q_506, .inl (cA_506, 512, .inl fa5_shownInts))] sz)) (vx_X (fun _ : Unit => True) (fun E (q9 : Addr) (_ : Unit) (t9 : State) => (E = "java/lang/IndexOutOfBoundsException" ∧ va_P (dC, dI) vwP [(h0, .inr (11, [v11_0, v11_1, v11_2, v11_3, v11_4, v11_5, v11_6, v11_7, v11_8, v11_9, v11_10, v11_11, v11_12, v11_13, v11_14, .ref hma, v11_16])), (hma, .inr (5, [v5_0, v5_1, .int (zI (z5_shownCount)), v5_3, v5_4, v5_5, .ref q_506, v5_7, v5_8, v5_9, v5_10])), (q_506, .inl (cA_506, 512, .inl fa5_shownInts))] t9.heap ∧ va_D (va_A [(h0, .inr (11, [v11_0, v11_1, v11_2, v11_3, v11_4, v11_5, v11_6, v11_7, v11_8, v11_9, v11_10, v11_11, v11_12, v11_13, v11_14, .ref hma, v11_16])), (hma, .inr (5, [v5_0, v5_1, .int (zI (z5_shownCount)), v5_3, v5_4, v5_5, .ref q_506, v5_7, v5_8, v5_9, v5_10])), (q_506, .inl (cA_506, 512, .inl fa5_shownInts))] sz) [(h0, .inr (11, [v11_0, v11_1, v11_2, v11_3, v11_4, v11_5, v11_6, v11_7, v11_8, v11_9, v11_10, v11_11, v11_12, v11_13, v11_14, .ref hma, v11_16])), (hma, .inr (5, [v5_0, v5_1, .int (zI (z5_shownCount)), v5_3, v5_4, v5_5, .ref q_506, v5_7, v5_8, v5_9, v5_10])), (q_506, .inl (cA_506, 512, .inl fa5_shownInts))])) (va_A [(h0, .inr (11, [v11_0, v11_1, v11_2, v11_3, v11_4, v11_5, v11_6, v11_7, v11_8, v11_9, v11_10, v11_11, v11_12, v11_13, v11_14, .ref hma, v11_16])), (hma, .inr (5, [v5_0, v5_1, .int (zI (z5_shownCount)), v5_3, v5_4, v5_5, .ref q_506, v5_7, v5_8, v5_9, v5_10])), (q_506, .inl (cA_506, 512, .inl fa5_shownInts))] sz)) 1 6 (va_A [(h0, .inr (11, [v11_0, v11_1, v11_2, v11_3, v11_4, v11_5, v11_6, v11_7, v11_8, v11_9, v11_10, v11_11, v11_12, v11_13, v11_14, .ref hma, v11_16])), (hma, .inr (5, [v5_0, v5_1, .int (zI (z5_shownCount)), v5_3, v5_4, v5_5, .ref q_506, v5_7, v5_8, v5_9, v5_10])), (q_506, .inl (cA_506, 512, .inl fa5_shownInts))] sz) := by
  refine vx_ofW (cc := cX11_shown) (maxL := 2) (ret := (some .int)) (by decide) rfl ?_
  intro p e s m args below meth c s₁ B hml hnt hv
  obtain ⟨rfl, hsz, hP, hK, hD0, hp0, hp1, hp2, hp3, hp4, hp5, hp6⟩ := hv
  have hx := B.exec
  have hb := B.bytes
  have hr := B.returns
  have hts := atoms_spec (ws := v_X11_shown) B.pre
  have hown : s.vm.findClass RX11 = some m.cls := findClass_of_methodNamed B.named
  have hlocks := B.notSynchronized
  have ow : ∀ {k : Nat} {w : Cond}, o_X11_shown[k]? = some w → w.before ([.ref h0, .int (zI (n0))] : List Value).toArray s = true := fun h => hts _ (mow_X11_shown _ (List.mem_of_getElem? h))
  subst hsz
  have hD := hD0.self (sz := s.heap.size)
  generalize hAe : va_A [(h0, .inr (11, [v11_0, v11_1, v11_2, v11_3, v11_4, v11_5, v11_6, v11_7, v11_8, v11_9, v11_10, v11_11, v11_12, v11_13, v11_14, .ref hma, v11_16])), (hma, .inr (5, [v5_0, v5_1, .int (zI (z5_shownCount)), v5_3, v5_4, v5_5, .ref q_506, v5_7, v5_8, v5_9, v5_10])), (q_506, .inl (cA_506, 512, .inl fa5_shownInts))] s.heap.size = A at hD hp0 hp1 ⊢
  have hA : ∀ q : Nat, s.heap.size ≤ q → A q := fun q h => by rw [← hAe]; exact Or.inr h
  have hS : va_S A s.heap s.heap [] := va_S.rf
  have hP : va_P (dC, dI) vwP [(h0, .inr (11, [v11_0, v11_1, v11_2, v11_3, v11_4, v11_5, v11_6, v11_7, v11_8, v11_9, v11_10, v11_11, v11_12, v11_13, v11_14, .ref hma, v11_16])), (hma, .inr (5, [v5_0, v5_1, .int (zI (z5_shownCount)), v5_3, v5_4, v5_5, .ref q_506, v5_7, v5_8, v5_9, v5_10])), (q_506, .inl (cA_506, 512, .inl fa5_shownInts))] s.heap := hP
  have hl := lv_entry ([.ref h0, .int (zI (n0))]) (n := 2) (Nat.le_of_ble_eq_true rfl)
  rw [lg_entry_eq]
  generalize (lg_sl ([.ref h0, .int (zI (n0))]) ++ List.replicate (2 - (lg_sl ([.ref h0, .int (zI (n0))])).length) Slot.unset).toArray = ls at hl ⊢
  have hl : lv_has ls 2 [(0, .ref h0), (1, .int (zI (n0)))] := hl
  obtain ⟨H, hH⟩ : ∃ H, H = s.heap := ⟨_, rfl⟩
  rw [← hH] at hP
  have hS : va_S A s.heap H [] := by rw [hH]; exact hS
  rw [← hH]
  refine zW_cap (fun Q hQ => ?_)
  refine lv_iload_n hx hb dX11_shown_0 rfl (lv_at hl 1 rfl) ?_
  refine lv_if_lt (tgt := 15) hx hb dX11_shown_1 (by decide) (fun b1 => ?_) (fun b1 => ?_)
  · have yb1 : (n0 : Int) < (0 : Int) := (zI_lt (a := n0) (b := 0) (by omega) (by omega) (by omega) (by omega)).mp b1
    subst hQ
    exact vx_throwS (names := ["java/lang/RuntimeException", "java/lang/Exception"]) (is := 229) (ik := 107) (ic := 111) hx hb hst hown (by decide) (by decide) (ow (k := 0) rfl) (ow (k := 1) rfl) hp3 (vx_hat (B := [Cond.declares (Bundle.initS "java/lang/RuntimeException"), Cond.declares (Bundle.initS "java/lang/Exception"), Cond.declares (Bundle.initS "java/lang/Throwable"), Cond.castable "java/lang/IndexOutOfBoundsException" "java/lang/IndexOutOfBoundsException"]) (fun w h => hts w (mem_X11_shown_0 w h)) (nb_RX11_111) (vx_c (va_Nw.use rfl hp4) (vx_c (va_Nw.use rfl hp5) (vx_c (va_Nw.use rfl hp6) (vx_c (va_Nw.use rfl hp2) vx_n))))) (go_RX11_107_111) hp0 hp1 hS (hl.1.trans hml.symm) dX11_shown_15 dX11_shown_18 dX11_shown_19 dX11_shown_21 dX11_shown_24 (fun x9 h9 => (hnt x9 h9).elim) (Nat.le_of_ble_eq_true rfl) (Nat.le_of_ble_eq_true rfl) (Nat.le_of_ble_eq_true rfl) (Nat.le_of_ble_eq_true rfl) hlocks (fun _ t ha hz9 hk9 => ⟨(), trivial, ⟨rfl, tp_kept hP hk9, hD⟩, Nat.le_trans hS.1 hz9, fun q h1 h2 => (hk9 q (Nat.lt_of_lt_of_le h1 hS.1)).trans (hS.2.1 q h1 h2)⟩) hS.2.2 (Nat.le_of_ble_eq_true rfl) (Nat.le_of_ble_eq_true rfl)
  · have yb1 : ¬ (n0 : Int) < (0 : Int) := fun q => b1 ((zI_lt (a := n0) (b := 0) (by omega) (by omega) (by omega) (by omega)).mpr q)
    refine lv_iload_n hx hb dX11_shown_4 rfl (lv_at hl 1 rfl) ?_
    refine lv_aload_n hx hb dX11_shown_5 rfl (lv_at hl 0 rfl) ?_
    refine va_get (D := (dC, dI)) (ci := 11) (v := .ref hma) (C := RX11) (T := TX11) (N := 17) hx hb hts mem_X11_shown_1 hown hK hP 0 rfl rfl 15 (by decide) (ow (k := 2) rfl) (fun _ h9 => h9) rfl dX11_shown_6 ?_
    refine va_get (D := (dC, dI)) (ci := 5) (v := .int (zI (z5_shownCount))) (C := RX5) (T := TX5) (N := 11) hx hb hts mem_X11_shown_2 hown hK hP 1 rfl rfl 2 (by decide) (ow (k := 3) rfl) (fun _ h9 => h9) rfl dX11_shown_9 ?_
    refine lv_icmp_lt (tgt := 25) hx hb dX11_shown_12 (by decide) (fun b12 => ?_) (fun b12 => ?_)
    · have yb12 : (n0 : Int) < (z5_shownCount : Int) := (zI_lt (a := n0) (b := z5_shownCount) (by omega) (by omega) (by omega) (by omega)).mp b12
      refine lv_aload_n hx hb dX11_shown_25 rfl (lv_at hl 0 rfl) ?_
      refine va_get (D := (dC, dI)) (ci := 11) (v := .ref hma) (C := RX11) (T := TX11) (N := 17) hx hb hts mem_X11_shown_1 hown hK hP 0 rfl rfl 15 (by decide) (ow (k := 2) rfl) (fun _ h9 => h9) rfl dX11_shown_26 ?_
      refine va_get (D := (dC, dI)) (ci := 5) (v := .ref q_506) (C := RX5) (T := TX5) (N := 11) hx hb hts mem_X11_shown_2 hown hK hP 1 rfl rfl 6 (by decide) (ow (k := 4) rfl) (fun _ h9 => h9) rfl dX11_shown_29 ?_
      refine lv_iload_n hx hb dX11_shown_32 rfl (lv_at hl 1 rfl) ?_
      refine va_iald hx hb hK hP 2 0 rfl rfl (zI_in (a := n0) (n := 512) (by omega) (by omega) (by decide)) dX11_shown_33 ?_
      refine lv_topi (fun x_2001 _ => ?_)
      subst hQ
      refine W.widen (k := 1) (n := 6) (Nat.le_of_ble_eq_true rfl) (Nat.le_of_ble_eq_true rfl) ?_
      refine vx_ret ?_
      exact W.iret (v := x_2001) hx hb hr (fun t ht hW => ⟨⟨x_2001, (), rfl, trivial, by rw [ht]; exact hP, va_K.moved hW.alike hK, hD⟩, hS.F ht⟩) hS.2.2 dX11_shown_34
    · have yb12 : ¬ (n0 : Int) < (z5_shownCount : Int) := fun q => b12 ((zI_lt (a := n0) (b := z5_shownCount) (by omega) (by omega) (by omega) (by omega)).mpr q)
      subst hQ
      exact vx_throwS (names := ["java/lang/RuntimeException", "java/lang/Exception"]) (is := 229) (ik := 107) (ic := 111) hx hb hst hown (by decide) (by decide) (ow (k := 0) rfl) (ow (k := 1) rfl) hp3 (vx_hat (B := [Cond.declares (Bundle.initS "java/lang/RuntimeException"), Cond.declares (Bundle.initS "java/lang/Exception"), Cond.declares (Bundle.initS "java/lang/Throwable"), Cond.castable "java/lang/IndexOutOfBoundsException" "java/lang/IndexOutOfBoundsException"]) (fun w h => hts w (mem_X11_shown_0 w h)) (nb_RX11_111) (vx_c (va_Nw.use rfl hp4) (vx_c (va_Nw.use rfl hp5) (vx_c (va_Nw.use rfl hp6) (vx_c (va_Nw.use rfl hp2) vx_n))))) (go_RX11_107_111) hp0 hp1 hS (hl.1.trans hml.symm) dX11_shown_15 dX11_shown_18 dX11_shown_19 dX11_shown_21 dX11_shown_24 (fun x9 h9 => (hnt x9 h9).elim) (Nat.le_of_ble_eq_true rfl) (Nat.le_of_ble_eq_true rfl) (Nat.le_of_ble_eq_true rfl) (Nat.le_of_ble_eq_true rfl) hlocks (fun _ t ha hz9 hk9 => ⟨(), trivial, ⟨rfl, tp_kept hP hk9, hD⟩, Nat.le_trans hS.1 hz9, fun q h1 h2 => (hk9 q (Nat.lt_of_lt_of_le h1 hS.1)).trans (hS.2.1 q h1 h2)⟩) hS.2.2 (Nat.le_of_ble_eq_true rfl) (Nat.le_of_ble_eq_true rfl)
theorem dX11_word_0 : decode cX11_word 0 = .ok (.iload_n 1, 1) := by decide +kernel
theorem dX11_word_1 : decode cX11_word 1 = .ok (.ifCond .lt 14, 3) := by decide +kernel
theorem dX11_word_15 : decode cX11_word 15 = .ok (.new 107, 3) := by decide +kernel
theorem dX11_word_18 : decode cX11_word 18 = .ok (.dup, 1) := by decide +kernel
theorem dX11_word_19 : decode cX11_word 19 = .ok (.ldc_w 285, 3) := by decide +kernel
theorem dX11_word_22 : decode cX11_word 22 = .ok (.invokespecial 111, 3) := by decide +kernel
theorem dX11_word_25 : decode cX11_word 25 = .ok (.athrow, 1) := by decide +kernel
theorem dX11_word_4 : decode cX11_word 4 = .ok (.iload_n 1, 1) := by decide +kernel
theorem dX11_word_5 : decode cX11_word 5 = .ok (.aload_n 0, 1) := by decide +kernel
theorem dX11_word_6 : decode cX11_word 6 = .ok (.getfield 103, 3) := by decide +kernel
theorem dX11_word_9 : decode cX11_word 9 = .ok (.getfield 240, 3) := by decide +kernel
theorem dX11_word_12 : decode cX11_word 12 = .ok (.if_icmp .lt 14, 3) := by decide +kernel
theorem dX11_word_26 : decode cX11_word 26 = .ok (.aload_n 0, 1) := by decide +kernel
theorem dX11_word_27 : decode cX11_word 27 = .ok (.getfield 103, 3) := by decide +kernel
theorem dX11_word_30 : decode cX11_word 30 = .ok (.iload_n 1, 1) := by decide +kernel
theorem dX11_word_31 : decode cX11_word 31 = .ok (.invokevirtual 287, 3) := by decide +kernel
theorem dX11_word_34 : decode cX11_word 34 = .ok (.lreturn, 1) := by decide +kernel
def o_X11_word : List Cond := [.classLink RX11 107 "java/lang/IndexOutOfBoundsException", .initialized "java/lang/IndexOutOfBoundsException", .fieldLink RX11 103 "SsaForge" "printer" "LSsaForge$Printer;", .fieldLink RX11 240 "SsaForge$Printer" "length" "I", .methodLink RX11 287 yX6_eightBytes, .instanceMethod yX6_eightBytes, .selects RX6 yX6_eightBytes yX6_eightBytes, .initialized RX6]
def v_X11_word : List Cond := .code yX11_word cX11_word 2 (some .long) :: (o_X11_word ++ (((vx_atS RX11 111 "java/lang/IndexOutOfBoundsException" ["java/lang/RuntimeException", "java/lang/Exception"]).filter goodWord) ++ (wsX110 ++ (wsX60 ++ (v_X6_eightBytes ++ [])))))
theorem mow_X11_word : ∀ w ∈ o_X11_word, w ∈ v_X11_word := fun _ h => List.mem_cons_of_mem _ (List.mem_append_left _ h)
theorem mem_X11_word_0 : ∀ w ∈ ((vx_atS RX11 111 "java/lang/IndexOutOfBoundsException" ["java/lang/RuntimeException", "java/lang/Exception"]).filter goodWord), w ∈ v_X11_word := fun _ h => List.mem_cons_of_mem _ (List.mem_append_right _ (List.mem_append_left _ h))
theorem mem_X11_word_1 : ∀ w ∈ wsX110, w ∈ v_X11_word := fun _ h => List.mem_cons_of_mem _ (List.mem_append_right _ (List.mem_append_right _ (List.mem_append_left _ h)))
theorem mem_X11_word_2 : ∀ w ∈ wsX60, w ∈ v_X11_word := fun _ h => List.mem_cons_of_mem _ (List.mem_append_right _ (List.mem_append_right _ (List.mem_append_right _ (List.mem_append_left _ h))))
theorem mem_X11_word_3 : ∀ w ∈ v_X6_eightBytes, w ∈ v_X11_word := fun _ h => List.mem_cons_of_mem _ (List.mem_append_right _ (List.mem_append_right _ (List.mem_append_right _ (List.mem_append_right _ (List.mem_append_left _ h)))))
set_option maxRecDepth 20000 in
theorem gw_X11_word : v_X11_word.all goodWord = true := by decide +kernel
set_option maxRecDepth 20000 in
theorem g_X11_word_X6_eightBytes : GoodIn v_X11_word (wsV RX11 287 RX6 yX6_eightBytes v_X6_eightBytes) := goodIn_app (goodIn_sub (fun w h => mow_X11_word w (by revert w h; decide +kernel)) (by decide +kernel)) (goodIn_sub mem_X11_word_3 gw_X6_eightBytes)
set_option maxHeartbeats 4000000 in
set_option maxRecDepth 100000 in
theorem c_X11_word (l : Launch) (dC : Nat → ClassId) (dI : Nat → Nat → Nat) (hst : l.stackTraces = false) (h0 : Nat) (v11_0 : Value) (v11_1 : Value) (v11_2 : Value) (v11_3 : Value) (v11_4 : Value) (v11_5 : Value) (v11_6 : Value) (v11_7 : Value) (v11_8 : Value) (v11_9 : Value) (v11_10 : Value) (v11_11 : Value) (v11_12 : Value) (v11_13 : Value) (v11_14 : Value) (v11_15 : Value) (hpr : Nat) (z6_length : Int) (v6_2 : Value) (v6_3 : Value) (v6_4 : Value) (q_601 : Nat) (cA_601 : ClassId) (ny6 : Nat) (fa6_result : Nat → Int32) (n0 : Int) (hNz6_length : 0 ≤ z6_length ∧ z6_length ≤ 65536) (hNny6 : ny6 ≤ 65536) (hNn : -2147483648 ≤ n0 ∧ n0 ≤ 2147483647) (hNl : z6_length ≤ ny6) (sz : Nat) (sa_RX11_285 : Nat) : vx_Met l yX11_word v_X11_word ({ frames := 6, cells := 1, slots := 6, locals := 82 }) (va_Pc [.ref h0, .int (zI (n0))] (fun U => U.heap.size = sz ∧ va_P (dC, dI) vwP [(h0, .inr (11, [v11_0, v11_1, v11_2, v11_3, v11_4, v11_5, v11_6, v11_7, v11_8, v11_9, v11_10, v11_11, v11_12, v11_13, v11_14, v11_15, .ref hpr])), (hpr, .inr (6, [.int (zI (z6_length)), .ref q_601, v6_2, v6_3, v6_4])), (q_601, .inl (cA_601, ny6, .inl fa6_result))] U.heap ∧ va_K (dC, dI) vwP [(cA_601, .byte)] U ∧ va_D (fun _ => True) [(h0, .inr (11, [v11_0, v11_1, v11_2, v11_3, v11_4, v11_5, v11_6, v11_7, v11_8, v11_9, v11_10, v11_11, v11_12, v11_13, v11_14, v11_15, .ref hpr])), (hpr, .inr (6, [.int (zI (z6_length)), .ref q_601, v6_2, v6_3, v6_4])), (q_601, .inl (cA_601, ny6, .inl fa6_result))] ∧ vx_Zq Bundle.tN "UNASSIGNED_STACK" Bundle.steD (va_A [(h0, .inr (11, [v11_0, v11_1, v11_2, v11_3, v11_4, v11_5, v11_6, v11_7, v11_8, v11_9, v11_10, v11_11, v11_12, v11_13, v11_14, v11_15, .ref hpr])), (hpr, .inr (6, [.int (zI (z6_length)), .ref q_601, v6_2, v6_3, v6_4])), (q_601, .inl (cA_601, ny6, .inl fa6_result))] sz) U U.heap ∧ vx_Zq Bundle.tN "SUPPRESSED_SENTINEL" Bundle.listD (va_A [(h0, .inr (11, [v11_0, v11_1, v11_2, v11_3, v11_4, v11_5, v11_6, v11_7, v11_8, v11_9, v11_10, v11_11, v11_12, v11_13, v11_14, v11_15, .ref hpr])), (hpr, .inr (6, [.int (zI (z6_length)), .ref q_601, v6_2, v6_3, v6_4])), (q_601, .inl (cA_601, ny6, .inl fa6_result))] sz) U U.heap ∧ va_Nw (.castable "java/lang/IndexOutOfBoundsException" "java/lang/IndexOutOfBoundsException") U ∧ vk_R RX11 285 "none of the bytes of the result" sa_RX11_285 U ∧ va_Nw (.declares (Bundle.initS "java/lang/RuntimeException")) U ∧ va_Nw (.declares (Bundle.initS "java/lang/Exception")) U ∧ va_Nw (.declares (Bundle.initS "java/lang/Throwable")) U)) (va_Ql (fun (r : Int64) (_ : Unit) => True) (fun (_ : Unit) (t : State) => va_P (dC, dI) vwP [(h0, .inr (11, [v11_0, v11_1, v11_2, v11_3, v11_4, v11_5, v11_6, v11_7, v11_8, v11_9, v11_10, v11_11, v11_12, v11_13, v11_14, v11_15, .ref hpr])), (hpr, .inr (6, [.int (zI (z6_length)), .ref q_601, v6_2, v6_3, v6_4])), (q_601, .inl (cA_601, ny6, .inl fa6_result))] t.heap ∧ va_K (dC, dI) vwP [(cA_601, .byte)] t ∧ va_D (va_A [(h0, .inr (11, [v11_0, v11_1, v11_2, v11_3, v11_4, v11_5, v11_6, v11_7, v11_8, v11_9, v11_10, v11_11, v11_12, v11_13, v11_14, v11_15, .ref hpr])), (hpr, .inr (6, [.int (zI (z6_length)), .ref q_601, v6_2, v6_3, v6_4])), (q_601, .inl (cA_601, ny6, .inl fa6_result))] sz) [(h0, .inr (11, [v11_0, v11_1, v11_2, v11_3, v11_4, v11_5, v11_6, v11_7, v11_8, v11_9, v11_10, v11_11, v11_12, v11_13, v11_14, v11_15, .ref hpr])), (hpr, .inr (6, [.int (zI (z6_length)), .ref q_601, v6_2, v6_3, v6_4])), (q_601, .inl (cA_601, ny6, .inl fa6_result))]) (va_A [(h0, .inr (11, [v11_0, v11_1, v11_2, v11_3, v11_4, v11_5, v11_6, v11_7, v11_8, v11_9, v11_10, v11_11, v11_12, v11_13, v11_14, v11_15, .ref hpr])), (hpr, .inr (6, [.int (zI (z6_length)), .ref q_601, v6_2, v6_3, v6_4])), (q_601, .inl (cA_601, ny6, .inl fa6_result))] sz)) (vx_X (fun _ : Unit => True) (fun E (q9 : Addr) (_ : Unit) (t9 : State) => (E = "java/lang/IndexOutOfBoundsException" ∧ va_P (dC, dI) vwP [(h0, .inr (11, [v11_0, v11_1, v11_2, v11_3, v11_4, v11_5, v11_6, v11_7, v11_8, v11_9, v11_10, v11_11, v11_12, v11_13, v11_14, v11_15, .ref hpr])), (hpr, .inr (6, [.int (zI (z6_length)), .ref q_601, v6_2, v6_3, v6_4])), (q_601, .inl (cA_601, ny6, .inl fa6_result))] t9.heap ∧ va_D (va_A [(h0, .inr (11, [v11_0, v11_1, v11_2, v11_3, v11_4, v11_5, v11_6, v11_7, v11_8, v11_9, v11_10, v11_11, v11_12, v11_13, v11_14, v11_15, .ref hpr])), (hpr, .inr (6, [.int (zI (z6_length)), .ref q_601, v6_2, v6_3, v6_4])), (q_601, .inl (cA_601, ny6, .inl fa6_result))] sz) [(h0, .inr (11, [v11_0, v11_1, v11_2, v11_3, v11_4, v11_5, v11_6, v11_7, v11_8, v11_9, v11_10, v11_11, v11_12, v11_13, v11_14, v11_15, .ref hpr])), (hpr, .inr (6, [.int (zI (z6_length)), .ref q_601, v6_2, v6_3, v6_4])), (q_601, .inl (cA_601, ny6, .inl fa6_result))])) (va_A [(h0, .inr (11, [v11_0, v11_1, v11_2, v11_3, v11_4, v11_5, v11_6, v11_7, v11_8, v11_9, v11_10, v11_11, v11_12, v11_13, v11_14, v11_15, .ref hpr])), (hpr, .inr (6, [.int (zI (z6_length)), .ref q_601, v6_2, v6_3, v6_4])), (q_601, .inl (cA_601, ny6, .inl fa6_result))] sz)) 1 6 (va_A [(h0, .inr (11, [v11_0, v11_1, v11_2, v11_3, v11_4, v11_5, v11_6, v11_7, v11_8, v11_9, v11_10, v11_11, v11_12, v11_13, v11_14, v11_15, .ref hpr])), (hpr, .inr (6, [.int (zI (z6_length)), .ref q_601, v6_2, v6_3, v6_4])), (q_601, .inl (cA_601, ny6, .inl fa6_result))] sz) := by
  refine vx_ofW (cc := cX11_word) (maxL := 2) (ret := (some .long)) (by decide) rfl ?_
  intro p e s m args below meth c s₁ B hml hnt hv
  obtain ⟨rfl, hsz, hP, hK, hD0, hp0, hp1, hp2, hp3, hp4, hp5, hp6⟩ := hv
  have hx := B.exec
  have hb := B.bytes
  have hr := B.returns
  have hts := atoms_spec (ws := v_X11_word) B.pre
  have hown : s.vm.findClass RX11 = some m.cls := findClass_of_methodNamed B.named
  have hlocks := B.notSynchronized
  have ow : ∀ {k : Nat} {w : Cond}, o_X11_word[k]? = some w → w.before ([.ref h0, .int (zI (n0))] : List Value).toArray s = true := fun h => hts _ (mow_X11_word _ (List.mem_of_getElem? h))
  subst hsz
  have hD := hD0.self (sz := s.heap.size)
  generalize hAe : va_A [(h0, .inr (11, [v11_0, v11_1, v11_2, v11_3, v11_4, v11_5, v11_6, v11_7, v11_8, v11_9, v11_10, v11_11, v11_12, v11_13, v11_14, v11_15, .ref hpr])), (hpr, .inr (6, [.int (zI (z6_length)), .ref q_601, v6_2, v6_3, v6_4])), (q_601, .inl (cA_601, ny6, .inl fa6_result))] s.heap.size = A at hD hp0 hp1 ⊢
  have hA : ∀ q : Nat, s.heap.size ≤ q → A q := fun q h => by rw [← hAe]; exact Or.inr h
  have hS : va_S A s.heap s.heap [] := va_S.rf
  have hP : va_P (dC, dI) vwP [(h0, .inr (11, [v11_0, v11_1, v11_2, v11_3, v11_4, v11_5, v11_6, v11_7, v11_8, v11_9, v11_10, v11_11, v11_12, v11_13, v11_14, v11_15, .ref hpr])), (hpr, .inr (6, [.int (zI (z6_length)), .ref q_601, v6_2, v6_3, v6_4])), (q_601, .inl (cA_601, ny6, .inl fa6_result))] s.heap := hP
  have hl := lv_entry ([.ref h0, .int (zI (n0))]) (n := 2) (Nat.le_of_ble_eq_true rfl)
  rw [lg_entry_eq]
  generalize (lg_sl ([.ref h0, .int (zI (n0))]) ++ List.replicate (2 - (lg_sl ([.ref h0, .int (zI (n0))])).length) Slot.unset).toArray = ls at hl ⊢
  have hl : lv_has ls 2 [(0, .ref h0), (1, .int (zI (n0)))] := hl
  obtain ⟨H, hH⟩ : ∃ H, H = s.heap := ⟨_, rfl⟩
  rw [← hH] at hP
  have hS : va_S A s.heap H [] := by rw [hH]; exact hS
  rw [← hH]
  refine zW_cap (fun Q hQ => ?_)
  refine lv_iload_n hx hb dX11_word_0 rfl (lv_at hl 1 rfl) ?_
  refine lv_if_lt (tgt := 15) hx hb dX11_word_1 (by decide) (fun b1 => ?_) (fun b1 => ?_)
  · have yb1 : (n0 : Int) < (0 : Int) := (zI_lt (a := n0) (b := 0) (by omega) (by omega) (by omega) (by omega)).mp b1
    subst hQ
    exact vx_throwSW (names := ["java/lang/RuntimeException", "java/lang/Exception"]) (is := 285) (ik := 107) (ic := 111) hx hb hst hown (by decide) (by decide) (ow (k := 0) rfl) (ow (k := 1) rfl) hp3 (vx_hat (B := [Cond.declares (Bundle.initS "java/lang/RuntimeException"), Cond.declares (Bundle.initS "java/lang/Exception"), Cond.declares (Bundle.initS "java/lang/Throwable"), Cond.castable "java/lang/IndexOutOfBoundsException" "java/lang/IndexOutOfBoundsException"]) (fun w h => hts w (mem_X11_word_0 w h)) (nb_RX11_111) (vx_c (va_Nw.use rfl hp4) (vx_c (va_Nw.use rfl hp5) (vx_c (va_Nw.use rfl hp6) (vx_c (va_Nw.use rfl hp2) vx_n))))) (go_RX11_107_111) hp0 hp1 hS (hl.1.trans hml.symm) dX11_word_15 dX11_word_18 dX11_word_19 dX11_word_22 dX11_word_25 (fun x9 h9 => (hnt x9 h9).elim) (Nat.le_of_ble_eq_true rfl) (Nat.le_of_ble_eq_true rfl) (Nat.le_of_ble_eq_true rfl) (Nat.le_of_ble_eq_true rfl) hlocks (fun _ t ha hz9 hk9 => ⟨(), trivial, ⟨rfl, tp_kept hP hk9, hD⟩, Nat.le_trans hS.1 hz9, fun q h1 h2 => (hk9 q (Nat.lt_of_lt_of_le h1 hS.1)).trans (hS.2.1 q h1 h2)⟩) hS.2.2 (Nat.le_of_ble_eq_true rfl) (Nat.le_of_ble_eq_true rfl)
  · have yb1 : ¬ (n0 : Int) < (0 : Int) := fun q => b1 ((zI_lt (a := n0) (b := 0) (by omega) (by omega) (by omega) (by omega)).mpr q)
    refine lv_iload_n hx hb dX11_word_4 rfl (lv_at hl 1 rfl) ?_
    refine lv_aload_n hx hb dX11_word_5 rfl (lv_at hl 0 rfl) ?_
    refine va_get (D := (dC, dI)) (ci := 11) (v := .ref hpr) (C := RX11) (T := TX11) (N := 17) hx hb hts mem_X11_word_1 hown hK hP 0 rfl rfl 16 (by decide) (ow (k := 2) rfl) (fun _ h9 => h9) rfl dX11_word_6 ?_
    refine va_get (D := (dC, dI)) (ci := 6) (v := .int (zI (z6_length))) (C := RX6) (T := TX6) (N := 5) hx hb hts mem_X11_word_2 hown hK hP 1 rfl rfl 0 (by decide) (ow (k := 3) rfl) (fun _ h9 => h9) rfl dX11_word_9 ?_
    refine lv_icmp_lt (tgt := 26) hx hb dX11_word_12 (by decide) (fun b12 => ?_) (fun b12 => ?_)
    · have yb12 : (n0 : Int) < (z6_length : Int) := (zI_lt (a := n0) (b := z6_length) (by omega) (by omega) (by omega) (by omega)).mp b12
      refine lv_aload_n hx hb dX11_word_26 rfl (lv_at hl 0 rfl) ?_
      refine va_get (D := (dC, dI)) (ci := 11) (v := .ref hpr) (C := RX11) (T := TX11) (N := 17) hx hb hts mem_X11_word_1 hown hK hP 0 rfl rfl 16 (by decide) (ow (k := 2) rfl) (fun _ h9 => h9) rfl dX11_word_27 ?_
      refine lv_iload_n hx hb dX11_word_30 rfl (lv_at hl 1 rfl) ?_
      have hPc := hP.sub (ws' := [(hpr, .inr (6, [.int (zI (z6_length)), .ref q_601, v6_2, v6_3, v6_4])), (q_601, .inl (cA_601, ny6, .inl fa6_result))]) [1, 2] rfl
      have hDc := hD.sub (ws' := [(hpr, .inr (6, [.int (zI (z6_length)), .ref q_601, v6_2, v6_3, v6_4])), (q_601, .inl (cA_601, ny6, .inl fa6_result))]) [1, 2] (by decide) rfl
      have hKc := hK.sub (tys' := [(cA_601, .byte)]) [0] rfl
      have hFc := va_free (wc := [(hpr, .inr (6, [.int (zI (z6_length)), .ref q_601, v6_2, v6_3, v6_4])), (q_601, .inl (cA_601, ny6, .inl fa6_result))]) hD hS hA [1, 2] rfl
      refine va_calll (va_runV (As := [.int (zI (n0))]) (rest := []) ⟨hx, hb, hml, hown, hts⟩ (c_X6_eightBytes l dC dI hpr z6_length v6_2 v6_3 v6_4 q_601 cA_601 ny6 fa6_result n0 (by omega) (by omega) (by omega) H.size) (cwV 1 hts g_X11_word_X6_eightBytes rfl rfl rfl (by decide +kernel) ⟨(Nat.le_of_ble_eq_true rfl), (Nat.le_of_ble_eq_true rfl)⟩) ⟨fun a U g mk q => by obtain ⟨q0, q1, qP, qK, qD⟩ := q; exact ⟨q0, q1, qP, va_K.moved (u := U) (U := U.calling g mk a) (Vm.Alike.refl U.vm) qK, qD⟩, va_recv hKc hPc (ci := 6) (q0 := 0) rfl rfl, fun U hU hW => ⟨rfl, by rw [hU], by rw [hU]; exact hPc, va_K.moved hW.alike hKc, hDc.weaken (fun _ _ _ _ => trivial)⟩⟩ rfl rfl hl.1 rfl (lv_room (Nat.le_of_ble_eq_true rfl)) dX11_word_31 ⟨(Nat.le_of_ble_eq_true rfl), (Nat.le_of_ble_eq_true rfl)⟩) hS (fun q _ h => hFc q h) hFc (fun r_2001 u t H1 locs ht hvm hw hB hz1 hk1 hS => ?_)
      obtain ⟨hP1, hK1, hD1⟩ := hB
      rw [ht] at hP1
      have hK1 := va_K.moved hvm.symm hK1
      obtain ⟨hP, hD⟩ := va_join (wr := [(h0, .inr (11, [v11_0, v11_1, v11_2, v11_3, v11_4, v11_5, v11_6, v11_7, v11_8, v11_9, v11_10, v11_11, v11_12, v11_13, v11_14, v11_15, .ref hpr]))]) (w1 := [(hpr, .inr (6, [.int (zI (z6_length)), .ref q_601, v6_2, v6_3, v6_4])), (q_601, .inl (cA_601, ny6, .inl fa6_result))]) hP hD [1, 2] [0] rfl rfl (by decide) (by decide) hk1 hFc hP1 hD1
      have hK := (hK.sub (tys' := []) [] rfl).app hK1
      generalize H1 = H at hP hS ⊢
      have hP : va_P (dC, dI) vwP [(h0, .inr (11, [v11_0, v11_1, v11_2, v11_3, v11_4, v11_5, v11_6, v11_7, v11_8, v11_9, v11_10, v11_11, v11_12, v11_13, v11_14, v11_15, .ref hpr])), (hpr, .inr (6, [.int (zI (z6_length)), .ref q_601, v6_2, v6_3, v6_4])), (q_601, .inl (cA_601, ny6, .inl fa6_result))] H := hP
      have hD : va_D A [(h0, .inr (11, [v11_0, v11_1, v11_2, v11_3, v11_4, v11_5, v11_6, v11_7, v11_8, v11_9, v11_10, v11_11, v11_12, v11_13, v11_14, v11_15, .ref hpr])), (hpr, .inr (6, [.int (zI (z6_length)), .ref q_601, v6_2, v6_3, v6_4])), (q_601, .inl (cA_601, ny6, .inl fa6_result))] := hD
      have hK : va_K (dC, dI) vwP [(cA_601, .byte)] s := hK
      refine W.widen (k := 0) (n := 0) (Nat.le_of_ble_eq_true rfl) (Nat.le_of_ble_eq_true rfl) ?_
      subst hQ
      refine W.widen (k := 1) (n := 6) (Nat.le_of_ble_eq_true rfl) (Nat.le_of_ble_eq_true rfl) ?_
      refine vx_ret ?_
      exact W.lret (v := r_2001) hx hb hr (fun t ht hW => ⟨⟨r_2001, (), rfl, trivial, by rw [ht]; exact hP, va_K.moved hW.alike hK, hD⟩, hS.F ht⟩) hS.2.2 dX11_word_34
    · have yb12 : ¬ (n0 : Int) < (z6_length : Int) := fun q => b12 ((zI_lt (a := n0) (b := z6_length) (by omega) (by omega) (by omega) (by omega)).mpr q)
      subst hQ
      exact vx_throwSW (names := ["java/lang/RuntimeException", "java/lang/Exception"]) (is := 285) (ik := 107) (ic := 111) hx hb hst hown (by decide) (by decide) (ow (k := 0) rfl) (ow (k := 1) rfl) hp3 (vx_hat (B := [Cond.declares (Bundle.initS "java/lang/RuntimeException"), Cond.declares (Bundle.initS "java/lang/Exception"), Cond.declares (Bundle.initS "java/lang/Throwable"), Cond.castable "java/lang/IndexOutOfBoundsException" "java/lang/IndexOutOfBoundsException"]) (fun w h => hts w (mem_X11_word_0 w h)) (nb_RX11_111) (vx_c (va_Nw.use rfl hp4) (vx_c (va_Nw.use rfl hp5) (vx_c (va_Nw.use rfl hp6) (vx_c (va_Nw.use rfl hp2) vx_n))))) (go_RX11_107_111) hp0 hp1 hS (hl.1.trans hml.symm) dX11_word_15 dX11_word_18 dX11_word_19 dX11_word_22 dX11_word_25 (fun x9 h9 => (hnt x9 h9).elim) (Nat.le_of_ble_eq_true rfl) (Nat.le_of_ble_eq_true rfl) (Nat.le_of_ble_eq_true rfl) (Nat.le_of_ble_eq_true rfl) hlocks (fun _ t ha hz9 hk9 => ⟨(), trivial, ⟨rfl, tp_kept hP hk9, hD⟩, Nat.le_trans hS.1 hz9, fun q h1 h2 => (hk9 q (Nat.lt_of_lt_of_le h1 hS.1)).trans (hS.2.1 q h1 h2)⟩) hS.2.2 (Nat.le_of_ble_eq_true rfl) (Nat.le_of_ble_eq_true rfl)
