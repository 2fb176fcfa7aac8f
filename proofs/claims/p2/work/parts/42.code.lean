theorem dX0_goalCount_0 : decode cX0_goalCount 0 = .ok (.aload_n 0, 1) := by decide +kernel
theorem dX0_goalCount_1 : decode cX0_goalCount 1 = .ok (.getfield 41, 3) := by decide +kernel
theorem dX0_goalCount_4 : decode cX0_goalCount 4 = .ok (.iload_n 1, 1) := by decide +kernel
theorem dX0_goalCount_5 : decode cX0_goalCount 5 = .ok (.iaload, 1) := by decide +kernel
theorem dX0_goalCount_6 : decode cX0_goalCount 6 = .ok (.iconst 2, 1) := by decide +kernel
theorem dX0_goalCount_7 : decode cX0_goalCount 7 = .ok (.if_icmp .ne 5, 3) := by decide +kernel
theorem dX0_goalCount_12 : decode cX0_goalCount 12 = .ok (.aload_n 0, 1) := by decide +kernel
theorem dX0_goalCount_13 : decode cX0_goalCount 13 = .ok (.getfield 47, 3) := by decide +kernel
theorem dX0_goalCount_16 : decode cX0_goalCount 16 = .ok (.iload_n 1, 1) := by decide +kernel
theorem dX0_goalCount_17 : decode cX0_goalCount 17 = .ok (.iaload, 1) := by decide +kernel
theorem dX0_goalCount_18 : decode cX0_goalCount 18 = .ok (.aload_n 0, 1) := by decide +kernel
theorem dX0_goalCount_19 : decode cX0_goalCount 19 = .ok (.getfield 50, 3) := by decide +kernel
theorem dX0_goalCount_22 : decode cX0_goalCount 22 = .ok (.iload_n 1, 1) := by decide +kernel
theorem dX0_goalCount_23 : decode cX0_goalCount 23 = .ok (.iaload, 1) := by decide +kernel
theorem dX0_goalCount_24 : decode cX0_goalCount 24 = .ok (.if_icmp .ne 7, 3) := by decide +kernel
theorem dX0_goalCount_31 : decode cX0_goalCount 31 = .ok (.iconst 2, 1) := by decide +kernel
theorem dX0_goalCount_32 : decode cX0_goalCount 32 = .ok (.ireturn, 1) := by decide +kernel
theorem dX0_goalCount_27 : decode cX0_goalCount 27 = .ok (.iconst 1, 1) := by decide +kernel
theorem dX0_goalCount_28 : decode cX0_goalCount 28 = .ok (.goto 4, 3) := by decide +kernel
theorem dX0_goalCount_10 : decode cX0_goalCount 10 = .ok (.iconst 0, 1) := by decide +kernel
theorem dX0_goalCount_11 : decode cX0_goalCount 11 = .ok (.ireturn, 1) := by decide +kernel
def o_X0_goalCount : List Cond := [.fieldLink RX0 41 "SsaForge$Code" "endKind" "[I", .fieldLink RX0 47 "SsaForge$Code" "goalOne" "[I", .fieldLink RX0 50 "SsaForge$Code" "goalTwo" "[I"]
def v_X0_goalCount : List Cond := .code yX0_goalCount cX0_goalCount 2 (some .int) :: (o_X0_goalCount ++ (wsX00 ++ []))
theorem mow_X0_goalCount : ∀ w ∈ o_X0_goalCount, w ∈ v_X0_goalCount := fun _ h => List.mem_cons_of_mem _ (List.mem_append_left _ h)
theorem mem_X0_goalCount_0 : ∀ w ∈ wsX00, w ∈ v_X0_goalCount := fun _ h => List.mem_cons_of_mem _ (List.mem_append_right _ (List.mem_append_left _ h))
set_option maxRecDepth 20000 in
theorem gw_X0_goalCount : v_X0_goalCount.all goodWord = true := by decide +kernel
set_option maxHeartbeats 4000000 in
set_option maxRecDepth 100000 in
theorem c_X0_goalCount (l : Launch) (dC : Nat → ClassId) (dI : Nat → Nat → Nat) (h0 : Nat) (v_0 : Value) (v_1 : Value) (v_2 : Value) (v_3 : Value) (v_4 : Value) (v_5 : Value) (v_6 : Value) (v_7 : Value) (v_8 : Value) (q_709 : Nat) (cA_709 : ClassId) (a_9 : Int → Int) (v_10 : Value) (q_711 : Nat) (cA_711 : ClassId) (a_11 : Int → Int) (q_712 : Nat) (cA_712 : ClassId) (a_12 : Int → Int) (v_13 : Value) (v_14 : Value) (v_15 : Value) (v_16 : Value) (v_17 : Value) (v_18 : Value) (b : Int) (hR_a_9 : ∀ j : Int, 0 ≤ a_9 j ∧ a_9 j ≤ 2) (hR_a_11 : ∀ j : Int, -1 ≤ a_11 j ∧ a_11 j ≤ 299) (hR_a_12 : ∀ j : Int, -1 ≤ a_12 j ∧ a_12 j ≤ 299) (hNb : 0 ≤ b ∧ b < 300) (sz : Nat) : Met l yX0_goalCount v_X0_goalCount ({ frames := 0, cells := 0, slots := 0, locals := 0 }) (va_Pc [.ref h0, .int (zI (b))] (fun U => U.heap.size = sz ∧ va_P (dC, dI) vwP [(h0, .inr (0, [v_0, v_1, v_2, v_3, v_4, v_5, v_6, v_7, v_8, .ref q_709, v_10, .ref q_711, .ref q_712, v_13, v_14, v_15, v_16, v_17, v_18])), (q_709, .inl (cA_709, 300, .inl (fun j : Nat => zI (a_9 (j : Int))))), (q_711, .inl (cA_711, 300, .inl (fun j : Nat => zI (a_11 (j : Int))))), (q_712, .inl (cA_712, 300, .inl (fun j : Nat => zI (a_12 (j : Int)))))] U.heap ∧ va_K (dC, dI) vwP [(cA_709, .int), (cA_711, .int), (cA_712, .int)] U ∧ va_D (fun _ => True) [(h0, .inr (0, [v_0, v_1, v_2, v_3, v_4, v_5, v_6, v_7, v_8, .ref q_709, v_10, .ref q_711, .ref q_712, v_13, v_14, v_15, v_16, v_17, v_18])), (q_709, .inl (cA_709, 300, .inl (fun j : Nat => zI (a_9 (j : Int))))), (q_711, .inl (cA_711, 300, .inl (fun j : Nat => zI (a_11 (j : Int))))), (q_712, .inl (cA_712, 300, .inl (fun j : Nat => zI (a_12 (j : Int)))))])) (va_Qi (fun (r : Int32) (_ : Unit) => r = zI (gcF a_9 a_11 a_12 (b))) (fun (_ : Unit) (t : State) => va_P (dC, dI) vwP [(h0, .inr (0, [v_0, v_1, v_2, v_3, v_4, v_5, v_6, v_7, v_8, .ref q_709, v_10, .ref q_711, .ref q_712, v_13, v_14, v_15, v_16, v_17, v_18])), (q_709, .inl (cA_709, 300, .inl (fun j : Nat => zI (a_9 (j : Int))))), (q_711, .inl (cA_711, 300, .inl (fun j : Nat => zI (a_11 (j : Int))))), (q_712, .inl (cA_712, 300, .inl (fun j : Nat => zI (a_12 (j : Int)))))] t.heap ∧ va_K (dC, dI) vwP [(cA_709, .int), (cA_711, .int), (cA_712, .int)] t ∧ va_D (va_A [(h0, .inr (0, [v_0, v_1, v_2, v_3, v_4, v_5, v_6, v_7, v_8, .ref q_709, v_10, .ref q_711, .ref q_712, v_13, v_14, v_15, v_16, v_17, v_18])), (q_709, .inl (cA_709, 300, .inl (fun j : Nat => zI (a_9 (j : Int))))), (q_711, .inl (cA_711, 300, .inl (fun j : Nat => zI (a_11 (j : Int))))), (q_712, .inl (cA_712, 300, .inl (fun j : Nat => zI (a_12 (j : Int)))))] sz) [(h0, .inr (0, [v_0, v_1, v_2, v_3, v_4, v_5, v_6, v_7, v_8, .ref q_709, v_10, .ref q_711, .ref q_712, v_13, v_14, v_15, v_16, v_17, v_18])), (q_709, .inl (cA_709, 300, .inl (fun j : Nat => zI (a_9 (j : Int))))), (q_711, .inl (cA_711, 300, .inl (fun j : Nat => zI (a_11 (j : Int))))), (q_712, .inl (cA_712, 300, .inl (fun j : Nat => zI (a_12 (j : Int)))))]) (va_A [(h0, .inr (0, [v_0, v_1, v_2, v_3, v_4, v_5, v_6, v_7, v_8, .ref q_709, v_10, .ref q_711, .ref q_712, v_13, v_14, v_15, v_16, v_17, v_18])), (q_709, .inl (cA_709, 300, .inl (fun j : Nat => zI (a_9 (j : Int))))), (q_711, .inl (cA_711, 300, .inl (fun j : Nat => zI (a_11 (j : Int))))), (q_712, .inl (cA_712, 300, .inl (fun j : Nat => zI (a_12 (j : Int)))))] sz)) 0 0 (va_A [(h0, .inr (0, [v_0, v_1, v_2, v_3, v_4, v_5, v_6, v_7, v_8, .ref q_709, v_10, .ref q_711, .ref q_712, v_13, v_14, v_15, v_16, v_17, v_18])), (q_709, .inl (cA_709, 300, .inl (fun j : Nat => zI (a_9 (j : Int))))), (q_711, .inl (cA_711, 300, .inl (fun j : Nat => zI (a_11 (j : Int))))), (q_712, .inl (cA_712, 300, .inl (fun j : Nat => zI (a_12 (j : Int)))))] sz) := by
  refine Met.ofW (cc := cX0_goalCount) (maxL := 2) (ret := (some .int)) (by decide) rfl ?_
  intro p e s m args below meth c s₁ B hml hv
  obtain ⟨rfl, hsz, hP, hK, hD0⟩ := hv
  have hx := B.exec
  have hb := B.bytes
  have hr := B.returns
  have hts := atoms_spec (ws := v_X0_goalCount) B.pre
  have hown : s.vm.findClass RX0 = some m.cls := findClass_of_methodNamed B.named
  have hlocks := B.notSynchronized
  have ow : ∀ {k : Nat} {w : Cond}, o_X0_goalCount[k]? = some w → w.before ([.ref h0, .int (zI (b))] : List Value).toArray s = true := fun h => hts _ (mow_X0_goalCount _ (List.mem_of_getElem? h))
  subst hsz
  have hD := hD0.self (sz := s.heap.size)
  generalize hAe : va_A [(h0, .inr (0, [v_0, v_1, v_2, v_3, v_4, v_5, v_6, v_7, v_8, .ref q_709, v_10, .ref q_711, .ref q_712, v_13, v_14, v_15, v_16, v_17, v_18])), (q_709, .inl (cA_709, 300, .inl (fun j : Nat => zI (a_9 (j : Int))))), (q_711, .inl (cA_711, 300, .inl (fun j : Nat => zI (a_11 (j : Int))))), (q_712, .inl (cA_712, 300, .inl (fun j : Nat => zI (a_12 (j : Int)))))] s.heap.size = A at hD ⊢
  have hA : ∀ q : Nat, s.heap.size ≤ q → A q := fun q h => by rw [← hAe]; exact Or.inr h
  have hS : va_S A s.heap s.heap [] := va_S.rf
  have hP : va_P (dC, dI) vwP [(h0, .inr (0, [v_0, v_1, v_2, v_3, v_4, v_5, v_6, v_7, v_8, .ref q_709, v_10, .ref q_711, .ref q_712, v_13, v_14, v_15, v_16, v_17, v_18])), (q_709, .inl (cA_709, 300, .inl (fun j : Nat => zI (a_9 (j : Int))))), (q_711, .inl (cA_711, 300, .inl (fun j : Nat => zI (a_11 (j : Int))))), (q_712, .inl (cA_712, 300, .inl (fun j : Nat => zI (a_12 (j : Int)))))] s.heap := hP
  have hl := lv_entry ([.ref h0, .int (zI (b))]) (n := 2) (Nat.le_of_ble_eq_true rfl)
  rw [lg_entry_eq]
  generalize (lg_sl ([.ref h0, .int (zI (b))]) ++ List.replicate (2 - (lg_sl ([.ref h0, .int (zI (b))])).length) Slot.unset).toArray = ls at hl ⊢
  have hl : lv_has ls 2 [(0, .ref h0), (1, .int (zI (b)))] := hl
  obtain ⟨H, hH⟩ : ∃ H, H = s.heap := ⟨_, rfl⟩
  rw [← hH] at hP
  have hS : va_S A s.heap H [] := by rw [hH]; exact hS
  rw [← hH]
  refine zW_cap (fun Q hQ => ?_)
  refine lv_aload_n hx hb dX0_goalCount_0 rfl (lv_at hl 0 rfl) ?_
  refine va_get (D := (dC, dI)) (ci := 0) (v := .ref q_709) (C := RX0) (T := TX0) (N := 19) hx hb hts mem_X0_goalCount_0 hown hK hP 0 rfl rfl 9 (by decide) (ow (k := 0) rfl) (fun _ h9 => h9) rfl dX0_goalCount_1 ?_
  refine lv_iload_n hx hb dX0_goalCount_4 rfl (lv_at hl 1 rfl) ?_
  refine va_iald hx hb hK hP 1 0 rfl rfl (zI_in (a := b) (n := 300) (by omega) (by omega) (by decide)) dX0_goalCount_5 ?_
  refine lv_topi (fun z ez => ?_)
  obtain rfl : z = zI (a_9 (b)) := ez.trans (zI_ld (a_9) (by omega) (by omega))
  have k1 := hR_a_9 (b)
  refine lv_iconst (v := 2) hx hb dX0_goalCount_6 (by decide) ?_
  refine lv_icmp_ne (tgt := 12) hx hb dX0_goalCount_7 (by decide) (fun b7 => ?_) (fun b7 => ?_)
  · have yb7 : ¬ (a_9 (b) : Int) = (2 : Int) := fun q => b7 ((zI_eq (a := a_9 (b)) (b := 2) (by omega) (by omega) (by omega) (by omega)).mpr q)
    refine lv_aload_n hx hb dX0_goalCount_12 rfl (lv_at hl 0 rfl) ?_
    refine va_get (D := (dC, dI)) (ci := 0) (v := .ref q_711) (C := RX0) (T := TX0) (N := 19) hx hb hts mem_X0_goalCount_0 hown hK hP 0 rfl rfl 11 (by decide) (ow (k := 1) rfl) (fun _ h9 => h9) rfl dX0_goalCount_13 ?_
    refine lv_iload_n hx hb dX0_goalCount_16 rfl (lv_at hl 1 rfl) ?_
    refine va_iald hx hb hK hP 2 1 rfl rfl (zI_in (a := b) (n := 300) (by omega) (by omega) (by decide)) dX0_goalCount_17 ?_
    refine lv_topi (fun z ez => ?_)
    obtain rfl : z = zI (a_11 (b)) := ez.trans (zI_ld (a_11) (by omega) (by omega))
    have k2 := hR_a_11 (b)
    refine lv_aload_n hx hb dX0_goalCount_18 rfl (lv_at hl 0 rfl) ?_
    refine va_get (D := (dC, dI)) (ci := 0) (v := .ref q_712) (C := RX0) (T := TX0) (N := 19) hx hb hts mem_X0_goalCount_0 hown hK hP 0 rfl rfl 12 (by decide) (ow (k := 2) rfl) (fun _ h9 => h9) rfl dX0_goalCount_19 ?_
    refine lv_iload_n hx hb dX0_goalCount_22 rfl (lv_at hl 1 rfl) ?_
    refine va_iald hx hb hK hP 3 2 rfl rfl (zI_in (a := b) (n := 300) (by omega) (by omega) (by decide)) dX0_goalCount_23 ?_
    refine lv_topi (fun z ez => ?_)
    obtain rfl : z = zI (a_12 (b)) := ez.trans (zI_ld (a_12) (by omega) (by omega))
    have k3 := hR_a_12 (b)
    refine lv_icmp_ne (tgt := 31) hx hb dX0_goalCount_24 (by decide) (fun b24 => ?_) (fun b24 => ?_)
    · have yb24 : ¬ (a_11 (b) : Int) = (a_12 (b) : Int) := fun q => b24 ((zI_eq (a := a_11 (b)) (b := a_12 (b)) (by omega) (by omega) (by omega) (by omega)).mpr q)
      refine lv_iconst (v := 2) hx hb dX0_goalCount_31 (by decide) ?_
      subst hQ
      refine W.widen (k := 0) (n := 0) (Nat.le_of_ble_eq_true rfl) (Nat.le_of_ble_eq_true rfl) ?_
      exact W.iret (v := 2) hx hb hr (fun t ht hW => ⟨⟨2, (), rfl, (congrArg zI (show (2 : Int) = gcF a_9 a_11 a_12 (b) by unfold gcF; (repeat' split) <;> omega)), by rw [ht]; exact hP, va_K.moved hW.alike hK, hD⟩, hS.F ht⟩) hS.2.2 dX0_goalCount_32
    · have yb24 : (a_11 (b) : Int) = (a_12 (b) : Int) := (zI_eq (a := a_11 (b)) (b := a_12 (b)) (by omega) (by omega) (by omega) (by omega)).mp b24
      refine lv_iconst (v := 1) hx hb dX0_goalCount_27 (by decide) ?_
      refine lv_goto (tgt := 32) hx hb dX0_goalCount_28 (by decide) ?_
      subst hQ
      refine W.widen (k := 0) (n := 0) (Nat.le_of_ble_eq_true rfl) (Nat.le_of_ble_eq_true rfl) ?_
      exact W.iret (v := 1) hx hb hr (fun t ht hW => ⟨⟨1, (), rfl, (congrArg zI (show (1 : Int) = gcF a_9 a_11 a_12 (b) by unfold gcF; (repeat' split) <;> omega)), by rw [ht]; exact hP, va_K.moved hW.alike hK, hD⟩, hS.F ht⟩) hS.2.2 dX0_goalCount_32
  · have yb7 : (a_9 (b) : Int) = (2 : Int) := (zI_eq (a := a_9 (b)) (b := 2) (by omega) (by omega) (by omega) (by omega)).mp b7
    refine lv_iconst (v := 0) hx hb dX0_goalCount_10 (by decide) ?_
    subst hQ
    refine W.widen (k := 0) (n := 0) (Nat.le_of_ble_eq_true rfl) (Nat.le_of_ble_eq_true rfl) ?_
    exact W.iret (v := 0) hx hb hr (fun t ht hW => ⟨⟨0, (), rfl, (congrArg zI (show (0 : Int) = gcF a_9 a_11 a_12 (b) by unfold gcF; (repeat' split) <;> omega)), by rw [ht]; exact hP, va_K.moved hW.alike hK, hD⟩, hS.F ht⟩) hS.2.2 dX0_goalCount_11
theorem dX0_goal_0 : decode cX0_goal 0 = .ok (.iload_n 2, 1) := by decide +kernel
theorem dX0_goal_1 : decode cX0_goal 1 = .ok (.ifCond .ne 12, 3) := by decide +kernel
theorem dX0_goal_13 : decode cX0_goal 13 = .ok (.aload_n 0, 1) := by decide +kernel
theorem dX0_goal_14 : decode cX0_goal 14 = .ok (.getfield 50, 3) := by decide +kernel
theorem dX0_goal_17 : decode cX0_goal 17 = .ok (.iload_n 1, 1) := by decide +kernel
theorem dX0_goal_18 : decode cX0_goal 18 = .ok (.iaload, 1) := by decide +kernel
theorem dX0_goal_19 : decode cX0_goal 19 = .ok (.ireturn, 1) := by decide +kernel
theorem dX0_goal_4 : decode cX0_goal 4 = .ok (.aload_n 0, 1) := by decide +kernel
theorem dX0_goal_5 : decode cX0_goal 5 = .ok (.getfield 47, 3) := by decide +kernel
theorem dX0_goal_8 : decode cX0_goal 8 = .ok (.iload_n 1, 1) := by decide +kernel
theorem dX0_goal_9 : decode cX0_goal 9 = .ok (.iaload, 1) := by decide +kernel
theorem dX0_goal_10 : decode cX0_goal 10 = .ok (.goto 9, 3) := by decide +kernel
def o_X0_goal : List Cond := [.fieldLink RX0 50 "SsaForge$Code" "goalTwo" "[I", .fieldLink RX0 47 "SsaForge$Code" "goalOne" "[I"]
def v_X0_goal : List Cond := .code yX0_goal cX0_goal 3 (some .int) :: (o_X0_goal ++ (wsX00 ++ []))
theorem mow_X0_goal : ∀ w ∈ o_X0_goal, w ∈ v_X0_goal := fun _ h => List.mem_cons_of_mem _ (List.mem_append_left _ h)
theorem mem_X0_goal_0 : ∀ w ∈ wsX00, w ∈ v_X0_goal := fun _ h => List.mem_cons_of_mem _ (List.mem_append_right _ (List.mem_append_left _ h))
set_option maxRecDepth 20000 in
theorem gw_X0_goal : v_X0_goal.all goodWord = true := by decide +kernel
set_option maxHeartbeats 4000000 in
set_option maxRecDepth 100000 in
theorem c_X0_goal (l : Launch) (dC : Nat → ClassId) (dI : Nat → Nat → Nat) (h0 : Nat) (v_0 : Value) (v_1 : Value) (v_2 : Value) (v_3 : Value) (v_4 : Value) (v_5 : Value) (v_6 : Value) (v_7 : Value) (v_8 : Value) (v_9 : Value) (v_10 : Value) (q_711 : Nat) (cA_711 : ClassId) (a_11 : Int → Int) (q_712 : Nat) (cA_712 : ClassId) (a_12 : Int → Int) (v_13 : Value) (v_14 : Value) (v_15 : Value) (v_16 : Value) (v_17 : Value) (v_18 : Value) (b : Int) (i : Int) (hR_a_11 : ∀ j : Int, -1 ≤ a_11 j ∧ a_11 j ≤ 299) (hR_a_12 : ∀ j : Int, -1 ≤ a_12 j ∧ a_12 j ≤ 299) (hNb : 0 ≤ b ∧ b < 300) (hNi : 0 ≤ i ∧ i < 300) (sz : Nat) : Met l yX0_goal v_X0_goal ({ frames := 0, cells := 0, slots := 0, locals := 0 }) (va_Pc [.ref h0, .int (zI (b)), .int (zI (i))] (fun U => U.heap.size = sz ∧ va_P (dC, dI) vwP [(h0, .inr (0, [v_0, v_1, v_2, v_3, v_4, v_5, v_6, v_7, v_8, v_9, v_10, .ref q_711, .ref q_712, v_13, v_14, v_15, v_16, v_17, v_18])), (q_711, .inl (cA_711, 300, .inl (fun j : Nat => zI (a_11 (j : Int))))), (q_712, .inl (cA_712, 300, .inl (fun j : Nat => zI (a_12 (j : Int)))))] U.heap ∧ va_K (dC, dI) vwP [(cA_711, .int), (cA_712, .int)] U ∧ va_D (fun _ => True) [(h0, .inr (0, [v_0, v_1, v_2, v_3, v_4, v_5, v_6, v_7, v_8, v_9, v_10, .ref q_711, .ref q_712, v_13, v_14, v_15, v_16, v_17, v_18])), (q_711, .inl (cA_711, 300, .inl (fun j : Nat => zI (a_11 (j : Int))))), (q_712, .inl (cA_712, 300, .inl (fun j : Nat => zI (a_12 (j : Int)))))])) (va_Qi (fun (r : Int32) (_ : Unit) => r = zI (glF a_11 a_12 (b) (i))) (fun (_ : Unit) (t : State) => va_P (dC, dI) vwP [(h0, .inr (0, [v_0, v_1, v_2, v_3, v_4, v_5, v_6, v_7, v_8, v_9, v_10, .ref q_711, .ref q_712, v_13, v_14, v_15, v_16, v_17, v_18])), (q_711, .inl (cA_711, 300, .inl (fun j : Nat => zI (a_11 (j : Int))))), (q_712, .inl (cA_712, 300, .inl (fun j : Nat => zI (a_12 (j : Int)))))] t.heap ∧ va_K (dC, dI) vwP [(cA_711, .int), (cA_712, .int)] t ∧ va_D (va_A [(h0, .inr (0, [v_0, v_1, v_2, v_3, v_4, v_5, v_6, v_7, v_8, v_9, v_10, .ref q_711, .ref q_712, v_13, v_14, v_15, v_16, v_17, v_18])), (q_711, .inl (cA_711, 300, .inl (fun j : Nat => zI (a_11 (j : Int))))), (q_712, .inl (cA_712, 300, .inl (fun j : Nat => zI (a_12 (j : Int)))))] sz) [(h0, .inr (0, [v_0, v_1, v_2, v_3, v_4, v_5, v_6, v_7, v_8, v_9, v_10, .ref q_711, .ref q_712, v_13, v_14, v_15, v_16, v_17, v_18])), (q_711, .inl (cA_711, 300, .inl (fun j : Nat => zI (a_11 (j : Int))))), (q_712, .inl (cA_712, 300, .inl (fun j : Nat => zI (a_12 (j : Int)))))]) (va_A [(h0, .inr (0, [v_0, v_1, v_2, v_3, v_4, v_5, v_6, v_7, v_8, v_9, v_10, .ref q_711, .ref q_712, v_13, v_14, v_15, v_16, v_17, v_18])), (q_711, .inl (cA_711, 300, .inl (fun j : Nat => zI (a_11 (j : Int))))), (q_712, .inl (cA_712, 300, .inl (fun j : Nat => zI (a_12 (j : Int)))))] sz)) 0 0 (va_A [(h0, .inr (0, [v_0, v_1, v_2, v_3, v_4, v_5, v_6, v_7, v_8, v_9, v_10, .ref q_711, .ref q_712, v_13, v_14, v_15, v_16, v_17, v_18])), (q_711, .inl (cA_711, 300, .inl (fun j : Nat => zI (a_11 (j : Int))))), (q_712, .inl (cA_712, 300, .inl (fun j : Nat => zI (a_12 (j : Int)))))] sz) := by
  refine Met.ofW (cc := cX0_goal) (maxL := 3) (ret := (some .int)) (by decide) rfl ?_
  intro p e s m args below meth c s₁ B hml hv
  obtain ⟨rfl, hsz, hP, hK, hD0⟩ := hv
  have hx := B.exec
  have hb := B.bytes
  have hr := B.returns
  have hts := atoms_spec (ws := v_X0_goal) B.pre
  have hown : s.vm.findClass RX0 = some m.cls := findClass_of_methodNamed B.named
  have hlocks := B.notSynchronized
  have ow : ∀ {k : Nat} {w : Cond}, o_X0_goal[k]? = some w → w.before ([.ref h0, .int (zI (b)), .int (zI (i))] : List Value).toArray s = true := fun h => hts _ (mow_X0_goal _ (List.mem_of_getElem? h))
  subst hsz
  have hD := hD0.self (sz := s.heap.size)
  generalize hAe : va_A [(h0, .inr (0, [v_0, v_1, v_2, v_3, v_4, v_5, v_6, v_7, v_8, v_9, v_10, .ref q_711, .ref q_712, v_13, v_14, v_15, v_16, v_17, v_18])), (q_711, .inl (cA_711, 300, .inl (fun j : Nat => zI (a_11 (j : Int))))), (q_712, .inl (cA_712, 300, .inl (fun j : Nat => zI (a_12 (j : Int)))))] s.heap.size = A at hD ⊢
  have hA : ∀ q : Nat, s.heap.size ≤ q → A q := fun q h => by rw [← hAe]; exact Or.inr h
  have hS : va_S A s.heap s.heap [] := va_S.rf
  have hP : va_P (dC, dI) vwP [(h0, .inr (0, [v_0, v_1, v_2, v_3, v_4, v_5, v_6, v_7, v_8, v_9, v_10, .ref q_711, .ref q_712, v_13, v_14, v_15, v_16, v_17, v_18])), (q_711, .inl (cA_711, 300, .inl (fun j : Nat => zI (a_11 (j : Int))))), (q_712, .inl (cA_712, 300, .inl (fun j : Nat => zI (a_12 (j : Int)))))] s.heap := hP
  have hl := lv_entry ([.ref h0, .int (zI (b)), .int (zI (i))]) (n := 3) (Nat.le_of_ble_eq_true rfl)
  rw [lg_entry_eq]
  generalize (lg_sl ([.ref h0, .int (zI (b)), .int (zI (i))]) ++ List.replicate (3 - (lg_sl ([.ref h0, .int (zI (b)), .int (zI (i))])).length) Slot.unset).toArray = ls at hl ⊢
  have hl : lv_has ls 3 [(0, .ref h0), (1, .int (zI (b))), (2, .int (zI (i)))] := hl
  obtain ⟨H, hH⟩ : ∃ H, H = s.heap := ⟨_, rfl⟩
  rw [← hH] at hP
  have hS : va_S A s.heap H [] := by rw [hH]; exact hS
  rw [← hH]
  refine zW_cap (fun Q hQ => ?_)
  refine lv_iload_n hx hb dX0_goal_0 rfl (lv_at hl 2 rfl) ?_
  refine lv_if_ne (tgt := 13) hx hb dX0_goal_1 (by decide) (fun b1 => ?_) (fun b1 => ?_)
  · have yb1 : ¬ (i : Int) = (0 : Int) := fun q => b1 ((zI_eq (a := i) (b := 0) (by omega) (by omega) (by omega) (by omega)).mpr q)
    refine lv_aload_n hx hb dX0_goal_13 rfl (lv_at hl 0 rfl) ?_
    refine va_get (D := (dC, dI)) (ci := 0) (v := .ref q_712) (C := RX0) (T := TX0) (N := 19) hx hb hts mem_X0_goal_0 hown hK hP 0 rfl rfl 12 (by decide) (ow (k := 0) rfl) (fun _ h9 => h9) rfl dX0_goal_14 ?_
    refine lv_iload_n hx hb dX0_goal_17 rfl (lv_at hl 1 rfl) ?_
    refine va_iald hx hb hK hP 2 1 rfl rfl (zI_in (a := b) (n := 300) (by omega) (by omega) (by decide)) dX0_goal_18 ?_
    refine lv_topi (fun z ez => ?_)
    obtain rfl : z = zI (a_12 (b)) := ez.trans (zI_ld (a_12) (by omega) (by omega))
    have k1 := hR_a_12 (b)
    subst hQ
    refine W.widen (k := 0) (n := 0) (Nat.le_of_ble_eq_true rfl) (Nat.le_of_ble_eq_true rfl) ?_
    exact W.iret (v := (zI (a_12 (b)))) hx hb hr (fun t ht hW => ⟨⟨(zI (a_12 (b))), (), rfl, (congrArg zI (show (a_12 (b) : Int) = glF a_11 a_12 (b) (i) by unfold glF; (repeat' split) <;> omega)), by rw [ht]; exact hP, va_K.moved hW.alike hK, hD⟩, hS.F ht⟩) hS.2.2 dX0_goal_19
  · have yb1 : (i : Int) = (0 : Int) := (zI_eq (a := i) (b := 0) (by omega) (by omega) (by omega) (by omega)).mp b1
    refine lv_aload_n hx hb dX0_goal_4 rfl (lv_at hl 0 rfl) ?_
    refine va_get (D := (dC, dI)) (ci := 0) (v := .ref q_711) (C := RX0) (T := TX0) (N := 19) hx hb hts mem_X0_goal_0 hown hK hP 0 rfl rfl 11 (by decide) (ow (k := 1) rfl) (fun _ h9 => h9) rfl dX0_goal_5 ?_
    refine lv_iload_n hx hb dX0_goal_8 rfl (lv_at hl 1 rfl) ?_
    refine va_iald hx hb hK hP 1 0 rfl rfl (zI_in (a := b) (n := 300) (by omega) (by omega) (by decide)) dX0_goal_9 ?_
    refine lv_topi (fun z ez => ?_)
    obtain rfl : z = zI (a_11 (b)) := ez.trans (zI_ld (a_11) (by omega) (by omega))
    have k2 := hR_a_11 (b)
    refine lv_goto (tgt := 19) hx hb dX0_goal_10 (by decide) ?_
    subst hQ
    refine W.widen (k := 0) (n := 0) (Nat.le_of_ble_eq_true rfl) (Nat.le_of_ble_eq_true rfl) ?_
    exact W.iret (v := (zI (a_11 (b)))) hx hb hr (fun t ht hW => ⟨⟨(zI (a_11 (b))), (), rfl, (congrArg zI (show (a_11 (b) : Int) = glF a_11 a_12 (b) (i) by unfold glF; (repeat' split) <;> omega)), by rw [ht]; exact hP, va_K.moved hW.alike hK, hD⟩, hS.F ht⟩) hS.2.2 dX0_goal_19
theorem dX0_phiCount_0 : decode cX0_phiCount 0 = .ok (.aload_n 0, 1) := by decide +kernel
theorem dX0_phiCount_1 : decode cX0_phiCount 1 = .ok (.getfield 59, 3) := by decide +kernel
theorem dX0_phiCount_4 : decode cX0_phiCount 4 = .ok (.iload_n 1, 1) := by decide +kernel
theorem dX0_phiCount_5 : decode cX0_phiCount 5 = .ok (.iconst 1, 1) := by decide +kernel
theorem dX0_phiCount_6 : decode cX0_phiCount 6 = .ok (.iadd, 1) := by decide +kernel
theorem dX0_phiCount_7 : decode cX0_phiCount 7 = .ok (.iaload, 1) := by decide +kernel
theorem dX0_phiCount_8 : decode cX0_phiCount 8 = .ok (.aload_n 0, 1) := by decide +kernel
theorem dX0_phiCount_9 : decode cX0_phiCount 9 = .ok (.getfield 59, 3) := by decide +kernel
theorem dX0_phiCount_12 : decode cX0_phiCount 12 = .ok (.iload_n 1, 1) := by decide +kernel
theorem dX0_phiCount_13 : decode cX0_phiCount 13 = .ok (.iaload, 1) := by decide +kernel
theorem dX0_phiCount_14 : decode cX0_phiCount 14 = .ok (.isub, 1) := by decide +kernel
theorem dX0_phiCount_15 : decode cX0_phiCount 15 = .ok (.ireturn, 1) := by decide +kernel
def o_X0_phiCount : List Cond := [.fieldLink RX0 59 "SsaForge$Code" "phiStart" "[I"]
def v_X0_phiCount : List Cond := .code yX0_phiCount cX0_phiCount 2 (some .int) :: (o_X0_phiCount ++ (wsX00 ++ []))
theorem mow_X0_phiCount : ∀ w ∈ o_X0_phiCount, w ∈ v_X0_phiCount := fun _ h => List.mem_cons_of_mem _ (List.mem_append_left _ h)
theorem mem_X0_phiCount_0 : ∀ w ∈ wsX00, w ∈ v_X0_phiCount := fun _ h => List.mem_cons_of_mem _ (List.mem_append_right _ (List.mem_append_left _ h))
set_option maxRecDepth 20000 in
theorem gw_X0_phiCount : v_X0_phiCount.all goodWord = true := by decide +kernel
set_option maxHeartbeats 4000000 in
set_option maxRecDepth 100000 in
theorem c_X0_phiCount (l : Launch) (dC : Nat → ClassId) (dI : Nat → Nat → Nat) (h0 : Nat) (v_0 : Value) (v_1 : Value) (v_2 : Value) (v_3 : Value) (v_4 : Value) (v_5 : Value) (v_6 : Value) (v_7 : Value) (v_8 : Value) (v_9 : Value) (v_10 : Value) (v_11 : Value) (v_12 : Value) (v_13 : Value) (v_14 : Value) (q_715 : Nat) (cA_715 : ClassId) (a_15 : Int → Int) (v_16 : Value) (v_17 : Value) (v_18 : Value) (b : Int) (hR_a_15 : ∀ j : Int, 0 ≤ a_15 j ∧ a_15 j ≤ 1000) (hNb : 0 ≤ b ∧ b < 300) (sz : Nat) : Met l yX0_phiCount v_X0_phiCount ({ frames := 0, cells := 0, slots := 0, locals := 0 }) (va_Pc [.ref h0, .int (zI (b))] (fun U => U.heap.size = sz ∧ va_P (dC, dI) vwP [(h0, .inr (0, [v_0, v_1, v_2, v_3, v_4, v_5, v_6, v_7, v_8, v_9, v_10, v_11, v_12, v_13, v_14, .ref q_715, v_16, v_17, v_18])), (q_715, .inl (cA_715, 301, .inl (fun j : Nat => zI (a_15 (j : Int)))))] U.heap ∧ va_K (dC, dI) vwP [(cA_715, .int)] U ∧ va_D (fun _ => True) [(h0, .inr (0, [v_0, v_1, v_2, v_3, v_4, v_5, v_6, v_7, v_8, v_9, v_10, v_11, v_12, v_13, v_14, .ref q_715, v_16, v_17, v_18])), (q_715, .inl (cA_715, 301, .inl (fun j : Nat => zI (a_15 (j : Int)))))])) (va_Qi (fun (r : Int32) (_ : Unit) => ∃ z : Int, r = zI z ∧ (-1000 ≤ z ∧ z ≤ 1000)) (fun (_ : Unit) (t : State) => va_P (dC, dI) vwP [(h0, .inr (0, [v_0, v_1, v_2, v_3, v_4, v_5, v_6, v_7, v_8, v_9, v_10, v_11, v_12, v_13, v_14, .ref q_715, v_16, v_17, v_18])), (q_715, .inl (cA_715, 301, .inl (fun j : Nat => zI (a_15 (j : Int)))))] t.heap ∧ va_K (dC, dI) vwP [(cA_715, .int)] t ∧ va_D (va_A [(h0, .inr (0, [v_0, v_1, v_2, v_3, v_4, v_5, v_6, v_7, v_8, v_9, v_10, v_11, v_12, v_13, v_14, .ref q_715, v_16, v_17, v_18])), (q_715, .inl (cA_715, 301, .inl (fun j : Nat => zI (a_15 (j : Int)))))] sz) [(h0, .inr (0, [v_0, v_1, v_2, v_3, v_4, v_5, v_6, v_7, v_8, v_9, v_10, v_11, v_12, v_13, v_14, .ref q_715, v_16, v_17, v_18])), (q_715, .inl (cA_715, 301, .inl (fun j : Nat => zI (a_15 (j : Int)))))]) (va_A [(h0, .inr (0, [v_0, v_1, v_2, v_3, v_4, v_5, v_6, v_7, v_8, v_9, v_10, v_11, v_12, v_13, v_14, .ref q_715, v_16, v_17, v_18])), (q_715, .inl (cA_715, 301, .inl (fun j : Nat => zI (a_15 (j : Int)))))] sz)) 0 0 (va_A [(h0, .inr (0, [v_0, v_1, v_2, v_3, v_4, v_5, v_6, v_7, v_8, v_9, v_10, v_11, v_12, v_13, v_14, .ref q_715, v_16, v_17, v_18])), (q_715, .inl (cA_715, 301, .inl (fun j : Nat => zI (a_15 (j : Int)))))] sz) := by
  refine Met.ofW (cc := cX0_phiCount) (maxL := 2) (ret := (some .int)) (by decide) rfl ?_
  intro p e s m args below meth c s₁ B hml hv
  obtain ⟨rfl, hsz, hP, hK, hD0⟩ := hv
  have hx := B.exec
  have hb := B.bytes
  have hr := B.returns
  have hts := atoms_spec (ws := v_X0_phiCount) B.pre
  have hown : s.vm.findClass RX0 = some m.cls := findClass_of_methodNamed B.named
  have hlocks := B.notSynchronized
  have ow : ∀ {k : Nat} {w : Cond}, o_X0_phiCount[k]? = some w → w.before ([.ref h0, .int (zI (b))] : List Value).toArray s = true := fun h => hts _ (mow_X0_phiCount _ (List.mem_of_getElem? h))
  subst hsz
  have hD := hD0.self (sz := s.heap.size)
  generalize hAe : va_A [(h0, .inr (0, [v_0, v_1, v_2, v_3, v_4, v_5, v_6, v_7, v_8, v_9, v_10, v_11, v_12, v_13, v_14, .ref q_715, v_16, v_17, v_18])), (q_715, .inl (cA_715, 301, .inl (fun j : Nat => zI (a_15 (j : Int)))))] s.heap.size = A at hD ⊢
  have hA : ∀ q : Nat, s.heap.size ≤ q → A q := fun q h => by rw [← hAe]; exact Or.inr h
  have hS : va_S A s.heap s.heap [] := va_S.rf
  have hP : va_P (dC, dI) vwP [(h0, .inr (0, [v_0, v_1, v_2, v_3, v_4, v_5, v_6, v_7, v_8, v_9, v_10, v_11, v_12, v_13, v_14, .ref q_715, v_16, v_17, v_18])), (q_715, .inl (cA_715, 301, .inl (fun j : Nat => zI (a_15 (j : Int)))))] s.heap := hP
  have hl := lv_entry ([.ref h0, .int (zI (b))]) (n := 2) (Nat.le_of_ble_eq_true rfl)
  rw [lg_entry_eq]
  generalize (lg_sl ([.ref h0, .int (zI (b))]) ++ List.replicate (2 - (lg_sl ([.ref h0, .int (zI (b))])).length) Slot.unset).toArray = ls at hl ⊢
  have hl : lv_has ls 2 [(0, .ref h0), (1, .int (zI (b)))] := hl
  obtain ⟨H, hH⟩ : ∃ H, H = s.heap := ⟨_, rfl⟩
  rw [← hH] at hP
  have hS : va_S A s.heap H [] := by rw [hH]; exact hS
  rw [← hH]
  refine zW_cap (fun Q hQ => ?_)
  refine lv_aload_n hx hb dX0_phiCount_0 rfl (lv_at hl 0 rfl) ?_
  refine va_get (D := (dC, dI)) (ci := 0) (v := .ref q_715) (C := RX0) (T := TX0) (N := 19) hx hb hts mem_X0_phiCount_0 hown hK hP 0 rfl rfl 15 (by decide) (ow (k := 0) rfl) (fun _ h9 => h9) rfl dX0_phiCount_1 ?_
  refine lv_iload_n hx hb dX0_phiCount_4 rfl (lv_at hl 1 rfl) ?_
  refine lv_iconst (v := 1) hx hb dX0_phiCount_5 (by decide) ?_
  refine lv_iadd hx hb dX0_phiCount_6 ?_
  refine lv_topi (fun z ez => ?_)
  obtain rfl : z = zI (b + 1) := ez.trans (zI_add (b) (1))
  refine va_iald hx hb hK hP 1 0 rfl rfl (zI_in (a := b + 1) (n := 301) (by omega) (by omega) (by decide)) dX0_phiCount_7 ?_
  refine lv_topi (fun z ez => ?_)
  obtain rfl : z = zI (a_15 (b + 1)) := ez.trans (zI_ld (a_15) (by omega) (by omega))
  have k1 := hR_a_15 (b + 1)
  refine lv_aload_n hx hb dX0_phiCount_8 rfl (lv_at hl 0 rfl) ?_
  refine va_get (D := (dC, dI)) (ci := 0) (v := .ref q_715) (C := RX0) (T := TX0) (N := 19) hx hb hts mem_X0_phiCount_0 hown hK hP 0 rfl rfl 15 (by decide) (ow (k := 0) rfl) (fun _ h9 => h9) rfl dX0_phiCount_9 ?_
  refine lv_iload_n hx hb dX0_phiCount_12 rfl (lv_at hl 1 rfl) ?_
  refine va_iald hx hb hK hP 1 0 rfl rfl (zI_in (a := b) (n := 301) (by omega) (by omega) (by decide)) dX0_phiCount_13 ?_
  refine lv_topi (fun z ez => ?_)
  obtain rfl : z = zI (a_15 (b)) := ez.trans (zI_ld (a_15) (by omega) (by omega))
  have k2 := hR_a_15 (b)
  refine lv_isub hx hb dX0_phiCount_14 ?_
  refine lv_topi (fun z ez => ?_)
  obtain rfl : z = zI ((a_15 (b + 1)) - (a_15 (b))) := ez.trans (zI_sub (a_15 (b + 1)) (a_15 (b)))
  subst hQ
  refine W.widen (k := 0) (n := 0) (Nat.le_of_ble_eq_true rfl) (Nat.le_of_ble_eq_true rfl) ?_
  exact W.iret (v := (zI ((a_15 (b + 1)) - (a_15 (b))))) hx hb hr (fun t ht hW => ⟨⟨(zI ((a_15 (b + 1)) - (a_15 (b)))), (), rfl, ⟨(a_15 (b + 1)) - (a_15 (b)), rfl, by omega⟩, by rw [ht]; exact hP, va_K.moved hW.alike hK, hD⟩, hS.F ht⟩) hS.2.2 dX0_phiCount_15
theorem dX0_predCount_0 : decode cX0_predCount 0 = .ok (.aload_n 0, 1) := by decide +kernel
theorem dX0_predCount_1 : decode cX0_predCount 1 = .ok (.getfield 53, 3) := by decide +kernel
theorem dX0_predCount_4 : decode cX0_predCount 4 = .ok (.iload_n 1, 1) := by decide +kernel
theorem dX0_predCount_5 : decode cX0_predCount 5 = .ok (.iconst 1, 1) := by decide +kernel
theorem dX0_predCount_6 : decode cX0_predCount 6 = .ok (.iadd, 1) := by decide +kernel
theorem dX0_predCount_7 : decode cX0_predCount 7 = .ok (.iaload, 1) := by decide +kernel
theorem dX0_predCount_8 : decode cX0_predCount 8 = .ok (.aload_n 0, 1) := by decide +kernel
theorem dX0_predCount_9 : decode cX0_predCount 9 = .ok (.getfield 53, 3) := by decide +kernel
theorem dX0_predCount_12 : decode cX0_predCount 12 = .ok (.iload_n 1, 1) := by decide +kernel
theorem dX0_predCount_13 : decode cX0_predCount 13 = .ok (.iaload, 1) := by decide +kernel
theorem dX0_predCount_14 : decode cX0_predCount 14 = .ok (.isub, 1) := by decide +kernel
theorem dX0_predCount_15 : decode cX0_predCount 15 = .ok (.ireturn, 1) := by decide +kernel
def o_X0_predCount : List Cond := [.fieldLink RX0 53 "SsaForge$Code" "predStart" "[I"]
def v_X0_predCount : List Cond := .code yX0_predCount cX0_predCount 2 (some .int) :: (o_X0_predCount ++ (wsX00 ++ []))
theorem mow_X0_predCount : ∀ w ∈ o_X0_predCount, w ∈ v_X0_predCount := fun _ h => List.mem_cons_of_mem _ (List.mem_append_left _ h)
theorem mem_X0_predCount_0 : ∀ w ∈ wsX00, w ∈ v_X0_predCount := fun _ h => List.mem_cons_of_mem _ (List.mem_append_right _ (List.mem_append_left _ h))
set_option maxRecDepth 20000 in
theorem gw_X0_predCount : v_X0_predCount.all goodWord = true := by decide +kernel
set_option maxHeartbeats 4000000 in
set_option maxRecDepth 100000 in
theorem c_X0_predCount (l : Launch) (dC : Nat → ClassId) (dI : Nat → Nat → Nat) (h0 : Nat) (v_0 : Value) (v_1 : Value) (v_2 : Value) (v_3 : Value) (v_4 : Value) (v_5 : Value) (v_6 : Value) (v_7 : Value) (v_8 : Value) (v_9 : Value) (v_10 : Value) (v_11 : Value) (v_12 : Value) (q_713 : Nat) (cA_713 : ClassId) (a_13 : Int → Int) (v_14 : Value) (v_15 : Value) (v_16 : Value) (v_17 : Value) (v_18 : Value) (b : Int) (hR_a_13 : ∀ j : Int, 0 ≤ a_13 j ∧ a_13 j ≤ 600) (hNb : 0 ≤ b ∧ b < 300) (sz : Nat) : Met l yX0_predCount v_X0_predCount ({ frames := 0, cells := 0, slots := 0, locals := 0 }) (va_Pc [.ref h0, .int (zI (b))] (fun U => U.heap.size = sz ∧ va_P (dC, dI) vwP [(h0, .inr (0, [v_0, v_1, v_2, v_3, v_4, v_5, v_6, v_7, v_8, v_9, v_10, v_11, v_12, .ref q_713, v_14, v_15, v_16, v_17, v_18])), (q_713, .inl (cA_713, 301, .inl (fun j : Nat => zI (a_13 (j : Int)))))] U.heap ∧ va_K (dC, dI) vwP [(cA_713, .int)] U ∧ va_D (fun _ => True) [(h0, .inr (0, [v_0, v_1, v_2, v_3, v_4, v_5, v_6, v_7, v_8, v_9, v_10, v_11, v_12, .ref q_713, v_14, v_15, v_16, v_17, v_18])), (q_713, .inl (cA_713, 301, .inl (fun j : Nat => zI (a_13 (j : Int)))))])) (va_Qi (fun (r : Int32) (_ : Unit) => r = zI (a_13 (b + 1) - a_13 (b))) (fun (_ : Unit) (t : State) => va_P (dC, dI) vwP [(h0, .inr (0, [v_0, v_1, v_2, v_3, v_4, v_5, v_6, v_7, v_8, v_9, v_10, v_11, v_12, .ref q_713, v_14, v_15, v_16, v_17, v_18])), (q_713, .inl (cA_713, 301, .inl (fun j : Nat => zI (a_13 (j : Int)))))] t.heap ∧ va_K (dC, dI) vwP [(cA_713, .int)] t ∧ va_D (va_A [(h0, .inr (0, [v_0, v_1, v_2, v_3, v_4, v_5, v_6, v_7, v_8, v_9, v_10, v_11, v_12, .ref q_713, v_14, v_15, v_16, v_17, v_18])), (q_713, .inl (cA_713, 301, .inl (fun j : Nat => zI (a_13 (j : Int)))))] sz) [(h0, .inr (0, [v_0, v_1, v_2, v_3, v_4, v_5, v_6, v_7, v_8, v_9, v_10, v_11, v_12, .ref q_713, v_14, v_15, v_16, v_17, v_18])), (q_713, .inl (cA_713, 301, .inl (fun j : Nat => zI (a_13 (j : Int)))))]) (va_A [(h0, .inr (0, [v_0, v_1, v_2, v_3, v_4, v_5, v_6, v_7, v_8, v_9, v_10, v_11, v_12, .ref q_713, v_14, v_15, v_16, v_17, v_18])), (q_713, .inl (cA_713, 301, .inl (fun j : Nat => zI (a_13 (j : Int)))))] sz)) 0 0 (va_A [(h0, .inr (0, [v_0, v_1, v_2, v_3, v_4, v_5, v_6, v_7, v_8, v_9, v_10, v_11, v_12, .ref q_713, v_14, v_15, v_16, v_17, v_18])), (q_713, .inl (cA_713, 301, .inl (fun j : Nat => zI (a_13 (j : Int)))))] sz) := by
  refine Met.ofW (cc := cX0_predCount) (maxL := 2) (ret := (some .int)) (by decide) rfl ?_
  intro p e s m args below meth c s₁ B hml hv
  obtain ⟨rfl, hsz, hP, hK, hD0⟩ := hv
  have hx := B.exec
  have hb := B.bytes
  have hr := B.returns
  have hts := atoms_spec (ws := v_X0_predCount) B.pre
  have hown : s.vm.findClass RX0 = some m.cls := findClass_of_methodNamed B.named
  have hlocks := B.notSynchronized
  have ow : ∀ {k : Nat} {w : Cond}, o_X0_predCount[k]? = some w → w.before ([.ref h0, .int (zI (b))] : List Value).toArray s = true := fun h => hts _ (mow_X0_predCount _ (List.mem_of_getElem? h))
  subst hsz
  have hD := hD0.self (sz := s.heap.size)
  generalize hAe : va_A [(h0, .inr (0, [v_0, v_1, v_2, v_3, v_4, v_5, v_6, v_7, v_8, v_9, v_10, v_11, v_12, .ref q_713, v_14, v_15, v_16, v_17, v_18])), (q_713, .inl (cA_713, 301, .inl (fun j : Nat => zI (a_13 (j : Int)))))] s.heap.size = A at hD ⊢
  have hA : ∀ q : Nat, s.heap.size ≤ q → A q := fun q h => by rw [← hAe]; exact Or.inr h
  have hS : va_S A s.heap s.heap [] := va_S.rf
  have hP : va_P (dC, dI) vwP [(h0, .inr (0, [v_0, v_1, v_2, v_3, v_4, v_5, v_6, v_7, v_8, v_9, v_10, v_11, v_12, .ref q_713, v_14, v_15, v_16, v_17, v_18])), (q_713, .inl (cA_713, 301, .inl (fun j : Nat => zI (a_13 (j : Int)))))] s.heap := hP
  have hl := lv_entry ([.ref h0, .int (zI (b))]) (n := 2) (Nat.le_of_ble_eq_true rfl)
  rw [lg_entry_eq]
  generalize (lg_sl ([.ref h0, .int (zI (b))]) ++ List.replicate (2 - (lg_sl ([.ref h0, .int (zI (b))])).length) Slot.unset).toArray = ls at hl ⊢
  have hl : lv_has ls 2 [(0, .ref h0), (1, .int (zI (b)))] := hl
  obtain ⟨H, hH⟩ : ∃ H, H = s.heap := ⟨_, rfl⟩
  rw [← hH] at hP
  have hS : va_S A s.heap H [] := by rw [hH]; exact hS
  rw [← hH]
  refine zW_cap (fun Q hQ => ?_)
  refine lv_aload_n hx hb dX0_predCount_0 rfl (lv_at hl 0 rfl) ?_
  refine va_get (D := (dC, dI)) (ci := 0) (v := .ref q_713) (C := RX0) (T := TX0) (N := 19) hx hb hts mem_X0_predCount_0 hown hK hP 0 rfl rfl 13 (by decide) (ow (k := 0) rfl) (fun _ h9 => h9) rfl dX0_predCount_1 ?_
  refine lv_iload_n hx hb dX0_predCount_4 rfl (lv_at hl 1 rfl) ?_
  refine lv_iconst (v := 1) hx hb dX0_predCount_5 (by decide) ?_
  refine lv_iadd hx hb dX0_predCount_6 ?_
  refine lv_topi (fun z ez => ?_)
  obtain rfl : z = zI (b + 1) := ez.trans (zI_add (b) (1))
  refine va_iald hx hb hK hP 1 0 rfl rfl (zI_in (a := b + 1) (n := 301) (by omega) (by omega) (by decide)) dX0_predCount_7 ?_
  refine lv_topi (fun z ez => ?_)
  obtain rfl : z = zI (a_13 (b + 1)) := ez.trans (zI_ld (a_13) (by omega) (by omega))
  have k1 := hR_a_13 (b + 1)
  refine lv_aload_n hx hb dX0_predCount_8 rfl (lv_at hl 0 rfl) ?_
  refine va_get (D := (dC, dI)) (ci := 0) (v := .ref q_713) (C := RX0) (T := TX0) (N := 19) hx hb hts mem_X0_predCount_0 hown hK hP 0 rfl rfl 13 (by decide) (ow (k := 0) rfl) (fun _ h9 => h9) rfl dX0_predCount_9 ?_
  refine lv_iload_n hx hb dX0_predCount_12 rfl (lv_at hl 1 rfl) ?_
  refine va_iald hx hb hK hP 1 0 rfl rfl (zI_in (a := b) (n := 301) (by omega) (by omega) (by decide)) dX0_predCount_13 ?_
  refine lv_topi (fun z ez => ?_)
  obtain rfl : z = zI (a_13 (b)) := ez.trans (zI_ld (a_13) (by omega) (by omega))
  have k2 := hR_a_13 (b)
  refine lv_isub hx hb dX0_predCount_14 ?_
  refine lv_topi (fun z ez => ?_)
  obtain rfl : z = zI ((a_13 (b + 1)) - (a_13 (b))) := ez.trans (zI_sub (a_13 (b + 1)) (a_13 (b)))
  subst hQ
  refine W.widen (k := 0) (n := 0) (Nat.le_of_ble_eq_true rfl) (Nat.le_of_ble_eq_true rfl) ?_
  exact W.iret (v := (zI ((a_13 (b + 1)) - (a_13 (b))))) hx hb hr (fun t ht hW => ⟨⟨(zI ((a_13 (b + 1)) - (a_13 (b)))), (), rfl, rfl, by rw [ht]; exact hP, va_K.moved hW.alike hK, hD⟩, hS.F ht⟩) hS.2.2 dX0_predCount_15
theorem dX0_predIndex_0 : decode cX0_predIndex 0 = .ok (.aload_n 0, 1) := by decide +kernel
theorem dX0_predIndex_1 : decode cX0_predIndex 1 = .ok (.getfield 53, 3) := by decide +kernel
theorem dX0_predIndex_4 : decode cX0_predIndex 4 = .ok (.iload_n 1, 1) := by decide +kernel
theorem dX0_predIndex_5 : decode cX0_predIndex 5 = .ok (.iaload, 1) := by decide +kernel
theorem dX0_predIndex_6 : decode cX0_predIndex 6 = .ok (.istore_n 3, 1) := by decide +kernel
theorem dX0_predIndex_7 : decode cX0_predIndex 7 = .ok (.iload_n 3, 1) := by decide +kernel
theorem dX0_predIndex_8 : decode cX0_predIndex 8 = .ok (.aload_n 0, 1) := by decide +kernel
theorem dX0_predIndex_9 : decode cX0_predIndex 9 = .ok (.getfield 53, 3) := by decide +kernel
theorem dX0_predIndex_12 : decode cX0_predIndex 12 = .ok (.iload_n 1, 1) := by decide +kernel
theorem dX0_predIndex_13 : decode cX0_predIndex 13 = .ok (.iconst 1, 1) := by decide +kernel
theorem dX0_predIndex_14 : decode cX0_predIndex 14 = .ok (.iadd, 1) := by decide +kernel
theorem dX0_predIndex_15 : decode cX0_predIndex 15 = .ok (.iaload, 1) := by decide +kernel
theorem dX0_predIndex_16 : decode cX0_predIndex 16 = .ok (.if_icmp .ge 28, 3) := by decide +kernel
theorem dX0_predIndex_44 : decode cX0_predIndex 44 = .ok (.iconst (-1), 1) := by decide +kernel
theorem dX0_predIndex_45 : decode cX0_predIndex 45 = .ok (.ireturn, 1) := by decide +kernel
theorem dX0_predIndex_19 : decode cX0_predIndex 19 = .ok (.aload_n 0, 1) := by decide +kernel
theorem dX0_predIndex_20 : decode cX0_predIndex 20 = .ok (.getfield 56, 3) := by decide +kernel
theorem dX0_predIndex_23 : decode cX0_predIndex 23 = .ok (.iload_n 3, 1) := by decide +kernel
theorem dX0_predIndex_24 : decode cX0_predIndex 24 = .ok (.iaload, 1) := by decide +kernel
theorem dX0_predIndex_25 : decode cX0_predIndex 25 = .ok (.iload_n 2, 1) := by decide +kernel
theorem dX0_predIndex_26 : decode cX0_predIndex 26 = .ok (.if_icmp .ne 12, 3) := by decide +kernel
theorem dX0_predIndex_38 : decode cX0_predIndex 38 = .ok (.iinc 3 1, 3) := by decide +kernel
theorem dX0_predIndex_41 : decode cX0_predIndex 41 = .ok (.goto (-34), 3) := by decide +kernel
theorem dX0_predIndex_29 : decode cX0_predIndex 29 = .ok (.iload_n 3, 1) := by decide +kernel
theorem dX0_predIndex_30 : decode cX0_predIndex 30 = .ok (.aload_n 0, 1) := by decide +kernel
theorem dX0_predIndex_31 : decode cX0_predIndex 31 = .ok (.getfield 53, 3) := by decide +kernel
theorem dX0_predIndex_34 : decode cX0_predIndex 34 = .ok (.iload_n 1, 1) := by decide +kernel
theorem dX0_predIndex_35 : decode cX0_predIndex 35 = .ok (.iaload, 1) := by decide +kernel
theorem dX0_predIndex_36 : decode cX0_predIndex 36 = .ok (.isub, 1) := by decide +kernel
theorem dX0_predIndex_37 : decode cX0_predIndex 37 = .ok (.ireturn, 1) := by decide +kernel
def o_X0_predIndex : List Cond := [.fieldLink RX0 53 "SsaForge$Code" "predStart" "[I", .fieldLink RX0 56 "SsaForge$Code" "preds" "[I"]
def v_X0_predIndex : List Cond := .code yX0_predIndex cX0_predIndex 4 (some .int) :: (o_X0_predIndex ++ (wsX00 ++ []))
theorem mow_X0_predIndex : ∀ w ∈ o_X0_predIndex, w ∈ v_X0_predIndex := fun _ h => List.mem_cons_of_mem _ (List.mem_append_left _ h)
theorem mem_X0_predIndex_0 : ∀ w ∈ wsX00, w ∈ v_X0_predIndex := fun _ h => List.mem_cons_of_mem _ (List.mem_append_right _ (List.mem_append_left _ h))
set_option maxRecDepth 20000 in
theorem gw_X0_predIndex : v_X0_predIndex.all goodWord = true := by decide +kernel
set_option maxHeartbeats 4000000 in
set_option maxRecDepth 100000 in
theorem c_X0_predIndex (l : Launch) (dC : Nat → ClassId) (dI : Nat → Nat → Nat) (h0 : Nat) (v_0 : Value) (v_1 : Value) (v_2 : Value) (v_3 : Value) (v_4 : Value) (v_5 : Value) (v_6 : Value) (v_7 : Value) (v_8 : Value) (v_9 : Value) (v_10 : Value) (v_11 : Value) (v_12 : Value) (q_713 : Nat) (cA_713 : ClassId) (a_13 : Int → Int) (q_714 : Nat) (cA_714 : ClassId) (a_14 : Int → Int) (v_15 : Value) (v_16 : Value) (v_17 : Value) (v_18 : Value) (b : Int) (p0 : Int32) (hR_a_13 : ∀ j : Int, 0 ≤ a_13 j ∧ a_13 j ≤ 600) (hR_a_14 : ∀ j : Int, 0 ≤ a_14 j ∧ a_14 j ≤ 299) (hNb : 0 ≤ b ∧ b < 300) (sz : Nat) : Met l yX0_predIndex v_X0_predIndex ({ frames := 0, cells := 0, slots := 0, locals := 0 }) (va_Pc [.ref h0, .int (zI (b)), .int p0] (fun U => U.heap.size = sz ∧ va_P (dC, dI) vwP [(h0, .inr (0, [v_0, v_1, v_2, v_3, v_4, v_5, v_6, v_7, v_8, v_9, v_10, v_11, v_12, .ref q_713, .ref q_714, v_15, v_16, v_17, v_18])), (q_713, .inl (cA_713, 301, .inl (fun j : Nat => zI (a_13 (j : Int))))), (q_714, .inl (cA_714, 600, .inl (fun j : Nat => zI (a_14 (j : Int)))))] U.heap ∧ va_K (dC, dI) vwP [(cA_713, .int), (cA_714, .int)] U ∧ va_D (fun _ => True) [(h0, .inr (0, [v_0, v_1, v_2, v_3, v_4, v_5, v_6, v_7, v_8, v_9, v_10, v_11, v_12, .ref q_713, .ref q_714, v_15, v_16, v_17, v_18])), (q_713, .inl (cA_713, 301, .inl (fun j : Nat => zI (a_13 (j : Int))))), (q_714, .inl (cA_714, 600, .inl (fun j : Nat => zI (a_14 (j : Int)))))])) (va_Qi (fun (r : Int32) (_ : Unit) => ∃ z : Int, r = zI z ∧ (-1 ≤ z ∧ z ≤ 600)) (fun (_ : Unit) (t : State) => va_P (dC, dI) vwP [(h0, .inr (0, [v_0, v_1, v_2, v_3, v_4, v_5, v_6, v_7, v_8, v_9, v_10, v_11, v_12, .ref q_713, .ref q_714, v_15, v_16, v_17, v_18])), (q_713, .inl (cA_713, 301, .inl (fun j : Nat => zI (a_13 (j : Int))))), (q_714, .inl (cA_714, 600, .inl (fun j : Nat => zI (a_14 (j : Int)))))] t.heap ∧ va_K (dC, dI) vwP [(cA_713, .int), (cA_714, .int)] t ∧ va_D (va_A [(h0, .inr (0, [v_0, v_1, v_2, v_3, v_4, v_5, v_6, v_7, v_8, v_9, v_10, v_11, v_12, .ref q_713, .ref q_714, v_15, v_16, v_17, v_18])), (q_713, .inl (cA_713, 301, .inl (fun j : Nat => zI (a_13 (j : Int))))), (q_714, .inl (cA_714, 600, .inl (fun j : Nat => zI (a_14 (j : Int)))))] sz) [(h0, .inr (0, [v_0, v_1, v_2, v_3, v_4, v_5, v_6, v_7, v_8, v_9, v_10, v_11, v_12, .ref q_713, .ref q_714, v_15, v_16, v_17, v_18])), (q_713, .inl (cA_713, 301, .inl (fun j : Nat => zI (a_13 (j : Int))))), (q_714, .inl (cA_714, 600, .inl (fun j : Nat => zI (a_14 (j : Int)))))]) (va_A [(h0, .inr (0, [v_0, v_1, v_2, v_3, v_4, v_5, v_6, v_7, v_8, v_9, v_10, v_11, v_12, .ref q_713, .ref q_714, v_15, v_16, v_17, v_18])), (q_713, .inl (cA_713, 301, .inl (fun j : Nat => zI (a_13 (j : Int))))), (q_714, .inl (cA_714, 600, .inl (fun j : Nat => zI (a_14 (j : Int)))))] sz)) 0 0 (va_A [(h0, .inr (0, [v_0, v_1, v_2, v_3, v_4, v_5, v_6, v_7, v_8, v_9, v_10, v_11, v_12, .ref q_713, .ref q_714, v_15, v_16, v_17, v_18])), (q_713, .inl (cA_713, 301, .inl (fun j : Nat => zI (a_13 (j : Int))))), (q_714, .inl (cA_714, 600, .inl (fun j : Nat => zI (a_14 (j : Int)))))] sz) := by
  refine Met.ofW (cc := cX0_predIndex) (maxL := 4) (ret := (some .int)) (by decide) rfl ?_
  intro p e s m args below meth c s₁ B hml hv
  obtain ⟨rfl, hsz, hP, hK, hD0⟩ := hv
  have hx := B.exec
  have hb := B.bytes
  have hr := B.returns
  have hts := atoms_spec (ws := v_X0_predIndex) B.pre
  have hown : s.vm.findClass RX0 = some m.cls := findClass_of_methodNamed B.named
  have hlocks := B.notSynchronized
  have ow : ∀ {k : Nat} {w : Cond}, o_X0_predIndex[k]? = some w → w.before ([.ref h0, .int (zI (b)), .int p0] : List Value).toArray s = true := fun h => hts _ (mow_X0_predIndex _ (List.mem_of_getElem? h))
  subst hsz
  have hD := hD0.self (sz := s.heap.size)
  generalize hAe : va_A [(h0, .inr (0, [v_0, v_1, v_2, v_3, v_4, v_5, v_6, v_7, v_8, v_9, v_10, v_11, v_12, .ref q_713, .ref q_714, v_15, v_16, v_17, v_18])), (q_713, .inl (cA_713, 301, .inl (fun j : Nat => zI (a_13 (j : Int))))), (q_714, .inl (cA_714, 600, .inl (fun j : Nat => zI (a_14 (j : Int)))))] s.heap.size = A at hD ⊢
  have hA : ∀ q : Nat, s.heap.size ≤ q → A q := fun q h => by rw [← hAe]; exact Or.inr h
  have hS : va_S A s.heap s.heap [] := va_S.rf
  have hP : va_P (dC, dI) vwP [(h0, .inr (0, [v_0, v_1, v_2, v_3, v_4, v_5, v_6, v_7, v_8, v_9, v_10, v_11, v_12, .ref q_713, .ref q_714, v_15, v_16, v_17, v_18])), (q_713, .inl (cA_713, 301, .inl (fun j : Nat => zI (a_13 (j : Int))))), (q_714, .inl (cA_714, 600, .inl (fun j : Nat => zI (a_14 (j : Int)))))] s.heap := hP
  have hl := lv_entry ([.ref h0, .int (zI (b)), .int p0]) (n := 4) (Nat.le_of_ble_eq_true rfl)
  rw [lg_entry_eq]
  generalize (lg_sl ([.ref h0, .int (zI (b)), .int p0]) ++ List.replicate (4 - (lg_sl ([.ref h0, .int (zI (b)), .int p0])).length) Slot.unset).toArray = ls at hl ⊢
  have hl : lv_has ls 4 [(0, .ref h0), (1, .int (zI (b))), (2, .int p0)] := hl
  obtain ⟨H, hH⟩ : ∃ H, H = s.heap := ⟨_, rfl⟩
  rw [← hH] at hP
  have hS : va_S A s.heap H [] := by rw [hH]; exact hS
  rw [← hH]
  refine zW_cap (fun Q hQ => ?_)
  refine lv_aload_n hx hb dX0_predIndex_0 rfl (lv_at hl 0 rfl) ?_
  refine va_get (D := (dC, dI)) (ci := 0) (v := .ref q_713) (C := RX0) (T := TX0) (N := 19) hx hb hts mem_X0_predIndex_0 hown hK hP 0 rfl rfl 13 (by decide) (ow (k := 0) rfl) (fun _ h9 => h9) rfl dX0_predIndex_1 ?_
  refine lv_iload_n hx hb dX0_predIndex_4 rfl (lv_at hl 1 rfl) ?_
  refine va_iald hx hb hK hP 1 0 rfl rfl (zI_in (a := b) (n := 301) (by omega) (by omega) (by decide)) dX0_predIndex_5 ?_
  refine lv_topi (fun z ez => ?_)
  obtain rfl : z = zI (a_13 (b)) := ez.trans (zI_ld (a_13) (by omega) (by omega))
  have k1 := hR_a_13 (b)
  refine lv_istore_n (lv' := [(3, .int (zI (a_13 (b)))), (0, .ref h0), (1, .int (zI (b))), (2, .int p0)]) hx hb dX0_predIndex_6 rfl hl (by decide) rfl (fun ls hl => ?_)
  have key7 : ∀ n7 : Nat, ∀ (d7_3 : Int) (ls : Array Slot) (H : Heap) (locs : List Loc), (a_13 (b) ≤ d7_3 ∧ d7_3 ≤ 1000000000) → (((a_13 (b + 1)) - (d7_3) : Int).toNat) < n7 → lv_has ls 4 [(0, .ref h0), (1, .int (zI (b))), (2, .int p0), (3, .int (zI (d7_3)))] → va_P (dC, dI) vwP [(h0, .inr (0, [v_0, v_1, v_2, v_3, v_4, v_5, v_6, v_7, v_8, v_9, v_10, v_11, v_12, .ref q_713, .ref q_714, v_15, v_16, v_17, v_18])), (q_713, .inl (cA_713, 301, .inl (fun j : Nat => zI (a_13 (j : Int))))), (q_714, .inl (cA_714, 600, .inl (fun j : Nat => zI (a_14 (j : Int)))))] H → va_D A [(h0, .inr (0, [v_0, v_1, v_2, v_3, v_4, v_5, v_6, v_7, v_8, v_9, v_10, v_11, v_12, .ref q_713, .ref q_714, v_15, v_16, v_17, v_18])), (q_713, .inl (cA_713, 301, .inl (fun j : Nat => zI (a_13 (j : Int))))), (q_714, .inl (cA_714, 600, .inl (fun j : Nat => zI (a_14 (j : Int)))))] → va_S A s.heap H locs → W p l e (headSpec v_X0_predIndex ({ frames := 0, cells := 0, slots := 0, locals := 0 })).room s m ([.ref h0, .int (zI (b)), .int p0] : List Value).toArray below meth c H locs 0 0 Q (F0 m 7 ls []) := by
    intro n7
    induction n7 with
    | zero => intro d7_3 ls H locs jd7_3 hm7; exact absurd hm7 (by omega)
    | succ n7 ih7 =>
      intro d7_3 ls H locs jd7_3 hm7 hl hP hD hS
      refine lv_iload_n hx hb dX0_predIndex_7 rfl (lv_at hl 3 rfl) ?_
      refine lv_aload_n hx hb dX0_predIndex_8 rfl (lv_at hl 0 rfl) ?_
      refine va_get (D := (dC, dI)) (ci := 0) (v := .ref q_713) (C := RX0) (T := TX0) (N := 19) hx hb hts mem_X0_predIndex_0 hown hK hP 0 rfl rfl 13 (by decide) (ow (k := 0) rfl) (fun _ h9 => h9) rfl dX0_predIndex_9 ?_
      refine lv_iload_n hx hb dX0_predIndex_12 rfl (lv_at hl 1 rfl) ?_
      refine lv_iconst (v := 1) hx hb dX0_predIndex_13 (by decide) ?_
      refine lv_iadd hx hb dX0_predIndex_14 ?_
      refine lv_topi (fun z ez => ?_)
      obtain rfl : z = zI (b + 1) := ez.trans (zI_add (b) (1))
      refine va_iald hx hb hK hP 1 0 rfl rfl (zI_in (a := b + 1) (n := 301) (by omega) (by omega) (by decide)) dX0_predIndex_15 ?_
      refine lv_topi (fun z ez => ?_)
      obtain rfl : z = zI (a_13 (b + 1)) := ez.trans (zI_ld (a_13) (by omega) (by omega))
      have k2 := hR_a_13 (b + 1)
      refine lv_icmp_ge (tgt := 44) hx hb dX0_predIndex_16 (by decide) (fun b16 => ?_) (fun b16 => ?_)
      · have yb16 : (a_13 (b + 1) : Int) ≤ (d7_3 : Int) := (zI_le (a := a_13 (b + 1)) (b := d7_3) (by omega) (by omega) (by omega) (by omega)).mp b16
        refine lv_iconst (v := (-1)) hx hb dX0_predIndex_44 (by decide) ?_
        subst hQ
        refine W.widen (k := 0) (n := 0) (Nat.le_of_ble_eq_true rfl) (Nat.le_of_ble_eq_true rfl) ?_
        exact W.iret (v := (-1)) hx hb hr (fun t ht hW => ⟨⟨(-1), (), rfl, ⟨-1, rfl, by omega⟩, by rw [ht]; exact hP, va_K.moved hW.alike hK, hD⟩, hS.F ht⟩) hS.2.2 dX0_predIndex_45
      · have yb16 : ¬ (a_13 (b + 1) : Int) ≤ (d7_3 : Int) := fun q => b16 ((zI_le (a := a_13 (b + 1)) (b := d7_3) (by omega) (by omega) (by omega) (by omega)).mpr q)
        refine lv_aload_n hx hb dX0_predIndex_19 rfl (lv_at hl 0 rfl) ?_
        refine va_get (D := (dC, dI)) (ci := 0) (v := .ref q_714) (C := RX0) (T := TX0) (N := 19) hx hb hts mem_X0_predIndex_0 hown hK hP 0 rfl rfl 14 (by decide) (ow (k := 1) rfl) (fun _ h9 => h9) rfl dX0_predIndex_20 ?_
        refine lv_iload_n hx hb dX0_predIndex_23 rfl (lv_at hl 3 rfl) ?_
        refine va_iald hx hb hK hP 2 1 rfl rfl (zI_in (a := d7_3) (n := 600) (by omega) (by omega) (by decide)) dX0_predIndex_24 ?_
        refine lv_topi (fun z ez => ?_)
        obtain rfl : z = zI (a_14 (d7_3)) := ez.trans (zI_ld (a_14) (by omega) (by omega))
        have k3 := hR_a_14 (d7_3)
        refine lv_iload_n hx hb dX0_predIndex_25 rfl (lv_at hl 2 rfl) ?_
        refine lv_icmp_ne (tgt := 38) hx hb dX0_predIndex_26 (by decide) (fun b26 => ?_) (fun b26 => ?_)
        · refine lv_iinc (v := zI (d7_3 + 1)) (lv' := [(3, .int (zI (d7_3 + 1))), (0, .ref h0), (1, .int (zI (b))), (2, .int p0)]) hx hb dX0_predIndex_38 hl (k := 3) rfl (zI_add (d7_3) (1)) (by decide) rfl (fun ls hl => ?_)
          refine lv_goto (tgt := 7) hx hb dX0_predIndex_41 (by decide) ?_
          exact ih7 (d7_3 + 1) ls H _ (by omega) (by omega) (lv_sub hl [1, 2, 3, 0] rfl) hP hD hS
        · refine lv_iload_n hx hb dX0_predIndex_29 rfl (lv_at hl 3 rfl) ?_
          refine lv_aload_n hx hb dX0_predIndex_30 rfl (lv_at hl 0 rfl) ?_
          refine va_get (D := (dC, dI)) (ci := 0) (v := .ref q_713) (C := RX0) (T := TX0) (N := 19) hx hb hts mem_X0_predIndex_0 hown hK hP 0 rfl rfl 13 (by decide) (ow (k := 0) rfl) (fun _ h9 => h9) rfl dX0_predIndex_31 ?_
          refine lv_iload_n hx hb dX0_predIndex_34 rfl (lv_at hl 1 rfl) ?_
          refine va_iald hx hb hK hP 1 0 rfl rfl (zI_in (a := b) (n := 301) (by omega) (by omega) (by decide)) dX0_predIndex_35 ?_
          refine lv_topi (fun z ez => ?_)
          obtain rfl : z = zI (a_13 (b)) := ez.trans (zI_ld (a_13) (by omega) (by omega))
          have k4 := hR_a_13 (b)
          refine lv_isub hx hb dX0_predIndex_36 ?_
          refine lv_topi (fun z ez => ?_)
          obtain rfl : z = zI (d7_3 - (a_13 (b))) := ez.trans (zI_sub (d7_3) (a_13 (b)))
          subst hQ
          refine W.widen (k := 0) (n := 0) (Nat.le_of_ble_eq_true rfl) (Nat.le_of_ble_eq_true rfl) ?_
          exact W.iret (v := (zI (d7_3 - (a_13 (b))))) hx hb hr (fun t ht hW => ⟨⟨(zI (d7_3 - (a_13 (b)))), (), rfl, ⟨d7_3 - (a_13 (b)), rfl, by omega⟩, by rw [ht]; exact hP, va_K.moved hW.alike hK, hD⟩, hS.F ht⟩) hS.2.2 dX0_predIndex_37
  exact key7 (((a_13 (b + 1)) - (a_13 (b)) : Int).toNat + 1) (a_13 (b)) ls H _ (by omega) (by omega) (lv_sub hl [1, 2, 3, 0] rfl) hP hD hS
theorem dX0_putRow_0 : decode cX0_putRow 0 = .ok (.aload_n 0, 1) := by decide +kernel
theorem dX0_putRow_1 : decode cX0_putRow 1 = .ok (.getfield 28, 3) := by decide +kernel
theorem dX0_putRow_4 : decode cX0_putRow 4 = .ok (.iload_n 1, 1) := by decide +kernel
theorem dX0_putRow_5 : decode cX0_putRow 5 = .ok (.iload_n 2, 1) := by decide +kernel
theorem dX0_putRow_6 : decode cX0_putRow 6 = .ok (.iastore, 1) := by decide +kernel
theorem dX0_putRow_7 : decode cX0_putRow 7 = .ok (.aload_n 0, 1) := by decide +kernel
theorem dX0_putRow_8 : decode cX0_putRow 8 = .ok (.getfield 31, 3) := by decide +kernel
theorem dX0_putRow_11 : decode cX0_putRow 11 = .ok (.iload_n 1, 1) := by decide +kernel
theorem dX0_putRow_12 : decode cX0_putRow 12 = .ok (.iload_n 3, 1) := by decide +kernel
theorem dX0_putRow_13 : decode cX0_putRow 13 = .ok (.iastore, 1) := by decide +kernel
theorem dX0_putRow_14 : decode cX0_putRow 14 = .ok (.aload_n 0, 1) := by decide +kernel
theorem dX0_putRow_15 : decode cX0_putRow 15 = .ok (.getfield 34, 3) := by decide +kernel
theorem dX0_putRow_18 : decode cX0_putRow 18 = .ok (.iload_n 1, 1) := by decide +kernel
theorem dX0_putRow_19 : decode cX0_putRow 19 = .ok (.lload 4, 2) := by decide +kernel
theorem dX0_putRow_21 : decode cX0_putRow 21 = .ok (.lastore, 1) := by decide +kernel
theorem dX0_putRow_22 : decode cX0_putRow 22 = .ok (.aload_n 0, 1) := by decide +kernel
theorem dX0_putRow_23 : decode cX0_putRow 23 = .ok (.getfield 38, 3) := by decide +kernel
theorem dX0_putRow_26 : decode cX0_putRow 26 = .ok (.iload_n 1, 1) := by decide +kernel
theorem dX0_putRow_27 : decode cX0_putRow 27 = .ok (.lload 6, 2) := by decide +kernel
theorem dX0_putRow_29 : decode cX0_putRow 29 = .ok (.lastore, 1) := by decide +kernel
theorem dX0_putRow_30 : decode cX0_putRow 30 = .ok (.return_, 1) := by decide +kernel
def o_X0_putRow : List Cond := [.fieldLink RX0 28 "SsaForge$Code" "op" "[I", .fieldLink RX0 31 "SsaForge$Code" "target" "[I", .fieldLink RX0 34 "SsaForge$Code" "left" "[J", .fieldLink RX0 38 "SsaForge$Code" "right" "[J"]
def v_X0_putRow : List Cond := .code yX0_putRow cX0_putRow 8 none :: (o_X0_putRow ++ (wsX00 ++ []))
theorem mow_X0_putRow : ∀ w ∈ o_X0_putRow, w ∈ v_X0_putRow := fun _ h => List.mem_cons_of_mem _ (List.mem_append_left _ h)
theorem mem_X0_putRow_0 : ∀ w ∈ wsX00, w ∈ v_X0_putRow := fun _ h => List.mem_cons_of_mem _ (List.mem_append_right _ (List.mem_append_left _ h))
set_option maxRecDepth 20000 in
theorem gw_X0_putRow : v_X0_putRow.all goodWord = true := by decide +kernel
set_option maxHeartbeats 4000000 in
set_option maxRecDepth 100000 in
theorem c_X0_putRow (l : Launch) (dC : Nat → ClassId) (dI : Nat → Nat → Nat) (h0 : Nat) (v_0 : Value) (v_1 : Value) (v_2 : Value) (v_3 : Value) (v_4 : Value) (q_705 : Nat) (cA_705 : ClassId) (a_5 : Int → Int) (q_706 : Nat) (cA_706 : ClassId) (a_6 : Int → Int) (q_707 : Nat) (cA_707 : ClassId) (a_7 : Int → Int) (q_708 : Nat) (cA_708 : ClassId) (a_8 : Int → Int) (v_9 : Value) (v_10 : Value) (v_11 : Value) (v_12 : Value) (v_13 : Value) (v_14 : Value) (v_15 : Value) (v_16 : Value) (v_17 : Value) (v_18 : Value) (i : Int) (set : Int) (x1 : Int) (x2 : Int) (ro : Int) (hR_a_5 : ∀ j : Int, -1 ≤ a_5 j ∧ a_5 j ≤ 100) (hR_a_6 : ∀ j : Int, -1 ≤ a_6 j ∧ a_6 j ≤ 1023) (hR_a_7 : ∀ j : Int, ((-2147483648 ≤ a_7 j ∧ a_7 j ≤ 4294968319) ∨ a_7 j = 1099511627776)) (hR_a_8 : ∀ j : Int, ((-2147483648 ≤ a_8 j ∧ a_8 j ≤ 4294968319) ∨ a_8 j = 1099511627776)) (hNi : 0 ≤ i ∧ i < 2000) (hNset : -1 ≤ set ∧ set ≤ 1023) (hNx1 : ((-2147483648 ≤ x1 ∧ x1 ≤ 4294968319) ∨ x1 = 1099511627776)) (hNx2 : ((-2147483648 ≤ x2 ∧ x2 ≤ 4294968319) ∨ x2 = 1099511627776)) (hNro : -1 ≤ ro ∧ ro ≤ 100) (sz : Nat) : Met l yX0_putRow v_X0_putRow ({ frames := 0, cells := 0, slots := 0, locals := 0 }) (va_Pc [.ref h0, .int (zI (i)), .int (zI (ro)), .int (zI (set)), .long (lI (x1)), .long (lI (x2))] (fun U => U.heap.size = sz ∧ va_P (dC, dI) vwP [(h0, .inr (0, [v_0, v_1, v_2, v_3, v_4, .ref q_705, .ref q_706, .ref q_707, .ref q_708, v_9, v_10, v_11, v_12, v_13, v_14, v_15, v_16, v_17, v_18])), (q_705, .inl (cA_705, 2000, .inl (fun j : Nat => zI (a_5 (j : Int))))), (q_706, .inl (cA_706, 2000, .inl (fun j : Nat => zI (a_6 (j : Int))))), (q_707, .inl (cA_707, 2000, .inr (.inl (fun j : Nat => lI (a_7 (j : Int)))))), (q_708, .inl (cA_708, 2000, .inr (.inl (fun j : Nat => lI (a_8 (j : Int))))))] U.heap ∧ va_K (dC, dI) vwP [(cA_705, .int), (cA_706, .int), (cA_707, .long), (cA_708, .long)] U ∧ va_D (fun _ => True) [(h0, .inr (0, [v_0, v_1, v_2, v_3, v_4, .ref q_705, .ref q_706, .ref q_707, .ref q_708, v_9, v_10, v_11, v_12, v_13, v_14, v_15, v_16, v_17, v_18])), (q_705, .inl (cA_705, 2000, .inl (fun j : Nat => zI (a_5 (j : Int))))), (q_706, .inl (cA_706, 2000, .inl (fun j : Nat => zI (a_6 (j : Int))))), (q_707, .inl (cA_707, 2000, .inr (.inl (fun j : Nat => lI (a_7 (j : Int)))))), (q_708, .inl (cA_708, 2000, .inr (.inl (fun j : Nat => lI (a_8 (j : Int))))))])) (va_Qv (fun _ : Unit => True) (fun (_ : Unit) (t : State) => ∃ (a0_9 : Int → Int) (a1_9 : Int → Int) (a2_9 : Int → Int) (a3_9 : Int → Int), ((∀ j : Int, -1 ≤ a0_9 j ∧ a0_9 j ≤ 100) ∧ (∀ j : Int, -1 ≤ a1_9 j ∧ a1_9 j ≤ 1023) ∧ (∀ j : Int, ((-2147483648 ≤ a2_9 j ∧ a2_9 j ≤ 4294968319) ∨ a2_9 j = 1099511627776)) ∧ (∀ j : Int, ((-2147483648 ≤ a3_9 j ∧ a3_9 j ≤ 4294968319) ∨ a3_9 j = 1099511627776))) ∧ va_P (dC, dI) vwP [(h0, .inr (0, [v_0, v_1, v_2, v_3, v_4, .ref q_705, .ref q_706, .ref q_707, .ref q_708, v_9, v_10, v_11, v_12, v_13, v_14, v_15, v_16, v_17, v_18])), (q_705, .inl (cA_705, 2000, .inl (fun j : Nat => zI (a0_9 (j : Int))))), (q_706, .inl (cA_706, 2000, .inl (fun j : Nat => zI (a1_9 (j : Int))))), (q_707, .inl (cA_707, 2000, .inr (.inl (fun j : Nat => lI (a2_9 (j : Int)))))), (q_708, .inl (cA_708, 2000, .inr (.inl (fun j : Nat => lI (a3_9 (j : Int))))))] t.heap ∧ va_K (dC, dI) vwP [(cA_705, .int), (cA_706, .int), (cA_707, .long), (cA_708, .long)] t ∧ va_D (va_A [(h0, .inr (0, [v_0, v_1, v_2, v_3, v_4, .ref q_705, .ref q_706, .ref q_707, .ref q_708, v_9, v_10, v_11, v_12, v_13, v_14, v_15, v_16, v_17, v_18])), (q_705, .inl (cA_705, 2000, .inl (fun j : Nat => zI (a_5 (j : Int))))), (q_706, .inl (cA_706, 2000, .inl (fun j : Nat => zI (a_6 (j : Int))))), (q_707, .inl (cA_707, 2000, .inr (.inl (fun j : Nat => lI (a_7 (j : Int)))))), (q_708, .inl (cA_708, 2000, .inr (.inl (fun j : Nat => lI (a_8 (j : Int))))))] sz) [(h0, .inr (0, [v_0, v_1, v_2, v_3, v_4, .ref q_705, .ref q_706, .ref q_707, .ref q_708, v_9, v_10, v_11, v_12, v_13, v_14, v_15, v_16, v_17, v_18])), (q_705, .inl (cA_705, 2000, .inl (fun j : Nat => zI (a0_9 (j : Int))))), (q_706, .inl (cA_706, 2000, .inl (fun j : Nat => zI (a1_9 (j : Int))))), (q_707, .inl (cA_707, 2000, .inr (.inl (fun j : Nat => lI (a2_9 (j : Int)))))), (q_708, .inl (cA_708, 2000, .inr (.inl (fun j : Nat => lI (a3_9 (j : Int))))))]) (va_A [(h0, .inr (0, [v_0, v_1, v_2, v_3, v_4, .ref q_705, .ref q_706, .ref q_707, .ref q_708, v_9, v_10, v_11, v_12, v_13, v_14, v_15, v_16, v_17, v_18])), (q_705, .inl (cA_705, 2000, .inl (fun j : Nat => zI (a_5 (j : Int))))), (q_706, .inl (cA_706, 2000, .inl (fun j : Nat => zI (a_6 (j : Int))))), (q_707, .inl (cA_707, 2000, .inr (.inl (fun j : Nat => lI (a_7 (j : Int)))))), (q_708, .inl (cA_708, 2000, .inr (.inl (fun j : Nat => lI (a_8 (j : Int))))))] sz)) 0 0 (va_A [(h0, .inr (0, [v_0, v_1, v_2, v_3, v_4, .ref q_705, .ref q_706, .ref q_707, .ref q_708, v_9, v_10, v_11, v_12, v_13, v_14, v_15, v_16, v_17, v_18])), (q_705, .inl (cA_705, 2000, .inl (fun j : Nat => zI (a_5 (j : Int))))), (q_706, .inl (cA_706, 2000, .inl (fun j : Nat => zI (a_6 (j : Int))))), (q_707, .inl (cA_707, 2000, .inr (.inl (fun j : Nat => lI (a_7 (j : Int)))))), (q_708, .inl (cA_708, 2000, .inr (.inl (fun j : Nat => lI (a_8 (j : Int))))))] sz) := by
  refine Met.ofW (cc := cX0_putRow) (maxL := 8) (ret := none) (by decide) rfl ?_
  intro p e s m args below meth c s₁ B hml hv
  obtain ⟨rfl, hsz, hP, hK, hD0⟩ := hv
  have hx := B.exec
  have hb := B.bytes
  have hr := B.returns
  have hts := atoms_spec (ws := v_X0_putRow) B.pre
  have hown : s.vm.findClass RX0 = some m.cls := findClass_of_methodNamed B.named
  have hlocks := B.notSynchronized
  have ow : ∀ {k : Nat} {w : Cond}, o_X0_putRow[k]? = some w → w.before ([.ref h0, .int (zI (i)), .int (zI (ro)), .int (zI (set)), .long (lI (x1)), .long (lI (x2))] : List Value).toArray s = true := fun h => hts _ (mow_X0_putRow _ (List.mem_of_getElem? h))
  subst hsz
  have hD := hD0.self (sz := s.heap.size)
  generalize hAe : va_A [(h0, .inr (0, [v_0, v_1, v_2, v_3, v_4, .ref q_705, .ref q_706, .ref q_707, .ref q_708, v_9, v_10, v_11, v_12, v_13, v_14, v_15, v_16, v_17, v_18])), (q_705, .inl (cA_705, 2000, .inl (fun j : Nat => zI (a_5 (j : Int))))), (q_706, .inl (cA_706, 2000, .inl (fun j : Nat => zI (a_6 (j : Int))))), (q_707, .inl (cA_707, 2000, .inr (.inl (fun j : Nat => lI (a_7 (j : Int)))))), (q_708, .inl (cA_708, 2000, .inr (.inl (fun j : Nat => lI (a_8 (j : Int))))))] s.heap.size = A at hD ⊢
  have hA : ∀ q : Nat, s.heap.size ≤ q → A q := fun q h => by rw [← hAe]; exact Or.inr h
  have hS : va_S A s.heap s.heap [] := va_S.rf
  have hP : va_P (dC, dI) vwP [(h0, .inr (0, [v_0, v_1, v_2, v_3, v_4, .ref q_705, .ref q_706, .ref q_707, .ref q_708, v_9, v_10, v_11, v_12, v_13, v_14, v_15, v_16, v_17, v_18])), (q_705, .inl (cA_705, 2000, .inl (fun j : Nat => zI (a_5 (j : Int))))), (q_706, .inl (cA_706, 2000, .inl (fun j : Nat => zI (a_6 (j : Int))))), (q_707, .inl (cA_707, 2000, .inr (.inl (fun j : Nat => lI (a_7 (j : Int)))))), (q_708, .inl (cA_708, 2000, .inr (.inl (fun j : Nat => lI (a_8 (j : Int))))))] s.heap := hP
  have hl := lv_entry ([.ref h0, .int (zI (i)), .int (zI (ro)), .int (zI (set)), .long (lI (x1)), .long (lI (x2))]) (n := 8) (Nat.le_of_ble_eq_true rfl)
  rw [lg_entry_eq]
  generalize (lg_sl ([.ref h0, .int (zI (i)), .int (zI (ro)), .int (zI (set)), .long (lI (x1)), .long (lI (x2))]) ++ List.replicate (8 - (lg_sl ([.ref h0, .int (zI (i)), .int (zI (ro)), .int (zI (set)), .long (lI (x1)), .long (lI (x2))])).length) Slot.unset).toArray = ls at hl ⊢
  have hl : lv_has ls 8 [(0, .ref h0), (1, .int (zI (i))), (2, .int (zI (ro))), (3, .int (zI (set))), (4, .long (lI (x1))), (6, .long (lI (x2)))] := hl
  obtain ⟨H, hH⟩ : ∃ H, H = s.heap := ⟨_, rfl⟩
  rw [← hH] at hP
  have hS : va_S A s.heap H [] := by rw [hH]; exact hS
  rw [← hH]
  refine zW_cap (fun Q hQ => ?_)
  refine lv_aload_n hx hb dX0_putRow_0 rfl (lv_at hl 0 rfl) ?_
  refine va_get (D := (dC, dI)) (ci := 0) (v := .ref q_705) (C := RX0) (T := TX0) (N := 19) hx hb hts mem_X0_putRow_0 hown hK hP 0 rfl rfl 5 (by decide) (ow (k := 0) rfl) (fun _ h9 => h9) rfl dX0_putRow_1 ?_
  refine lv_iload_n hx hb dX0_putRow_4 rfl (lv_at hl 1 rfl) ?_
  refine lv_iload_n hx hb dX0_putRow_5 rfl (lv_at hl 2 rfl) ?_
  refine va_iast (i := zI (i)) hx hb hK hP hD hS 1 0 rfl rfl (zI_in (a := i) (n := 2000) (by omega) (by omega) (by decide)) dX0_putRow_6 (fun H locs hP hD hS => ?_)
  have eQ : upd (fun j : Nat => zI (a_5 (j : Int))) (zI (i)).toNatClampNeg (zI (ro)) = (fun j : Nat => zI (zup a_5 (i) (ro) (j : Int))) := zI_st a_5 (e := i) (v := ro) (by omega) (by omega)
  rw [eQ] at hP hD
  clear eQ
  have ra_2001 : ∀ j : Int, -1 ≤ zup a_5 (i) (ro) j ∧ zup a_5 (i) (ro) j ≤ 100 := zup_P (P := fun x9 => -1 ≤ x9 ∧ x9 ≤ 100) hR_a_5 (show -1 ≤ (ro) ∧ (ro) ≤ 100 by omega)
  generalize zup a_5 (i) (ro) = a_2001 at hP hD ra_2001
  have hP : va_P (dC, dI) vwP [(h0, .inr (0, [v_0, v_1, v_2, v_3, v_4, .ref q_705, .ref q_706, .ref q_707, .ref q_708, v_9, v_10, v_11, v_12, v_13, v_14, v_15, v_16, v_17, v_18])), (q_705, .inl (cA_705, 2000, .inl (fun j : Nat => zI (a_2001 (j : Int))))), (q_706, .inl (cA_706, 2000, .inl (fun j : Nat => zI (a_6 (j : Int))))), (q_707, .inl (cA_707, 2000, .inr (.inl (fun j : Nat => lI (a_7 (j : Int)))))), (q_708, .inl (cA_708, 2000, .inr (.inl (fun j : Nat => lI (a_8 (j : Int))))))] H := hP
  have hD : va_D A [(h0, .inr (0, [v_0, v_1, v_2, v_3, v_4, .ref q_705, .ref q_706, .ref q_707, .ref q_708, v_9, v_10, v_11, v_12, v_13, v_14, v_15, v_16, v_17, v_18])), (q_705, .inl (cA_705, 2000, .inl (fun j : Nat => zI (a_2001 (j : Int))))), (q_706, .inl (cA_706, 2000, .inl (fun j : Nat => zI (a_6 (j : Int))))), (q_707, .inl (cA_707, 2000, .inr (.inl (fun j : Nat => lI (a_7 (j : Int)))))), (q_708, .inl (cA_708, 2000, .inr (.inl (fun j : Nat => lI (a_8 (j : Int))))))] := hD
  refine lv_aload_n hx hb dX0_putRow_7 rfl (lv_at hl 0 rfl) ?_
  refine va_get (D := (dC, dI)) (ci := 0) (v := .ref q_706) (C := RX0) (T := TX0) (N := 19) hx hb hts mem_X0_putRow_0 hown hK hP 0 rfl rfl 6 (by decide) (ow (k := 1) rfl) (fun _ h9 => h9) rfl dX0_putRow_8 ?_
  refine lv_iload_n hx hb dX0_putRow_11 rfl (lv_at hl 1 rfl) ?_
  refine lv_iload_n hx hb dX0_putRow_12 rfl (lv_at hl 3 rfl) ?_
  refine va_iast (i := zI (i)) hx hb hK hP hD hS 2 1 rfl rfl (zI_in (a := i) (n := 2000) (by omega) (by omega) (by decide)) dX0_putRow_13 (fun H locs hP hD hS => ?_)
  have eQ : upd (fun j : Nat => zI (a_6 (j : Int))) (zI (i)).toNatClampNeg (zI (set)) = (fun j : Nat => zI (zup a_6 (i) (set) (j : Int))) := zI_st a_6 (e := i) (v := set) (by omega) (by omega)
  rw [eQ] at hP hD
  clear eQ
  have ra_2002 : ∀ j : Int, -1 ≤ zup a_6 (i) (set) j ∧ zup a_6 (i) (set) j ≤ 1023 := zup_P (P := fun x9 => -1 ≤ x9 ∧ x9 ≤ 1023) hR_a_6 (show -1 ≤ (set) ∧ (set) ≤ 1023 by omega)
  generalize zup a_6 (i) (set) = a_2002 at hP hD ra_2002
  have hP : va_P (dC, dI) vwP [(h0, .inr (0, [v_0, v_1, v_2, v_3, v_4, .ref q_705, .ref q_706, .ref q_707, .ref q_708, v_9, v_10, v_11, v_12, v_13, v_14, v_15, v_16, v_17, v_18])), (q_705, .inl (cA_705, 2000, .inl (fun j : Nat => zI (a_2001 (j : Int))))), (q_706, .inl (cA_706, 2000, .inl (fun j : Nat => zI (a_2002 (j : Int))))), (q_707, .inl (cA_707, 2000, .inr (.inl (fun j : Nat => lI (a_7 (j : Int)))))), (q_708, .inl (cA_708, 2000, .inr (.inl (fun j : Nat => lI (a_8 (j : Int))))))] H := hP
  have hD : va_D A [(h0, .inr (0, [v_0, v_1, v_2, v_3, v_4, .ref q_705, .ref q_706, .ref q_707, .ref q_708, v_9, v_10, v_11, v_12, v_13, v_14, v_15, v_16, v_17, v_18])), (q_705, .inl (cA_705, 2000, .inl (fun j : Nat => zI (a_2001 (j : Int))))), (q_706, .inl (cA_706, 2000, .inl (fun j : Nat => zI (a_2002 (j : Int))))), (q_707, .inl (cA_707, 2000, .inr (.inl (fun j : Nat => lI (a_7 (j : Int)))))), (q_708, .inl (cA_708, 2000, .inr (.inl (fun j : Nat => lI (a_8 (j : Int))))))] := hD
  refine lv_aload_n hx hb dX0_putRow_14 rfl (lv_at hl 0 rfl) ?_
  refine va_get (D := (dC, dI)) (ci := 0) (v := .ref q_707) (C := RX0) (T := TX0) (N := 19) hx hb hts mem_X0_putRow_0 hown hK hP 0 rfl rfl 7 (by decide) (ow (k := 2) rfl) (fun _ h9 => h9) rfl dX0_putRow_15 ?_
  refine lv_iload_n hx hb dX0_putRow_18 rfl (lv_at hl 1 rfl) ?_
  refine lv_lload hx hb dX0_putRow_19 (lv_at hl 4 rfl) ?_
  refine va_last (i := zI (i)) hx hb hK hP hD hS 3 2 rfl rfl (zI_in (a := i) (n := 2000) (by omega) (by omega) (by decide)) dX0_putRow_21 (fun H locs hP hD hS => ?_)
  have eQ : vp_updL (fun j : Nat => lI (a_7 (j : Int))) (zI (i)).toNatClampNeg (lI (x1)) = (fun j : Nat => lI (zup a_7 (i) (x1) (j : Int))) := lI_st a_7 (e := i) (v := x1) (by omega) (by omega)
  rw [eQ] at hP hD
  clear eQ
  have ra_2003 : ∀ j : Int, ((-2147483648 ≤ zup a_7 (i) (x1) j ∧ zup a_7 (i) (x1) j ≤ 4294968319) ∨ zup a_7 (i) (x1) j = 1099511627776) := zup_P (P := fun x9 => ((-2147483648 ≤ x9 ∧ x9 ≤ 4294968319) ∨ x9 = 1099511627776)) hR_a_7 (show ((-2147483648 ≤ (x1) ∧ (x1) ≤ 4294968319) ∨ (x1) = 1099511627776) by omega)
  generalize zup a_7 (i) (x1) = a_2003 at hP hD ra_2003
  have hP : va_P (dC, dI) vwP [(h0, .inr (0, [v_0, v_1, v_2, v_3, v_4, .ref q_705, .ref q_706, .ref q_707, .ref q_708, v_9, v_10, v_11, v_12, v_13, v_14, v_15, v_16, v_17, v_18])), (q_705, .inl (cA_705, 2000, .inl (fun j : Nat => zI (a_2001 (j : Int))))), (q_706, .inl (cA_706, 2000, .inl (fun j : Nat => zI (a_2002 (j : Int))))), (q_707, .inl (cA_707, 2000, .inr (.inl (fun j : Nat => lI (a_2003 (j : Int)))))), (q_708, .inl (cA_708, 2000, .inr (.inl (fun j : Nat => lI (a_8 (j : Int))))))] H := hP
  have hD : va_D A [(h0, .inr (0, [v_0, v_1, v_2, v_3, v_4, .ref q_705, .ref q_706, .ref q_707, .ref q_708, v_9, v_10, v_11, v_12, v_13, v_14, v_15, v_16, v_17, v_18])), (q_705, .inl (cA_705, 2000, .inl (fun j : Nat => zI (a_2001 (j : Int))))), (q_706, .inl (cA_706, 2000, .inl (fun j : Nat => zI (a_2002 (j : Int))))), (q_707, .inl (cA_707, 2000, .inr (.inl (fun j : Nat => lI (a_2003 (j : Int)))))), (q_708, .inl (cA_708, 2000, .inr (.inl (fun j : Nat => lI (a_8 (j : Int))))))] := hD
  refine lv_aload_n hx hb dX0_putRow_22 rfl (lv_at hl 0 rfl) ?_
  refine va_get (D := (dC, dI)) (ci := 0) (v := .ref q_708) (C := RX0) (T := TX0) (N := 19) hx hb hts mem_X0_putRow_0 hown hK hP 0 rfl rfl 8 (by decide) (ow (k := 3) rfl) (fun _ h9 => h9) rfl dX0_putRow_23 ?_
  refine lv_iload_n hx hb dX0_putRow_26 rfl (lv_at hl 1 rfl) ?_
  refine lv_lload hx hb dX0_putRow_27 (lv_at hl 5 rfl) ?_
  refine va_last (i := zI (i)) hx hb hK hP hD hS 4 3 rfl rfl (zI_in (a := i) (n := 2000) (by omega) (by omega) (by decide)) dX0_putRow_29 (fun H locs hP hD hS => ?_)
  have eQ : vp_updL (fun j : Nat => lI (a_8 (j : Int))) (zI (i)).toNatClampNeg (lI (x2)) = (fun j : Nat => lI (zup a_8 (i) (x2) (j : Int))) := lI_st a_8 (e := i) (v := x2) (by omega) (by omega)
  rw [eQ] at hP hD
  clear eQ
  have ra_2004 : ∀ j : Int, ((-2147483648 ≤ zup a_8 (i) (x2) j ∧ zup a_8 (i) (x2) j ≤ 4294968319) ∨ zup a_8 (i) (x2) j = 1099511627776) := zup_P (P := fun x9 => ((-2147483648 ≤ x9 ∧ x9 ≤ 4294968319) ∨ x9 = 1099511627776)) hR_a_8 (show ((-2147483648 ≤ (x2) ∧ (x2) ≤ 4294968319) ∨ (x2) = 1099511627776) by omega)
  generalize zup a_8 (i) (x2) = a_2004 at hP hD ra_2004
  have hP : va_P (dC, dI) vwP [(h0, .inr (0, [v_0, v_1, v_2, v_3, v_4, .ref q_705, .ref q_706, .ref q_707, .ref q_708, v_9, v_10, v_11, v_12, v_13, v_14, v_15, v_16, v_17, v_18])), (q_705, .inl (cA_705, 2000, .inl (fun j : Nat => zI (a_2001 (j : Int))))), (q_706, .inl (cA_706, 2000, .inl (fun j : Nat => zI (a_2002 (j : Int))))), (q_707, .inl (cA_707, 2000, .inr (.inl (fun j : Nat => lI (a_2003 (j : Int)))))), (q_708, .inl (cA_708, 2000, .inr (.inl (fun j : Nat => lI (a_2004 (j : Int))))))] H := hP
  have hD : va_D A [(h0, .inr (0, [v_0, v_1, v_2, v_3, v_4, .ref q_705, .ref q_706, .ref q_707, .ref q_708, v_9, v_10, v_11, v_12, v_13, v_14, v_15, v_16, v_17, v_18])), (q_705, .inl (cA_705, 2000, .inl (fun j : Nat => zI (a_2001 (j : Int))))), (q_706, .inl (cA_706, 2000, .inl (fun j : Nat => zI (a_2002 (j : Int))))), (q_707, .inl (cA_707, 2000, .inr (.inl (fun j : Nat => lI (a_2003 (j : Int)))))), (q_708, .inl (cA_708, 2000, .inr (.inl (fun j : Nat => lI (a_2004 (j : Int))))))] := hD
  subst hQ
  refine W.widen (k := 0) (n := 0) (Nat.le_of_ble_eq_true rfl) (Nat.le_of_ble_eq_true rfl) ?_
  exact W.vret hx hb hr (fun t ht hW => ⟨⟨(), rfl, trivial, a_2001, a_2002, a_2003, a_2004, ⟨ra_2001, ra_2002, ra_2003, ra_2004⟩, by rw [ht]; exact hP, va_K.moved hW.alike hK, hD⟩, hS.F ht⟩) hS.2.2 dX0_putRow_30
theorem dX0_addRow_0 : decode cX0_addRow 0 = .ok (.aload_n 0, 1) := by decide +kernel
theorem dX0_addRow_1 : decode cX0_addRow 1 = .ok (.getfield 15, 3) := by decide +kernel
theorem dX0_addRow_4 : decode cX0_addRow 4 = .ok (.sipush 2000, 3) := by decide +kernel
theorem dX0_addRow_7 : decode cX0_addRow 7 = .ok (.if_icmp .lt 5, 3) := by decide +kernel
theorem dX0_addRow_12 : decode cX0_addRow 12 = .ok (.aload_n 0, 1) := by decide +kernel
theorem dX0_addRow_13 : decode cX0_addRow 13 = .ok (.aload_n 0, 1) := by decide +kernel
theorem dX0_addRow_14 : decode cX0_addRow 14 = .ok (.getfield 15, 3) := by decide +kernel
theorem dX0_addRow_17 : decode cX0_addRow 17 = .ok (.iload_n 1, 1) := by decide +kernel
theorem dX0_addRow_18 : decode cX0_addRow 18 = .ok (.iload_n 2, 1) := by decide +kernel
theorem dX0_addRow_19 : decode cX0_addRow 19 = .ok (.lload_n 3, 1) := by decide +kernel
theorem dX0_addRow_20 : decode cX0_addRow 20 = .ok (.lload 5, 2) := by decide +kernel
theorem dX0_addRow_22 : decode cX0_addRow 22 = .ok (.invokevirtual 81, 3) := by decide +kernel
theorem dX0_addRow_25 : decode cX0_addRow 25 = .ok (.aload_n 0, 1) := by decide +kernel
theorem dX0_addRow_26 : decode cX0_addRow 26 = .ok (.dup, 1) := by decide +kernel
theorem dX0_addRow_27 : decode cX0_addRow 27 = .ok (.getfield 15, 3) := by decide +kernel
theorem dX0_addRow_30 : decode cX0_addRow 30 = .ok (.iconst 1, 1) := by decide +kernel
theorem dX0_addRow_31 : decode cX0_addRow 31 = .ok (.iadd, 1) := by decide +kernel
theorem dX0_addRow_32 : decode cX0_addRow 32 = .ok (.putfield 15, 3) := by decide +kernel
theorem dX0_addRow_35 : decode cX0_addRow 35 = .ok (.iconst 1, 1) := by decide +kernel
theorem dX0_addRow_36 : decode cX0_addRow 36 = .ok (.ireturn, 1) := by decide +kernel
theorem dX0_addRow_10 : decode cX0_addRow 10 = .ok (.iconst 0, 1) := by decide +kernel
theorem dX0_addRow_11 : decode cX0_addRow 11 = .ok (.ireturn, 1) := by decide +kernel
def o_X0_addRow : List Cond := [.fieldLink RX0 15 "SsaForge$Code" "rows" "I", .methodLink RX0 81 yX0_putRow, .instanceMethod yX0_putRow, .selects RX0 yX0_putRow yX0_putRow, .initialized RX0]
def v_X0_addRow : List Cond := .code yX0_addRow cX0_addRow 7 (some .boolean) :: (o_X0_addRow ++ (wsX00 ++ (v_X0_putRow ++ [])))
theorem mow_X0_addRow : ∀ w ∈ o_X0_addRow, w ∈ v_X0_addRow := fun _ h => List.mem_cons_of_mem _ (List.mem_append_left _ h)
theorem mem_X0_addRow_0 : ∀ w ∈ wsX00, w ∈ v_X0_addRow := fun _ h => List.mem_cons_of_mem _ (List.mem_append_right _ (List.mem_append_left _ h))
theorem mem_X0_addRow_1 : ∀ w ∈ v_X0_putRow, w ∈ v_X0_addRow := fun _ h => List.mem_cons_of_mem _ (List.mem_append_right _ (List.mem_append_right _ (List.mem_append_left _ h)))
set_option maxRecDepth 20000 in
theorem gw_X0_addRow : v_X0_addRow.all goodWord = true := by decide +kernel
set_option maxRecDepth 20000 in
theorem g_X0_addRow_X0_putRow : GoodIn v_X0_addRow (wsV RX0 81 RX0 yX0_putRow v_X0_putRow) := goodIn_app (goodIn_sub (fun w h => mow_X0_addRow w (by revert w h; decide +kernel)) (by decide +kernel)) (goodIn_sub mem_X0_addRow_1 gw_X0_putRow)
set_option maxHeartbeats 4000000 in
set_option maxRecDepth 100000 in
theorem c_X0_addRow (l : Launch) (dC : Nat → ClassId) (dI : Nat → Nat → Nat) (h0 : Nat) (v_0 : Value) (R1 : Int) (v_2 : Value) (v_3 : Value) (v_4 : Value) (q_705 : Nat) (cA_705 : ClassId) (a_5 : Int → Int) (q_706 : Nat) (cA_706 : ClassId) (a_6 : Int → Int) (q_707 : Nat) (cA_707 : ClassId) (a_7 : Int → Int) (q_708 : Nat) (cA_708 : ClassId) (a_8 : Int → Int) (v_9 : Value) (v_10 : Value) (v_11 : Value) (v_12 : Value) (v_13 : Value) (v_14 : Value) (v_15 : Value) (v_16 : Value) (v_17 : Value) (v_18 : Value) (set : Int) (x1 : Int) (x2 : Int) (ro : Int) (hNR1 : 0 ≤ R1 ∧ R1 ≤ 2000) (hR_a_5 : ∀ j : Int, -1 ≤ a_5 j ∧ a_5 j ≤ 100) (hR_a_6 : ∀ j : Int, -1 ≤ a_6 j ∧ a_6 j ≤ 1023) (hR_a_7 : ∀ j : Int, ((-2147483648 ≤ a_7 j ∧ a_7 j ≤ 4294968319) ∨ a_7 j = 1099511627776)) (hR_a_8 : ∀ j : Int, ((-2147483648 ≤ a_8 j ∧ a_8 j ≤ 4294968319) ∨ a_8 j = 1099511627776)) (hNset : -1 ≤ set ∧ set ≤ 1023) (hNx1 : ((-2147483648 ≤ x1 ∧ x1 ≤ 4294968319) ∨ x1 = 1099511627776)) (hNx2 : ((-2147483648 ≤ x2 ∧ x2 ≤ 4294968319) ∨ x2 = 1099511627776)) (hNro : -1 ≤ ro ∧ ro ≤ 100) (sz : Nat) : Met l yX0_addRow v_X0_addRow ({ frames := 1, cells := 0, slots := 0, locals := 27 }) (va_Pc [.ref h0, .int (zI (ro)), .int (zI (set)), .long (lI (x1)), .long (lI (x2))] (fun U => U.heap.size = sz ∧ va_P (dC, dI) vwP [(h0, .inr (0, [v_0, .int (zI (R1)), v_2, v_3, v_4, .ref q_705, .ref q_706, .ref q_707, .ref q_708, v_9, v_10, v_11, v_12, v_13, v_14, v_15, v_16, v_17, v_18])), (q_705, .inl (cA_705, 2000, .inl (fun j : Nat => zI (a_5 (j : Int))))), (q_706, .inl (cA_706, 2000, .inl (fun j : Nat => zI (a_6 (j : Int))))), (q_707, .inl (cA_707, 2000, .inr (.inl (fun j : Nat => lI (a_7 (j : Int)))))), (q_708, .inl (cA_708, 2000, .inr (.inl (fun j : Nat => lI (a_8 (j : Int))))))] U.heap ∧ va_K (dC, dI) vwP [(cA_705, .int), (cA_706, .int), (cA_707, .long), (cA_708, .long)] U ∧ va_D (fun _ => True) [(h0, .inr (0, [v_0, .int (zI (R1)), v_2, v_3, v_4, .ref q_705, .ref q_706, .ref q_707, .ref q_708, v_9, v_10, v_11, v_12, v_13, v_14, v_15, v_16, v_17, v_18])), (q_705, .inl (cA_705, 2000, .inl (fun j : Nat => zI (a_5 (j : Int))))), (q_706, .inl (cA_706, 2000, .inl (fun j : Nat => zI (a_6 (j : Int))))), (q_707, .inl (cA_707, 2000, .inr (.inl (fun j : Nat => lI (a_7 (j : Int)))))), (q_708, .inl (cA_708, 2000, .inr (.inl (fun j : Nat => lI (a_8 (j : Int))))))])) (va_Qi (fun (r : Int32) (_ : Unit) => ∃ z : Int, r = zI z ∧ (0 ≤ z ∧ z ≤ 1)) (fun (_ : Unit) (t : State) => ∃ (z0_9 : Int) (a1_9 : Int → Int) (a2_9 : Int → Int) (a3_9 : Int → Int) (a4_9 : Int → Int), ((0 ≤ z0_9 ∧ z0_9 ≤ 2000) ∧ (∀ j : Int, -1 ≤ a1_9 j ∧ a1_9 j ≤ 100) ∧ (∀ j : Int, -1 ≤ a2_9 j ∧ a2_9 j ≤ 1023) ∧ (∀ j : Int, ((-2147483648 ≤ a3_9 j ∧ a3_9 j ≤ 4294968319) ∨ a3_9 j = 1099511627776)) ∧ (∀ j : Int, ((-2147483648 ≤ a4_9 j ∧ a4_9 j ≤ 4294968319) ∨ a4_9 j = 1099511627776))) ∧ va_P (dC, dI) vwP [(h0, .inr (0, [v_0, .int (zI (z0_9)), v_2, v_3, v_4, .ref q_705, .ref q_706, .ref q_707, .ref q_708, v_9, v_10, v_11, v_12, v_13, v_14, v_15, v_16, v_17, v_18])), (q_705, .inl (cA_705, 2000, .inl (fun j : Nat => zI (a1_9 (j : Int))))), (q_706, .inl (cA_706, 2000, .inl (fun j : Nat => zI (a2_9 (j : Int))))), (q_707, .inl (cA_707, 2000, .inr (.inl (fun j : Nat => lI (a3_9 (j : Int)))))), (q_708, .inl (cA_708, 2000, .inr (.inl (fun j : Nat => lI (a4_9 (j : Int))))))] t.heap ∧ va_K (dC, dI) vwP [(cA_705, .int), (cA_706, .int), (cA_707, .long), (cA_708, .long)] t ∧ va_D (va_A [(h0, .inr (0, [v_0, .int (zI (R1)), v_2, v_3, v_4, .ref q_705, .ref q_706, .ref q_707, .ref q_708, v_9, v_10, v_11, v_12, v_13, v_14, v_15, v_16, v_17, v_18])), (q_705, .inl (cA_705, 2000, .inl (fun j : Nat => zI (a_5 (j : Int))))), (q_706, .inl (cA_706, 2000, .inl (fun j : Nat => zI (a_6 (j : Int))))), (q_707, .inl (cA_707, 2000, .inr (.inl (fun j : Nat => lI (a_7 (j : Int)))))), (q_708, .inl (cA_708, 2000, .inr (.inl (fun j : Nat => lI (a_8 (j : Int))))))] sz) [(h0, .inr (0, [v_0, .int (zI (z0_9)), v_2, v_3, v_4, .ref q_705, .ref q_706, .ref q_707, .ref q_708, v_9, v_10, v_11, v_12, v_13, v_14, v_15, v_16, v_17, v_18])), (q_705, .inl (cA_705, 2000, .inl (fun j : Nat => zI (a1_9 (j : Int))))), (q_706, .inl (cA_706, 2000, .inl (fun j : Nat => zI (a2_9 (j : Int))))), (q_707, .inl (cA_707, 2000, .inr (.inl (fun j : Nat => lI (a3_9 (j : Int)))))), (q_708, .inl (cA_708, 2000, .inr (.inl (fun j : Nat => lI (a4_9 (j : Int))))))]) (va_A [(h0, .inr (0, [v_0, .int (zI (R1)), v_2, v_3, v_4, .ref q_705, .ref q_706, .ref q_707, .ref q_708, v_9, v_10, v_11, v_12, v_13, v_14, v_15, v_16, v_17, v_18])), (q_705, .inl (cA_705, 2000, .inl (fun j : Nat => zI (a_5 (j : Int))))), (q_706, .inl (cA_706, 2000, .inl (fun j : Nat => zI (a_6 (j : Int))))), (q_707, .inl (cA_707, 2000, .inr (.inl (fun j : Nat => lI (a_7 (j : Int)))))), (q_708, .inl (cA_708, 2000, .inr (.inl (fun j : Nat => lI (a_8 (j : Int))))))] sz)) 0 0 (va_A [(h0, .inr (0, [v_0, .int (zI (R1)), v_2, v_3, v_4, .ref q_705, .ref q_706, .ref q_707, .ref q_708, v_9, v_10, v_11, v_12, v_13, v_14, v_15, v_16, v_17, v_18])), (q_705, .inl (cA_705, 2000, .inl (fun j : Nat => zI (a_5 (j : Int))))), (q_706, .inl (cA_706, 2000, .inl (fun j : Nat => zI (a_6 (j : Int))))), (q_707, .inl (cA_707, 2000, .inr (.inl (fun j : Nat => lI (a_7 (j : Int)))))), (q_708, .inl (cA_708, 2000, .inr (.inl (fun j : Nat => lI (a_8 (j : Int))))))] sz) := by
  refine Met.ofW (cc := cX0_addRow) (maxL := 7) (ret := (some .boolean)) (by decide) rfl ?_
  intro p e s m args below meth c s₁ B hml hv
  obtain ⟨rfl, hsz, hP, hK, hD0⟩ := hv
  have hx := B.exec
  have hb := B.bytes
  have hr := B.returns
  have hts := atoms_spec (ws := v_X0_addRow) B.pre
  have hown : s.vm.findClass RX0 = some m.cls := findClass_of_methodNamed B.named
  have hlocks := B.notSynchronized
  have ow : ∀ {k : Nat} {w : Cond}, o_X0_addRow[k]? = some w → w.before ([.ref h0, .int (zI (ro)), .int (zI (set)), .long (lI (x1)), .long (lI (x2))] : List Value).toArray s = true := fun h => hts _ (mow_X0_addRow _ (List.mem_of_getElem? h))
  subst hsz
  have hD := hD0.self (sz := s.heap.size)
  generalize hAe : va_A [(h0, .inr (0, [v_0, .int (zI (R1)), v_2, v_3, v_4, .ref q_705, .ref q_706, .ref q_707, .ref q_708, v_9, v_10, v_11, v_12, v_13, v_14, v_15, v_16, v_17, v_18])), (q_705, .inl (cA_705, 2000, .inl (fun j : Nat => zI (a_5 (j : Int))))), (q_706, .inl (cA_706, 2000, .inl (fun j : Nat => zI (a_6 (j : Int))))), (q_707, .inl (cA_707, 2000, .inr (.inl (fun j : Nat => lI (a_7 (j : Int)))))), (q_708, .inl (cA_708, 2000, .inr (.inl (fun j : Nat => lI (a_8 (j : Int))))))] s.heap.size = A at hD ⊢
  have hA : ∀ q : Nat, s.heap.size ≤ q → A q := fun q h => by rw [← hAe]; exact Or.inr h
  have hS : va_S A s.heap s.heap [] := va_S.rf
  have hP : va_P (dC, dI) vwP [(h0, .inr (0, [v_0, .int (zI (R1)), v_2, v_3, v_4, .ref q_705, .ref q_706, .ref q_707, .ref q_708, v_9, v_10, v_11, v_12, v_13, v_14, v_15, v_16, v_17, v_18])), (q_705, .inl (cA_705, 2000, .inl (fun j : Nat => zI (a_5 (j : Int))))), (q_706, .inl (cA_706, 2000, .inl (fun j : Nat => zI (a_6 (j : Int))))), (q_707, .inl (cA_707, 2000, .inr (.inl (fun j : Nat => lI (a_7 (j : Int)))))), (q_708, .inl (cA_708, 2000, .inr (.inl (fun j : Nat => lI (a_8 (j : Int))))))] s.heap := hP
  have hl := lv_entry ([.ref h0, .int (zI (ro)), .int (zI (set)), .long (lI (x1)), .long (lI (x2))]) (n := 7) (Nat.le_of_ble_eq_true rfl)
  rw [lg_entry_eq]
  generalize (lg_sl ([.ref h0, .int (zI (ro)), .int (zI (set)), .long (lI (x1)), .long (lI (x2))]) ++ List.replicate (7 - (lg_sl ([.ref h0, .int (zI (ro)), .int (zI (set)), .long (lI (x1)), .long (lI (x2))])).length) Slot.unset).toArray = ls at hl ⊢
  have hl : lv_has ls 7 [(0, .ref h0), (1, .int (zI (ro))), (2, .int (zI (set))), (3, .long (lI (x1))), (5, .long (lI (x2)))] := hl
  obtain ⟨H, hH⟩ : ∃ H, H = s.heap := ⟨_, rfl⟩
  rw [← hH] at hP
  have hS : va_S A s.heap H [] := by rw [hH]; exact hS
  rw [← hH]
  refine zW_cap (fun Q hQ => ?_)
  refine lv_aload_n hx hb dX0_addRow_0 rfl (lv_at hl 0 rfl) ?_
  refine va_get (D := (dC, dI)) (ci := 0) (v := .int (zI (R1))) (C := RX0) (T := TX0) (N := 19) hx hb hts mem_X0_addRow_0 hown hK hP 0 rfl rfl 1 (by decide) (ow (k := 0) rfl) (fun _ h9 => h9) rfl dX0_addRow_1 ?_
  refine lv_sipush (v := 2000) hx hb dX0_addRow_4 (by decide) ?_
  refine lv_icmp_lt (tgt := 12) hx hb dX0_addRow_7 (by decide) (fun b7 => ?_) (fun b7 => ?_)
  · have yb7 : (R1 : Int) < (2000 : Int) := (zI_lt (a := R1) (b := 2000) (by omega) (by omega) (by omega) (by omega)).mp b7
    refine lv_aload_n hx hb dX0_addRow_12 rfl (lv_at hl 0 rfl) ?_
    refine lv_aload_n hx hb dX0_addRow_13 rfl (lv_at hl 0 rfl) ?_
    refine va_get (D := (dC, dI)) (ci := 0) (v := .int (zI (R1))) (C := RX0) (T := TX0) (N := 19) hx hb hts mem_X0_addRow_0 hown hK hP 0 rfl rfl 1 (by decide) (ow (k := 0) rfl) (fun _ h9 => h9) rfl dX0_addRow_14 ?_
    refine lv_iload_n hx hb dX0_addRow_17 rfl (lv_at hl 1 rfl) ?_
    refine lv_iload_n hx hb dX0_addRow_18 rfl (lv_at hl 2 rfl) ?_
    refine lv_lload_n hx hb dX0_addRow_19 rfl (lv_at hl 3 rfl) ?_
    refine lv_lload hx hb dX0_addRow_20 (lv_at hl 4 rfl) ?_
    have hPc := hP.sub (ws' := [(h0, .inr (0, [v_0, .int (zI (R1)), v_2, v_3, v_4, .ref q_705, .ref q_706, .ref q_707, .ref q_708, v_9, v_10, v_11, v_12, v_13, v_14, v_15, v_16, v_17, v_18])), (q_705, .inl (cA_705, 2000, .inl (fun j : Nat => zI (a_5 (j : Int))))), (q_706, .inl (cA_706, 2000, .inl (fun j : Nat => zI (a_6 (j : Int))))), (q_707, .inl (cA_707, 2000, .inr (.inl (fun j : Nat => lI (a_7 (j : Int)))))), (q_708, .inl (cA_708, 2000, .inr (.inl (fun j : Nat => lI (a_8 (j : Int))))))]) [0, 1, 2, 3, 4] rfl
    have hDc := hD.sub (ws' := [(h0, .inr (0, [v_0, .int (zI (R1)), v_2, v_3, v_4, .ref q_705, .ref q_706, .ref q_707, .ref q_708, v_9, v_10, v_11, v_12, v_13, v_14, v_15, v_16, v_17, v_18])), (q_705, .inl (cA_705, 2000, .inl (fun j : Nat => zI (a_5 (j : Int))))), (q_706, .inl (cA_706, 2000, .inl (fun j : Nat => zI (a_6 (j : Int))))), (q_707, .inl (cA_707, 2000, .inr (.inl (fun j : Nat => lI (a_7 (j : Int)))))), (q_708, .inl (cA_708, 2000, .inr (.inl (fun j : Nat => lI (a_8 (j : Int))))))]) [0, 1, 2, 3, 4] (by decide) rfl
    have hKc := hK.sub (tys' := [(cA_705, .int), (cA_706, .int), (cA_707, .long), (cA_708, .long)]) [0, 1, 2, 3] rfl
    have hFc := va_free (wc := [(h0, .inr (0, [v_0, .int (zI (R1)), v_2, v_3, v_4, .ref q_705, .ref q_706, .ref q_707, .ref q_708, v_9, v_10, v_11, v_12, v_13, v_14, v_15, v_16, v_17, v_18])), (q_705, .inl (cA_705, 2000, .inl (fun j : Nat => zI (a_5 (j : Int))))), (q_706, .inl (cA_706, 2000, .inl (fun j : Nat => zI (a_6 (j : Int))))), (q_707, .inl (cA_707, 2000, .inr (.inl (fun j : Nat => lI (a_7 (j : Int)))))), (q_708, .inl (cA_708, 2000, .inr (.inl (fun j : Nat => lI (a_8 (j : Int))))))]) hD hS hA [0, 1, 2, 3, 4] rfl
    refine va_callv (va_runV (As := [.int (zI (R1)), .int (zI (ro)), .int (zI (set)), .long (lI (x1)), .long (lI (x2))]) (rest := []) ⟨hx, hb, hml, hown, hts⟩ (c_X0_putRow l dC dI h0 v_0 (.int (zI (R1))) v_2 v_3 v_4 q_705 cA_705 a_5 q_706 cA_706 a_6 q_707 cA_707 a_7 q_708 cA_708 a_8 v_9 v_10 v_11 v_12 v_13 v_14 v_15 v_16 v_17 v_18 R1 set x1 x2 ro hR_a_5 hR_a_6 hR_a_7 hR_a_8 (by omega) (by omega) (by omega) (by omega) (by omega) H.size) (cwV 5 hts g_X0_addRow_X0_putRow rfl rfl rfl (by decide +kernel) ⟨(Nat.le_of_ble_eq_true rfl), (Nat.le_of_ble_eq_true rfl)⟩) ⟨fun a U g mk q => by obtain ⟨q0, q1, qP, qK, qD⟩ := q; exact ⟨q0, q1, qP, va_K.moved (u := U) (U := U.calling g mk a) (Vm.Alike.refl U.vm) qK, qD⟩, va_recv hKc hPc (ci := 0) (q0 := 0) rfl rfl, fun U hU hW => ⟨rfl, by rw [hU], by rw [hU]; exact hPc, va_K.moved hW.alike hKc, hDc.weaken (fun _ _ _ _ => trivial)⟩⟩ rfl rfl hl.1 rfl (lv_room (Nat.le_of_ble_eq_true rfl)) dX0_addRow_22 ⟨(Nat.le_of_ble_eq_true rfl), (Nat.le_of_ble_eq_true rfl)⟩) hS (fun q _ h => hFc q h) hFc (fun  u t H1 locs ht hvm hw hB hz1 hk1 hS => ?_)
    obtain ⟨a0_2001, a1_2002, a2_2003, a3_2004, hxt_2004, hP1, hK1, hD1⟩ := hB
    rw [ht] at hP1
    have hK1 := va_K.moved hvm.symm hK1
    obtain ⟨hP, hD⟩ := va_join (wr := []) (w1 := [(h0, .inr (0, [v_0, .int (zI (R1)), v_2, v_3, v_4, .ref q_705, .ref q_706, .ref q_707, .ref q_708, v_9, v_10, v_11, v_12, v_13, v_14, v_15, v_16, v_17, v_18])), (q_705, .inl (cA_705, 2000, .inl (fun j : Nat => zI (a0_2001 (j : Int))))), (q_706, .inl (cA_706, 2000, .inl (fun j : Nat => zI (a1_2002 (j : Int))))), (q_707, .inl (cA_707, 2000, .inr (.inl (fun j : Nat => lI (a2_2003 (j : Int)))))), (q_708, .inl (cA_708, 2000, .inr (.inl (fun j : Nat => lI (a3_2004 (j : Int))))))]) hP hD [0, 1, 2, 3, 4] [] rfl rfl (by decide) (by decide) hk1 hFc hP1 hD1
    have hK := (hK.sub (tys' := []) [] rfl).app hK1
    generalize H1 = H at hP hS ⊢
    have hP : va_P (dC, dI) vwP [(h0, .inr (0, [v_0, .int (zI (R1)), v_2, v_3, v_4, .ref q_705, .ref q_706, .ref q_707, .ref q_708, v_9, v_10, v_11, v_12, v_13, v_14, v_15, v_16, v_17, v_18])), (q_705, .inl (cA_705, 2000, .inl (fun j : Nat => zI (a0_2001 (j : Int))))), (q_706, .inl (cA_706, 2000, .inl (fun j : Nat => zI (a1_2002 (j : Int))))), (q_707, .inl (cA_707, 2000, .inr (.inl (fun j : Nat => lI (a2_2003 (j : Int)))))), (q_708, .inl (cA_708, 2000, .inr (.inl (fun j : Nat => lI (a3_2004 (j : Int))))))] H := hP
    have hD : va_D A [(h0, .inr (0, [v_0, .int (zI (R1)), v_2, v_3, v_4, .ref q_705, .ref q_706, .ref q_707, .ref q_708, v_9, v_10, v_11, v_12, v_13, v_14, v_15, v_16, v_17, v_18])), (q_705, .inl (cA_705, 2000, .inl (fun j : Nat => zI (a0_2001 (j : Int))))), (q_706, .inl (cA_706, 2000, .inl (fun j : Nat => zI (a1_2002 (j : Int))))), (q_707, .inl (cA_707, 2000, .inr (.inl (fun j : Nat => lI (a2_2003 (j : Int)))))), (q_708, .inl (cA_708, 2000, .inr (.inl (fun j : Nat => lI (a3_2004 (j : Int))))))] := hD
    have hK : va_K (dC, dI) vwP [(cA_705, .int), (cA_706, .int), (cA_707, .long), (cA_708, .long)] s := hK
    refine W.widen (k := 0) (n := 0) (Nat.le_of_ble_eq_true rfl) (Nat.le_of_ble_eq_true rfl) ?_
    obtain ⟨rk_2005, rk_2006, rk_2007, rk_2008⟩ := hxt_2004
    refine lv_aload_n hx hb dX0_addRow_25 rfl (lv_at hl 0 rfl) ?_
    refine lv_dup hx hb dX0_addRow_26 rfl ?_
    refine va_get (D := (dC, dI)) (ci := 0) (v := .int (zI (R1))) (C := RX0) (T := TX0) (N := 19) hx hb hts mem_X0_addRow_0 hown hK hP 0 rfl rfl 1 (by decide) (ow (k := 0) rfl) (fun _ h9 => h9) rfl dX0_addRow_27 ?_
    refine lv_iconst (v := 1) hx hb dX0_addRow_30 (by decide) ?_
    refine lv_iadd hx hb dX0_addRow_31 ?_
    refine lv_topi (fun z ez => ?_)
    obtain rfl : z = zI (R1 + 1) := ez.trans (zI_add (R1) (1))
    refine va_put (D := (dC, dI)) (ci := 0) (v := .int (zI (R1 + 1))) (ty := .int) (C := RX0) (T := TX0) (N := 19) hx hb hts mem_X0_addRow_0 tyX0 tyX0_ok nmX0 hown hK hP hD hS 0 rfl rfl 1 (by decide) (ow (k := 0) rfl) (fun _ h9 => h9) rfl (by decide +kernel) rfl rfl (Nat.le_of_ble_eq_true rfl) dX0_addRow_32 (fun H locs hP hD hS => ?_)
    have hP : va_P (dC, dI) vwP [(h0, .inr (0, [v_0, .int (zI (R1 + 1)), v_2, v_3, v_4, .ref q_705, .ref q_706, .ref q_707, .ref q_708, v_9, v_10, v_11, v_12, v_13, v_14, v_15, v_16, v_17, v_18])), (q_705, .inl (cA_705, 2000, .inl (fun j : Nat => zI (a0_2001 (j : Int))))), (q_706, .inl (cA_706, 2000, .inl (fun j : Nat => zI (a1_2002 (j : Int))))), (q_707, .inl (cA_707, 2000, .inr (.inl (fun j : Nat => lI (a2_2003 (j : Int)))))), (q_708, .inl (cA_708, 2000, .inr (.inl (fun j : Nat => lI (a3_2004 (j : Int))))))] H := hP
    have hD : va_D A [(h0, .inr (0, [v_0, .int (zI (R1 + 1)), v_2, v_3, v_4, .ref q_705, .ref q_706, .ref q_707, .ref q_708, v_9, v_10, v_11, v_12, v_13, v_14, v_15, v_16, v_17, v_18])), (q_705, .inl (cA_705, 2000, .inl (fun j : Nat => zI (a0_2001 (j : Int))))), (q_706, .inl (cA_706, 2000, .inl (fun j : Nat => zI (a1_2002 (j : Int))))), (q_707, .inl (cA_707, 2000, .inr (.inl (fun j : Nat => lI (a2_2003 (j : Int)))))), (q_708, .inl (cA_708, 2000, .inr (.inl (fun j : Nat => lI (a3_2004 (j : Int))))))] := hD
    obtain ⟨z_2009, ez_2009⟩ : ∃ z9 : Int, z9 = R1 + 1 := ⟨_, rfl⟩
    rw [← ez_2009] at hP hD
    have hP : va_P (dC, dI) vwP [(h0, .inr (0, [v_0, .int (zI (z_2009)), v_2, v_3, v_4, .ref q_705, .ref q_706, .ref q_707, .ref q_708, v_9, v_10, v_11, v_12, v_13, v_14, v_15, v_16, v_17, v_18])), (q_705, .inl (cA_705, 2000, .inl (fun j : Nat => zI (a0_2001 (j : Int))))), (q_706, .inl (cA_706, 2000, .inl (fun j : Nat => zI (a1_2002 (j : Int))))), (q_707, .inl (cA_707, 2000, .inr (.inl (fun j : Nat => lI (a2_2003 (j : Int)))))), (q_708, .inl (cA_708, 2000, .inr (.inl (fun j : Nat => lI (a3_2004 (j : Int))))))] H := hP
    have hD : va_D A [(h0, .inr (0, [v_0, .int (zI (z_2009)), v_2, v_3, v_4, .ref q_705, .ref q_706, .ref q_707, .ref q_708, v_9, v_10, v_11, v_12, v_13, v_14, v_15, v_16, v_17, v_18])), (q_705, .inl (cA_705, 2000, .inl (fun j : Nat => zI (a0_2001 (j : Int))))), (q_706, .inl (cA_706, 2000, .inl (fun j : Nat => zI (a1_2002 (j : Int))))), (q_707, .inl (cA_707, 2000, .inr (.inl (fun j : Nat => lI (a2_2003 (j : Int)))))), (q_708, .inl (cA_708, 2000, .inr (.inl (fun j : Nat => lI (a3_2004 (j : Int))))))] := hD
    refine lv_iconst (v := 1) hx hb dX0_addRow_35 (by decide) ?_
    subst hQ
    refine W.widen (k := 0) (n := 0) (Nat.le_of_ble_eq_true rfl) (Nat.le_of_ble_eq_true rfl) ?_
    exact W.zret (v := 1) hx hb hr (by decide) (fun t ht hW => ⟨⟨1, (), rfl, ⟨1, rfl, by omega⟩, z_2009, a0_2001, a1_2002, a2_2003, a3_2004, ⟨(by omega), rk_2005, rk_2006, rk_2007, rk_2008⟩, by rw [ht]; exact hP, va_K.moved hW.alike hK, hD⟩, hS.F ht⟩) hS.2.2 dX0_addRow_36
  · have yb7 : ¬ (R1 : Int) < (2000 : Int) := fun q => b7 ((zI_lt (a := R1) (b := 2000) (by omega) (by omega) (by omega) (by omega)).mpr q)
    refine lv_iconst (v := 0) hx hb dX0_addRow_10 (by decide) ?_
    subst hQ
    refine W.widen (k := 0) (n := 0) (Nat.le_of_ble_eq_true rfl) (Nat.le_of_ble_eq_true rfl) ?_
    exact W.zret (v := 0) hx hb hr (by decide) (fun t ht hW => ⟨⟨0, (), rfl, ⟨0, rfl, by omega⟩, R1, a_5, a_6, a_7, a_8, ⟨(by omega), hR_a_5, hR_a_6, hR_a_7, hR_a_8⟩, by rw [ht]; exact hP, va_K.moved hW.alike hK, hD⟩, hS.F ht⟩) hS.2.2 dX0_addRow_11
