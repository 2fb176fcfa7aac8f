theorem dX2_isReached_0 : decode cX2_isReached 0 = .ok (.aload_n 0, 1) := by decide +kernel
theorem dX2_isReached_1 : decode cX2_isReached 1 = .ok (.getfield 26, 3) := by decide +kernel
theorem dX2_isReached_4 : decode cX2_isReached 4 = .ok (.iload_n 1, 1) := by decide +kernel
theorem dX2_isReached_5 : decode cX2_isReached 5 = .ok (.iaload, 1) := by decide +kernel
theorem dX2_isReached_6 : decode cX2_isReached 6 = .ok (.ifCond .lt 7, 3) := by decide +kernel
theorem dX2_isReached_13 : decode cX2_isReached 13 = .ok (.iconst 0, 1) := by decide +kernel
theorem dX2_isReached_14 : decode cX2_isReached 14 = .ok (.ireturn, 1) := by decide +kernel
theorem dX2_isReached_9 : decode cX2_isReached 9 = .ok (.iconst 1, 1) := by decide +kernel
theorem dX2_isReached_10 : decode cX2_isReached 10 = .ok (.goto 4, 3) := by decide +kernel
def o_X2_isReached : List Cond := [.fieldLink RX2 26 "SsaForge$Flow" "place" "[I"]
def v_X2_isReached : List Cond := .code yX2_isReached cX2_isReached 2 (some .boolean) :: (o_X2_isReached ++ (wsX20 ++ []))
theorem mow_X2_isReached : ∀ w ∈ o_X2_isReached, w ∈ v_X2_isReached := fun _ h => List.mem_cons_of_mem _ (List.mem_append_left _ h)
theorem mem_X2_isReached_0 : ∀ w ∈ wsX20, w ∈ v_X2_isReached := fun _ h => List.mem_cons_of_mem _ (List.mem_append_right _ (List.mem_append_left _ h))
set_option maxRecDepth 20000 in
theorem gw_X2_isReached : v_X2_isReached.all goodWord = true := by decide +kernel
set_option maxHeartbeats 4000000 in
set_option maxRecDepth 100000 in
theorem c_X2_isReached (l : Launch) (dC : Nat → ClassId) (dI : Nat → Nat → Nat) (h0 : Nat) (v2_0 : Value) (v2_1 : Value) (v2_2 : Value) (v2_3 : Value) (q_204 : Nat) (cA_204 : ClassId) (a2_place : Int → Int) (v2_5 : Value) (v2_6 : Value) (v2_7 : Value) (v2_8 : Value) (v2_9 : Value) (v2_10 : Value) (v2_11 : Value) (v2_12 : Value) (b : Int) (hR_a2_place : ∀ j : Int, -1 ≤ a2_place j ∧ a2_place j ≤ 299) (hNb : 0 ≤ b ∧ b < 300) (sz : Nat) : Met l yX2_isReached v_X2_isReached ({ frames := 0, cells := 0, slots := 0, locals := 0 }) (va_Pc [.ref h0, .int (zI (b))] (fun U => U.heap.size = sz ∧ va_P (dC, dI) vwP [(h0, .inr (2, [v2_0, v2_1, v2_2, v2_3, .ref q_204, v2_5, v2_6, v2_7, v2_8, v2_9, v2_10, v2_11, v2_12])), (q_204, .inl (cA_204, 300, .inl (fun j : Nat => zI (a2_place (j : Int)))))] U.heap ∧ va_K (dC, dI) vwP [(cA_204, .int)] U ∧ va_D (fun _ => True) [(h0, .inr (2, [v2_0, v2_1, v2_2, v2_3, .ref q_204, v2_5, v2_6, v2_7, v2_8, v2_9, v2_10, v2_11, v2_12])), (q_204, .inl (cA_204, 300, .inl (fun j : Nat => zI (a2_place (j : Int)))))])) (va_Qi (fun (r : Int32) (_ : Unit) => r = zI (isRe a2_place (b))) (fun (_ : Unit) (t : State) => va_P (dC, dI) vwP [(h0, .inr (2, [v2_0, v2_1, v2_2, v2_3, .ref q_204, v2_5, v2_6, v2_7, v2_8, v2_9, v2_10, v2_11, v2_12])), (q_204, .inl (cA_204, 300, .inl (fun j : Nat => zI (a2_place (j : Int)))))] t.heap ∧ va_K (dC, dI) vwP [(cA_204, .int)] t ∧ va_D (va_A [(h0, .inr (2, [v2_0, v2_1, v2_2, v2_3, .ref q_204, v2_5, v2_6, v2_7, v2_8, v2_9, v2_10, v2_11, v2_12])), (q_204, .inl (cA_204, 300, .inl (fun j : Nat => zI (a2_place (j : Int)))))] sz) [(h0, .inr (2, [v2_0, v2_1, v2_2, v2_3, .ref q_204, v2_5, v2_6, v2_7, v2_8, v2_9, v2_10, v2_11, v2_12])), (q_204, .inl (cA_204, 300, .inl (fun j : Nat => zI (a2_place (j : Int)))))]) (va_A [(h0, .inr (2, [v2_0, v2_1, v2_2, v2_3, .ref q_204, v2_5, v2_6, v2_7, v2_8, v2_9, v2_10, v2_11, v2_12])), (q_204, .inl (cA_204, 300, .inl (fun j : Nat => zI (a2_place (j : Int)))))] sz)) 0 0 (va_A [(h0, .inr (2, [v2_0, v2_1, v2_2, v2_3, .ref q_204, v2_5, v2_6, v2_7, v2_8, v2_9, v2_10, v2_11, v2_12])), (q_204, .inl (cA_204, 300, .inl (fun j : Nat => zI (a2_place (j : Int)))))] sz) := by
  refine Met.ofW (cc := cX2_isReached) (maxL := 2) (ret := (some .boolean)) (by decide) rfl ?_
  intro p e s m args below meth c s₁ B hml hv
  obtain ⟨rfl, hsz, hP, hK, hD0⟩ := hv
  have hx := B.exec
  have hb := B.bytes
  have hr := B.returns
  have hts := atoms_spec (ws := v_X2_isReached) B.pre
  have hown : s.vm.findClass RX2 = some m.cls := findClass_of_methodNamed B.named
  have hlocks := B.notSynchronized
  have ow : ∀ {k : Nat} {w : Cond}, o_X2_isReached[k]? = some w → w.before ([.ref h0, .int (zI (b))] : List Value).toArray s = true := fun h => hts _ (mow_X2_isReached _ (List.mem_of_getElem? h))
  subst hsz
  have hD := hD0.self (sz := s.heap.size)
  generalize hAe : va_A [(h0, .inr (2, [v2_0, v2_1, v2_2, v2_3, .ref q_204, v2_5, v2_6, v2_7, v2_8, v2_9, v2_10, v2_11, v2_12])), (q_204, .inl (cA_204, 300, .inl (fun j : Nat => zI (a2_place (j : Int)))))] s.heap.size = A at hD ⊢
  have hA : ∀ q : Nat, s.heap.size ≤ q → A q := fun q h => by rw [← hAe]; exact Or.inr h
  have hS : va_S A s.heap s.heap [] := va_S.rf
  have hP : va_P (dC, dI) vwP [(h0, .inr (2, [v2_0, v2_1, v2_2, v2_3, .ref q_204, v2_5, v2_6, v2_7, v2_8, v2_9, v2_10, v2_11, v2_12])), (q_204, .inl (cA_204, 300, .inl (fun j : Nat => zI (a2_place (j : Int)))))] s.heap := hP
  have hl := lv_entry ([.ref h0, .int (zI (b))]) (n := 2) (Nat.le_of_ble_eq_true rfl)
  rw [lg_entry_eq]
  generalize (lg_sl ([.ref h0, .int (zI (b))]) ++ List.replicate (2 - (lg_sl ([.ref h0, .int (zI (b))])).length) Slot.unset).toArray = ls at hl ⊢
  have hl : lv_has ls 2 [(0, .ref h0), (1, .int (zI (b)))] := hl
  obtain ⟨H, hH⟩ : ∃ H, H = s.heap := ⟨_, rfl⟩
  rw [← hH] at hP
  have hS : va_S A s.heap H [] := by rw [hH]; exact hS
  rw [← hH]
  refine zW_cap (fun Q hQ => ?_)
  refine lv_aload_n hx hb dX2_isReached_0 rfl (lv_at hl 0 rfl) ?_
  refine va_get (D := (dC, dI)) (ci := 2) (v := .ref q_204) (C := RX2) (T := TX2) (N := 13) hx hb hts mem_X2_isReached_0 hown hK hP 0 rfl rfl 4 (by decide) (ow (k := 0) rfl) (fun _ h9 => h9) rfl dX2_isReached_1 ?_
  refine lv_iload_n hx hb dX2_isReached_4 rfl (lv_at hl 1 rfl) ?_
  refine va_iald hx hb hK hP 1 0 rfl rfl (zI_in (a := b) (n := 300) (by omega) (by omega) (by decide)) dX2_isReached_5 ?_
  refine lv_topi (fun z ez => ?_)
  obtain rfl : z = zI (a2_place (b)) := ez.trans (zI_ld (a2_place) (by omega) (by omega))
  have k1 := hR_a2_place (b)
  refine lv_if_lt (tgt := 13) hx hb dX2_isReached_6 (by decide) (fun b6 => ?_) (fun b6 => ?_)
  · have yb6 : (a2_place (b) : Int) < (0 : Int) := (zI_lt (a := a2_place (b)) (b := 0) (by omega) (by omega) (by omega) (by omega)).mp b6
    refine lv_iconst (v := 0) hx hb dX2_isReached_13 (by decide) ?_
    subst hQ
    refine W.widen (k := 0) (n := 0) (Nat.le_of_ble_eq_true rfl) (Nat.le_of_ble_eq_true rfl) ?_
    exact W.zret (v := 0) hx hb hr (by decide) (fun t ht hW => ⟨⟨0, (), rfl, (congrArg zI (show (0 : Int) = isRe a2_place (b) by unfold isRe; (repeat' split) <;> omega)), by rw [ht]; exact hP, va_K.moved hW.alike hK, hD⟩, hS.F ht⟩) hS.2.2 dX2_isReached_14
  · have yb6 : ¬ (a2_place (b) : Int) < (0 : Int) := fun q => b6 ((zI_lt (a := a2_place (b)) (b := 0) (by omega) (by omega) (by omega) (by omega)).mpr q)
    refine lv_iconst (v := 1) hx hb dX2_isReached_9 (by decide) ?_
    refine lv_goto (tgt := 14) hx hb dX2_isReached_10 (by decide) ?_
    subst hQ
    refine W.widen (k := 0) (n := 0) (Nat.le_of_ble_eq_true rfl) (Nat.le_of_ble_eq_true rfl) ?_
    exact W.zret (v := 1) hx hb hr (by decide) (fun t ht hW => ⟨⟨1, (), rfl, (congrArg zI (show (1 : Int) = isRe a2_place (b) by unfold isRe; (repeat' split) <;> omega)), by rw [ht]; exact hP, va_K.moved hW.alike hK, hD⟩, hS.F ht⟩) hS.2.2 dX2_isReached_14
theorem dX2_dominates_0 : decode cX2_dominates 0 = .ok (.aload_n 0, 1) := by decide +kernel
theorem dX2_dominates_1 : decode cX2_dominates 1 = .ok (.getfield 26, 3) := by decide +kernel
theorem dX2_dominates_4 : decode cX2_dominates 4 = .ok (.iload_n 1, 1) := by decide +kernel
theorem dX2_dominates_5 : decode cX2_dominates 5 = .ok (.iaload, 1) := by decide +kernel
theorem dX2_dominates_6 : decode cX2_dominates 6 = .ok (.ifCond .lt 44, 3) := by decide +kernel
theorem dX2_dominates_50 : decode cX2_dominates 50 = .ok (.iconst 0, 1) := by decide +kernel
theorem dX2_dominates_51 : decode cX2_dominates 51 = .ok (.ireturn, 1) := by decide +kernel
theorem dX2_dominates_9 : decode cX2_dominates 9 = .ok (.aload_n 0, 1) := by decide +kernel
theorem dX2_dominates_10 : decode cX2_dominates 10 = .ok (.getfield 26, 3) := by decide +kernel
theorem dX2_dominates_13 : decode cX2_dominates 13 = .ok (.iload_n 2, 1) := by decide +kernel
theorem dX2_dominates_14 : decode cX2_dominates 14 = .ok (.iaload, 1) := by decide +kernel
theorem dX2_dominates_15 : decode cX2_dominates 15 = .ok (.aload_n 0, 1) := by decide +kernel
theorem dX2_dominates_16 : decode cX2_dominates 16 = .ok (.getfield 26, 3) := by decide +kernel
theorem dX2_dominates_19 : decode cX2_dominates 19 = .ok (.iload_n 1, 1) := by decide +kernel
theorem dX2_dominates_20 : decode cX2_dominates 20 = .ok (.iaload, 1) := by decide +kernel
theorem dX2_dominates_21 : decode cX2_dominates 21 = .ok (.if_icmp .lt 29, 3) := by decide +kernel
theorem dX2_dominates_24 : decode cX2_dominates 24 = .ok (.aload_n 0, 1) := by decide +kernel
theorem dX2_dominates_25 : decode cX2_dominates 25 = .ok (.getfield 26, 3) := by decide +kernel
theorem dX2_dominates_28 : decode cX2_dominates 28 = .ok (.iload_n 2, 1) := by decide +kernel
theorem dX2_dominates_29 : decode cX2_dominates 29 = .ok (.iaload, 1) := by decide +kernel
theorem dX2_dominates_30 : decode cX2_dominates 30 = .ok (.aload_n 0, 1) := by decide +kernel
theorem dX2_dominates_31 : decode cX2_dominates 31 = .ok (.getfield 26, 3) := by decide +kernel
theorem dX2_dominates_34 : decode cX2_dominates 34 = .ok (.iload_n 1, 1) := by decide +kernel
theorem dX2_dominates_35 : decode cX2_dominates 35 = .ok (.iaload, 1) := by decide +kernel
theorem dX2_dominates_36 : decode cX2_dominates 36 = .ok (.aload_n 0, 1) := by decide +kernel
theorem dX2_dominates_37 : decode cX2_dominates 37 = .ok (.getfield 29, 3) := by decide +kernel
theorem dX2_dominates_40 : decode cX2_dominates 40 = .ok (.iload_n 1, 1) := by decide +kernel
theorem dX2_dominates_41 : decode cX2_dominates 41 = .ok (.iaload, 1) := by decide +kernel
theorem dX2_dominates_42 : decode cX2_dominates 42 = .ok (.iadd, 1) := by decide +kernel
theorem dX2_dominates_43 : decode cX2_dominates 43 = .ok (.if_icmp .ge 7, 3) := by decide +kernel
theorem dX2_dominates_46 : decode cX2_dominates 46 = .ok (.iconst 1, 1) := by decide +kernel
theorem dX2_dominates_47 : decode cX2_dominates 47 = .ok (.goto 4, 3) := by decide +kernel
def o_X2_dominates : List Cond := [.fieldLink RX2 26 "SsaForge$Flow" "place" "[I", .fieldLink RX2 29 "SsaForge$Flow" "span" "[I"]
def v_X2_dominates : List Cond := .code yX2_dominates cX2_dominates 3 (some .boolean) :: (o_X2_dominates ++ (wsX20 ++ []))
theorem mow_X2_dominates : ∀ w ∈ o_X2_dominates, w ∈ v_X2_dominates := fun _ h => List.mem_cons_of_mem _ (List.mem_append_left _ h)
theorem mem_X2_dominates_0 : ∀ w ∈ wsX20, w ∈ v_X2_dominates := fun _ h => List.mem_cons_of_mem _ (List.mem_append_right _ (List.mem_append_left _ h))
set_option maxRecDepth 20000 in
theorem gw_X2_dominates : v_X2_dominates.all goodWord = true := by decide +kernel
set_option maxHeartbeats 4000000 in
set_option maxRecDepth 100000 in
theorem c_X2_dominates (l : Launch) (dC : Nat → ClassId) (dI : Nat → Nat → Nat) (h0 : Nat) (v2_0 : Value) (v2_1 : Value) (v2_2 : Value) (v2_3 : Value) (q_204 : Nat) (cA_204 : ClassId) (a2_place : Int → Int) (q_205 : Nat) (cA_205 : ClassId) (a2_span : Int → Int) (v2_6 : Value) (v2_7 : Value) (v2_8 : Value) (v2_9 : Value) (v2_10 : Value) (v2_11 : Value) (v2_12 : Value) (b : Int) (d : Int) (hR_a2_place : ∀ j : Int, -1 ≤ a2_place j ∧ a2_place j ≤ 299) (hR_a2_span : ∀ j : Int, 0 ≤ a2_span j ∧ a2_span j ≤ 90000) (hNb : 0 ≤ b ∧ b < 300) (hNd : 0 ≤ d ∧ d < 300) (sz : Nat) : Met l yX2_dominates v_X2_dominates ({ frames := 0, cells := 0, slots := 0, locals := 0 }) (va_Pc [.ref h0, .int (zI (b)), .int (zI (d))] (fun U => U.heap.size = sz ∧ va_P (dC, dI) vwP [(h0, .inr (2, [v2_0, v2_1, v2_2, v2_3, .ref q_204, .ref q_205, v2_6, v2_7, v2_8, v2_9, v2_10, v2_11, v2_12])), (q_204, .inl (cA_204, 300, .inl (fun j : Nat => zI (a2_place (j : Int))))), (q_205, .inl (cA_205, 300, .inl (fun j : Nat => zI (a2_span (j : Int)))))] U.heap ∧ va_K (dC, dI) vwP [(cA_204, .int), (cA_205, .int)] U ∧ va_D (fun _ => True) [(h0, .inr (2, [v2_0, v2_1, v2_2, v2_3, .ref q_204, .ref q_205, v2_6, v2_7, v2_8, v2_9, v2_10, v2_11, v2_12])), (q_204, .inl (cA_204, 300, .inl (fun j : Nat => zI (a2_place (j : Int))))), (q_205, .inl (cA_205, 300, .inl (fun j : Nat => zI (a2_span (j : Int)))))])) (va_Qi (fun (r : Int32) (_ : Unit) => ∃ z : Int, r = zI z ∧ (0 ≤ z ∧ z ≤ 1)) (fun (_ : Unit) (t : State) => va_P (dC, dI) vwP [(h0, .inr (2, [v2_0, v2_1, v2_2, v2_3, .ref q_204, .ref q_205, v2_6, v2_7, v2_8, v2_9, v2_10, v2_11, v2_12])), (q_204, .inl (cA_204, 300, .inl (fun j : Nat => zI (a2_place (j : Int))))), (q_205, .inl (cA_205, 300, .inl (fun j : Nat => zI (a2_span (j : Int)))))] t.heap ∧ va_K (dC, dI) vwP [(cA_204, .int), (cA_205, .int)] t ∧ va_D (va_A [(h0, .inr (2, [v2_0, v2_1, v2_2, v2_3, .ref q_204, .ref q_205, v2_6, v2_7, v2_8, v2_9, v2_10, v2_11, v2_12])), (q_204, .inl (cA_204, 300, .inl (fun j : Nat => zI (a2_place (j : Int))))), (q_205, .inl (cA_205, 300, .inl (fun j : Nat => zI (a2_span (j : Int)))))] sz) [(h0, .inr (2, [v2_0, v2_1, v2_2, v2_3, .ref q_204, .ref q_205, v2_6, v2_7, v2_8, v2_9, v2_10, v2_11, v2_12])), (q_204, .inl (cA_204, 300, .inl (fun j : Nat => zI (a2_place (j : Int))))), (q_205, .inl (cA_205, 300, .inl (fun j : Nat => zI (a2_span (j : Int)))))]) (va_A [(h0, .inr (2, [v2_0, v2_1, v2_2, v2_3, .ref q_204, .ref q_205, v2_6, v2_7, v2_8, v2_9, v2_10, v2_11, v2_12])), (q_204, .inl (cA_204, 300, .inl (fun j : Nat => zI (a2_place (j : Int))))), (q_205, .inl (cA_205, 300, .inl (fun j : Nat => zI (a2_span (j : Int)))))] sz)) 0 0 (va_A [(h0, .inr (2, [v2_0, v2_1, v2_2, v2_3, .ref q_204, .ref q_205, v2_6, v2_7, v2_8, v2_9, v2_10, v2_11, v2_12])), (q_204, .inl (cA_204, 300, .inl (fun j : Nat => zI (a2_place (j : Int))))), (q_205, .inl (cA_205, 300, .inl (fun j : Nat => zI (a2_span (j : Int)))))] sz) := by
  refine Met.ofW (cc := cX2_dominates) (maxL := 3) (ret := (some .boolean)) (by decide) rfl ?_
  intro p e s m args below meth c s₁ B hml hv
  obtain ⟨rfl, hsz, hP, hK, hD0⟩ := hv
  have hx := B.exec
  have hb := B.bytes
  have hr := B.returns
  have hts := atoms_spec (ws := v_X2_dominates) B.pre
  have hown : s.vm.findClass RX2 = some m.cls := findClass_of_methodNamed B.named
  have hlocks := B.notSynchronized
  have ow : ∀ {k : Nat} {w : Cond}, o_X2_dominates[k]? = some w → w.before ([.ref h0, .int (zI (b)), .int (zI (d))] : List Value).toArray s = true := fun h => hts _ (mow_X2_dominates _ (List.mem_of_getElem? h))
  subst hsz
  have hD := hD0.self (sz := s.heap.size)
  generalize hAe : va_A [(h0, .inr (2, [v2_0, v2_1, v2_2, v2_3, .ref q_204, .ref q_205, v2_6, v2_7, v2_8, v2_9, v2_10, v2_11, v2_12])), (q_204, .inl (cA_204, 300, .inl (fun j : Nat => zI (a2_place (j : Int))))), (q_205, .inl (cA_205, 300, .inl (fun j : Nat => zI (a2_span (j : Int)))))] s.heap.size = A at hD ⊢
  have hA : ∀ q : Nat, s.heap.size ≤ q → A q := fun q h => by rw [← hAe]; exact Or.inr h
  have hS : va_S A s.heap s.heap [] := va_S.rf
  have hP : va_P (dC, dI) vwP [(h0, .inr (2, [v2_0, v2_1, v2_2, v2_3, .ref q_204, .ref q_205, v2_6, v2_7, v2_8, v2_9, v2_10, v2_11, v2_12])), (q_204, .inl (cA_204, 300, .inl (fun j : Nat => zI (a2_place (j : Int))))), (q_205, .inl (cA_205, 300, .inl (fun j : Nat => zI (a2_span (j : Int)))))] s.heap := hP
  have hl := lv_entry ([.ref h0, .int (zI (b)), .int (zI (d))]) (n := 3) (Nat.le_of_ble_eq_true rfl)
  rw [lg_entry_eq]
  generalize (lg_sl ([.ref h0, .int (zI (b)), .int (zI (d))]) ++ List.replicate (3 - (lg_sl ([.ref h0, .int (zI (b)), .int (zI (d))])).length) Slot.unset).toArray = ls at hl ⊢
  have hl : lv_has ls 3 [(0, .ref h0), (1, .int (zI (b))), (2, .int (zI (d)))] := hl
  obtain ⟨H, hH⟩ : ∃ H, H = s.heap := ⟨_, rfl⟩
  rw [← hH] at hP
  have hS : va_S A s.heap H [] := by rw [hH]; exact hS
  rw [← hH]
  refine zW_cap (fun Q hQ => ?_)
  refine lv_aload_n hx hb dX2_dominates_0 rfl (lv_at hl 0 rfl) ?_
  refine va_get (D := (dC, dI)) (ci := 2) (v := .ref q_204) (C := RX2) (T := TX2) (N := 13) hx hb hts mem_X2_dominates_0 hown hK hP 0 rfl rfl 4 (by decide) (ow (k := 0) rfl) (fun _ h9 => h9) rfl dX2_dominates_1 ?_
  refine lv_iload_n hx hb dX2_dominates_4 rfl (lv_at hl 1 rfl) ?_
  refine va_iald hx hb hK hP 1 0 rfl rfl (zI_in (a := b) (n := 300) (by omega) (by omega) (by decide)) dX2_dominates_5 ?_
  refine lv_topi (fun z ez => ?_)
  obtain rfl : z = zI (a2_place (b)) := ez.trans (zI_ld (a2_place) (by omega) (by omega))
  have k1 := hR_a2_place (b)
  refine lv_if_lt (tgt := 50) hx hb dX2_dominates_6 (by decide) (fun b6 => ?_) (fun b6 => ?_)
  · have yb6 : (a2_place (b) : Int) < (0 : Int) := (zI_lt (a := a2_place (b)) (b := 0) (by omega) (by omega) (by omega) (by omega)).mp b6
    refine lv_iconst (v := 0) hx hb dX2_dominates_50 (by decide) ?_
    subst hQ
    refine W.widen (k := 0) (n := 0) (Nat.le_of_ble_eq_true rfl) (Nat.le_of_ble_eq_true rfl) ?_
    exact W.zret (v := 0) hx hb hr (by decide) (fun t ht hW => ⟨⟨0, (), rfl, ⟨0, rfl, by omega⟩, by rw [ht]; exact hP, va_K.moved hW.alike hK, hD⟩, hS.F ht⟩) hS.2.2 dX2_dominates_51
  · have yb6 : ¬ (a2_place (b) : Int) < (0 : Int) := fun q => b6 ((zI_lt (a := a2_place (b)) (b := 0) (by omega) (by omega) (by omega) (by omega)).mpr q)
    refine lv_aload_n hx hb dX2_dominates_9 rfl (lv_at hl 0 rfl) ?_
    refine va_get (D := (dC, dI)) (ci := 2) (v := .ref q_204) (C := RX2) (T := TX2) (N := 13) hx hb hts mem_X2_dominates_0 hown hK hP 0 rfl rfl 4 (by decide) (ow (k := 0) rfl) (fun _ h9 => h9) rfl dX2_dominates_10 ?_
    refine lv_iload_n hx hb dX2_dominates_13 rfl (lv_at hl 2 rfl) ?_
    refine va_iald hx hb hK hP 1 0 rfl rfl (zI_in (a := d) (n := 300) (by omega) (by omega) (by decide)) dX2_dominates_14 ?_
    refine lv_topi (fun z ez => ?_)
    obtain rfl : z = zI (a2_place (d)) := ez.trans (zI_ld (a2_place) (by omega) (by omega))
    have k2 := hR_a2_place (d)
    refine lv_aload_n hx hb dX2_dominates_15 rfl (lv_at hl 0 rfl) ?_
    refine va_get (D := (dC, dI)) (ci := 2) (v := .ref q_204) (C := RX2) (T := TX2) (N := 13) hx hb hts mem_X2_dominates_0 hown hK hP 0 rfl rfl 4 (by decide) (ow (k := 0) rfl) (fun _ h9 => h9) rfl dX2_dominates_16 ?_
    refine lv_iload_n hx hb dX2_dominates_19 rfl (lv_at hl 1 rfl) ?_
    refine va_iald hx hb hK hP 1 0 rfl rfl (zI_in (a := b) (n := 300) (by omega) (by omega) (by decide)) dX2_dominates_20 ?_
    refine lv_topi (fun z ez => ?_)
    obtain rfl : z = zI (a2_place (b)) := ez.trans (zI_ld (a2_place) (by omega) (by omega))
    have k3 := hR_a2_place (b)
    refine lv_icmp_lt (tgt := 50) hx hb dX2_dominates_21 (by decide) (fun b21 => ?_) (fun b21 => ?_)
    · have yb21 : (a2_place (d) : Int) < (a2_place (b) : Int) := (zI_lt (a := a2_place (d)) (b := a2_place (b)) (by omega) (by omega) (by omega) (by omega)).mp b21
      refine lv_iconst (v := 0) hx hb dX2_dominates_50 (by decide) ?_
      subst hQ
      refine W.widen (k := 0) (n := 0) (Nat.le_of_ble_eq_true rfl) (Nat.le_of_ble_eq_true rfl) ?_
      exact W.zret (v := 0) hx hb hr (by decide) (fun t ht hW => ⟨⟨0, (), rfl, ⟨0, rfl, by omega⟩, by rw [ht]; exact hP, va_K.moved hW.alike hK, hD⟩, hS.F ht⟩) hS.2.2 dX2_dominates_51
    · have yb21 : ¬ (a2_place (d) : Int) < (a2_place (b) : Int) := fun q => b21 ((zI_lt (a := a2_place (d)) (b := a2_place (b)) (by omega) (by omega) (by omega) (by omega)).mpr q)
      refine lv_aload_n hx hb dX2_dominates_24 rfl (lv_at hl 0 rfl) ?_
      refine va_get (D := (dC, dI)) (ci := 2) (v := .ref q_204) (C := RX2) (T := TX2) (N := 13) hx hb hts mem_X2_dominates_0 hown hK hP 0 rfl rfl 4 (by decide) (ow (k := 0) rfl) (fun _ h9 => h9) rfl dX2_dominates_25 ?_
      refine lv_iload_n hx hb dX2_dominates_28 rfl (lv_at hl 2 rfl) ?_
      refine va_iald hx hb hK hP 1 0 rfl rfl (zI_in (a := d) (n := 300) (by omega) (by omega) (by decide)) dX2_dominates_29 ?_
      refine lv_topi (fun z ez => ?_)
      obtain rfl : z = zI (a2_place (d)) := ez.trans (zI_ld (a2_place) (by omega) (by omega))
      have k4 := hR_a2_place (d)
      refine lv_aload_n hx hb dX2_dominates_30 rfl (lv_at hl 0 rfl) ?_
      refine va_get (D := (dC, dI)) (ci := 2) (v := .ref q_204) (C := RX2) (T := TX2) (N := 13) hx hb hts mem_X2_dominates_0 hown hK hP 0 rfl rfl 4 (by decide) (ow (k := 0) rfl) (fun _ h9 => h9) rfl dX2_dominates_31 ?_
      refine lv_iload_n hx hb dX2_dominates_34 rfl (lv_at hl 1 rfl) ?_
      refine va_iald hx hb hK hP 1 0 rfl rfl (zI_in (a := b) (n := 300) (by omega) (by omega) (by decide)) dX2_dominates_35 ?_
      refine lv_topi (fun z ez => ?_)
      obtain rfl : z = zI (a2_place (b)) := ez.trans (zI_ld (a2_place) (by omega) (by omega))
      have k5 := hR_a2_place (b)
      refine lv_aload_n hx hb dX2_dominates_36 rfl (lv_at hl 0 rfl) ?_
      refine va_get (D := (dC, dI)) (ci := 2) (v := .ref q_205) (C := RX2) (T := TX2) (N := 13) hx hb hts mem_X2_dominates_0 hown hK hP 0 rfl rfl 5 (by decide) (ow (k := 1) rfl) (fun _ h9 => h9) rfl dX2_dominates_37 ?_
      refine lv_iload_n hx hb dX2_dominates_40 rfl (lv_at hl 1 rfl) ?_
      refine va_iald hx hb hK hP 2 1 rfl rfl (zI_in (a := b) (n := 300) (by omega) (by omega) (by decide)) dX2_dominates_41 ?_
      refine lv_topi (fun z ez => ?_)
      obtain rfl : z = zI (a2_span (b)) := ez.trans (zI_ld (a2_span) (by omega) (by omega))
      have k6 := hR_a2_span (b)
      refine lv_iadd hx hb dX2_dominates_42 ?_
      refine lv_topi (fun z ez => ?_)
      obtain rfl : z = zI ((a2_place (b)) + (a2_span (b))) := ez.trans (zI_add (a2_place (b)) (a2_span (b)))
      refine lv_icmp_ge (tgt := 50) hx hb dX2_dominates_43 (by decide) (fun b43 => ?_) (fun b43 => ?_)
      · have yb43 : ((a2_place (b)) + (a2_span (b)) : Int) ≤ (a2_place (d) : Int) := (zI_le (a := (a2_place (b)) + (a2_span (b))) (b := a2_place (d)) (by omega) (by omega) (by omega) (by omega)).mp b43
        refine lv_iconst (v := 0) hx hb dX2_dominates_50 (by decide) ?_
        subst hQ
        refine W.widen (k := 0) (n := 0) (Nat.le_of_ble_eq_true rfl) (Nat.le_of_ble_eq_true rfl) ?_
        exact W.zret (v := 0) hx hb hr (by decide) (fun t ht hW => ⟨⟨0, (), rfl, ⟨0, rfl, by omega⟩, by rw [ht]; exact hP, va_K.moved hW.alike hK, hD⟩, hS.F ht⟩) hS.2.2 dX2_dominates_51
      · have yb43 : ¬ ((a2_place (b)) + (a2_span (b)) : Int) ≤ (a2_place (d) : Int) := fun q => b43 ((zI_le (a := (a2_place (b)) + (a2_span (b))) (b := a2_place (d)) (by omega) (by omega) (by omega) (by omega)).mpr q)
        refine lv_iconst (v := 1) hx hb dX2_dominates_46 (by decide) ?_
        refine lv_goto (tgt := 51) hx hb dX2_dominates_47 (by decide) ?_
        subst hQ
        refine W.widen (k := 0) (n := 0) (Nat.le_of_ble_eq_true rfl) (Nat.le_of_ble_eq_true rfl) ?_
        exact W.zret (v := 1) hx hb hr (by decide) (fun t ht hW => ⟨⟨1, (), rfl, ⟨1, rfl, by omega⟩, by rw [ht]; exact hP, va_K.moved hW.alike hK, hD⟩, hS.F ht⟩) hS.2.2 dX2_dominates_51
theorem dX2_inFrontier_0 : decode cX2_inFrontier 0 = .ok (.aload_n 0, 1) := by decide +kernel
theorem dX2_inFrontier_1 : decode cX2_inFrontier 1 = .ok (.getfield 32, 3) := by decide +kernel
theorem dX2_inFrontier_4 : decode cX2_inFrontier 4 = .ok (.iload_n 1, 1) := by decide +kernel
theorem dX2_inFrontier_5 : decode cX2_inFrontier 5 = .ok (.iconst 5, 1) := by decide +kernel
theorem dX2_inFrontier_6 : decode cX2_inFrontier 6 = .ok (.imul, 1) := by decide +kernel
theorem dX2_inFrontier_7 : decode cX2_inFrontier 7 = .ok (.iload_n 2, 1) := by decide +kernel
theorem dX2_inFrontier_8 : decode cX2_inFrontier 8 = .ok (.invokestatic 67, 3) := by decide +kernel
theorem dX2_inFrontier_11 : decode cX2_inFrontier 11 = .ok (.ireturn, 1) := by decide +kernel
def o_X2_inFrontier : List Cond := [.fieldLink RX2 32 "SsaForge$Flow" "frontier" "[J", .initialized RX11, .static yX11_hasBit]
def v_X2_inFrontier : List Cond := .code yX2_inFrontier cX2_inFrontier 3 (some .boolean) :: (o_X2_inFrontier ++ (wsX20 ++ (v_X11_hasBit ++ [])))
theorem mow_X2_inFrontier : ∀ w ∈ o_X2_inFrontier, w ∈ v_X2_inFrontier := fun _ h => List.mem_cons_of_mem _ (List.mem_append_left _ h)
theorem mem_X2_inFrontier_0 : ∀ w ∈ wsX20, w ∈ v_X2_inFrontier := fun _ h => List.mem_cons_of_mem _ (List.mem_append_right _ (List.mem_append_left _ h))
theorem mem_X2_inFrontier_1 : ∀ w ∈ v_X11_hasBit, w ∈ v_X2_inFrontier := fun _ h => List.mem_cons_of_mem _ (List.mem_append_right _ (List.mem_append_right _ (List.mem_append_left _ h)))
set_option maxRecDepth 20000 in
theorem gw_X2_inFrontier : v_X2_inFrontier.all goodWord = true := by decide +kernel
set_option maxHeartbeats 4000000 in
set_option maxRecDepth 100000 in
theorem c_X2_inFrontier (l : Launch) (dC : Nat → ClassId) (dI : Nat → Nat → Nat) (h0 : Nat) (v2_0 : Value) (v2_1 : Value) (v2_2 : Value) (v2_3 : Value) (v2_4 : Value) (v2_5 : Value) (q_206 : Nat) (cA_206 : ClassId) (fa2_frontier : Nat → Int64) (v2_7 : Value) (v2_8 : Value) (v2_9 : Value) (v2_10 : Value) (v2_11 : Value) (v2_12 : Value) (b : Int) (d : Int) (hNb : 0 ≤ b ∧ b < 300) (hNd : 0 ≤ d ∧ d < 300) (sz : Nat) : Met l yX2_inFrontier v_X2_inFrontier ({ frames := 1, cells := 0, slots := 0, locals := 22 }) (va_Pc [.ref h0, .int (zI (b)), .int (zI (d))] (fun U => U.heap.size = sz ∧ va_P (dC, dI) vwP [(h0, .inr (2, [v2_0, v2_1, v2_2, v2_3, v2_4, v2_5, .ref q_206, v2_7, v2_8, v2_9, v2_10, v2_11, v2_12])), (q_206, .inl (cA_206, 1500, .inr (.inl fa2_frontier)))] U.heap ∧ va_K (dC, dI) vwP [(cA_206, .long)] U ∧ va_D (fun _ => True) [(h0, .inr (2, [v2_0, v2_1, v2_2, v2_3, v2_4, v2_5, .ref q_206, v2_7, v2_8, v2_9, v2_10, v2_11, v2_12])), (q_206, .inl (cA_206, 1500, .inr (.inl fa2_frontier)))] ∧ va_Nw (.methodLinkNest RX2 67 yX11_hasBit "SsaForge") U)) (va_Qi (fun (r : Int32) (_ : Unit) => ∃ z : Int, r = zI z ∧ (0 ≤ z ∧ z ≤ 1)) (fun (_ : Unit) (t : State) => va_P (dC, dI) vwP [(h0, .inr (2, [v2_0, v2_1, v2_2, v2_3, v2_4, v2_5, .ref q_206, v2_7, v2_8, v2_9, v2_10, v2_11, v2_12])), (q_206, .inl (cA_206, 1500, .inr (.inl fa2_frontier)))] t.heap ∧ va_K (dC, dI) vwP [(cA_206, .long)] t ∧ va_D (va_A [(h0, .inr (2, [v2_0, v2_1, v2_2, v2_3, v2_4, v2_5, .ref q_206, v2_7, v2_8, v2_9, v2_10, v2_11, v2_12])), (q_206, .inl (cA_206, 1500, .inr (.inl fa2_frontier)))] sz) [(h0, .inr (2, [v2_0, v2_1, v2_2, v2_3, v2_4, v2_5, .ref q_206, v2_7, v2_8, v2_9, v2_10, v2_11, v2_12])), (q_206, .inl (cA_206, 1500, .inr (.inl fa2_frontier)))]) (va_A [(h0, .inr (2, [v2_0, v2_1, v2_2, v2_3, v2_4, v2_5, .ref q_206, v2_7, v2_8, v2_9, v2_10, v2_11, v2_12])), (q_206, .inl (cA_206, 1500, .inr (.inl fa2_frontier)))] sz)) 0 0 (va_A [(h0, .inr (2, [v2_0, v2_1, v2_2, v2_3, v2_4, v2_5, .ref q_206, v2_7, v2_8, v2_9, v2_10, v2_11, v2_12])), (q_206, .inl (cA_206, 1500, .inr (.inl fa2_frontier)))] sz) := by
  refine Met.ofW (cc := cX2_inFrontier) (maxL := 3) (ret := (some .boolean)) (by decide) rfl ?_
  intro p e s m args below meth c s₁ B hml hv
  obtain ⟨rfl, hsz, hP, hK, hD0, hp0⟩ := hv
  have hx := B.exec
  have hb := B.bytes
  have hr := B.returns
  have hts := atoms_spec (ws := v_X2_inFrontier) B.pre
  have hown : s.vm.findClass RX2 = some m.cls := findClass_of_methodNamed B.named
  have hlocks := B.notSynchronized
  have ow : ∀ {k : Nat} {w : Cond}, o_X2_inFrontier[k]? = some w → w.before ([.ref h0, .int (zI (b)), .int (zI (d))] : List Value).toArray s = true := fun h => hts _ (mow_X2_inFrontier _ (List.mem_of_getElem? h))
  subst hsz
  have hD := hD0.self (sz := s.heap.size)
  generalize hAe : va_A [(h0, .inr (2, [v2_0, v2_1, v2_2, v2_3, v2_4, v2_5, .ref q_206, v2_7, v2_8, v2_9, v2_10, v2_11, v2_12])), (q_206, .inl (cA_206, 1500, .inr (.inl fa2_frontier)))] s.heap.size = A at hD ⊢
  have hA : ∀ q : Nat, s.heap.size ≤ q → A q := fun q h => by rw [← hAe]; exact Or.inr h
  have hS : va_S A s.heap s.heap [] := va_S.rf
  have hP : va_P (dC, dI) vwP [(h0, .inr (2, [v2_0, v2_1, v2_2, v2_3, v2_4, v2_5, .ref q_206, v2_7, v2_8, v2_9, v2_10, v2_11, v2_12])), (q_206, .inl (cA_206, 1500, .inr (.inl fa2_frontier)))] s.heap := hP
  have hl := lv_entry ([.ref h0, .int (zI (b)), .int (zI (d))]) (n := 3) (Nat.le_of_ble_eq_true rfl)
  rw [lg_entry_eq]
  generalize (lg_sl ([.ref h0, .int (zI (b)), .int (zI (d))]) ++ List.replicate (3 - (lg_sl ([.ref h0, .int (zI (b)), .int (zI (d))])).length) Slot.unset).toArray = ls at hl ⊢
  have hl : lv_has ls 3 [(0, .ref h0), (1, .int (zI (b))), (2, .int (zI (d)))] := hl
  obtain ⟨H, hH⟩ : ∃ H, H = s.heap := ⟨_, rfl⟩
  rw [← hH] at hP
  have hS : va_S A s.heap H [] := by rw [hH]; exact hS
  rw [← hH]
  refine zW_cap (fun Q hQ => ?_)
  refine lv_aload_n hx hb dX2_inFrontier_0 rfl (lv_at hl 0 rfl) ?_
  refine va_get (D := (dC, dI)) (ci := 2) (v := .ref q_206) (C := RX2) (T := TX2) (N := 13) hx hb hts mem_X2_inFrontier_0 hown hK hP 0 rfl rfl 6 (by decide) (ow (k := 0) rfl) (fun _ h9 => h9) rfl dX2_inFrontier_1 ?_
  refine lv_iload_n hx hb dX2_inFrontier_4 rfl (lv_at hl 1 rfl) ?_
  refine lv_iconst (v := 5) hx hb dX2_inFrontier_5 (by decide) ?_
  refine lv_imul hx hb dX2_inFrontier_6 ?_
  refine lv_topi (fun z ez => ?_)
  obtain rfl : z = zI (b * 5) := ez.trans (zI_mul (b) (5))
  refine lv_iload_n hx hb dX2_inFrontier_7 rfl (lv_at hl 2 rfl) ?_
  have hPc := hP.sub (ws' := [(q_206, .inl (cA_206, 1500, .inr (.inl fa2_frontier)))]) [1] rfl
  have hDc := hD.sub (ws' := [(q_206, .inl (cA_206, 1500, .inr (.inl fa2_frontier)))]) [1] (by decide) rfl
  have hKc := hK.sub (tys' := [(cA_206, .long)]) [0] rfl
  have hFc := va_free (wc := [(q_206, .inl (cA_206, 1500, .inr (.inl fa2_frontier)))]) hD hS hA [1] rfl
  refine va_calli (va_runSN (As := [.ref q_206, .int (zI (b * 5)), .int (zI (d))]) (rest := []) ⟨hx, hb, hml, hown, hts⟩ (c_X11_hasBit l dC dI q_206 cA_206 1500 fa2_frontier (b * 5) d (by omega) H.size) ⟨va_cnB 3 hts (goodIn_sub mem_X2_inFrontier_1 gw_X11_hasBit) rfl rfl rfl hp0 (ow (k := 1) rfl) (by decide +kernel) ⟨(Nat.le_of_ble_eq_true rfl), (Nat.le_of_ble_eq_true rfl)⟩, (ow (k := 2) rfl), trivial⟩ ⟨fun a U g mk q => by obtain ⟨q0, q1, qP, qK, qD⟩ := q; exact ⟨q0, q1, qP, va_K.moved (u := U) (U := U.calling g mk a) (Vm.Alike.refl U.vm) qK, qD⟩, fun U hU hW => ⟨rfl, by rw [hU], by rw [hU]; exact hPc, va_K.moved hW.alike hKc, hDc.weaken (fun _ _ _ _ => trivial)⟩⟩ rfl rfl hl.1 rfl (lv_room (Nat.le_of_ble_eq_true rfl)) dX2_inFrontier_8 ⟨(Nat.le_of_ble_eq_true rfl), (Nat.le_of_ble_eq_true rfl)⟩) hS (fun q _ h => hFc q h) hFc (fun r_2001 u t H1 locs ht hvm hw hB hz1 hk1 hS => ?_)
  obtain ⟨hP1, hK1, hD1⟩ := hB
  rw [ht] at hP1
  have hK1 := va_K.moved hvm.symm hK1
  obtain ⟨hP, hD⟩ := va_join (wr := [(h0, .inr (2, [v2_0, v2_1, v2_2, v2_3, v2_4, v2_5, .ref q_206, v2_7, v2_8, v2_9, v2_10, v2_11, v2_12]))]) (w1 := [(q_206, .inl (cA_206, 1500, .inr (.inl fa2_frontier)))]) hP hD [1] [0] rfl rfl (by decide) (by decide) hk1 hFc hP1 hD1
  have hK := (hK.sub (tys' := []) [] rfl).app hK1
  generalize H1 = H at hP hS ⊢
  have hP : va_P (dC, dI) vwP [(h0, .inr (2, [v2_0, v2_1, v2_2, v2_3, v2_4, v2_5, .ref q_206, v2_7, v2_8, v2_9, v2_10, v2_11, v2_12])), (q_206, .inl (cA_206, 1500, .inr (.inl fa2_frontier)))] H := hP
  have hD : va_D A [(h0, .inr (2, [v2_0, v2_1, v2_2, v2_3, v2_4, v2_5, .ref q_206, v2_7, v2_8, v2_9, v2_10, v2_11, v2_12])), (q_206, .inl (cA_206, 1500, .inr (.inl fa2_frontier)))] := hD
  have hK : va_K (dC, dI) vwP [(cA_206, .long)] s := hK
  refine W.widen (k := 0) (n := 0) (Nat.le_of_ble_eq_true rfl) (Nat.le_of_ble_eq_true rfl) ?_
  have hw_2002 := hw
  obtain ⟨z_2003, rfl, hzz_2003⟩ := hw_2002
  subst hQ
  refine W.widen (k := 0) (n := 0) (Nat.le_of_ble_eq_true rfl) (Nat.le_of_ble_eq_true rfl) ?_
  exact W.zret (v := (zI (z_2003))) hx hb hr (zI_bool (by omega) (by omega)) (fun t ht hW => ⟨⟨(zI (z_2003)), (), rfl, ⟨z_2003, rfl, by omega⟩, by rw [ht]; exact hP, va_K.moved hW.alike hK, hD⟩, hS.F ht⟩) hS.2.2 dX2_inFrontier_11
theorem dX2_frontierSize_0 : decode cX2_frontierSize 0 = .ok (.aload_n 0, 1) := by decide +kernel
theorem dX2_frontierSize_1 : decode cX2_frontierSize 1 = .ok (.getfield 32, 3) := by decide +kernel
theorem dX2_frontierSize_4 : decode cX2_frontierSize 4 = .ok (.iload_n 1, 1) := by decide +kernel
theorem dX2_frontierSize_5 : decode cX2_frontierSize 5 = .ok (.iconst 5, 1) := by decide +kernel
theorem dX2_frontierSize_6 : decode cX2_frontierSize 6 = .ok (.imul, 1) := by decide +kernel
theorem dX2_frontierSize_7 : decode cX2_frontierSize 7 = .ok (.iconst 5, 1) := by decide +kernel
theorem dX2_frontierSize_8 : decode cX2_frontierSize 8 = .ok (.invokestatic 71, 3) := by decide +kernel
theorem dX2_frontierSize_11 : decode cX2_frontierSize 11 = .ok (.ireturn, 1) := by decide +kernel
def o_X2_frontierSize : List Cond := [.fieldLink RX2 32 "SsaForge$Flow" "frontier" "[J", .initialized RX11, .static yX11_countBits]
def v_X2_frontierSize : List Cond := .code yX2_frontierSize cX2_frontierSize 2 (some .int) :: (o_X2_frontierSize ++ (wsX20 ++ (v_X11_countBits ++ [])))
theorem mow_X2_frontierSize : ∀ w ∈ o_X2_frontierSize, w ∈ v_X2_frontierSize := fun _ h => List.mem_cons_of_mem _ (List.mem_append_left _ h)
theorem mem_X2_frontierSize_0 : ∀ w ∈ wsX20, w ∈ v_X2_frontierSize := fun _ h => List.mem_cons_of_mem _ (List.mem_append_right _ (List.mem_append_left _ h))
theorem mem_X2_frontierSize_1 : ∀ w ∈ v_X11_countBits, w ∈ v_X2_frontierSize := fun _ h => List.mem_cons_of_mem _ (List.mem_append_right _ (List.mem_append_right _ (List.mem_append_left _ h)))
set_option maxRecDepth 20000 in
theorem gw_X2_frontierSize : v_X2_frontierSize.all goodWord = true := by decide +kernel
set_option maxHeartbeats 4000000 in
set_option maxRecDepth 100000 in
theorem c_X2_frontierSize (l : Launch) (dC : Nat → ClassId) (dI : Nat → Nat → Nat) (h0 : Nat) (v2_0 : Value) (v2_1 : Value) (v2_2 : Value) (v2_3 : Value) (v2_4 : Value) (v2_5 : Value) (q_206 : Nat) (cA_206 : ClassId) (fa2_frontier : Nat → Int64) (v2_7 : Value) (v2_8 : Value) (v2_9 : Value) (v2_10 : Value) (v2_11 : Value) (v2_12 : Value) (b : Int) (hNb : 0 ≤ b ∧ b < 300) (sz : Nat) : Met l yX2_frontierSize v_X2_frontierSize ({ frames := 2, cells := 0, slots := 0, locals := 45 }) (va_Pc [.ref h0, .int (zI (b))] (fun U => U.heap.size = sz ∧ va_P (dC, dI) vwP [(h0, .inr (2, [v2_0, v2_1, v2_2, v2_3, v2_4, v2_5, .ref q_206, v2_7, v2_8, v2_9, v2_10, v2_11, v2_12])), (q_206, .inl (cA_206, 1500, .inr (.inl fa2_frontier)))] U.heap ∧ va_K (dC, dI) vwP [(cA_206, .long)] U ∧ va_D (fun _ => True) [(h0, .inr (2, [v2_0, v2_1, v2_2, v2_3, v2_4, v2_5, .ref q_206, v2_7, v2_8, v2_9, v2_10, v2_11, v2_12])), (q_206, .inl (cA_206, 1500, .inr (.inl fa2_frontier)))] ∧ va_Nw (.methodLinkNest RX2 71 yX11_countBits "SsaForge") U)) (va_Qi (fun (r : Int32) (_ : Unit) => ∃ z : Int, r = zI z ∧ (0 ≤ z ∧ z ≤ 12700)) (fun (_ : Unit) (t : State) => va_P (dC, dI) vwP [(h0, .inr (2, [v2_0, v2_1, v2_2, v2_3, v2_4, v2_5, .ref q_206, v2_7, v2_8, v2_9, v2_10, v2_11, v2_12])), (q_206, .inl (cA_206, 1500, .inr (.inl fa2_frontier)))] t.heap ∧ va_K (dC, dI) vwP [(cA_206, .long)] t ∧ va_D (va_A [(h0, .inr (2, [v2_0, v2_1, v2_2, v2_3, v2_4, v2_5, .ref q_206, v2_7, v2_8, v2_9, v2_10, v2_11, v2_12])), (q_206, .inl (cA_206, 1500, .inr (.inl fa2_frontier)))] sz) [(h0, .inr (2, [v2_0, v2_1, v2_2, v2_3, v2_4, v2_5, .ref q_206, v2_7, v2_8, v2_9, v2_10, v2_11, v2_12])), (q_206, .inl (cA_206, 1500, .inr (.inl fa2_frontier)))]) (va_A [(h0, .inr (2, [v2_0, v2_1, v2_2, v2_3, v2_4, v2_5, .ref q_206, v2_7, v2_8, v2_9, v2_10, v2_11, v2_12])), (q_206, .inl (cA_206, 1500, .inr (.inl fa2_frontier)))] sz)) 0 0 (va_A [(h0, .inr (2, [v2_0, v2_1, v2_2, v2_3, v2_4, v2_5, .ref q_206, v2_7, v2_8, v2_9, v2_10, v2_11, v2_12])), (q_206, .inl (cA_206, 1500, .inr (.inl fa2_frontier)))] sz) := by
  refine Met.ofW (cc := cX2_frontierSize) (maxL := 2) (ret := (some .int)) (by decide) rfl ?_
  intro p e s m args below meth c s₁ B hml hv
  obtain ⟨rfl, hsz, hP, hK, hD0, hp0⟩ := hv
  have hx := B.exec
  have hb := B.bytes
  have hr := B.returns
  have hts := atoms_spec (ws := v_X2_frontierSize) B.pre
  have hown : s.vm.findClass RX2 = some m.cls := findClass_of_methodNamed B.named
  have hlocks := B.notSynchronized
  have ow : ∀ {k : Nat} {w : Cond}, o_X2_frontierSize[k]? = some w → w.before ([.ref h0, .int (zI (b))] : List Value).toArray s = true := fun h => hts _ (mow_X2_frontierSize _ (List.mem_of_getElem? h))
  subst hsz
  have hD := hD0.self (sz := s.heap.size)
  generalize hAe : va_A [(h0, .inr (2, [v2_0, v2_1, v2_2, v2_3, v2_4, v2_5, .ref q_206, v2_7, v2_8, v2_9, v2_10, v2_11, v2_12])), (q_206, .inl (cA_206, 1500, .inr (.inl fa2_frontier)))] s.heap.size = A at hD ⊢
  have hA : ∀ q : Nat, s.heap.size ≤ q → A q := fun q h => by rw [← hAe]; exact Or.inr h
  have hS : va_S A s.heap s.heap [] := va_S.rf
  have hP : va_P (dC, dI) vwP [(h0, .inr (2, [v2_0, v2_1, v2_2, v2_3, v2_4, v2_5, .ref q_206, v2_7, v2_8, v2_9, v2_10, v2_11, v2_12])), (q_206, .inl (cA_206, 1500, .inr (.inl fa2_frontier)))] s.heap := hP
  have hl := lv_entry ([.ref h0, .int (zI (b))]) (n := 2) (Nat.le_of_ble_eq_true rfl)
  rw [lg_entry_eq]
  generalize (lg_sl ([.ref h0, .int (zI (b))]) ++ List.replicate (2 - (lg_sl ([.ref h0, .int (zI (b))])).length) Slot.unset).toArray = ls at hl ⊢
  have hl : lv_has ls 2 [(0, .ref h0), (1, .int (zI (b)))] := hl
  obtain ⟨H, hH⟩ : ∃ H, H = s.heap := ⟨_, rfl⟩
  rw [← hH] at hP
  have hS : va_S A s.heap H [] := by rw [hH]; exact hS
  rw [← hH]
  refine zW_cap (fun Q hQ => ?_)
  refine lv_aload_n hx hb dX2_frontierSize_0 rfl (lv_at hl 0 rfl) ?_
  refine va_get (D := (dC, dI)) (ci := 2) (v := .ref q_206) (C := RX2) (T := TX2) (N := 13) hx hb hts mem_X2_frontierSize_0 hown hK hP 0 rfl rfl 6 (by decide) (ow (k := 0) rfl) (fun _ h9 => h9) rfl dX2_frontierSize_1 ?_
  refine lv_iload_n hx hb dX2_frontierSize_4 rfl (lv_at hl 1 rfl) ?_
  refine lv_iconst (v := 5) hx hb dX2_frontierSize_5 (by decide) ?_
  refine lv_imul hx hb dX2_frontierSize_6 ?_
  refine lv_topi (fun z ez => ?_)
  obtain rfl : z = zI (b * 5) := ez.trans (zI_mul (b) (5))
  refine lv_iconst (v := 5) hx hb dX2_frontierSize_7 (by decide) ?_
  have hPc := hP.sub (ws' := [(q_206, .inl (cA_206, 1500, .inr (.inl fa2_frontier)))]) [1] rfl
  have hDc := hD.sub (ws' := [(q_206, .inl (cA_206, 1500, .inr (.inl fa2_frontier)))]) [1] (by decide) rfl
  have hKc := hK.sub (tys' := [(cA_206, .long)]) [0] rfl
  have hFc := va_free (wc := [(q_206, .inl (cA_206, 1500, .inr (.inl fa2_frontier)))]) hD hS hA [1] rfl
  refine va_calli (va_runSN (As := [.ref q_206, .int (zI (b * 5)), .int 5]) (rest := []) ⟨hx, hb, hml, hown, hts⟩ (c_X11_countBits l dC dI q_206 cA_206 1500 fa2_frontier (b * 5) 5 (by omega) H.size) ⟨va_cnB 3 hts (goodIn_sub mem_X2_frontierSize_1 gw_X11_countBits) rfl rfl rfl hp0 (ow (k := 1) rfl) (by decide +kernel) ⟨(Nat.le_of_ble_eq_true rfl), (Nat.le_of_ble_eq_true rfl)⟩, (ow (k := 2) rfl), trivial⟩ ⟨fun a U g mk q => by obtain ⟨q0, q1, qP, qK, qD⟩ := q; exact ⟨q0, q1, qP, va_K.moved (u := U) (U := U.calling g mk a) (Vm.Alike.refl U.vm) qK, qD⟩, fun U hU hW => ⟨rfl, by rw [hU], by rw [hU]; exact hPc, va_K.moved hW.alike hKc, hDc.weaken (fun _ _ _ _ => trivial)⟩⟩ rfl rfl hl.1 rfl (lv_room (Nat.le_of_ble_eq_true rfl)) dX2_frontierSize_8 ⟨(Nat.le_of_ble_eq_true rfl), (Nat.le_of_ble_eq_true rfl)⟩) hS (fun q _ h => hFc q h) hFc (fun r_2001 u t H1 locs ht hvm hw hB hz1 hk1 hS => ?_)
  obtain ⟨hP1, hK1, hD1⟩ := hB
  rw [ht] at hP1
  have hK1 := va_K.moved hvm.symm hK1
  obtain ⟨hP, hD⟩ := va_join (wr := [(h0, .inr (2, [v2_0, v2_1, v2_2, v2_3, v2_4, v2_5, .ref q_206, v2_7, v2_8, v2_9, v2_10, v2_11, v2_12]))]) (w1 := [(q_206, .inl (cA_206, 1500, .inr (.inl fa2_frontier)))]) hP hD [1] [0] rfl rfl (by decide) (by decide) hk1 hFc hP1 hD1
  have hK := (hK.sub (tys' := []) [] rfl).app hK1
  generalize H1 = H at hP hS ⊢
  have hP : va_P (dC, dI) vwP [(h0, .inr (2, [v2_0, v2_1, v2_2, v2_3, v2_4, v2_5, .ref q_206, v2_7, v2_8, v2_9, v2_10, v2_11, v2_12])), (q_206, .inl (cA_206, 1500, .inr (.inl fa2_frontier)))] H := hP
  have hD : va_D A [(h0, .inr (2, [v2_0, v2_1, v2_2, v2_3, v2_4, v2_5, .ref q_206, v2_7, v2_8, v2_9, v2_10, v2_11, v2_12])), (q_206, .inl (cA_206, 1500, .inr (.inl fa2_frontier)))] := hD
  have hK : va_K (dC, dI) vwP [(cA_206, .long)] s := hK
  refine W.widen (k := 0) (n := 0) (Nat.le_of_ble_eq_true rfl) (Nat.le_of_ble_eq_true rfl) ?_
  have hw_2002 := hw
  obtain ⟨z_2003, rfl, hzz_2003⟩ := hw_2002
  subst hQ
  refine W.widen (k := 0) (n := 0) (Nat.le_of_ble_eq_true rfl) (Nat.le_of_ble_eq_true rfl) ?_
  exact W.iret (v := (zI (z_2003))) hx hb hr (fun t ht hW => ⟨⟨(zI (z_2003)), (), rfl, ⟨z_2003, rfl, by omega⟩, by rw [ht]; exact hP, va_K.moved hW.alike hK, hD⟩, hS.F ht⟩) hS.2.2 dX2_frontierSize_11
theorem dX2_findFrontiers_0 : decode cX2_findFrontiers 0 = .ok (.aload_n 0, 1) := by decide +kernel
theorem dX2_findFrontiers_1 : decode cX2_findFrontiers 1 = .ok (.getfield 32, 3) := by decide +kernel
theorem dX2_findFrontiers_4 : decode cX2_findFrontiers 4 = .ok (.aload_n 1, 1) := by decide +kernel
theorem dX2_findFrontiers_5 : decode cX2_findFrontiers 5 = .ok (.getfield 75, 3) := by decide +kernel
theorem dX2_findFrontiers_8 : decode cX2_findFrontiers 8 = .ok (.iconst 5, 1) := by decide +kernel
theorem dX2_findFrontiers_9 : decode cX2_findFrontiers 9 = .ok (.imul, 1) := by decide +kernel
theorem dX2_findFrontiers_10 : decode cX2_findFrontiers 10 = .ok (.invokestatic 102, 3) := by decide +kernel
theorem dX2_findFrontiers_13 : decode cX2_findFrontiers 13 = .ok (.iconst 0, 1) := by decide +kernel
theorem dX2_findFrontiers_14 : decode cX2_findFrontiers 14 = .ok (.istore_n 2, 1) := by decide +kernel
theorem dX2_findFrontiers_15 : decode cX2_findFrontiers 15 = .ok (.iload_n 2, 1) := by decide +kernel
theorem dX2_findFrontiers_16 : decode cX2_findFrontiers 16 = .ok (.aload_n 1, 1) := by decide +kernel
theorem dX2_findFrontiers_17 : decode cX2_findFrontiers 17 = .ok (.getfield 75, 3) := by decide +kernel
theorem dX2_findFrontiers_20 : decode cX2_findFrontiers 20 = .ok (.if_icmp .ge 104, 3) := by decide +kernel
theorem dX2_findFrontiers_124 : decode cX2_findFrontiers 124 = .ok (.return_, 1) := by decide +kernel
theorem dX2_findFrontiers_23 : decode cX2_findFrontiers 23 = .ok (.aload_n 0, 1) := by decide +kernel
theorem dX2_findFrontiers_24 : decode cX2_findFrontiers 24 = .ok (.iload_n 2, 1) := by decide +kernel
theorem dX2_findFrontiers_25 : decode cX2_findFrontiers 25 = .ok (.invokevirtual 106, 3) := by decide +kernel
theorem dX2_findFrontiers_28 : decode cX2_findFrontiers 28 = .ok (.ifCond .ne 6, 3) := by decide +kernel
theorem dX2_findFrontiers_34 : decode cX2_findFrontiers 34 = .ok (.iconst 0, 1) := by decide +kernel
theorem dX2_findFrontiers_35 : decode cX2_findFrontiers 35 = .ok (.istore_n 3, 1) := by decide +kernel
theorem dX2_findFrontiers_36 : decode cX2_findFrontiers 36 = .ok (.iload_n 3, 1) := by decide +kernel
theorem dX2_findFrontiers_37 : decode cX2_findFrontiers 37 = .ok (.aload_n 1, 1) := by decide +kernel
theorem dX2_findFrontiers_38 : decode cX2_findFrontiers 38 = .ok (.iload_n 2, 1) := by decide +kernel
theorem dX2_findFrontiers_39 : decode cX2_findFrontiers 39 = .ok (.invokevirtual 81, 3) := by decide +kernel
theorem dX2_findFrontiers_42 : decode cX2_findFrontiers 42 = .ok (.if_icmp .ge 76, 3) := by decide +kernel
theorem dX2_findFrontiers_118 : decode cX2_findFrontiers 118 = .ok (.iinc 2 1, 3) := by decide +kernel
theorem dX2_findFrontiers_121 : decode cX2_findFrontiers 121 = .ok (.goto (-106), 3) := by decide +kernel
theorem dX2_findFrontiers_45 : decode cX2_findFrontiers 45 = .ok (.aload_n 1, 1) := by decide +kernel
theorem dX2_findFrontiers_46 : decode cX2_findFrontiers 46 = .ok (.iload_n 2, 1) := by decide +kernel
theorem dX2_findFrontiers_47 : decode cX2_findFrontiers 47 = .ok (.iload_n 3, 1) := by decide +kernel
theorem dX2_findFrontiers_48 : decode cX2_findFrontiers 48 = .ok (.invokevirtual 85, 3) := by decide +kernel
theorem dX2_findFrontiers_51 : decode cX2_findFrontiers 51 = .ok (.istore 4, 2) := by decide +kernel
theorem dX2_findFrontiers_53 : decode cX2_findFrontiers 53 = .ok (.iload_n 2, 1) := by decide +kernel
theorem dX2_findFrontiers_54 : decode cX2_findFrontiers 54 = .ok (.istore 5, 2) := by decide +kernel
theorem dX2_findFrontiers_56 : decode cX2_findFrontiers 56 = .ok (.iconst 0, 1) := by decide +kernel
theorem dX2_findFrontiers_57 : decode cX2_findFrontiers 57 = .ok (.istore 6, 2) := by decide +kernel
theorem dX2_findFrontiers_59 : decode cX2_findFrontiers 59 = .ok (.iload 5, 2) := by decide +kernel
theorem dX2_findFrontiers_61 : decode cX2_findFrontiers 61 = .ok (.ifCond .lt 51, 3) := by decide +kernel
theorem dX2_findFrontiers_112 : decode cX2_findFrontiers 112 = .ok (.iinc 3 1, 3) := by decide +kernel
theorem dX2_findFrontiers_115 : decode cX2_findFrontiers 115 = .ok (.goto (-79), 3) := by decide +kernel
theorem dX2_findFrontiers_64 : decode cX2_findFrontiers 64 = .ok (.iload 5, 2) := by decide +kernel
theorem dX2_findFrontiers_66 : decode cX2_findFrontiers 66 = .ok (.aload_n 0, 1) := by decide +kernel
theorem dX2_findFrontiers_67 : decode cX2_findFrontiers 67 = .ok (.getfield 15, 3) := by decide +kernel
theorem dX2_findFrontiers_70 : decode cX2_findFrontiers 70 = .ok (.iload 4, 2) := by decide +kernel
theorem dX2_findFrontiers_72 : decode cX2_findFrontiers 72 = .ok (.iaload, 1) := by decide +kernel
theorem dX2_findFrontiers_73 : decode cX2_findFrontiers 73 = .ok (.if_icmp .eq 39, 3) := by decide +kernel
theorem dX2_findFrontiers_76 : decode cX2_findFrontiers 76 = .ok (.iload 6, 2) := by decide +kernel
theorem dX2_findFrontiers_78 : decode cX2_findFrontiers 78 = .ok (.sipush 300, 3) := by decide +kernel
theorem dX2_findFrontiers_81 : decode cX2_findFrontiers 81 = .ok (.if_icmp .ge 31, 3) := by decide +kernel
theorem dX2_findFrontiers_84 : decode cX2_findFrontiers 84 = .ok (.aload_n 0, 1) := by decide +kernel
theorem dX2_findFrontiers_85 : decode cX2_findFrontiers 85 = .ok (.getfield 32, 3) := by decide +kernel
theorem dX2_findFrontiers_88 : decode cX2_findFrontiers 88 = .ok (.iload 5, 2) := by decide +kernel
theorem dX2_findFrontiers_90 : decode cX2_findFrontiers 90 = .ok (.iconst 5, 1) := by decide +kernel
theorem dX2_findFrontiers_91 : decode cX2_findFrontiers 91 = .ok (.imul, 1) := by decide +kernel
theorem dX2_findFrontiers_92 : decode cX2_findFrontiers 92 = .ok (.iload 4, 2) := by decide +kernel
theorem dX2_findFrontiers_94 : decode cX2_findFrontiers 94 = .ok (.invokestatic 110, 3) := by decide +kernel
theorem dX2_findFrontiers_97 : decode cX2_findFrontiers 97 = .ok (.aload_n 0, 1) := by decide +kernel
theorem dX2_findFrontiers_98 : decode cX2_findFrontiers 98 = .ok (.getfield 15, 3) := by decide +kernel
theorem dX2_findFrontiers_101 : decode cX2_findFrontiers 101 = .ok (.iload 5, 2) := by decide +kernel
theorem dX2_findFrontiers_103 : decode cX2_findFrontiers 103 = .ok (.iaload, 1) := by decide +kernel
theorem dX2_findFrontiers_104 : decode cX2_findFrontiers 104 = .ok (.istore 5, 2) := by decide +kernel
theorem dX2_findFrontiers_106 : decode cX2_findFrontiers 106 = .ok (.iinc 6 1, 3) := by decide +kernel
theorem dX2_findFrontiers_109 : decode cX2_findFrontiers 109 = .ok (.goto (-50), 3) := by decide +kernel
theorem dX2_findFrontiers_31 : decode cX2_findFrontiers 31 = .ok (.goto 87, 3) := by decide +kernel
def o_X2_findFrontiers : List Cond := [.fieldLink RX2 32 "SsaForge$Flow" "frontier" "[J", .fieldLink RX2 75 "SsaForge$Code" "blocks" "I", .initialized RX11, .static yX11_clearBits, .methodLink RX2 106 yX2_isReached, .instanceMethod yX2_isReached, .selects RX2 yX2_isReached yX2_isReached, .initialized RX2, .methodLink RX2 81 yX0_goalCount, .instanceMethod yX0_goalCount, .selects RX0 yX0_goalCount yX0_goalCount, .initialized RX0, .methodLink RX2 85 yX0_goal, .instanceMethod yX0_goal, .selects RX0 yX0_goal yX0_goal, .fieldLink RX2 15 "SsaForge$Flow" "idom" "[I", .static yX11_putBit]
def v_X2_findFrontiers : List Cond := .code yX2_findFrontiers cX2_findFrontiers 7 none :: (o_X2_findFrontiers ++ (wsX20 ++ (wsX00 ++ (v_X11_clearBits ++ (v_X2_isReached ++ (v_X0_goalCount ++ (v_X0_goal ++ (v_X11_putBit ++ []))))))))
theorem mow_X2_findFrontiers : ∀ w ∈ o_X2_findFrontiers, w ∈ v_X2_findFrontiers := fun _ h => List.mem_cons_of_mem _ (List.mem_append_left _ h)
theorem mem_X2_findFrontiers_0 : ∀ w ∈ wsX20, w ∈ v_X2_findFrontiers := fun _ h => List.mem_cons_of_mem _ (List.mem_append_right _ (List.mem_append_left _ h))
theorem mem_X2_findFrontiers_1 : ∀ w ∈ wsX00, w ∈ v_X2_findFrontiers := fun _ h => List.mem_cons_of_mem _ (List.mem_append_right _ (List.mem_append_right _ (List.mem_append_left _ h)))
theorem mem_X2_findFrontiers_2 : ∀ w ∈ v_X11_clearBits, w ∈ v_X2_findFrontiers := fun _ h => List.mem_cons_of_mem _ (List.mem_append_right _ (List.mem_append_right _ (List.mem_append_right _ (List.mem_append_left _ h))))
theorem mem_X2_findFrontiers_3 : ∀ w ∈ v_X2_isReached, w ∈ v_X2_findFrontiers := fun _ h => List.mem_cons_of_mem _ (List.mem_append_right _ (List.mem_append_right _ (List.mem_append_right _ (List.mem_append_right _ (List.mem_append_left _ h)))))
theorem mem_X2_findFrontiers_4 : ∀ w ∈ v_X0_goalCount, w ∈ v_X2_findFrontiers := fun _ h => List.mem_cons_of_mem _ (List.mem_append_right _ (List.mem_append_right _ (List.mem_append_right _ (List.mem_append_right _ (List.mem_append_right _ (List.mem_append_left _ h))))))
theorem mem_X2_findFrontiers_5 : ∀ w ∈ v_X0_goal, w ∈ v_X2_findFrontiers := fun _ h => List.mem_cons_of_mem _ (List.mem_append_right _ (List.mem_append_right _ (List.mem_append_right _ (List.mem_append_right _ (List.mem_append_right _ (List.mem_append_right _ (List.mem_append_left _ h)))))))
theorem mem_X2_findFrontiers_6 : ∀ w ∈ v_X11_putBit, w ∈ v_X2_findFrontiers := fun _ h => List.mem_cons_of_mem _ (List.mem_append_right _ (List.mem_append_right _ (List.mem_append_right _ (List.mem_append_right _ (List.mem_append_right _ (List.mem_append_right _ (List.mem_append_right _ (List.mem_append_left _ h))))))))
set_option maxRecDepth 20000 in
theorem gw_X2_findFrontiers : v_X2_findFrontiers.all goodWord = true := by decide +kernel
set_option maxRecDepth 20000 in
theorem g_X2_findFrontiers_X2_isReached : GoodIn v_X2_findFrontiers (wsV RX2 106 RX2 yX2_isReached v_X2_isReached) := goodIn_app (goodIn_sub (fun w h => mow_X2_findFrontiers w (by revert w h; decide +kernel)) (by decide +kernel)) (goodIn_sub mem_X2_findFrontiers_3 gw_X2_isReached)
set_option maxRecDepth 20000 in
theorem g_X2_findFrontiers_X0_goalCount : GoodIn v_X2_findFrontiers (wsV RX2 81 RX0 yX0_goalCount v_X0_goalCount) := goodIn_app (goodIn_sub (fun w h => mow_X2_findFrontiers w (by revert w h; decide +kernel)) (by decide +kernel)) (goodIn_sub mem_X2_findFrontiers_4 gw_X0_goalCount)
set_option maxRecDepth 20000 in
theorem g_X2_findFrontiers_X0_goal : GoodIn v_X2_findFrontiers (wsV RX2 85 RX0 yX0_goal v_X0_goal) := goodIn_app (goodIn_sub (fun w h => mow_X2_findFrontiers w (by revert w h; decide +kernel)) (by decide +kernel)) (goodIn_sub mem_X2_findFrontiers_5 gw_X0_goal)
set_option maxHeartbeats 4000000 in
set_option maxRecDepth 100000 in
theorem c_X2_findFrontiers (l : Launch) (dC : Nat → ClassId) (dI : Nat → Nat → Nat) (h0 : Nat) (v2_0 : Value) (q_201 : Nat) (cA_201 : ClassId) (a2_idom : Int → Int) (v2_2 : Value) (v2_3 : Value) (q_204 : Nat) (cA_204 : ClassId) (a2_place : Int → Int) (v2_5 : Value) (q_206 : Nat) (cA_206 : ClassId) (fa2_frontier : Nat → Int64) (v2_7 : Value) (v2_8 : Value) (v2_9 : Value) (v2_10 : Value) (v2_11 : Value) (v2_12 : Value) (hc : Nat) (B1 : Int) (v_1 : Value) (v_2 : Value) (v_3 : Value) (v_4 : Value) (v_5 : Value) (v_6 : Value) (v_7 : Value) (v_8 : Value) (q_709 : Nat) (cA_709 : ClassId) (a_9 : Int → Int) (v_10 : Value) (q_711 : Nat) (cA_711 : ClassId) (a_11 : Int → Int) (q_712 : Nat) (cA_712 : ClassId) (a_12 : Int → Int) (v_13 : Value) (v_14 : Value) (v_15 : Value) (v_16 : Value) (v_17 : Value) (v_18 : Value) (hR_a2_idom : ∀ j : Int, -2 ≤ a2_idom j ∧ a2_idom j ≤ 299) (hR_a2_place : ∀ j : Int, -1 ≤ a2_place j ∧ a2_place j ≤ 299) (hNB1 : 0 ≤ B1 ∧ B1 ≤ 300) (hR_a_9 : ∀ j : Int, 0 ≤ a_9 j ∧ a_9 j ≤ 2) (hR_a_11 : ∀ j : Int, -1 ≤ a_11 j ∧ a_11 j ≤ 299) (hR_a_12 : ∀ j : Int, -1 ≤ a_12 j ∧ a_12 j ≤ 299) (hX_G : ∀ b : Int, 0 ≤ b → b < B1 → ¬ a_9 b = 2 → (0 ≤ a_11 b ∧ a_11 b < B1) ∧ (0 ≤ a_12 b ∧ a_12 b < B1)) (sz : Nat) : Met l yX2_findFrontiers v_X2_findFrontiers ({ frames := 1, cells := 0, slots := 0, locals := 22 }) (va_Pc [.ref h0, .ref hc] (fun U => U.heap.size = sz ∧ va_P (dC, dI) vwP [(h0, .inr (2, [v2_0, .ref q_201, v2_2, v2_3, .ref q_204, v2_5, .ref q_206, v2_7, v2_8, v2_9, v2_10, v2_11, v2_12])), (q_201, .inl (cA_201, 300, .inl (fun j : Nat => zI (a2_idom (j : Int))))), (q_204, .inl (cA_204, 300, .inl (fun j : Nat => zI (a2_place (j : Int))))), (q_206, .inl (cA_206, 1500, .inr (.inl fa2_frontier))), (hc, .inr (0, [.int (zI (B1)), v_1, v_2, v_3, v_4, v_5, v_6, v_7, v_8, .ref q_709, v_10, .ref q_711, .ref q_712, v_13, v_14, v_15, v_16, v_17, v_18])), (q_709, .inl (cA_709, 300, .inl (fun j : Nat => zI (a_9 (j : Int))))), (q_711, .inl (cA_711, 300, .inl (fun j : Nat => zI (a_11 (j : Int))))), (q_712, .inl (cA_712, 300, .inl (fun j : Nat => zI (a_12 (j : Int)))))] U.heap ∧ va_K (dC, dI) vwP [(cA_201, .int), (cA_204, .int), (cA_206, .long), (cA_709, .int), (cA_711, .int), (cA_712, .int)] U ∧ va_D (fun _ => True) [(h0, .inr (2, [v2_0, .ref q_201, v2_2, v2_3, .ref q_204, v2_5, .ref q_206, v2_7, v2_8, v2_9, v2_10, v2_11, v2_12])), (q_201, .inl (cA_201, 300, .inl (fun j : Nat => zI (a2_idom (j : Int))))), (q_204, .inl (cA_204, 300, .inl (fun j : Nat => zI (a2_place (j : Int))))), (q_206, .inl (cA_206, 1500, .inr (.inl fa2_frontier))), (hc, .inr (0, [.int (zI (B1)), v_1, v_2, v_3, v_4, v_5, v_6, v_7, v_8, .ref q_709, v_10, .ref q_711, .ref q_712, v_13, v_14, v_15, v_16, v_17, v_18])), (q_709, .inl (cA_709, 300, .inl (fun j : Nat => zI (a_9 (j : Int))))), (q_711, .inl (cA_711, 300, .inl (fun j : Nat => zI (a_11 (j : Int))))), (q_712, .inl (cA_712, 300, .inl (fun j : Nat => zI (a_12 (j : Int)))))] ∧ va_Nw (.methodLinkNest RX2 102 yX11_clearBits "SsaForge") U ∧ va_Nw (.methodLinkNest RX2 110 yX11_putBit "SsaForge") U)) (va_Qv (fun _ : Unit => True) (fun (_ : Unit) (t : State) => ∃ (g0_9 : Nat → Int64), va_P (dC, dI) vwP [(h0, .inr (2, [v2_0, .ref q_201, v2_2, v2_3, .ref q_204, v2_5, .ref q_206, v2_7, v2_8, v2_9, v2_10, v2_11, v2_12])), (q_201, .inl (cA_201, 300, .inl (fun j : Nat => zI (a2_idom (j : Int))))), (q_204, .inl (cA_204, 300, .inl (fun j : Nat => zI (a2_place (j : Int))))), (q_206, .inl (cA_206, 1500, .inr (.inl g0_9))), (hc, .inr (0, [.int (zI (B1)), v_1, v_2, v_3, v_4, v_5, v_6, v_7, v_8, .ref q_709, v_10, .ref q_711, .ref q_712, v_13, v_14, v_15, v_16, v_17, v_18])), (q_709, .inl (cA_709, 300, .inl (fun j : Nat => zI (a_9 (j : Int))))), (q_711, .inl (cA_711, 300, .inl (fun j : Nat => zI (a_11 (j : Int))))), (q_712, .inl (cA_712, 300, .inl (fun j : Nat => zI (a_12 (j : Int)))))] t.heap ∧ va_K (dC, dI) vwP [(cA_201, .int), (cA_204, .int), (cA_206, .long), (cA_709, .int), (cA_711, .int), (cA_712, .int)] t ∧ va_D (va_A [(h0, .inr (2, [v2_0, .ref q_201, v2_2, v2_3, .ref q_204, v2_5, .ref q_206, v2_7, v2_8, v2_9, v2_10, v2_11, v2_12])), (q_201, .inl (cA_201, 300, .inl (fun j : Nat => zI (a2_idom (j : Int))))), (q_204, .inl (cA_204, 300, .inl (fun j : Nat => zI (a2_place (j : Int))))), (q_206, .inl (cA_206, 1500, .inr (.inl fa2_frontier))), (hc, .inr (0, [.int (zI (B1)), v_1, v_2, v_3, v_4, v_5, v_6, v_7, v_8, .ref q_709, v_10, .ref q_711, .ref q_712, v_13, v_14, v_15, v_16, v_17, v_18])), (q_709, .inl (cA_709, 300, .inl (fun j : Nat => zI (a_9 (j : Int))))), (q_711, .inl (cA_711, 300, .inl (fun j : Nat => zI (a_11 (j : Int))))), (q_712, .inl (cA_712, 300, .inl (fun j : Nat => zI (a_12 (j : Int)))))] sz) [(h0, .inr (2, [v2_0, .ref q_201, v2_2, v2_3, .ref q_204, v2_5, .ref q_206, v2_7, v2_8, v2_9, v2_10, v2_11, v2_12])), (q_201, .inl (cA_201, 300, .inl (fun j : Nat => zI (a2_idom (j : Int))))), (q_204, .inl (cA_204, 300, .inl (fun j : Nat => zI (a2_place (j : Int))))), (q_206, .inl (cA_206, 1500, .inr (.inl g0_9))), (hc, .inr (0, [.int (zI (B1)), v_1, v_2, v_3, v_4, v_5, v_6, v_7, v_8, .ref q_709, v_10, .ref q_711, .ref q_712, v_13, v_14, v_15, v_16, v_17, v_18])), (q_709, .inl (cA_709, 300, .inl (fun j : Nat => zI (a_9 (j : Int))))), (q_711, .inl (cA_711, 300, .inl (fun j : Nat => zI (a_11 (j : Int))))), (q_712, .inl (cA_712, 300, .inl (fun j : Nat => zI (a_12 (j : Int)))))]) (va_A [(h0, .inr (2, [v2_0, .ref q_201, v2_2, v2_3, .ref q_204, v2_5, .ref q_206, v2_7, v2_8, v2_9, v2_10, v2_11, v2_12])), (q_201, .inl (cA_201, 300, .inl (fun j : Nat => zI (a2_idom (j : Int))))), (q_204, .inl (cA_204, 300, .inl (fun j : Nat => zI (a2_place (j : Int))))), (q_206, .inl (cA_206, 1500, .inr (.inl fa2_frontier))), (hc, .inr (0, [.int (zI (B1)), v_1, v_2, v_3, v_4, v_5, v_6, v_7, v_8, .ref q_709, v_10, .ref q_711, .ref q_712, v_13, v_14, v_15, v_16, v_17, v_18])), (q_709, .inl (cA_709, 300, .inl (fun j : Nat => zI (a_9 (j : Int))))), (q_711, .inl (cA_711, 300, .inl (fun j : Nat => zI (a_11 (j : Int))))), (q_712, .inl (cA_712, 300, .inl (fun j : Nat => zI (a_12 (j : Int)))))] sz)) 0 0 (va_A [(h0, .inr (2, [v2_0, .ref q_201, v2_2, v2_3, .ref q_204, v2_5, .ref q_206, v2_7, v2_8, v2_9, v2_10, v2_11, v2_12])), (q_201, .inl (cA_201, 300, .inl (fun j : Nat => zI (a2_idom (j : Int))))), (q_204, .inl (cA_204, 300, .inl (fun j : Nat => zI (a2_place (j : Int))))), (q_206, .inl (cA_206, 1500, .inr (.inl fa2_frontier))), (hc, .inr (0, [.int (zI (B1)), v_1, v_2, v_3, v_4, v_5, v_6, v_7, v_8, .ref q_709, v_10, .ref q_711, .ref q_712, v_13, v_14, v_15, v_16, v_17, v_18])), (q_709, .inl (cA_709, 300, .inl (fun j : Nat => zI (a_9 (j : Int))))), (q_711, .inl (cA_711, 300, .inl (fun j : Nat => zI (a_11 (j : Int))))), (q_712, .inl (cA_712, 300, .inl (fun j : Nat => zI (a_12 (j : Int)))))] sz) := by
  refine Met.ofW (cc := cX2_findFrontiers) (maxL := 7) (ret := none) (by decide) rfl ?_
  intro p e s m args below meth c s₁ B hml hv
  obtain ⟨rfl, hsz, hP, hK, hD0, hp0, hp1⟩ := hv
  have hx := B.exec
  have hb := B.bytes
  have hr := B.returns
  have hts := atoms_spec (ws := v_X2_findFrontiers) B.pre
  have hown : s.vm.findClass RX2 = some m.cls := findClass_of_methodNamed B.named
  have hlocks := B.notSynchronized
  have ow : ∀ {k : Nat} {w : Cond}, o_X2_findFrontiers[k]? = some w → w.before ([.ref h0, .ref hc] : List Value).toArray s = true := fun h => hts _ (mow_X2_findFrontiers _ (List.mem_of_getElem? h))
  subst hsz
  have hD := hD0.self (sz := s.heap.size)
  generalize hAe : va_A [(h0, .inr (2, [v2_0, .ref q_201, v2_2, v2_3, .ref q_204, v2_5, .ref q_206, v2_7, v2_8, v2_9, v2_10, v2_11, v2_12])), (q_201, .inl (cA_201, 300, .inl (fun j : Nat => zI (a2_idom (j : Int))))), (q_204, .inl (cA_204, 300, .inl (fun j : Nat => zI (a2_place (j : Int))))), (q_206, .inl (cA_206, 1500, .inr (.inl fa2_frontier))), (hc, .inr (0, [.int (zI (B1)), v_1, v_2, v_3, v_4, v_5, v_6, v_7, v_8, .ref q_709, v_10, .ref q_711, .ref q_712, v_13, v_14, v_15, v_16, v_17, v_18])), (q_709, .inl (cA_709, 300, .inl (fun j : Nat => zI (a_9 (j : Int))))), (q_711, .inl (cA_711, 300, .inl (fun j : Nat => zI (a_11 (j : Int))))), (q_712, .inl (cA_712, 300, .inl (fun j : Nat => zI (a_12 (j : Int)))))] s.heap.size = A at hD ⊢
  have hA : ∀ q : Nat, s.heap.size ≤ q → A q := fun q h => by rw [← hAe]; exact Or.inr h
  have hS : va_S A s.heap s.heap [] := va_S.rf
  have hP : va_P (dC, dI) vwP [(h0, .inr (2, [v2_0, .ref q_201, v2_2, v2_3, .ref q_204, v2_5, .ref q_206, v2_7, v2_8, v2_9, v2_10, v2_11, v2_12])), (q_201, .inl (cA_201, 300, .inl (fun j : Nat => zI (a2_idom (j : Int))))), (q_204, .inl (cA_204, 300, .inl (fun j : Nat => zI (a2_place (j : Int))))), (q_206, .inl (cA_206, 1500, .inr (.inl fa2_frontier))), (hc, .inr (0, [.int (zI (B1)), v_1, v_2, v_3, v_4, v_5, v_6, v_7, v_8, .ref q_709, v_10, .ref q_711, .ref q_712, v_13, v_14, v_15, v_16, v_17, v_18])), (q_709, .inl (cA_709, 300, .inl (fun j : Nat => zI (a_9 (j : Int))))), (q_711, .inl (cA_711, 300, .inl (fun j : Nat => zI (a_11 (j : Int))))), (q_712, .inl (cA_712, 300, .inl (fun j : Nat => zI (a_12 (j : Int)))))] s.heap := hP
  have hl := lv_entry ([.ref h0, .ref hc]) (n := 7) (Nat.le_of_ble_eq_true rfl)
  rw [lg_entry_eq]
  generalize (lg_sl ([.ref h0, .ref hc]) ++ List.replicate (7 - (lg_sl ([.ref h0, .ref hc])).length) Slot.unset).toArray = ls at hl ⊢
  have hl : lv_has ls 7 [(0, .ref h0), (1, .ref hc)] := hl
  obtain ⟨H, hH⟩ : ∃ H, H = s.heap := ⟨_, rfl⟩
  rw [← hH] at hP
  have hS : va_S A s.heap H [] := by rw [hH]; exact hS
  rw [← hH]
  refine zW_cap (fun Q hQ => ?_)
  refine lv_aload_n hx hb dX2_findFrontiers_0 rfl (lv_at hl 0 rfl) ?_
  refine va_get (D := (dC, dI)) (ci := 2) (v := .ref q_206) (C := RX2) (T := TX2) (N := 13) hx hb hts mem_X2_findFrontiers_0 hown hK hP 0 rfl rfl 6 (by decide) (ow (k := 0) rfl) (fun _ h9 => h9) rfl dX2_findFrontiers_1 ?_
  refine lv_aload_n hx hb dX2_findFrontiers_4 rfl (lv_at hl 1 rfl) ?_
  refine va_get (D := (dC, dI)) (ci := 0) (v := .int (zI (B1))) (C := RX0) (T := TX0) (N := 19) hx hb hts mem_X2_findFrontiers_1 hown hK hP 4 rfl rfl 0 (by decide) (ow (k := 1) rfl) (fun _ h9 => h9) rfl dX2_findFrontiers_5 ?_
  refine lv_iconst (v := 5) hx hb dX2_findFrontiers_8 (by decide) ?_
  refine lv_imul hx hb dX2_findFrontiers_9 ?_
  refine lv_topi (fun z ez => ?_)
  obtain rfl : z = zI (B1 * 5) := ez.trans (zI_mul (B1) (5))
  have hPc := hP.sub (ws' := [(q_206, .inl (cA_206, 1500, .inr (.inl fa2_frontier)))]) [3] rfl
  have hDc := hD.sub (ws' := [(q_206, .inl (cA_206, 1500, .inr (.inl fa2_frontier)))]) [3] (by decide) rfl
  have hKc := hK.sub (tys' := [(cA_206, .long)]) [2] rfl
  have hFc := va_free (wc := [(q_206, .inl (cA_206, 1500, .inr (.inl fa2_frontier)))]) hD hS hA [3] rfl
  refine va_callv (va_runSN (As := [.ref q_206, .int (zI (B1 * 5))]) (rest := []) ⟨hx, hb, hml, hown, hts⟩ (c_X11_clearBits l dC dI q_206 cA_206 1500 fa2_frontier (B1 * 5) (by omega) H.size) ⟨va_cnB 2 hts (goodIn_sub mem_X2_findFrontiers_2 gw_X11_clearBits) rfl rfl rfl hp0 (ow (k := 2) rfl) (by decide +kernel) ⟨(Nat.le_of_ble_eq_true rfl), (Nat.le_of_ble_eq_true rfl)⟩, (ow (k := 3) rfl), trivial⟩ ⟨fun a U g mk q => by obtain ⟨q0, q1, qP, qK, qD⟩ := q; exact ⟨q0, q1, qP, va_K.moved (u := U) (U := U.calling g mk a) (Vm.Alike.refl U.vm) qK, qD⟩, fun U hU hW => ⟨rfl, by rw [hU], by rw [hU]; exact hPc, va_K.moved hW.alike hKc, hDc.weaken (fun _ _ _ _ => trivial)⟩⟩ rfl rfl hl.1 rfl (lv_room (Nat.le_of_ble_eq_true rfl)) dX2_findFrontiers_10 ⟨(Nat.le_of_ble_eq_true rfl), (Nat.le_of_ble_eq_true rfl)⟩) hS (fun q _ h => hFc q h) hFc (fun  u t H1 locs ht hvm hw hB hz1 hk1 hS => ?_)
  obtain ⟨g0_2001, hP1, hK1, hD1⟩ := hB
  rw [ht] at hP1
  have hK1 := va_K.moved hvm.symm hK1
  obtain ⟨hP, hD⟩ := va_join (wr := [(h0, .inr (2, [v2_0, .ref q_201, v2_2, v2_3, .ref q_204, v2_5, .ref q_206, v2_7, v2_8, v2_9, v2_10, v2_11, v2_12])), (q_201, .inl (cA_201, 300, .inl (fun j : Nat => zI (a2_idom (j : Int))))), (q_204, .inl (cA_204, 300, .inl (fun j : Nat => zI (a2_place (j : Int))))), (hc, .inr (0, [.int (zI (B1)), v_1, v_2, v_3, v_4, v_5, v_6, v_7, v_8, .ref q_709, v_10, .ref q_711, .ref q_712, v_13, v_14, v_15, v_16, v_17, v_18])), (q_709, .inl (cA_709, 300, .inl (fun j : Nat => zI (a_9 (j : Int))))), (q_711, .inl (cA_711, 300, .inl (fun j : Nat => zI (a_11 (j : Int))))), (q_712, .inl (cA_712, 300, .inl (fun j : Nat => zI (a_12 (j : Int)))))]) (w1 := [(q_206, .inl (cA_206, 1500, .inr (.inl g0_2001)))]) hP hD [3] [0, 1, 2, 4, 5, 6, 7] rfl rfl (by decide) (by decide) hk1 hFc hP1 hD1
  have hK := (hK.sub (tys' := [(cA_201, .int), (cA_204, .int), (cA_709, .int), (cA_711, .int), (cA_712, .int)]) [0, 1, 3, 4, 5] rfl).app hK1
  generalize H1 = H at hP hS ⊢
  have hP : va_P (dC, dI) vwP [(h0, .inr (2, [v2_0, .ref q_201, v2_2, v2_3, .ref q_204, v2_5, .ref q_206, v2_7, v2_8, v2_9, v2_10, v2_11, v2_12])), (q_201, .inl (cA_201, 300, .inl (fun j : Nat => zI (a2_idom (j : Int))))), (q_204, .inl (cA_204, 300, .inl (fun j : Nat => zI (a2_place (j : Int))))), (hc, .inr (0, [.int (zI (B1)), v_1, v_2, v_3, v_4, v_5, v_6, v_7, v_8, .ref q_709, v_10, .ref q_711, .ref q_712, v_13, v_14, v_15, v_16, v_17, v_18])), (q_709, .inl (cA_709, 300, .inl (fun j : Nat => zI (a_9 (j : Int))))), (q_711, .inl (cA_711, 300, .inl (fun j : Nat => zI (a_11 (j : Int))))), (q_712, .inl (cA_712, 300, .inl (fun j : Nat => zI (a_12 (j : Int))))), (q_206, .inl (cA_206, 1500, .inr (.inl g0_2001)))] H := hP
  have hD : va_D A [(h0, .inr (2, [v2_0, .ref q_201, v2_2, v2_3, .ref q_204, v2_5, .ref q_206, v2_7, v2_8, v2_9, v2_10, v2_11, v2_12])), (q_201, .inl (cA_201, 300, .inl (fun j : Nat => zI (a2_idom (j : Int))))), (q_204, .inl (cA_204, 300, .inl (fun j : Nat => zI (a2_place (j : Int))))), (hc, .inr (0, [.int (zI (B1)), v_1, v_2, v_3, v_4, v_5, v_6, v_7, v_8, .ref q_709, v_10, .ref q_711, .ref q_712, v_13, v_14, v_15, v_16, v_17, v_18])), (q_709, .inl (cA_709, 300, .inl (fun j : Nat => zI (a_9 (j : Int))))), (q_711, .inl (cA_711, 300, .inl (fun j : Nat => zI (a_11 (j : Int))))), (q_712, .inl (cA_712, 300, .inl (fun j : Nat => zI (a_12 (j : Int))))), (q_206, .inl (cA_206, 1500, .inr (.inl g0_2001)))] := hD
  have hK : va_K (dC, dI) vwP [(cA_201, .int), (cA_204, .int), (cA_709, .int), (cA_711, .int), (cA_712, .int), (cA_206, .long)] s := hK
  refine W.widen (k := 0) (n := 0) (Nat.le_of_ble_eq_true rfl) (Nat.le_of_ble_eq_true rfl) ?_
  refine lv_iconst (v := 0) hx hb dX2_findFrontiers_13 (by decide) ?_
  refine lv_istore_n (lv' := [(2, .int 0), (0, .ref h0), (1, .ref hc)]) hx hb dX2_findFrontiers_14 rfl hl (by decide) rfl (fun ls hl => ?_)
  have key15 : ∀ n15 : Nat, ∀ (d15_2 : Int) (w15_206 : Nat → Int64) (ls : Array Slot) (H : Heap) (locs : List Loc), (0 ≤ d15_2 ∧ d15_2 ≤ 1000000000) → (((B1) - (d15_2) : Int).toNat) < n15 → lv_has ls 7 [(0, .ref h0), (1, .ref hc), (2, .int (zI (d15_2)))] → va_P (dC, dI) vwP [(h0, .inr (2, [v2_0, .ref q_201, v2_2, v2_3, .ref q_204, v2_5, .ref q_206, v2_7, v2_8, v2_9, v2_10, v2_11, v2_12])), (q_201, .inl (cA_201, 300, .inl (fun j : Nat => zI (a2_idom (j : Int))))), (q_204, .inl (cA_204, 300, .inl (fun j : Nat => zI (a2_place (j : Int))))), (hc, .inr (0, [.int (zI (B1)), v_1, v_2, v_3, v_4, v_5, v_6, v_7, v_8, .ref q_709, v_10, .ref q_711, .ref q_712, v_13, v_14, v_15, v_16, v_17, v_18])), (q_709, .inl (cA_709, 300, .inl (fun j : Nat => zI (a_9 (j : Int))))), (q_711, .inl (cA_711, 300, .inl (fun j : Nat => zI (a_11 (j : Int))))), (q_712, .inl (cA_712, 300, .inl (fun j : Nat => zI (a_12 (j : Int))))), (q_206, .inl (cA_206, 1500, .inr (.inl w15_206)))] H → va_D A [(h0, .inr (2, [v2_0, .ref q_201, v2_2, v2_3, .ref q_204, v2_5, .ref q_206, v2_7, v2_8, v2_9, v2_10, v2_11, v2_12])), (q_201, .inl (cA_201, 300, .inl (fun j : Nat => zI (a2_idom (j : Int))))), (q_204, .inl (cA_204, 300, .inl (fun j : Nat => zI (a2_place (j : Int))))), (hc, .inr (0, [.int (zI (B1)), v_1, v_2, v_3, v_4, v_5, v_6, v_7, v_8, .ref q_709, v_10, .ref q_711, .ref q_712, v_13, v_14, v_15, v_16, v_17, v_18])), (q_709, .inl (cA_709, 300, .inl (fun j : Nat => zI (a_9 (j : Int))))), (q_711, .inl (cA_711, 300, .inl (fun j : Nat => zI (a_11 (j : Int))))), (q_712, .inl (cA_712, 300, .inl (fun j : Nat => zI (a_12 (j : Int))))), (q_206, .inl (cA_206, 1500, .inr (.inl w15_206)))] → va_S A s.heap H locs → W p l e (headSpec v_X2_findFrontiers ({ frames := 1, cells := 0, slots := 0, locals := 22 })).room s m ([.ref h0, .ref hc] : List Value).toArray below meth c H locs 0 0 Q (F0 m 15 ls []) := by
    intro n15
    induction n15 with
    | zero => intro d15_2 w15_206 ls H locs jd15_2 hm15; exact absurd hm15 (by omega)
    | succ n15 ih15 =>
      intro d15_2 w15_206 ls H locs jd15_2 hm15 hl hP hD hS
      refine lv_iload_n hx hb dX2_findFrontiers_15 rfl (lv_at hl 2 rfl) ?_
      refine lv_aload_n hx hb dX2_findFrontiers_16 rfl (lv_at hl 1 rfl) ?_
      refine va_get (D := (dC, dI)) (ci := 0) (v := .int (zI (B1))) (C := RX0) (T := TX0) (N := 19) hx hb hts mem_X2_findFrontiers_1 hown hK hP 3 rfl rfl 0 (by decide) (ow (k := 1) rfl) (fun _ h9 => h9) rfl dX2_findFrontiers_17 ?_
      refine lv_icmp_ge (tgt := 124) hx hb dX2_findFrontiers_20 (by decide) (fun b20 => ?_) (fun b20 => ?_)
      · have yb20 : (B1 : Int) ≤ (d15_2 : Int) := (zI_le (a := B1) (b := d15_2) (by omega) (by omega) (by omega) (by omega)).mp b20
        subst hQ
        have hP := hP.sub (ws' := [(h0, .inr (2, [v2_0, .ref q_201, v2_2, v2_3, .ref q_204, v2_5, .ref q_206, v2_7, v2_8, v2_9, v2_10, v2_11, v2_12])), (q_201, .inl (cA_201, 300, .inl (fun j : Nat => zI (a2_idom (j : Int))))), (q_204, .inl (cA_204, 300, .inl (fun j : Nat => zI (a2_place (j : Int))))), (q_206, .inl (cA_206, 1500, .inr (.inl w15_206))), (hc, .inr (0, [.int (zI (B1)), v_1, v_2, v_3, v_4, v_5, v_6, v_7, v_8, .ref q_709, v_10, .ref q_711, .ref q_712, v_13, v_14, v_15, v_16, v_17, v_18])), (q_709, .inl (cA_709, 300, .inl (fun j : Nat => zI (a_9 (j : Int))))), (q_711, .inl (cA_711, 300, .inl (fun j : Nat => zI (a_11 (j : Int))))), (q_712, .inl (cA_712, 300, .inl (fun j : Nat => zI (a_12 (j : Int)))))]) [0, 1, 2, 7, 3, 4, 5, 6] rfl
        have hD := hD.sub (ws' := [(h0, .inr (2, [v2_0, .ref q_201, v2_2, v2_3, .ref q_204, v2_5, .ref q_206, v2_7, v2_8, v2_9, v2_10, v2_11, v2_12])), (q_201, .inl (cA_201, 300, .inl (fun j : Nat => zI (a2_idom (j : Int))))), (q_204, .inl (cA_204, 300, .inl (fun j : Nat => zI (a2_place (j : Int))))), (q_206, .inl (cA_206, 1500, .inr (.inl w15_206))), (hc, .inr (0, [.int (zI (B1)), v_1, v_2, v_3, v_4, v_5, v_6, v_7, v_8, .ref q_709, v_10, .ref q_711, .ref q_712, v_13, v_14, v_15, v_16, v_17, v_18])), (q_709, .inl (cA_709, 300, .inl (fun j : Nat => zI (a_9 (j : Int))))), (q_711, .inl (cA_711, 300, .inl (fun j : Nat => zI (a_11 (j : Int))))), (q_712, .inl (cA_712, 300, .inl (fun j : Nat => zI (a_12 (j : Int)))))]) [0, 1, 2, 7, 3, 4, 5, 6] (by decide) rfl
        have hK := hK.sub (tys' := [(cA_201, .int), (cA_204, .int), (cA_206, .long), (cA_709, .int), (cA_711, .int), (cA_712, .int)]) [0, 1, 5, 2, 3, 4] rfl
        refine W.widen (k := 0) (n := 0) (Nat.le_of_ble_eq_true rfl) (Nat.le_of_ble_eq_true rfl) ?_
        exact W.vret hx hb hr (fun t ht hW => ⟨⟨(), rfl, trivial, w15_206, by rw [ht]; exact hP, va_K.moved hW.alike hK, hD⟩, hS.F ht⟩) hS.2.2 dX2_findFrontiers_124
      · have yb20 : ¬ (B1 : Int) ≤ (d15_2 : Int) := fun q => b20 ((zI_le (a := B1) (b := d15_2) (by omega) (by omega) (by omega) (by omega)).mpr q)
        refine lv_aload_n hx hb dX2_findFrontiers_23 rfl (lv_at hl 0 rfl) ?_
        refine lv_iload_n hx hb dX2_findFrontiers_24 rfl (lv_at hl 2 rfl) ?_
        have hPc := hP.sub (ws' := [(h0, .inr (2, [v2_0, .ref q_201, v2_2, v2_3, .ref q_204, v2_5, .ref q_206, v2_7, v2_8, v2_9, v2_10, v2_11, v2_12])), (q_204, .inl (cA_204, 300, .inl (fun j : Nat => zI (a2_place (j : Int)))))]) [0, 2] rfl
        have hDc := hD.sub (ws' := [(h0, .inr (2, [v2_0, .ref q_201, v2_2, v2_3, .ref q_204, v2_5, .ref q_206, v2_7, v2_8, v2_9, v2_10, v2_11, v2_12])), (q_204, .inl (cA_204, 300, .inl (fun j : Nat => zI (a2_place (j : Int)))))]) [0, 2] (by decide) rfl
        have hKc := hK.sub (tys' := [(cA_204, .int)]) [1] rfl
        have hFc := va_free (wc := [(h0, .inr (2, [v2_0, .ref q_201, v2_2, v2_3, .ref q_204, v2_5, .ref q_206, v2_7, v2_8, v2_9, v2_10, v2_11, v2_12])), (q_204, .inl (cA_204, 300, .inl (fun j : Nat => zI (a2_place (j : Int)))))]) hD hS hA [0, 2] rfl
        refine va_calli (va_runV (As := [.int (zI (d15_2))]) (rest := []) ⟨hx, hb, hml, hown, hts⟩ (c_X2_isReached l dC dI h0 v2_0 (.ref q_201) v2_2 v2_3 q_204 cA_204 a2_place v2_5 (.ref q_206) v2_7 v2_8 v2_9 v2_10 v2_11 v2_12 d15_2 hR_a2_place (by omega) H.size) (cwV 1 hts g_X2_findFrontiers_X2_isReached rfl rfl rfl (by decide +kernel) ⟨(Nat.le_of_ble_eq_true rfl), (Nat.le_of_ble_eq_true rfl)⟩) ⟨fun a U g mk q => by obtain ⟨q0, q1, qP, qK, qD⟩ := q; exact ⟨q0, q1, qP, va_K.moved (u := U) (U := U.calling g mk a) (Vm.Alike.refl U.vm) qK, qD⟩, va_recv hKc hPc (ci := 2) (q0 := 0) rfl rfl, fun U hU hW => ⟨rfl, by rw [hU], by rw [hU]; exact hPc, va_K.moved hW.alike hKc, hDc.weaken (fun _ _ _ _ => trivial)⟩⟩ rfl rfl hl.1 rfl (lv_room (Nat.le_of_ble_eq_true rfl)) dX2_findFrontiers_25 ⟨(Nat.le_of_ble_eq_true rfl), (Nat.le_of_ble_eq_true rfl)⟩) hS (fun q _ h => hFc q h) hFc (fun r_2002 u t H1 locs ht hvm hw hB hz1 hk1 hS => ?_)
        obtain ⟨hP1, hK1, hD1⟩ := hB
        rw [ht] at hP1
        have hK1 := va_K.moved hvm.symm hK1
        obtain ⟨hP, hD⟩ := va_join (wr := [(q_201, .inl (cA_201, 300, .inl (fun j : Nat => zI (a2_idom (j : Int))))), (hc, .inr (0, [.int (zI (B1)), v_1, v_2, v_3, v_4, v_5, v_6, v_7, v_8, .ref q_709, v_10, .ref q_711, .ref q_712, v_13, v_14, v_15, v_16, v_17, v_18])), (q_709, .inl (cA_709, 300, .inl (fun j : Nat => zI (a_9 (j : Int))))), (q_711, .inl (cA_711, 300, .inl (fun j : Nat => zI (a_11 (j : Int))))), (q_712, .inl (cA_712, 300, .inl (fun j : Nat => zI (a_12 (j : Int))))), (q_206, .inl (cA_206, 1500, .inr (.inl w15_206)))]) (w1 := [(h0, .inr (2, [v2_0, .ref q_201, v2_2, v2_3, .ref q_204, v2_5, .ref q_206, v2_7, v2_8, v2_9, v2_10, v2_11, v2_12])), (q_204, .inl (cA_204, 300, .inl (fun j : Nat => zI (a2_place (j : Int)))))]) hP hD [0, 2] [1, 3, 4, 5, 6, 7] rfl rfl (by decide) (by decide) hk1 hFc hP1 hD1
        have hK := (hK.sub (tys' := [(cA_201, .int), (cA_709, .int), (cA_711, .int), (cA_712, .int), (cA_206, .long)]) [0, 2, 3, 4, 5] rfl).app hK1
        generalize H1 = H at hP hS ⊢
        have hP : va_P (dC, dI) vwP [(q_201, .inl (cA_201, 300, .inl (fun j : Nat => zI (a2_idom (j : Int))))), (hc, .inr (0, [.int (zI (B1)), v_1, v_2, v_3, v_4, v_5, v_6, v_7, v_8, .ref q_709, v_10, .ref q_711, .ref q_712, v_13, v_14, v_15, v_16, v_17, v_18])), (q_709, .inl (cA_709, 300, .inl (fun j : Nat => zI (a_9 (j : Int))))), (q_711, .inl (cA_711, 300, .inl (fun j : Nat => zI (a_11 (j : Int))))), (q_712, .inl (cA_712, 300, .inl (fun j : Nat => zI (a_12 (j : Int))))), (q_206, .inl (cA_206, 1500, .inr (.inl w15_206))), (h0, .inr (2, [v2_0, .ref q_201, v2_2, v2_3, .ref q_204, v2_5, .ref q_206, v2_7, v2_8, v2_9, v2_10, v2_11, v2_12])), (q_204, .inl (cA_204, 300, .inl (fun j : Nat => zI (a2_place (j : Int)))))] H := hP
        have hD : va_D A [(q_201, .inl (cA_201, 300, .inl (fun j : Nat => zI (a2_idom (j : Int))))), (hc, .inr (0, [.int (zI (B1)), v_1, v_2, v_3, v_4, v_5, v_6, v_7, v_8, .ref q_709, v_10, .ref q_711, .ref q_712, v_13, v_14, v_15, v_16, v_17, v_18])), (q_709, .inl (cA_709, 300, .inl (fun j : Nat => zI (a_9 (j : Int))))), (q_711, .inl (cA_711, 300, .inl (fun j : Nat => zI (a_11 (j : Int))))), (q_712, .inl (cA_712, 300, .inl (fun j : Nat => zI (a_12 (j : Int))))), (q_206, .inl (cA_206, 1500, .inr (.inl w15_206))), (h0, .inr (2, [v2_0, .ref q_201, v2_2, v2_3, .ref q_204, v2_5, .ref q_206, v2_7, v2_8, v2_9, v2_10, v2_11, v2_12])), (q_204, .inl (cA_204, 300, .inl (fun j : Nat => zI (a2_place (j : Int)))))] := hD
        have hK : va_K (dC, dI) vwP [(cA_201, .int), (cA_709, .int), (cA_711, .int), (cA_712, .int), (cA_206, .long), (cA_204, .int)] s := hK
        refine W.widen (k := 0) (n := 0) (Nat.le_of_ble_eq_true rfl) (Nat.le_of_ble_eq_true rfl) ?_
        obtain rfl : r_2002 = (zI (isRe a2_place (d15_2))) := hw
        have := isRe_spec a2_place (d15_2)
        refine lv_if_ne (tgt := 34) hx hb dX2_findFrontiers_28 (by decide) (fun b28 => ?_) (fun b28 => ?_)
        · have yb28 : ¬ (isRe a2_place (d15_2) : Int) = (0 : Int) := fun q => b28 ((zI_eq (a := isRe a2_place (d15_2)) (b := 0) (by omega) (by omega) (by omega) (by omega)).mpr q)
          refine lv_iconst (v := 0) hx hb dX2_findFrontiers_34 (by decide) ?_
          refine lv_istore_n (lv' := [(3, .int 0), (0, .ref h0), (1, .ref hc), (2, .int (zI (d15_2)))]) hx hb dX2_findFrontiers_35 rfl hl (by decide) rfl (fun ls hl => ?_)
          have key36 : ∀ n36 : Nat, ∀ (d36_3 : Int) (w36_206 : Nat → Int64) (ls : Array Slot) (H : Heap) (locs : List Loc), (0 ≤ d36_3 ∧ d36_3 ≤ 1000000000) → (((gcF a_9 a_11 a_12 (d15_2)) - (d36_3) : Int).toNat) < n36 → lv_has ls 7 [(0, .ref h0), (1, .ref hc), (2, .int (zI (d15_2))), (3, .int (zI (d36_3)))] → va_P (dC, dI) vwP [(q_201, .inl (cA_201, 300, .inl (fun j : Nat => zI (a2_idom (j : Int))))), (hc, .inr (0, [.int (zI (B1)), v_1, v_2, v_3, v_4, v_5, v_6, v_7, v_8, .ref q_709, v_10, .ref q_711, .ref q_712, v_13, v_14, v_15, v_16, v_17, v_18])), (q_709, .inl (cA_709, 300, .inl (fun j : Nat => zI (a_9 (j : Int))))), (q_711, .inl (cA_711, 300, .inl (fun j : Nat => zI (a_11 (j : Int))))), (q_712, .inl (cA_712, 300, .inl (fun j : Nat => zI (a_12 (j : Int))))), (q_206, .inl (cA_206, 1500, .inr (.inl w36_206))), (h0, .inr (2, [v2_0, .ref q_201, v2_2, v2_3, .ref q_204, v2_5, .ref q_206, v2_7, v2_8, v2_9, v2_10, v2_11, v2_12])), (q_204, .inl (cA_204, 300, .inl (fun j : Nat => zI (a2_place (j : Int)))))] H → va_D A [(q_201, .inl (cA_201, 300, .inl (fun j : Nat => zI (a2_idom (j : Int))))), (hc, .inr (0, [.int (zI (B1)), v_1, v_2, v_3, v_4, v_5, v_6, v_7, v_8, .ref q_709, v_10, .ref q_711, .ref q_712, v_13, v_14, v_15, v_16, v_17, v_18])), (q_709, .inl (cA_709, 300, .inl (fun j : Nat => zI (a_9 (j : Int))))), (q_711, .inl (cA_711, 300, .inl (fun j : Nat => zI (a_11 (j : Int))))), (q_712, .inl (cA_712, 300, .inl (fun j : Nat => zI (a_12 (j : Int))))), (q_206, .inl (cA_206, 1500, .inr (.inl w36_206))), (h0, .inr (2, [v2_0, .ref q_201, v2_2, v2_3, .ref q_204, v2_5, .ref q_206, v2_7, v2_8, v2_9, v2_10, v2_11, v2_12])), (q_204, .inl (cA_204, 300, .inl (fun j : Nat => zI (a2_place (j : Int)))))] → va_S A s.heap H locs → W p l e (headSpec v_X2_findFrontiers ({ frames := 1, cells := 0, slots := 0, locals := 22 })).room s m ([.ref h0, .ref hc] : List Value).toArray below meth c H locs 0 0 Q (F0 m 36 ls []) := by
            intro n36
            induction n36 with
            | zero => intro d36_3 w36_206 ls H locs jd36_3 hm36; exact absurd hm36 (by omega)
            | succ n36 ih36 =>
              intro d36_3 w36_206 ls H locs jd36_3 hm36 hl hP hD hS
              refine lv_iload_n hx hb dX2_findFrontiers_36 rfl (lv_at hl 3 rfl) ?_
              refine lv_aload_n hx hb dX2_findFrontiers_37 rfl (lv_at hl 1 rfl) ?_
              refine lv_iload_n hx hb dX2_findFrontiers_38 rfl (lv_at hl 2 rfl) ?_
              have hPc := hP.sub (ws' := [(hc, .inr (0, [.int (zI (B1)), v_1, v_2, v_3, v_4, v_5, v_6, v_7, v_8, .ref q_709, v_10, .ref q_711, .ref q_712, v_13, v_14, v_15, v_16, v_17, v_18])), (q_709, .inl (cA_709, 300, .inl (fun j : Nat => zI (a_9 (j : Int))))), (q_711, .inl (cA_711, 300, .inl (fun j : Nat => zI (a_11 (j : Int))))), (q_712, .inl (cA_712, 300, .inl (fun j : Nat => zI (a_12 (j : Int)))))]) [1, 2, 3, 4] rfl
              have hDc := hD.sub (ws' := [(hc, .inr (0, [.int (zI (B1)), v_1, v_2, v_3, v_4, v_5, v_6, v_7, v_8, .ref q_709, v_10, .ref q_711, .ref q_712, v_13, v_14, v_15, v_16, v_17, v_18])), (q_709, .inl (cA_709, 300, .inl (fun j : Nat => zI (a_9 (j : Int))))), (q_711, .inl (cA_711, 300, .inl (fun j : Nat => zI (a_11 (j : Int))))), (q_712, .inl (cA_712, 300, .inl (fun j : Nat => zI (a_12 (j : Int)))))]) [1, 2, 3, 4] (by decide) rfl
              have hKc := hK.sub (tys' := [(cA_709, .int), (cA_711, .int), (cA_712, .int)]) [1, 2, 3] rfl
              have hFc := va_free (wc := [(hc, .inr (0, [.int (zI (B1)), v_1, v_2, v_3, v_4, v_5, v_6, v_7, v_8, .ref q_709, v_10, .ref q_711, .ref q_712, v_13, v_14, v_15, v_16, v_17, v_18])), (q_709, .inl (cA_709, 300, .inl (fun j : Nat => zI (a_9 (j : Int))))), (q_711, .inl (cA_711, 300, .inl (fun j : Nat => zI (a_11 (j : Int))))), (q_712, .inl (cA_712, 300, .inl (fun j : Nat => zI (a_12 (j : Int)))))]) hD hS hA [1, 2, 3, 4] rfl
              refine va_calli (va_runV (As := [.int (zI (d15_2))]) (rest := [.int (zI (d36_3))]) ⟨hx, hb, hml, hown, hts⟩ (c_X0_goalCount l dC dI hc (.int (zI (B1))) v_1 v_2 v_3 v_4 v_5 v_6 v_7 v_8 q_709 cA_709 a_9 v_10 q_711 cA_711 a_11 q_712 cA_712 a_12 v_13 v_14 v_15 v_16 v_17 v_18 d15_2 hR_a_9 hR_a_11 hR_a_12 (by omega) H.size) (cwV 1 hts g_X2_findFrontiers_X0_goalCount rfl rfl rfl (by decide +kernel) ⟨(Nat.le_of_ble_eq_true rfl), (Nat.le_of_ble_eq_true rfl)⟩) ⟨fun a U g mk q => by obtain ⟨q0, q1, qP, qK, qD⟩ := q; exact ⟨q0, q1, qP, va_K.moved (u := U) (U := U.calling g mk a) (Vm.Alike.refl U.vm) qK, qD⟩, va_recv hKc hPc (ci := 0) (q0 := 0) rfl rfl, fun U hU hW => ⟨rfl, by rw [hU], by rw [hU]; exact hPc, va_K.moved hW.alike hKc, hDc.weaken (fun _ _ _ _ => trivial)⟩⟩ rfl rfl hl.1 rfl (lv_room (Nat.le_of_ble_eq_true rfl)) dX2_findFrontiers_39 ⟨(Nat.le_of_ble_eq_true rfl), (Nat.le_of_ble_eq_true rfl)⟩) hS (fun q _ h => hFc q h) hFc (fun r_2003 u t H1 locs ht hvm hw hB hz1 hk1 hS => ?_)
              obtain ⟨hP1, hK1, hD1⟩ := hB
              rw [ht] at hP1
              have hK1 := va_K.moved hvm.symm hK1
              obtain ⟨hP, hD⟩ := va_join (wr := [(q_201, .inl (cA_201, 300, .inl (fun j : Nat => zI (a2_idom (j : Int))))), (q_206, .inl (cA_206, 1500, .inr (.inl w36_206))), (h0, .inr (2, [v2_0, .ref q_201, v2_2, v2_3, .ref q_204, v2_5, .ref q_206, v2_7, v2_8, v2_9, v2_10, v2_11, v2_12])), (q_204, .inl (cA_204, 300, .inl (fun j : Nat => zI (a2_place (j : Int)))))]) (w1 := [(hc, .inr (0, [.int (zI (B1)), v_1, v_2, v_3, v_4, v_5, v_6, v_7, v_8, .ref q_709, v_10, .ref q_711, .ref q_712, v_13, v_14, v_15, v_16, v_17, v_18])), (q_709, .inl (cA_709, 300, .inl (fun j : Nat => zI (a_9 (j : Int))))), (q_711, .inl (cA_711, 300, .inl (fun j : Nat => zI (a_11 (j : Int))))), (q_712, .inl (cA_712, 300, .inl (fun j : Nat => zI (a_12 (j : Int)))))]) hP hD [1, 2, 3, 4] [0, 5, 6, 7] rfl rfl (by decide) (by decide) hk1 hFc hP1 hD1
              have hK := (hK.sub (tys' := [(cA_201, .int), (cA_206, .long), (cA_204, .int)]) [0, 4, 5] rfl).app hK1
              generalize H1 = H at hP hS ⊢
              have hP : va_P (dC, dI) vwP [(q_201, .inl (cA_201, 300, .inl (fun j : Nat => zI (a2_idom (j : Int))))), (q_206, .inl (cA_206, 1500, .inr (.inl w36_206))), (h0, .inr (2, [v2_0, .ref q_201, v2_2, v2_3, .ref q_204, v2_5, .ref q_206, v2_7, v2_8, v2_9, v2_10, v2_11, v2_12])), (q_204, .inl (cA_204, 300, .inl (fun j : Nat => zI (a2_place (j : Int))))), (hc, .inr (0, [.int (zI (B1)), v_1, v_2, v_3, v_4, v_5, v_6, v_7, v_8, .ref q_709, v_10, .ref q_711, .ref q_712, v_13, v_14, v_15, v_16, v_17, v_18])), (q_709, .inl (cA_709, 300, .inl (fun j : Nat => zI (a_9 (j : Int))))), (q_711, .inl (cA_711, 300, .inl (fun j : Nat => zI (a_11 (j : Int))))), (q_712, .inl (cA_712, 300, .inl (fun j : Nat => zI (a_12 (j : Int)))))] H := hP
              have hD : va_D A [(q_201, .inl (cA_201, 300, .inl (fun j : Nat => zI (a2_idom (j : Int))))), (q_206, .inl (cA_206, 1500, .inr (.inl w36_206))), (h0, .inr (2, [v2_0, .ref q_201, v2_2, v2_3, .ref q_204, v2_5, .ref q_206, v2_7, v2_8, v2_9, v2_10, v2_11, v2_12])), (q_204, .inl (cA_204, 300, .inl (fun j : Nat => zI (a2_place (j : Int))))), (hc, .inr (0, [.int (zI (B1)), v_1, v_2, v_3, v_4, v_5, v_6, v_7, v_8, .ref q_709, v_10, .ref q_711, .ref q_712, v_13, v_14, v_15, v_16, v_17, v_18])), (q_709, .inl (cA_709, 300, .inl (fun j : Nat => zI (a_9 (j : Int))))), (q_711, .inl (cA_711, 300, .inl (fun j : Nat => zI (a_11 (j : Int))))), (q_712, .inl (cA_712, 300, .inl (fun j : Nat => zI (a_12 (j : Int)))))] := hD
              have hK : va_K (dC, dI) vwP [(cA_201, .int), (cA_206, .long), (cA_204, .int), (cA_709, .int), (cA_711, .int), (cA_712, .int)] s := hK
              refine W.widen (k := 0) (n := 0) (Nat.le_of_ble_eq_true rfl) (Nat.le_of_ble_eq_true rfl) ?_
              obtain rfl : r_2003 = (zI (gcF a_9 a_11 a_12 (d15_2))) := hw
              have := gcF_rng a_9 a_11 a_12 (d15_2)
              refine lv_icmp_ge (tgt := 118) hx hb dX2_findFrontiers_42 (by decide) (fun b42 => ?_) (fun b42 => ?_)
              · have yb42 : (gcF a_9 a_11 a_12 (d15_2) : Int) ≤ (d36_3 : Int) := (zI_le (a := gcF a_9 a_11 a_12 (d15_2)) (b := d36_3) (by omega) (by omega) (by omega) (by omega)).mp b42
                refine lv_iinc (v := zI (d15_2 + 1)) (lv' := [(2, .int (zI (d15_2 + 1))), (0, .ref h0), (1, .ref hc), (3, .int (zI (d36_3)))]) hx hb dX2_findFrontiers_118 hl (k := 2) rfl (zI_add (d15_2) (1)) (by decide) rfl (fun ls hl => ?_)
                refine lv_goto (tgt := 15) hx hb dX2_findFrontiers_121 (by decide) ?_
                have hP := hP.sub (ws' := [(h0, .inr (2, [v2_0, .ref q_201, v2_2, v2_3, .ref q_204, v2_5, .ref q_206, v2_7, v2_8, v2_9, v2_10, v2_11, v2_12])), (q_201, .inl (cA_201, 300, .inl (fun j : Nat => zI (a2_idom (j : Int))))), (q_204, .inl (cA_204, 300, .inl (fun j : Nat => zI (a2_place (j : Int))))), (hc, .inr (0, [.int (zI (B1)), v_1, v_2, v_3, v_4, v_5, v_6, v_7, v_8, .ref q_709, v_10, .ref q_711, .ref q_712, v_13, v_14, v_15, v_16, v_17, v_18])), (q_709, .inl (cA_709, 300, .inl (fun j : Nat => zI (a_9 (j : Int))))), (q_711, .inl (cA_711, 300, .inl (fun j : Nat => zI (a_11 (j : Int))))), (q_712, .inl (cA_712, 300, .inl (fun j : Nat => zI (a_12 (j : Int))))), (q_206, .inl (cA_206, 1500, .inr (.inl w36_206)))]) [2, 0, 3, 4, 5, 6, 7, 1] rfl
                have hD := hD.sub (ws' := [(h0, .inr (2, [v2_0, .ref q_201, v2_2, v2_3, .ref q_204, v2_5, .ref q_206, v2_7, v2_8, v2_9, v2_10, v2_11, v2_12])), (q_201, .inl (cA_201, 300, .inl (fun j : Nat => zI (a2_idom (j : Int))))), (q_204, .inl (cA_204, 300, .inl (fun j : Nat => zI (a2_place (j : Int))))), (hc, .inr (0, [.int (zI (B1)), v_1, v_2, v_3, v_4, v_5, v_6, v_7, v_8, .ref q_709, v_10, .ref q_711, .ref q_712, v_13, v_14, v_15, v_16, v_17, v_18])), (q_709, .inl (cA_709, 300, .inl (fun j : Nat => zI (a_9 (j : Int))))), (q_711, .inl (cA_711, 300, .inl (fun j : Nat => zI (a_11 (j : Int))))), (q_712, .inl (cA_712, 300, .inl (fun j : Nat => zI (a_12 (j : Int))))), (q_206, .inl (cA_206, 1500, .inr (.inl w36_206)))]) [2, 0, 3, 4, 5, 6, 7, 1] (by decide) rfl
                exact ih15 (d15_2 + 1) w36_206 ls H _ (by omega) (by omega) (lv_sub hl [1, 2, 0] rfl) hP hD hS
              · have yb42 : ¬ (gcF a_9 a_11 a_12 (d15_2) : Int) ≤ (d36_3 : Int) := fun q => b42 ((zI_le (a := gcF a_9 a_11 a_12 (d15_2)) (b := d36_3) (by omega) (by omega) (by omega) (by omega)).mpr q)
                refine lv_aload_n hx hb dX2_findFrontiers_45 rfl (lv_at hl 1 rfl) ?_
                refine lv_iload_n hx hb dX2_findFrontiers_46 rfl (lv_at hl 2 rfl) ?_
                refine lv_iload_n hx hb dX2_findFrontiers_47 rfl (lv_at hl 3 rfl) ?_
                have hPc := hP.sub (ws' := [(hc, .inr (0, [.int (zI (B1)), v_1, v_2, v_3, v_4, v_5, v_6, v_7, v_8, .ref q_709, v_10, .ref q_711, .ref q_712, v_13, v_14, v_15, v_16, v_17, v_18])), (q_711, .inl (cA_711, 300, .inl (fun j : Nat => zI (a_11 (j : Int))))), (q_712, .inl (cA_712, 300, .inl (fun j : Nat => zI (a_12 (j : Int)))))]) [4, 6, 7] rfl
                have hDc := hD.sub (ws' := [(hc, .inr (0, [.int (zI (B1)), v_1, v_2, v_3, v_4, v_5, v_6, v_7, v_8, .ref q_709, v_10, .ref q_711, .ref q_712, v_13, v_14, v_15, v_16, v_17, v_18])), (q_711, .inl (cA_711, 300, .inl (fun j : Nat => zI (a_11 (j : Int))))), (q_712, .inl (cA_712, 300, .inl (fun j : Nat => zI (a_12 (j : Int)))))]) [4, 6, 7] (by decide) rfl
                have hKc := hK.sub (tys' := [(cA_711, .int), (cA_712, .int)]) [4, 5] rfl
                have hFc := va_free (wc := [(hc, .inr (0, [.int (zI (B1)), v_1, v_2, v_3, v_4, v_5, v_6, v_7, v_8, .ref q_709, v_10, .ref q_711, .ref q_712, v_13, v_14, v_15, v_16, v_17, v_18])), (q_711, .inl (cA_711, 300, .inl (fun j : Nat => zI (a_11 (j : Int))))), (q_712, .inl (cA_712, 300, .inl (fun j : Nat => zI (a_12 (j : Int)))))]) hD hS hA [4, 6, 7] rfl
                refine va_calli (va_runV (As := [.int (zI (d15_2)), .int (zI (d36_3))]) (rest := []) ⟨hx, hb, hml, hown, hts⟩ (c_X0_goal l dC dI hc (.int (zI (B1))) v_1 v_2 v_3 v_4 v_5 v_6 v_7 v_8 (.ref q_709) v_10 q_711 cA_711 a_11 q_712 cA_712 a_12 v_13 v_14 v_15 v_16 v_17 v_18 d15_2 d36_3 hR_a_11 hR_a_12 (by omega) (by omega) H.size) (cwV 2 hts g_X2_findFrontiers_X0_goal rfl rfl rfl (by decide +kernel) ⟨(Nat.le_of_ble_eq_true rfl), (Nat.le_of_ble_eq_true rfl)⟩) ⟨fun a U g mk q => by obtain ⟨q0, q1, qP, qK, qD⟩ := q; exact ⟨q0, q1, qP, va_K.moved (u := U) (U := U.calling g mk a) (Vm.Alike.refl U.vm) qK, qD⟩, va_recv hKc hPc (ci := 0) (q0 := 0) rfl rfl, fun U hU hW => ⟨rfl, by rw [hU], by rw [hU]; exact hPc, va_K.moved hW.alike hKc, hDc.weaken (fun _ _ _ _ => trivial)⟩⟩ rfl rfl hl.1 rfl (lv_room (Nat.le_of_ble_eq_true rfl)) dX2_findFrontiers_48 ⟨(Nat.le_of_ble_eq_true rfl), (Nat.le_of_ble_eq_true rfl)⟩) hS (fun q _ h => hFc q h) hFc (fun r_2004 u t H1 locs ht hvm hw hB hz1 hk1 hS => ?_)
                obtain ⟨hP1, hK1, hD1⟩ := hB
                rw [ht] at hP1
                have hK1 := va_K.moved hvm.symm hK1
                obtain ⟨hP, hD⟩ := va_join (wr := [(q_201, .inl (cA_201, 300, .inl (fun j : Nat => zI (a2_idom (j : Int))))), (q_206, .inl (cA_206, 1500, .inr (.inl w36_206))), (h0, .inr (2, [v2_0, .ref q_201, v2_2, v2_3, .ref q_204, v2_5, .ref q_206, v2_7, v2_8, v2_9, v2_10, v2_11, v2_12])), (q_204, .inl (cA_204, 300, .inl (fun j : Nat => zI (a2_place (j : Int))))), (q_709, .inl (cA_709, 300, .inl (fun j : Nat => zI (a_9 (j : Int)))))]) (w1 := [(hc, .inr (0, [.int (zI (B1)), v_1, v_2, v_3, v_4, v_5, v_6, v_7, v_8, .ref q_709, v_10, .ref q_711, .ref q_712, v_13, v_14, v_15, v_16, v_17, v_18])), (q_711, .inl (cA_711, 300, .inl (fun j : Nat => zI (a_11 (j : Int))))), (q_712, .inl (cA_712, 300, .inl (fun j : Nat => zI (a_12 (j : Int)))))]) hP hD [4, 6, 7] [0, 1, 2, 3, 5] rfl rfl (by decide) (by decide) hk1 hFc hP1 hD1
                have hK := (hK.sub (tys' := [(cA_201, .int), (cA_206, .long), (cA_204, .int), (cA_709, .int)]) [0, 1, 2, 3] rfl).app hK1
                generalize H1 = H at hP hS ⊢
                have hP : va_P (dC, dI) vwP [(q_201, .inl (cA_201, 300, .inl (fun j : Nat => zI (a2_idom (j : Int))))), (q_206, .inl (cA_206, 1500, .inr (.inl w36_206))), (h0, .inr (2, [v2_0, .ref q_201, v2_2, v2_3, .ref q_204, v2_5, .ref q_206, v2_7, v2_8, v2_9, v2_10, v2_11, v2_12])), (q_204, .inl (cA_204, 300, .inl (fun j : Nat => zI (a2_place (j : Int))))), (q_709, .inl (cA_709, 300, .inl (fun j : Nat => zI (a_9 (j : Int))))), (hc, .inr (0, [.int (zI (B1)), v_1, v_2, v_3, v_4, v_5, v_6, v_7, v_8, .ref q_709, v_10, .ref q_711, .ref q_712, v_13, v_14, v_15, v_16, v_17, v_18])), (q_711, .inl (cA_711, 300, .inl (fun j : Nat => zI (a_11 (j : Int))))), (q_712, .inl (cA_712, 300, .inl (fun j : Nat => zI (a_12 (j : Int)))))] H := hP
                have hD : va_D A [(q_201, .inl (cA_201, 300, .inl (fun j : Nat => zI (a2_idom (j : Int))))), (q_206, .inl (cA_206, 1500, .inr (.inl w36_206))), (h0, .inr (2, [v2_0, .ref q_201, v2_2, v2_3, .ref q_204, v2_5, .ref q_206, v2_7, v2_8, v2_9, v2_10, v2_11, v2_12])), (q_204, .inl (cA_204, 300, .inl (fun j : Nat => zI (a2_place (j : Int))))), (q_709, .inl (cA_709, 300, .inl (fun j : Nat => zI (a_9 (j : Int))))), (hc, .inr (0, [.int (zI (B1)), v_1, v_2, v_3, v_4, v_5, v_6, v_7, v_8, .ref q_709, v_10, .ref q_711, .ref q_712, v_13, v_14, v_15, v_16, v_17, v_18])), (q_711, .inl (cA_711, 300, .inl (fun j : Nat => zI (a_11 (j : Int))))), (q_712, .inl (cA_712, 300, .inl (fun j : Nat => zI (a_12 (j : Int)))))] := hD
                have hK : va_K (dC, dI) vwP [(cA_201, .int), (cA_206, .long), (cA_204, .int), (cA_709, .int), (cA_711, .int), (cA_712, .int)] s := hK
                refine W.widen (k := 0) (n := 0) (Nat.le_of_ble_eq_true rfl) (Nat.le_of_ble_eq_true rfl) ?_
                obtain rfl : r_2004 = (zI (glF a_11 a_12 (d15_2) (d36_3))) := hw
                have := gl_lt hX_G (b := d15_2) (i := d36_3) (by omega) (by omega) (by omega) (by omega)
                refine lv_istore (lv' := [(4, .int (zI (glF a_11 a_12 (d15_2) (d36_3)))), (0, .ref h0), (1, .ref hc), (2, .int (zI (d15_2))), (3, .int (zI (d36_3)))]) hx hb dX2_findFrontiers_51 hl (by decide) rfl (fun ls hl => ?_)
                refine lv_iload_n hx hb dX2_findFrontiers_53 rfl (lv_at hl 3 rfl) ?_
                refine lv_istore (lv' := [(5, .int (zI (d15_2))), (4, .int (zI (glF a_11 a_12 (d15_2) (d36_3)))), (0, .ref h0), (1, .ref hc), (2, .int (zI (d15_2))), (3, .int (zI (d36_3)))]) hx hb dX2_findFrontiers_54 hl (by decide) rfl (fun ls hl => ?_)
                refine lv_iconst (v := 0) hx hb dX2_findFrontiers_56 (by decide) ?_
                refine lv_istore (lv' := [(6, .int 0), (5, .int (zI (d15_2))), (4, .int (zI (glF a_11 a_12 (d15_2) (d36_3)))), (0, .ref h0), (1, .ref hc), (2, .int (zI (d15_2))), (3, .int (zI (d36_3)))]) hx hb dX2_findFrontiers_57 hl (by decide) rfl (fun ls hl => ?_)
                have key59 : ∀ n59 : Nat, ∀ (d59_6 : Int) (d59_5 : Int) (w59_206 : Nat → Int64) (ls : Array Slot) (H : Heap) (locs : List Loc), (0 ≤ d59_6 ∧ d59_6 ≤ 1000000000) → (-2 ≤ d59_5 ∧ d59_5 ≤ 299) → ((300 - d59_6 : Int).toNat) < n59 → lv_has ls 7 [(0, .ref h0), (1, .ref hc), (2, .int (zI (d15_2))), (3, .int (zI (d36_3))), (4, .int (zI (glF a_11 a_12 (d15_2) (d36_3)))), (5, .int (zI (d59_5))), (6, .int (zI (d59_6)))] → va_P (dC, dI) vwP [(q_201, .inl (cA_201, 300, .inl (fun j : Nat => zI (a2_idom (j : Int))))), (q_206, .inl (cA_206, 1500, .inr (.inl w59_206))), (h0, .inr (2, [v2_0, .ref q_201, v2_2, v2_3, .ref q_204, v2_5, .ref q_206, v2_7, v2_8, v2_9, v2_10, v2_11, v2_12])), (q_204, .inl (cA_204, 300, .inl (fun j : Nat => zI (a2_place (j : Int))))), (q_709, .inl (cA_709, 300, .inl (fun j : Nat => zI (a_9 (j : Int))))), (hc, .inr (0, [.int (zI (B1)), v_1, v_2, v_3, v_4, v_5, v_6, v_7, v_8, .ref q_709, v_10, .ref q_711, .ref q_712, v_13, v_14, v_15, v_16, v_17, v_18])), (q_711, .inl (cA_711, 300, .inl (fun j : Nat => zI (a_11 (j : Int))))), (q_712, .inl (cA_712, 300, .inl (fun j : Nat => zI (a_12 (j : Int)))))] H → va_D A [(q_201, .inl (cA_201, 300, .inl (fun j : Nat => zI (a2_idom (j : Int))))), (q_206, .inl (cA_206, 1500, .inr (.inl w59_206))), (h0, .inr (2, [v2_0, .ref q_201, v2_2, v2_3, .ref q_204, v2_5, .ref q_206, v2_7, v2_8, v2_9, v2_10, v2_11, v2_12])), (q_204, .inl (cA_204, 300, .inl (fun j : Nat => zI (a2_place (j : Int))))), (q_709, .inl (cA_709, 300, .inl (fun j : Nat => zI (a_9 (j : Int))))), (hc, .inr (0, [.int (zI (B1)), v_1, v_2, v_3, v_4, v_5, v_6, v_7, v_8, .ref q_709, v_10, .ref q_711, .ref q_712, v_13, v_14, v_15, v_16, v_17, v_18])), (q_711, .inl (cA_711, 300, .inl (fun j : Nat => zI (a_11 (j : Int))))), (q_712, .inl (cA_712, 300, .inl (fun j : Nat => zI (a_12 (j : Int)))))] → va_S A s.heap H locs → W p l e (headSpec v_X2_findFrontiers ({ frames := 1, cells := 0, slots := 0, locals := 22 })).room s m ([.ref h0, .ref hc] : List Value).toArray below meth c H locs 0 0 Q (F0 m 59 ls []) := by
                  intro n59
                  induction n59 with
                  | zero => intro d59_6 d59_5 w59_206 ls H locs jd59_6 jd59_5 hm59; exact absurd hm59 (by omega)
                  | succ n59 ih59 =>
                    intro d59_6 d59_5 w59_206 ls H locs jd59_6 jd59_5 hm59 hl hP hD hS
                    refine lv_iload hx hb dX2_findFrontiers_59 (lv_at hl 5 rfl) ?_
                    refine lv_if_lt (tgt := 112) hx hb dX2_findFrontiers_61 (by decide) (fun b61 => ?_) (fun b61 => ?_)
                    · have yb61 : (d59_5 : Int) < (0 : Int) := (zI_lt (a := d59_5) (b := 0) (by omega) (by omega) (by omega) (by omega)).mp b61
                      refine lv_iinc (v := zI (d36_3 + 1)) (lv' := [(3, .int (zI (d36_3 + 1))), (0, .ref h0), (1, .ref hc), (2, .int (zI (d15_2))), (4, .int (zI (glF a_11 a_12 (d15_2) (d36_3)))), (5, .int (zI (d59_5))), (6, .int (zI (d59_6)))]) hx hb dX2_findFrontiers_112 hl (k := 3) rfl (zI_add (d36_3) (1)) (by decide) rfl (fun ls hl => ?_)
                      refine lv_goto (tgt := 36) hx hb dX2_findFrontiers_115 (by decide) ?_
                      have hP := hP.sub (ws' := [(q_201, .inl (cA_201, 300, .inl (fun j : Nat => zI (a2_idom (j : Int))))), (hc, .inr (0, [.int (zI (B1)), v_1, v_2, v_3, v_4, v_5, v_6, v_7, v_8, .ref q_709, v_10, .ref q_711, .ref q_712, v_13, v_14, v_15, v_16, v_17, v_18])), (q_709, .inl (cA_709, 300, .inl (fun j : Nat => zI (a_9 (j : Int))))), (q_711, .inl (cA_711, 300, .inl (fun j : Nat => zI (a_11 (j : Int))))), (q_712, .inl (cA_712, 300, .inl (fun j : Nat => zI (a_12 (j : Int))))), (q_206, .inl (cA_206, 1500, .inr (.inl w59_206))), (h0, .inr (2, [v2_0, .ref q_201, v2_2, v2_3, .ref q_204, v2_5, .ref q_206, v2_7, v2_8, v2_9, v2_10, v2_11, v2_12])), (q_204, .inl (cA_204, 300, .inl (fun j : Nat => zI (a2_place (j : Int)))))]) [0, 5, 4, 6, 7, 1, 2, 3] rfl
                      have hD := hD.sub (ws' := [(q_201, .inl (cA_201, 300, .inl (fun j : Nat => zI (a2_idom (j : Int))))), (hc, .inr (0, [.int (zI (B1)), v_1, v_2, v_3, v_4, v_5, v_6, v_7, v_8, .ref q_709, v_10, .ref q_711, .ref q_712, v_13, v_14, v_15, v_16, v_17, v_18])), (q_709, .inl (cA_709, 300, .inl (fun j : Nat => zI (a_9 (j : Int))))), (q_711, .inl (cA_711, 300, .inl (fun j : Nat => zI (a_11 (j : Int))))), (q_712, .inl (cA_712, 300, .inl (fun j : Nat => zI (a_12 (j : Int))))), (q_206, .inl (cA_206, 1500, .inr (.inl w59_206))), (h0, .inr (2, [v2_0, .ref q_201, v2_2, v2_3, .ref q_204, v2_5, .ref q_206, v2_7, v2_8, v2_9, v2_10, v2_11, v2_12])), (q_204, .inl (cA_204, 300, .inl (fun j : Nat => zI (a2_place (j : Int)))))]) [0, 5, 4, 6, 7, 1, 2, 3] (by decide) rfl
                      exact ih36 (d36_3 + 1) w59_206 ls H _ (by omega) (by omega) (lv_sub hl [1, 2, 3, 0] rfl) hP hD hS
                    · have yb61 : ¬ (d59_5 : Int) < (0 : Int) := fun q => b61 ((zI_lt (a := d59_5) (b := 0) (by omega) (by omega) (by omega) (by omega)).mpr q)
                      refine lv_iload hx hb dX2_findFrontiers_64 (lv_at hl 5 rfl) ?_
                      refine lv_aload_n hx hb dX2_findFrontiers_66 rfl (lv_at hl 0 rfl) ?_
                      refine va_get (D := (dC, dI)) (ci := 2) (v := .ref q_201) (C := RX2) (T := TX2) (N := 13) hx hb hts mem_X2_findFrontiers_0 hown hK hP 2 rfl rfl 1 (by decide) (ow (k := 15) rfl) (fun _ h9 => h9) rfl dX2_findFrontiers_67 ?_
                      refine lv_iload hx hb dX2_findFrontiers_70 (lv_at hl 4 rfl) ?_
                      refine va_iald hx hb hK hP 0 0 rfl rfl (zI_in (a := glF a_11 a_12 (d15_2) (d36_3)) (n := 300) (by omega) (by omega) (by decide)) dX2_findFrontiers_72 ?_
                      refine lv_topi (fun z ez => ?_)
                      obtain rfl : z = zI (a2_idom (glF a_11 a_12 (d15_2) (d36_3))) := ez.trans (zI_ld (a2_idom) (by omega) (by omega))
                      have k1 := hR_a2_idom (glF a_11 a_12 (d15_2) (d36_3))
                      refine lv_icmp_eq (tgt := 112) hx hb dX2_findFrontiers_73 (by decide) (fun b73 => ?_) (fun b73 => ?_)
                      · have yb73 : (d59_5 : Int) = (a2_idom (glF a_11 a_12 (d15_2) (d36_3)) : Int) := (zI_eq (a := d59_5) (b := a2_idom (glF a_11 a_12 (d15_2) (d36_3))) (by omega) (by omega) (by omega) (by omega)).mp b73
                        refine lv_iinc (v := zI (d36_3 + 1)) (lv' := [(3, .int (zI (d36_3 + 1))), (0, .ref h0), (1, .ref hc), (2, .int (zI (d15_2))), (4, .int (zI (glF a_11 a_12 (d15_2) (d36_3)))), (5, .int (zI (d59_5))), (6, .int (zI (d59_6)))]) hx hb dX2_findFrontiers_112 hl (k := 3) rfl (zI_add (d36_3) (1)) (by decide) rfl (fun ls hl => ?_)
                        refine lv_goto (tgt := 36) hx hb dX2_findFrontiers_115 (by decide) ?_
                        have hP := hP.sub (ws' := [(q_201, .inl (cA_201, 300, .inl (fun j : Nat => zI (a2_idom (j : Int))))), (hc, .inr (0, [.int (zI (B1)), v_1, v_2, v_3, v_4, v_5, v_6, v_7, v_8, .ref q_709, v_10, .ref q_711, .ref q_712, v_13, v_14, v_15, v_16, v_17, v_18])), (q_709, .inl (cA_709, 300, .inl (fun j : Nat => zI (a_9 (j : Int))))), (q_711, .inl (cA_711, 300, .inl (fun j : Nat => zI (a_11 (j : Int))))), (q_712, .inl (cA_712, 300, .inl (fun j : Nat => zI (a_12 (j : Int))))), (q_206, .inl (cA_206, 1500, .inr (.inl w59_206))), (h0, .inr (2, [v2_0, .ref q_201, v2_2, v2_3, .ref q_204, v2_5, .ref q_206, v2_7, v2_8, v2_9, v2_10, v2_11, v2_12])), (q_204, .inl (cA_204, 300, .inl (fun j : Nat => zI (a2_place (j : Int)))))]) [0, 5, 4, 6, 7, 1, 2, 3] rfl
                        have hD := hD.sub (ws' := [(q_201, .inl (cA_201, 300, .inl (fun j : Nat => zI (a2_idom (j : Int))))), (hc, .inr (0, [.int (zI (B1)), v_1, v_2, v_3, v_4, v_5, v_6, v_7, v_8, .ref q_709, v_10, .ref q_711, .ref q_712, v_13, v_14, v_15, v_16, v_17, v_18])), (q_709, .inl (cA_709, 300, .inl (fun j : Nat => zI (a_9 (j : Int))))), (q_711, .inl (cA_711, 300, .inl (fun j : Nat => zI (a_11 (j : Int))))), (q_712, .inl (cA_712, 300, .inl (fun j : Nat => zI (a_12 (j : Int))))), (q_206, .inl (cA_206, 1500, .inr (.inl w59_206))), (h0, .inr (2, [v2_0, .ref q_201, v2_2, v2_3, .ref q_204, v2_5, .ref q_206, v2_7, v2_8, v2_9, v2_10, v2_11, v2_12])), (q_204, .inl (cA_204, 300, .inl (fun j : Nat => zI (a2_place (j : Int)))))]) [0, 5, 4, 6, 7, 1, 2, 3] (by decide) rfl
                        exact ih36 (d36_3 + 1) w59_206 ls H _ (by omega) (by omega) (lv_sub hl [1, 2, 3, 0] rfl) hP hD hS
                      · have yb73 : ¬ (d59_5 : Int) = (a2_idom (glF a_11 a_12 (d15_2) (d36_3)) : Int) := fun q => b73 ((zI_eq (a := d59_5) (b := a2_idom (glF a_11 a_12 (d15_2) (d36_3))) (by omega) (by omega) (by omega) (by omega)).mpr q)
                        refine lv_iload hx hb dX2_findFrontiers_76 (lv_at hl 6 rfl) ?_
                        refine lv_sipush (v := 300) hx hb dX2_findFrontiers_78 (by decide) ?_
                        refine lv_icmp_ge (tgt := 112) hx hb dX2_findFrontiers_81 (by decide) (fun b81 => ?_) (fun b81 => ?_)
                        · have yb81 : (300 : Int) ≤ (d59_6 : Int) := (zI_le (a := 300) (b := d59_6) (by omega) (by omega) (by omega) (by omega)).mp b81
                          refine lv_iinc (v := zI (d36_3 + 1)) (lv' := [(3, .int (zI (d36_3 + 1))), (0, .ref h0), (1, .ref hc), (2, .int (zI (d15_2))), (4, .int (zI (glF a_11 a_12 (d15_2) (d36_3)))), (5, .int (zI (d59_5))), (6, .int (zI (d59_6)))]) hx hb dX2_findFrontiers_112 hl (k := 3) rfl (zI_add (d36_3) (1)) (by decide) rfl (fun ls hl => ?_)
                          refine lv_goto (tgt := 36) hx hb dX2_findFrontiers_115 (by decide) ?_
                          have hP := hP.sub (ws' := [(q_201, .inl (cA_201, 300, .inl (fun j : Nat => zI (a2_idom (j : Int))))), (hc, .inr (0, [.int (zI (B1)), v_1, v_2, v_3, v_4, v_5, v_6, v_7, v_8, .ref q_709, v_10, .ref q_711, .ref q_712, v_13, v_14, v_15, v_16, v_17, v_18])), (q_709, .inl (cA_709, 300, .inl (fun j : Nat => zI (a_9 (j : Int))))), (q_711, .inl (cA_711, 300, .inl (fun j : Nat => zI (a_11 (j : Int))))), (q_712, .inl (cA_712, 300, .inl (fun j : Nat => zI (a_12 (j : Int))))), (q_206, .inl (cA_206, 1500, .inr (.inl w59_206))), (h0, .inr (2, [v2_0, .ref q_201, v2_2, v2_3, .ref q_204, v2_5, .ref q_206, v2_7, v2_8, v2_9, v2_10, v2_11, v2_12])), (q_204, .inl (cA_204, 300, .inl (fun j : Nat => zI (a2_place (j : Int)))))]) [0, 5, 4, 6, 7, 1, 2, 3] rfl
                          have hD := hD.sub (ws' := [(q_201, .inl (cA_201, 300, .inl (fun j : Nat => zI (a2_idom (j : Int))))), (hc, .inr (0, [.int (zI (B1)), v_1, v_2, v_3, v_4, v_5, v_6, v_7, v_8, .ref q_709, v_10, .ref q_711, .ref q_712, v_13, v_14, v_15, v_16, v_17, v_18])), (q_709, .inl (cA_709, 300, .inl (fun j : Nat => zI (a_9 (j : Int))))), (q_711, .inl (cA_711, 300, .inl (fun j : Nat => zI (a_11 (j : Int))))), (q_712, .inl (cA_712, 300, .inl (fun j : Nat => zI (a_12 (j : Int))))), (q_206, .inl (cA_206, 1500, .inr (.inl w59_206))), (h0, .inr (2, [v2_0, .ref q_201, v2_2, v2_3, .ref q_204, v2_5, .ref q_206, v2_7, v2_8, v2_9, v2_10, v2_11, v2_12])), (q_204, .inl (cA_204, 300, .inl (fun j : Nat => zI (a2_place (j : Int)))))]) [0, 5, 4, 6, 7, 1, 2, 3] (by decide) rfl
                          exact ih36 (d36_3 + 1) w59_206 ls H _ (by omega) (by omega) (lv_sub hl [1, 2, 3, 0] rfl) hP hD hS
                        · have yb81 : ¬ (300 : Int) ≤ (d59_6 : Int) := fun q => b81 ((zI_le (a := 300) (b := d59_6) (by omega) (by omega) (by omega) (by omega)).mpr q)
                          refine lv_aload_n hx hb dX2_findFrontiers_84 rfl (lv_at hl 0 rfl) ?_
                          refine va_get (D := (dC, dI)) (ci := 2) (v := .ref q_206) (C := RX2) (T := TX2) (N := 13) hx hb hts mem_X2_findFrontiers_0 hown hK hP 2 rfl rfl 6 (by decide) (ow (k := 0) rfl) (fun _ h9 => h9) rfl dX2_findFrontiers_85 ?_
                          refine lv_iload hx hb dX2_findFrontiers_88 (lv_at hl 5 rfl) ?_
                          refine lv_iconst (v := 5) hx hb dX2_findFrontiers_90 (by decide) ?_
                          refine lv_imul hx hb dX2_findFrontiers_91 ?_
                          refine lv_topi (fun z ez => ?_)
                          obtain rfl : z = zI (d59_5 * 5) := ez.trans (zI_mul (d59_5) (5))
                          refine lv_iload hx hb dX2_findFrontiers_92 (lv_at hl 4 rfl) ?_
                          have hPc := hP.sub (ws' := [(q_206, .inl (cA_206, 1500, .inr (.inl w59_206)))]) [1] rfl
                          have hDc := hD.sub (ws' := [(q_206, .inl (cA_206, 1500, .inr (.inl w59_206)))]) [1] (by decide) rfl
                          have hKc := hK.sub (tys' := [(cA_206, .long)]) [1] rfl
                          have hFc := va_free (wc := [(q_206, .inl (cA_206, 1500, .inr (.inl w59_206)))]) hD hS hA [1] rfl
                          refine va_callv (va_runSN (As := [.ref q_206, .int (zI (d59_5 * 5)), .int (zI (glF a_11 a_12 (d15_2) (d36_3)))]) (rest := []) ⟨hx, hb, hml, hown, hts⟩ (c_X11_putBit l dC dI q_206 cA_206 1500 w59_206 (d59_5 * 5) (glF a_11 a_12 (d15_2) (d36_3)) (by omega) H.size) ⟨va_cnB 3 hts (goodIn_sub mem_X2_findFrontiers_6 gw_X11_putBit) rfl rfl rfl hp1 (ow (k := 2) rfl) (by decide +kernel) ⟨(Nat.le_of_ble_eq_true rfl), (Nat.le_of_ble_eq_true rfl)⟩, (ow (k := 16) rfl), trivial⟩ ⟨fun a U g mk q => by obtain ⟨q0, q1, qP, qK, qD⟩ := q; exact ⟨q0, q1, qP, va_K.moved (u := U) (U := U.calling g mk a) (Vm.Alike.refl U.vm) qK, qD⟩, fun U hU hW => ⟨rfl, by rw [hU], by rw [hU]; exact hPc, va_K.moved hW.alike hKc, hDc.weaken (fun _ _ _ _ => trivial)⟩⟩ rfl rfl hl.1 rfl (lv_room (Nat.le_of_ble_eq_true rfl)) dX2_findFrontiers_94 ⟨(Nat.le_of_ble_eq_true rfl), (Nat.le_of_ble_eq_true rfl)⟩) hS (fun q _ h => hFc q h) hFc (fun  u t H1 locs ht hvm hw hB hz1 hk1 hS => ?_)
                          obtain ⟨g0_2005, hP1, hK1, hD1⟩ := hB
                          rw [ht] at hP1
                          have hK1 := va_K.moved hvm.symm hK1
                          obtain ⟨hP, hD⟩ := va_join (wr := [(q_201, .inl (cA_201, 300, .inl (fun j : Nat => zI (a2_idom (j : Int))))), (h0, .inr (2, [v2_0, .ref q_201, v2_2, v2_3, .ref q_204, v2_5, .ref q_206, v2_7, v2_8, v2_9, v2_10, v2_11, v2_12])), (q_204, .inl (cA_204, 300, .inl (fun j : Nat => zI (a2_place (j : Int))))), (q_709, .inl (cA_709, 300, .inl (fun j : Nat => zI (a_9 (j : Int))))), (hc, .inr (0, [.int (zI (B1)), v_1, v_2, v_3, v_4, v_5, v_6, v_7, v_8, .ref q_709, v_10, .ref q_711, .ref q_712, v_13, v_14, v_15, v_16, v_17, v_18])), (q_711, .inl (cA_711, 300, .inl (fun j : Nat => zI (a_11 (j : Int))))), (q_712, .inl (cA_712, 300, .inl (fun j : Nat => zI (a_12 (j : Int)))))]) (w1 := [(q_206, .inl (cA_206, 1500, .inr (.inl g0_2005)))]) hP hD [1] [0, 2, 3, 4, 5, 6, 7] rfl rfl (by decide) (by decide) hk1 hFc hP1 hD1
                          have hK := (hK.sub (tys' := [(cA_201, .int), (cA_204, .int), (cA_709, .int), (cA_711, .int), (cA_712, .int)]) [0, 2, 3, 4, 5] rfl).app hK1
                          generalize H1 = H at hP hS ⊢
                          have hP : va_P (dC, dI) vwP [(q_201, .inl (cA_201, 300, .inl (fun j : Nat => zI (a2_idom (j : Int))))), (h0, .inr (2, [v2_0, .ref q_201, v2_2, v2_3, .ref q_204, v2_5, .ref q_206, v2_7, v2_8, v2_9, v2_10, v2_11, v2_12])), (q_204, .inl (cA_204, 300, .inl (fun j : Nat => zI (a2_place (j : Int))))), (q_709, .inl (cA_709, 300, .inl (fun j : Nat => zI (a_9 (j : Int))))), (hc, .inr (0, [.int (zI (B1)), v_1, v_2, v_3, v_4, v_5, v_6, v_7, v_8, .ref q_709, v_10, .ref q_711, .ref q_712, v_13, v_14, v_15, v_16, v_17, v_18])), (q_711, .inl (cA_711, 300, .inl (fun j : Nat => zI (a_11 (j : Int))))), (q_712, .inl (cA_712, 300, .inl (fun j : Nat => zI (a_12 (j : Int))))), (q_206, .inl (cA_206, 1500, .inr (.inl g0_2005)))] H := hP
                          have hD : va_D A [(q_201, .inl (cA_201, 300, .inl (fun j : Nat => zI (a2_idom (j : Int))))), (h0, .inr (2, [v2_0, .ref q_201, v2_2, v2_3, .ref q_204, v2_5, .ref q_206, v2_7, v2_8, v2_9, v2_10, v2_11, v2_12])), (q_204, .inl (cA_204, 300, .inl (fun j : Nat => zI (a2_place (j : Int))))), (q_709, .inl (cA_709, 300, .inl (fun j : Nat => zI (a_9 (j : Int))))), (hc, .inr (0, [.int (zI (B1)), v_1, v_2, v_3, v_4, v_5, v_6, v_7, v_8, .ref q_709, v_10, .ref q_711, .ref q_712, v_13, v_14, v_15, v_16, v_17, v_18])), (q_711, .inl (cA_711, 300, .inl (fun j : Nat => zI (a_11 (j : Int))))), (q_712, .inl (cA_712, 300, .inl (fun j : Nat => zI (a_12 (j : Int))))), (q_206, .inl (cA_206, 1500, .inr (.inl g0_2005)))] := hD
                          have hK : va_K (dC, dI) vwP [(cA_201, .int), (cA_204, .int), (cA_709, .int), (cA_711, .int), (cA_712, .int), (cA_206, .long)] s := hK
                          refine W.widen (k := 0) (n := 0) (Nat.le_of_ble_eq_true rfl) (Nat.le_of_ble_eq_true rfl) ?_
                          refine lv_aload_n hx hb dX2_findFrontiers_97 rfl (lv_at hl 0 rfl) ?_
                          refine va_get (D := (dC, dI)) (ci := 2) (v := .ref q_201) (C := RX2) (T := TX2) (N := 13) hx hb hts mem_X2_findFrontiers_0 hown hK hP 1 rfl rfl 1 (by decide) (ow (k := 15) rfl) (fun _ h9 => h9) rfl dX2_findFrontiers_98 ?_
                          refine lv_iload hx hb dX2_findFrontiers_101 (lv_at hl 5 rfl) ?_
                          refine va_iald hx hb hK hP 0 0 rfl rfl (zI_in (a := d59_5) (n := 300) (by omega) (by omega) (by decide)) dX2_findFrontiers_103 ?_
                          refine lv_topi (fun z ez => ?_)
                          obtain rfl : z = zI (a2_idom (d59_5)) := ez.trans (zI_ld (a2_idom) (by omega) (by omega))
                          have k2 := hR_a2_idom (d59_5)
                          refine lv_istore (lv' := [(5, .int (zI (a2_idom (d59_5)))), (0, .ref h0), (1, .ref hc), (2, .int (zI (d15_2))), (3, .int (zI (d36_3))), (4, .int (zI (glF a_11 a_12 (d15_2) (d36_3)))), (6, .int (zI (d59_6)))]) hx hb dX2_findFrontiers_104 hl (by decide) rfl (fun ls hl => ?_)
                          refine lv_iinc (v := zI (d59_6 + 1)) (lv' := [(6, .int (zI (d59_6 + 1))), (5, .int (zI (a2_idom (d59_5)))), (0, .ref h0), (1, .ref hc), (2, .int (zI (d15_2))), (3, .int (zI (d36_3))), (4, .int (zI (glF a_11 a_12 (d15_2) (d36_3))))]) hx hb dX2_findFrontiers_106 hl (k := 6) rfl (zI_add (d59_6) (1)) (by decide) rfl (fun ls hl => ?_)
                          refine lv_goto (tgt := 59) hx hb dX2_findFrontiers_109 (by decide) ?_
                          have hP := hP.sub (ws' := [(q_201, .inl (cA_201, 300, .inl (fun j : Nat => zI (a2_idom (j : Int))))), (q_206, .inl (cA_206, 1500, .inr (.inl g0_2005))), (h0, .inr (2, [v2_0, .ref q_201, v2_2, v2_3, .ref q_204, v2_5, .ref q_206, v2_7, v2_8, v2_9, v2_10, v2_11, v2_12])), (q_204, .inl (cA_204, 300, .inl (fun j : Nat => zI (a2_place (j : Int))))), (q_709, .inl (cA_709, 300, .inl (fun j : Nat => zI (a_9 (j : Int))))), (hc, .inr (0, [.int (zI (B1)), v_1, v_2, v_3, v_4, v_5, v_6, v_7, v_8, .ref q_709, v_10, .ref q_711, .ref q_712, v_13, v_14, v_15, v_16, v_17, v_18])), (q_711, .inl (cA_711, 300, .inl (fun j : Nat => zI (a_11 (j : Int))))), (q_712, .inl (cA_712, 300, .inl (fun j : Nat => zI (a_12 (j : Int)))))]) [0, 7, 1, 2, 3, 4, 5, 6] rfl
                          have hD := hD.sub (ws' := [(q_201, .inl (cA_201, 300, .inl (fun j : Nat => zI (a2_idom (j : Int))))), (q_206, .inl (cA_206, 1500, .inr (.inl g0_2005))), (h0, .inr (2, [v2_0, .ref q_201, v2_2, v2_3, .ref q_204, v2_5, .ref q_206, v2_7, v2_8, v2_9, v2_10, v2_11, v2_12])), (q_204, .inl (cA_204, 300, .inl (fun j : Nat => zI (a2_place (j : Int))))), (q_709, .inl (cA_709, 300, .inl (fun j : Nat => zI (a_9 (j : Int))))), (hc, .inr (0, [.int (zI (B1)), v_1, v_2, v_3, v_4, v_5, v_6, v_7, v_8, .ref q_709, v_10, .ref q_711, .ref q_712, v_13, v_14, v_15, v_16, v_17, v_18])), (q_711, .inl (cA_711, 300, .inl (fun j : Nat => zI (a_11 (j : Int))))), (q_712, .inl (cA_712, 300, .inl (fun j : Nat => zI (a_12 (j : Int)))))]) [0, 7, 1, 2, 3, 4, 5, 6] (by decide) rfl
                          exact ih59 (d59_6 + 1) (a2_idom (d59_5)) g0_2005 ls H _ (by omega) (by omega) (by omega) (lv_sub hl [2, 3, 4, 5, 6, 1, 0] rfl) hP hD hS
                exact key59 ((300 - 0 : Int).toNat + 1) 0 d15_2 w36_206 ls H _ (by omega) (by omega) (by omega) (lv_sub hl [3, 4, 5, 6, 2, 1, 0] rfl) hP hD hS
          exact key36 (((gcF a_9 a_11 a_12 (d15_2)) - (0) : Int).toNat + 1) 0 w15_206 ls H _ (by omega) (by omega) (lv_sub hl [1, 2, 3, 0] rfl) hP hD hS
        · have yb28 : (isRe a2_place (d15_2) : Int) = (0 : Int) := (zI_eq (a := isRe a2_place (d15_2)) (b := 0) (by omega) (by omega) (by omega) (by omega)).mp b28
          refine lv_goto (tgt := 118) hx hb dX2_findFrontiers_31 (by decide) ?_
          refine lv_iinc (v := zI (d15_2 + 1)) (lv' := [(2, .int (zI (d15_2 + 1))), (0, .ref h0), (1, .ref hc)]) hx hb dX2_findFrontiers_118 hl (k := 2) rfl (zI_add (d15_2) (1)) (by decide) rfl (fun ls hl => ?_)
          refine lv_goto (tgt := 15) hx hb dX2_findFrontiers_121 (by decide) ?_
          have hP := hP.sub (ws' := [(h0, .inr (2, [v2_0, .ref q_201, v2_2, v2_3, .ref q_204, v2_5, .ref q_206, v2_7, v2_8, v2_9, v2_10, v2_11, v2_12])), (q_201, .inl (cA_201, 300, .inl (fun j : Nat => zI (a2_idom (j : Int))))), (q_204, .inl (cA_204, 300, .inl (fun j : Nat => zI (a2_place (j : Int))))), (hc, .inr (0, [.int (zI (B1)), v_1, v_2, v_3, v_4, v_5, v_6, v_7, v_8, .ref q_709, v_10, .ref q_711, .ref q_712, v_13, v_14, v_15, v_16, v_17, v_18])), (q_709, .inl (cA_709, 300, .inl (fun j : Nat => zI (a_9 (j : Int))))), (q_711, .inl (cA_711, 300, .inl (fun j : Nat => zI (a_11 (j : Int))))), (q_712, .inl (cA_712, 300, .inl (fun j : Nat => zI (a_12 (j : Int))))), (q_206, .inl (cA_206, 1500, .inr (.inl w15_206)))]) [6, 0, 7, 1, 2, 3, 4, 5] rfl
          have hD := hD.sub (ws' := [(h0, .inr (2, [v2_0, .ref q_201, v2_2, v2_3, .ref q_204, v2_5, .ref q_206, v2_7, v2_8, v2_9, v2_10, v2_11, v2_12])), (q_201, .inl (cA_201, 300, .inl (fun j : Nat => zI (a2_idom (j : Int))))), (q_204, .inl (cA_204, 300, .inl (fun j : Nat => zI (a2_place (j : Int))))), (hc, .inr (0, [.int (zI (B1)), v_1, v_2, v_3, v_4, v_5, v_6, v_7, v_8, .ref q_709, v_10, .ref q_711, .ref q_712, v_13, v_14, v_15, v_16, v_17, v_18])), (q_709, .inl (cA_709, 300, .inl (fun j : Nat => zI (a_9 (j : Int))))), (q_711, .inl (cA_711, 300, .inl (fun j : Nat => zI (a_11 (j : Int))))), (q_712, .inl (cA_712, 300, .inl (fun j : Nat => zI (a_12 (j : Int))))), (q_206, .inl (cA_206, 1500, .inr (.inl w15_206)))]) [6, 0, 7, 1, 2, 3, 4, 5] (by decide) rfl
          exact ih15 (d15_2 + 1) w15_206 ls H _ (by omega) (by omega) (lv_sub hl [1, 2, 0] rfl) hP hD hS
  exact key15 (((B1) - (0) : Int).toNat + 1) 0 g0_2001 ls H _ (by omega) (by omega) (lv_sub hl [1, 2, 0] rfl) hP hD hS
