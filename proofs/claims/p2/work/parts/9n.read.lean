theorem dX7_isBlocks_0 : decode cX7_isBlocks 0 = .ok (.aload_n 0, 1) := by decide +kernel
theorem dX7_isBlocks_1 : decode cX7_isBlocks 1 = .ok (.getfield 63, 3) := by decide +kernel
theorem dX7_isBlocks_4 : decode cX7_isBlocks 4 = .ok (.iload_n 1, 1) := by decide +kernel
theorem dX7_isBlocks_5 : decode cX7_isBlocks 5 = .ok (.baload, 1) := by decide +kernel
theorem dX7_isBlocks_6 : decode cX7_isBlocks 6 = .ok (.ifCond .ne 11, 3) := by decide +kernel
theorem dX7_isBlocks_17 : decode cX7_isBlocks 17 = .ok (.iconst 1, 1) := by decide +kernel
theorem dX7_isBlocks_18 : decode cX7_isBlocks 18 = .ok (.goto 4, 3) := by decide +kernel
theorem dX7_isBlocks_22 : decode cX7_isBlocks 22 = .ok (.ireturn, 1) := by decide +kernel
theorem dX7_isBlocks_9 : decode cX7_isBlocks 9 = .ok (.iload_n 1, 1) := by decide +kernel
theorem dX7_isBlocks_10 : decode cX7_isBlocks 10 = .ok (.aload_n 0, 1) := by decide +kernel
theorem dX7_isBlocks_11 : decode cX7_isBlocks 11 = .ok (.getfield 44, 3) := by decide +kernel
theorem dX7_isBlocks_14 : decode cX7_isBlocks 14 = .ok (.if_icmp .ge 7, 3) := by decide +kernel
theorem dX7_isBlocks_21 : decode cX7_isBlocks 21 = .ok (.iconst 0, 1) := by decide +kernel
def o_X7_isBlocks : List Cond := [.fieldLink RX7 63 "SsaForge$Reader" "labelled" "[Z", .fieldLink RX7 44 "SsaForge$Reader" "blockCount" "I"]
def v_X7_isBlocks : List Cond := .code yX7_isBlocks cX7_isBlocks 2 (some .boolean) :: (o_X7_isBlocks ++ (wsX70 ++ []))
theorem mow_X7_isBlocks : ∀ w ∈ o_X7_isBlocks, w ∈ v_X7_isBlocks := fun _ h => List.mem_cons_of_mem _ (List.mem_append_left _ h)
theorem mem_X7_isBlocks_0 : ∀ w ∈ wsX70, w ∈ v_X7_isBlocks := fun _ h => List.mem_cons_of_mem _ (List.mem_append_right _ (List.mem_append_left _ h))
set_option maxRecDepth 20000 in
theorem gw_X7_isBlocks : v_X7_isBlocks.all goodWord = true := by decide +kernel
set_option maxHeartbeats 4000000 in
set_option maxRecDepth 100000 in
theorem c_X7_isBlocks (l : Launch) (dC : Nat → ClassId) (dI : Nat → Nat → Nat) (h0 : Nat) (v12_0 : Value) (v12_1 : Value) (v12_2 : Value) (v12_3 : Value) (v12_4 : Value) (v12_5 : Value) (v12_6 : Value) (v12_7 : Value) (v12_8 : Value) (v12_9 : Value) (z12_blockCount : Int) (v12_11 : Value) (v12_12 : Value) (v12_13 : Value) (v12_14 : Value) (v12_15 : Value) (q_1216 : Nat) (cA_1216 : ClassId) (a12_labelled : Int → Int) (v12_17 : Value) (i : Int) (hNz12_blockCount : 0 ≤ z12_blockCount ∧ z12_blockCount ≤ 10000) (hR_a12_labelled : ∀ j : Int, 0 ≤ a12_labelled j ∧ a12_labelled j ≤ 1) (hNi : 0 ≤ i ∧ i < 60) (sz : Nat) : Met l yX7_isBlocks v_X7_isBlocks ({ frames := 0, cells := 0, slots := 0, locals := 0 }) (va_Pc [.ref h0, .int (zI (i))] (fun U => U.heap.size = sz ∧ va_P (dC, dI) vwP [(h0, .inr (7, [v12_0, v12_1, v12_2, v12_3, v12_4, v12_5, v12_6, v12_7, v12_8, v12_9, .int (zI (z12_blockCount)), v12_11, v12_12, v12_13, v12_14, v12_15, .ref q_1216, v12_17])), (q_1216, .inl (cA_1216, 60, .inl (fun j : Nat => zI (a12_labelled (j : Int)))))] U.heap ∧ va_K (dC, dI) vwP [(cA_1216, .boolean)] U ∧ va_D (fun _ => True) [(h0, .inr (7, [v12_0, v12_1, v12_2, v12_3, v12_4, v12_5, v12_6, v12_7, v12_8, v12_9, .int (zI (z12_blockCount)), v12_11, v12_12, v12_13, v12_14, v12_15, .ref q_1216, v12_17])), (q_1216, .inl (cA_1216, 60, .inl (fun j : Nat => zI (a12_labelled (j : Int)))))])) (va_Qi (fun (r : Int32) (_ : Unit) => ∃ z : Int, r = zI z ∧ ((0 ≤ z ∧ z ≤ 1) ∧ (z = 1 → ¬ a12_labelled i = 0 ∨ i < z12_blockCount))) (fun (_ : Unit) (t : State) => va_P (dC, dI) vwP [(h0, .inr (7, [v12_0, v12_1, v12_2, v12_3, v12_4, v12_5, v12_6, v12_7, v12_8, v12_9, .int (zI (z12_blockCount)), v12_11, v12_12, v12_13, v12_14, v12_15, .ref q_1216, v12_17])), (q_1216, .inl (cA_1216, 60, .inl (fun j : Nat => zI (a12_labelled (j : Int)))))] t.heap ∧ va_K (dC, dI) vwP [(cA_1216, .boolean)] t ∧ va_D (va_A [(h0, .inr (7, [v12_0, v12_1, v12_2, v12_3, v12_4, v12_5, v12_6, v12_7, v12_8, v12_9, .int (zI (z12_blockCount)), v12_11, v12_12, v12_13, v12_14, v12_15, .ref q_1216, v12_17])), (q_1216, .inl (cA_1216, 60, .inl (fun j : Nat => zI (a12_labelled (j : Int)))))] sz) [(h0, .inr (7, [v12_0, v12_1, v12_2, v12_3, v12_4, v12_5, v12_6, v12_7, v12_8, v12_9, .int (zI (z12_blockCount)), v12_11, v12_12, v12_13, v12_14, v12_15, .ref q_1216, v12_17])), (q_1216, .inl (cA_1216, 60, .inl (fun j : Nat => zI (a12_labelled (j : Int)))))]) (va_A [(h0, .inr (7, [v12_0, v12_1, v12_2, v12_3, v12_4, v12_5, v12_6, v12_7, v12_8, v12_9, .int (zI (z12_blockCount)), v12_11, v12_12, v12_13, v12_14, v12_15, .ref q_1216, v12_17])), (q_1216, .inl (cA_1216, 60, .inl (fun j : Nat => zI (a12_labelled (j : Int)))))] sz)) 0 0 (va_A [(h0, .inr (7, [v12_0, v12_1, v12_2, v12_3, v12_4, v12_5, v12_6, v12_7, v12_8, v12_9, .int (zI (z12_blockCount)), v12_11, v12_12, v12_13, v12_14, v12_15, .ref q_1216, v12_17])), (q_1216, .inl (cA_1216, 60, .inl (fun j : Nat => zI (a12_labelled (j : Int)))))] sz) := by
  refine Met.ofW (cc := cX7_isBlocks) (maxL := 2) (ret := (some .boolean)) (by decide) rfl ?_
  intro p e s m args below meth c s₁ B hml hv
  obtain ⟨rfl, hsz, hP, hK, hD0⟩ := hv
  have hx := B.exec
  have hb := B.bytes
  have hr := B.returns
  have hts := atoms_spec (ws := v_X7_isBlocks) B.pre
  have hown : s.vm.findClass RX7 = some m.cls := findClass_of_methodNamed B.named
  have hlocks := B.notSynchronized
  have ow : ∀ {k : Nat} {w : Cond}, o_X7_isBlocks[k]? = some w → w.before ([.ref h0, .int (zI (i))] : List Value).toArray s = true := fun h => hts _ (mow_X7_isBlocks _ (List.mem_of_getElem? h))
  subst hsz
  have hD := hD0.self (sz := s.heap.size)
  generalize hAe : va_A [(h0, .inr (7, [v12_0, v12_1, v12_2, v12_3, v12_4, v12_5, v12_6, v12_7, v12_8, v12_9, .int (zI (z12_blockCount)), v12_11, v12_12, v12_13, v12_14, v12_15, .ref q_1216, v12_17])), (q_1216, .inl (cA_1216, 60, .inl (fun j : Nat => zI (a12_labelled (j : Int)))))] s.heap.size = A at hD ⊢
  have hA : ∀ q : Nat, s.heap.size ≤ q → A q := fun q h => by rw [← hAe]; exact Or.inr h
  have hS : va_S A s.heap s.heap [] := va_S.rf
  have hP : va_P (dC, dI) vwP [(h0, .inr (7, [v12_0, v12_1, v12_2, v12_3, v12_4, v12_5, v12_6, v12_7, v12_8, v12_9, .int (zI (z12_blockCount)), v12_11, v12_12, v12_13, v12_14, v12_15, .ref q_1216, v12_17])), (q_1216, .inl (cA_1216, 60, .inl (fun j : Nat => zI (a12_labelled (j : Int)))))] s.heap := hP
  have hl := lv_entry ([.ref h0, .int (zI (i))]) (n := 2) (Nat.le_of_ble_eq_true rfl)
  rw [lg_entry_eq]
  generalize (lg_sl ([.ref h0, .int (zI (i))]) ++ List.replicate (2 - (lg_sl ([.ref h0, .int (zI (i))])).length) Slot.unset).toArray = ls at hl ⊢
  have hl : lv_has ls 2 [(0, .ref h0), (1, .int (zI (i)))] := hl
  obtain ⟨H, hH⟩ : ∃ H, H = s.heap := ⟨_, rfl⟩
  rw [← hH] at hP
  have hS : va_S A s.heap H [] := by rw [hH]; exact hS
  rw [← hH]
  refine zW_cap (fun Q hQ => ?_)
  refine lv_aload_n hx hb dX7_isBlocks_0 rfl (lv_at hl 0 rfl) ?_
  refine va_get (D := (dC, dI)) (ci := 7) (v := .ref q_1216) (C := RX7) (T := TX7) (N := 18) hx hb hts mem_X7_isBlocks_0 hown hK hP 0 rfl rfl 16 (by decide) (ow (k := 0) rfl) (fun _ h9 => h9) rfl dX7_isBlocks_1 ?_
  refine lv_iload_n hx hb dX7_isBlocks_4 rfl (lv_at hl 1 rfl) ?_
  refine va_zald hx hb hK hP 1 0 rfl rfl (zI_in (a := i) (n := 60) (by omega) (by omega) (by decide)) dX7_isBlocks_5 ?_
  refine lv_topi (fun z ez => ?_)
  obtain rfl : z = zI (a12_labelled (i)) := ez.trans (zI_ld (a12_labelled) (by omega) (by omega))
  have k1 := hR_a12_labelled (i)
  refine lv_if_ne (tgt := 17) hx hb dX7_isBlocks_6 (by decide) (fun b6 => ?_) (fun b6 => ?_)
  · have yb6 : ¬ (a12_labelled (i) : Int) = (0 : Int) := fun q => b6 ((zI_eq (a := a12_labelled (i)) (b := 0) (by omega) (by omega) (by omega) (by omega)).mpr q)
    refine lv_iconst (v := 1) hx hb dX7_isBlocks_17 (by decide) ?_
    refine lv_goto (tgt := 22) hx hb dX7_isBlocks_18 (by decide) ?_
    subst hQ
    refine W.widen (k := 0) (n := 0) (Nat.le_of_ble_eq_true rfl) (Nat.le_of_ble_eq_true rfl) ?_
    exact W.zret (v := 1) hx hb hr (by decide) (fun t ht hW => ⟨⟨1, (), rfl, ⟨1, rfl, (by omega)⟩, by rw [ht]; exact hP, va_K.moved hW.alike hK, hD⟩, hS.F ht⟩) hS.2.2 dX7_isBlocks_22
  · have yb6 : (a12_labelled (i) : Int) = (0 : Int) := (zI_eq (a := a12_labelled (i)) (b := 0) (by omega) (by omega) (by omega) (by omega)).mp b6
    refine lv_iload_n hx hb dX7_isBlocks_9 rfl (lv_at hl 1 rfl) ?_
    refine lv_aload_n hx hb dX7_isBlocks_10 rfl (lv_at hl 0 rfl) ?_
    refine va_get (D := (dC, dI)) (ci := 7) (v := .int (zI (z12_blockCount))) (C := RX7) (T := TX7) (N := 18) hx hb hts mem_X7_isBlocks_0 hown hK hP 0 rfl rfl 10 (by decide) (ow (k := 1) rfl) (fun _ h9 => h9) rfl dX7_isBlocks_11 ?_
    refine lv_icmp_ge (tgt := 21) hx hb dX7_isBlocks_14 (by decide) (fun b14 => ?_) (fun b14 => ?_)
    · have yb14 : (z12_blockCount : Int) ≤ (i : Int) := (zI_le (a := z12_blockCount) (b := i) (by omega) (by omega) (by omega) (by omega)).mp b14
      refine lv_iconst (v := 0) hx hb dX7_isBlocks_21 (by decide) ?_
      subst hQ
      refine W.widen (k := 0) (n := 0) (Nat.le_of_ble_eq_true rfl) (Nat.le_of_ble_eq_true rfl) ?_
      exact W.zret (v := 0) hx hb hr (by decide) (fun t ht hW => ⟨⟨0, (), rfl, ⟨0, rfl, (by omega)⟩, by rw [ht]; exact hP, va_K.moved hW.alike hK, hD⟩, hS.F ht⟩) hS.2.2 dX7_isBlocks_22
    · have yb14 : ¬ (z12_blockCount : Int) ≤ (i : Int) := fun q => b14 ((zI_le (a := z12_blockCount) (b := i) (by omega) (by omega) (by omega) (by omega)).mpr q)
      refine lv_iconst (v := 1) hx hb dX7_isBlocks_17 (by decide) ?_
      refine lv_goto (tgt := 22) hx hb dX7_isBlocks_18 (by decide) ?_
      subst hQ
      refine W.widen (k := 0) (n := 0) (Nat.le_of_ble_eq_true rfl) (Nat.le_of_ble_eq_true rfl) ?_
      exact W.zret (v := 1) hx hb hr (by decide) (fun t ht hW => ⟨⟨1, (), rfl, ⟨1, rfl, (by omega)⟩, by rw [ht]; exact hP, va_K.moved hW.alike hK, hD⟩, hS.F ht⟩) hS.2.2 dX7_isBlocks_22
theorem dX7_checkGoals_0 : decode cX7_checkGoals 0 = .ok (.iconst 0, 1) := by decide +kernel
theorem dX7_checkGoals_1 : decode cX7_checkGoals 1 = .ok (.istore_n 1, 1) := by decide +kernel
theorem dX7_checkGoals_2 : decode cX7_checkGoals 2 = .ok (.iload_n 1, 1) := by decide +kernel
theorem dX7_checkGoals_3 : decode cX7_checkGoals 3 = .ok (.bipush 60, 2) := by decide +kernel
theorem dX7_checkGoals_5 : decode cX7_checkGoals 5 = .ok (.if_icmp .ge 75, 3) := by decide +kernel
theorem dX7_checkGoals_80 : decode cX7_checkGoals 80 = .ok (.return_, 1) := by decide +kernel
theorem dX7_checkGoals_8 : decode cX7_checkGoals 8 = .ok (.aload_n 0, 1) := by decide +kernel
theorem dX7_checkGoals_9 : decode cX7_checkGoals 9 = .ok (.getfield 67, 3) := by decide +kernel
theorem dX7_checkGoals_12 : decode cX7_checkGoals 12 = .ok (.iload_n 1, 1) := by decide +kernel
theorem dX7_checkGoals_13 : decode cX7_checkGoals 13 = .ok (.iaload, 1) := by decide +kernel
theorem dX7_checkGoals_14 : decode cX7_checkGoals 14 = .ok (.ifCond .lt 19, 3) := by decide +kernel
theorem dX7_checkGoals_33 : decode cX7_checkGoals 33 = .ok (.iconst 0, 1) := by decide +kernel
theorem dX7_checkGoals_34 : decode cX7_checkGoals 34 = .ok (.istore_n 2, 1) := by decide +kernel
theorem dX7_checkGoals_35 : decode cX7_checkGoals 35 = .ok (.iload_n 2, 1) := by decide +kernel
theorem dX7_checkGoals_36 : decode cX7_checkGoals 36 = .ok (.ifCond .eq 38, 3) := by decide +kernel
theorem dX7_checkGoals_74 : decode cX7_checkGoals 74 = .ok (.iinc 1 1, 3) := by decide +kernel
theorem dX7_checkGoals_77 : decode cX7_checkGoals 77 = .ok (.goto (-75), 3) := by decide +kernel
theorem dX7_checkGoals_17 : decode cX7_checkGoals 17 = .ok (.iload_n 1, 1) := by decide +kernel
theorem dX7_checkGoals_18 : decode cX7_checkGoals 18 = .ok (.ifCond .eq 11, 3) := by decide +kernel
theorem dX7_checkGoals_29 : decode cX7_checkGoals 29 = .ok (.iconst 1, 1) := by decide +kernel
theorem dX7_checkGoals_30 : decode cX7_checkGoals 30 = .ok (.goto 4, 3) := by decide +kernel
theorem dX7_checkGoals_39 : decode cX7_checkGoals 39 = .ok (.aload_n 0, 1) := by decide +kernel
theorem dX7_checkGoals_40 : decode cX7_checkGoals 40 = .ok (.getfield 60, 3) := by decide +kernel
theorem dX7_checkGoals_43 : decode cX7_checkGoals 43 = .ok (.ifCond .lt 16, 3) := by decide +kernel
theorem dX7_checkGoals_59 : decode cX7_checkGoals 59 = .ok (.aload_n 0, 1) := by decide +kernel
theorem dX7_checkGoals_60 : decode cX7_checkGoals 60 = .ok (.aload_n 0, 1) := by decide +kernel
theorem dX7_checkGoals_61 : decode cX7_checkGoals 61 = .ok (.getfield 67, 3) := by decide +kernel
theorem dX7_checkGoals_64 : decode cX7_checkGoals 64 = .ok (.iload_n 1, 1) := by decide +kernel
theorem dX7_checkGoals_65 : decode cX7_checkGoals 65 = .ok (.iaload, 1) := by decide +kernel
theorem dX7_checkGoals_66 : decode cX7_checkGoals 66 = .ok (.putfield 60, 3) := by decide +kernel
theorem dX7_checkGoals_69 : decode cX7_checkGoals 69 = .ok (.aload_n 0, 1) := by decide +kernel
theorem dX7_checkGoals_70 : decode cX7_checkGoals 70 = .ok (.iconst 3, 1) := by decide +kernel
theorem dX7_checkGoals_71 : decode cX7_checkGoals 71 = .ok (.putfield 9, 3) := by decide +kernel
theorem dX7_checkGoals_46 : decode cX7_checkGoals 46 = .ok (.aload_n 0, 1) := by decide +kernel
theorem dX7_checkGoals_47 : decode cX7_checkGoals 47 = .ok (.getfield 67, 3) := by decide +kernel
theorem dX7_checkGoals_50 : decode cX7_checkGoals 50 = .ok (.iload_n 1, 1) := by decide +kernel
theorem dX7_checkGoals_51 : decode cX7_checkGoals 51 = .ok (.iaload, 1) := by decide +kernel
theorem dX7_checkGoals_52 : decode cX7_checkGoals 52 = .ok (.aload_n 0, 1) := by decide +kernel
theorem dX7_checkGoals_53 : decode cX7_checkGoals 53 = .ok (.getfield 60, 3) := by decide +kernel
theorem dX7_checkGoals_56 : decode cX7_checkGoals 56 = .ok (.if_icmp .ge 18, 3) := by decide +kernel
theorem dX7_checkGoals_21 : decode cX7_checkGoals 21 = .ok (.aload_n 0, 1) := by decide +kernel
theorem dX7_checkGoals_22 : decode cX7_checkGoals 22 = .ok (.iload_n 1, 1) := by decide +kernel
theorem dX7_checkGoals_23 : decode cX7_checkGoals 23 = .ok (.invokevirtual 222, 3) := by decide +kernel
theorem dX7_checkGoals_26 : decode cX7_checkGoals 26 = .ok (.ifCond .ne 7, 3) := by decide +kernel
def o_X7_checkGoals : List Cond := [.fieldLink RX7 67 "SsaForge$Reader" "goalPlace" "[I", .fieldLink RX7 60 "SsaForge$Reader" "brokenPlace" "I", .fieldLink RX7 9 "SsaForge$Reader" "reason" "I", .methodLink RX7 222 yX7_isBlocks, .instanceMethod yX7_isBlocks, .selects RX7 yX7_isBlocks yX7_isBlocks, .initialized RX7]
def v_X7_checkGoals : List Cond := .code yX7_checkGoals cX7_checkGoals 3 none :: (o_X7_checkGoals ++ (wsX70 ++ (v_X7_isBlocks ++ [])))
theorem mow_X7_checkGoals : ∀ w ∈ o_X7_checkGoals, w ∈ v_X7_checkGoals := fun _ h => List.mem_cons_of_mem _ (List.mem_append_left _ h)
theorem mem_X7_checkGoals_0 : ∀ w ∈ wsX70, w ∈ v_X7_checkGoals := fun _ h => List.mem_cons_of_mem _ (List.mem_append_right _ (List.mem_append_left _ h))
theorem mem_X7_checkGoals_1 : ∀ w ∈ v_X7_isBlocks, w ∈ v_X7_checkGoals := fun _ h => List.mem_cons_of_mem _ (List.mem_append_right _ (List.mem_append_right _ (List.mem_append_left _ h)))
set_option maxRecDepth 20000 in
theorem gw_X7_checkGoals : v_X7_checkGoals.all goodWord = true := by decide +kernel
set_option maxRecDepth 20000 in
theorem g_X7_checkGoals_X7_isBlocks : GoodIn v_X7_checkGoals (wsV RX7 222 RX7 yX7_isBlocks v_X7_isBlocks) := goodIn_app (goodIn_sub (fun w h => mow_X7_checkGoals w (by revert w h; decide +kernel)) (by decide +kernel)) (goodIn_sub mem_X7_checkGoals_1 gw_X7_isBlocks)
set_option maxHeartbeats 4000000 in
set_option maxRecDepth 100000 in
theorem c_X7_checkGoals (l : Launch) (dC : Nat → ClassId) (dI : Nat → Nat → Nat) (h0 : Nat) (z12_reason : Int) (v12_1 : Value) (v12_2 : Value) (v12_3 : Value) (v12_4 : Value) (v12_5 : Value) (v12_6 : Value) (v12_7 : Value) (v12_8 : Value) (v12_9 : Value) (z12_blockCount : Int) (v12_11 : Value) (v12_12 : Value) (v12_13 : Value) (v12_14 : Value) (z12_brokenPlace : Int) (q_1216 : Nat) (cA_1216 : ClassId) (a12_labelled : Int → Int) (q_1217 : Nat) (cA_1217 : ClassId) (a12_goalPlace : Int → Int) (hNz12_reason : 0 ≤ z12_reason ∧ z12_reason ≤ 4) (hNz12_blockCount : 0 ≤ z12_blockCount ∧ z12_blockCount ≤ 10000) (hNz12_brokenPlace : -1 ≤ z12_brokenPlace ∧ z12_brokenPlace ≤ 8200) (hR_a12_labelled : ∀ j : Int, 0 ≤ a12_labelled j ∧ a12_labelled j ≤ 1) (hR_a12_goalPlace : ∀ j : Int, -1 ≤ a12_goalPlace j ∧ a12_goalPlace j ≤ 8200) (sz : Nat) : Met l yX7_checkGoals v_X7_checkGoals ({ frames := 1, cells := 0, slots := 0, locals := 21 }) (va_Pc [.ref h0] (fun U => U.heap.size = sz ∧ va_P (dC, dI) vwP [(h0, .inr (7, [.int (zI (z12_reason)), v12_1, v12_2, v12_3, v12_4, v12_5, v12_6, v12_7, v12_8, v12_9, .int (zI (z12_blockCount)), v12_11, v12_12, v12_13, v12_14, .int (zI (z12_brokenPlace)), .ref q_1216, .ref q_1217])), (q_1216, .inl (cA_1216, 60, .inl (fun j : Nat => zI (a12_labelled (j : Int))))), (q_1217, .inl (cA_1217, 60, .inl (fun j : Nat => zI (a12_goalPlace (j : Int)))))] U.heap ∧ va_K (dC, dI) vwP [(cA_1216, .boolean), (cA_1217, .int)] U ∧ va_D (fun _ => True) [(h0, .inr (7, [.int (zI (z12_reason)), v12_1, v12_2, v12_3, v12_4, v12_5, v12_6, v12_7, v12_8, v12_9, .int (zI (z12_blockCount)), v12_11, v12_12, v12_13, v12_14, .int (zI (z12_brokenPlace)), .ref q_1216, .ref q_1217])), (q_1216, .inl (cA_1216, 60, .inl (fun j : Nat => zI (a12_labelled (j : Int))))), (q_1217, .inl (cA_1217, 60, .inl (fun j : Nat => zI (a12_goalPlace (j : Int)))))])) (va_Qv (fun _ : Unit => True) (fun (_ : Unit) (t : State) => ∃ (z0_9 : Int) (z1_9 : Int), ((0 ≤ z0_9 ∧ z0_9 ≤ 4) ∧ (-1 ≤ z1_9 ∧ z1_9 ≤ 8200) ∧ (z1_9 < 0 → z12_brokenPlace < 0 ∧ ∀ x : Int, 0 ≤ x → x < 60 → 0 ≤ a12_goalPlace x → ¬ x = 0 ∧ (¬ a12_labelled x = 0 ∨ x < z12_blockCount))) ∧ va_P (dC, dI) vwP [(h0, .inr (7, [.int (zI (z0_9)), v12_1, v12_2, v12_3, v12_4, v12_5, v12_6, v12_7, v12_8, v12_9, .int (zI (z12_blockCount)), v12_11, v12_12, v12_13, v12_14, .int (zI (z1_9)), .ref q_1216, .ref q_1217])), (q_1216, .inl (cA_1216, 60, .inl (fun j : Nat => zI (a12_labelled (j : Int))))), (q_1217, .inl (cA_1217, 60, .inl (fun j : Nat => zI (a12_goalPlace (j : Int)))))] t.heap ∧ va_K (dC, dI) vwP [(cA_1216, .boolean), (cA_1217, .int)] t ∧ va_D (va_A [(h0, .inr (7, [.int (zI (z12_reason)), v12_1, v12_2, v12_3, v12_4, v12_5, v12_6, v12_7, v12_8, v12_9, .int (zI (z12_blockCount)), v12_11, v12_12, v12_13, v12_14, .int (zI (z12_brokenPlace)), .ref q_1216, .ref q_1217])), (q_1216, .inl (cA_1216, 60, .inl (fun j : Nat => zI (a12_labelled (j : Int))))), (q_1217, .inl (cA_1217, 60, .inl (fun j : Nat => zI (a12_goalPlace (j : Int)))))] sz) [(h0, .inr (7, [.int (zI (z0_9)), v12_1, v12_2, v12_3, v12_4, v12_5, v12_6, v12_7, v12_8, v12_9, .int (zI (z12_blockCount)), v12_11, v12_12, v12_13, v12_14, .int (zI (z1_9)), .ref q_1216, .ref q_1217])), (q_1216, .inl (cA_1216, 60, .inl (fun j : Nat => zI (a12_labelled (j : Int))))), (q_1217, .inl (cA_1217, 60, .inl (fun j : Nat => zI (a12_goalPlace (j : Int)))))]) (va_A [(h0, .inr (7, [.int (zI (z12_reason)), v12_1, v12_2, v12_3, v12_4, v12_5, v12_6, v12_7, v12_8, v12_9, .int (zI (z12_blockCount)), v12_11, v12_12, v12_13, v12_14, .int (zI (z12_brokenPlace)), .ref q_1216, .ref q_1217])), (q_1216, .inl (cA_1216, 60, .inl (fun j : Nat => zI (a12_labelled (j : Int))))), (q_1217, .inl (cA_1217, 60, .inl (fun j : Nat => zI (a12_goalPlace (j : Int)))))] sz)) 0 0 (va_A [(h0, .inr (7, [.int (zI (z12_reason)), v12_1, v12_2, v12_3, v12_4, v12_5, v12_6, v12_7, v12_8, v12_9, .int (zI (z12_blockCount)), v12_11, v12_12, v12_13, v12_14, .int (zI (z12_brokenPlace)), .ref q_1216, .ref q_1217])), (q_1216, .inl (cA_1216, 60, .inl (fun j : Nat => zI (a12_labelled (j : Int))))), (q_1217, .inl (cA_1217, 60, .inl (fun j : Nat => zI (a12_goalPlace (j : Int)))))] sz) := by
  refine Met.ofW (cc := cX7_checkGoals) (maxL := 3) (ret := none) (by decide) rfl ?_
  intro p e s m args below meth c s₁ B hml hv
  obtain ⟨rfl, hsz, hP, hK, hD0⟩ := hv
  have hx := B.exec
  have hb := B.bytes
  have hr := B.returns
  have hts := atoms_spec (ws := v_X7_checkGoals) B.pre
  have hown : s.vm.findClass RX7 = some m.cls := findClass_of_methodNamed B.named
  have hlocks := B.notSynchronized
  have ow : ∀ {k : Nat} {w : Cond}, o_X7_checkGoals[k]? = some w → w.before ([.ref h0] : List Value).toArray s = true := fun h => hts _ (mow_X7_checkGoals _ (List.mem_of_getElem? h))
  subst hsz
  have hD := hD0.self (sz := s.heap.size)
  generalize hAe : va_A [(h0, .inr (7, [.int (zI (z12_reason)), v12_1, v12_2, v12_3, v12_4, v12_5, v12_6, v12_7, v12_8, v12_9, .int (zI (z12_blockCount)), v12_11, v12_12, v12_13, v12_14, .int (zI (z12_brokenPlace)), .ref q_1216, .ref q_1217])), (q_1216, .inl (cA_1216, 60, .inl (fun j : Nat => zI (a12_labelled (j : Int))))), (q_1217, .inl (cA_1217, 60, .inl (fun j : Nat => zI (a12_goalPlace (j : Int)))))] s.heap.size = A at hD ⊢
  have hA : ∀ q : Nat, s.heap.size ≤ q → A q := fun q h => by rw [← hAe]; exact Or.inr h
  have hS : va_S A s.heap s.heap [] := va_S.rf
  have hP : va_P (dC, dI) vwP [(h0, .inr (7, [.int (zI (z12_reason)), v12_1, v12_2, v12_3, v12_4, v12_5, v12_6, v12_7, v12_8, v12_9, .int (zI (z12_blockCount)), v12_11, v12_12, v12_13, v12_14, .int (zI (z12_brokenPlace)), .ref q_1216, .ref q_1217])), (q_1216, .inl (cA_1216, 60, .inl (fun j : Nat => zI (a12_labelled (j : Int))))), (q_1217, .inl (cA_1217, 60, .inl (fun j : Nat => zI (a12_goalPlace (j : Int)))))] s.heap := hP
  have hl := lv_entry ([.ref h0]) (n := 3) (Nat.le_of_ble_eq_true rfl)
  rw [lg_entry_eq]
  generalize (lg_sl ([.ref h0]) ++ List.replicate (3 - (lg_sl ([.ref h0])).length) Slot.unset).toArray = ls at hl ⊢
  have hl : lv_has ls 3 [(0, .ref h0)] := hl
  obtain ⟨H, hH⟩ : ∃ H, H = s.heap := ⟨_, rfl⟩
  rw [← hH] at hP
  have hS : va_S A s.heap H [] := by rw [hH]; exact hS
  rw [← hH]
  refine zW_cap (fun Q hQ => ?_)
  refine lv_iconst (v := 0) hx hb dX7_checkGoals_0 (by decide) ?_
  refine lv_istore_n (lv' := [(1, .int 0), (0, .ref h0)]) hx hb dX7_checkGoals_1 rfl hl (by decide) rfl (fun ls hl => ?_)
  have key2 : ∀ n2 : Nat, ∀ (d2_1 : Int) (e2_0_0 : Int) (e2_0_15 : Int) (ls : Array Slot) (H : Heap) (locs : List Loc), (0 ≤ d2_1 ∧ d2_1 ≤ 60) → (0 ≤ e2_0_0 ∧ e2_0_0 ≤ 4) → (-1 ≤ e2_0_15 ∧ e2_0_15 ≤ 8200) → (e2_0_15 < 0 → z12_brokenPlace < 0 ∧ ∀ x : Int, 0 ≤ x → x < d2_1 → 0 ≤ a12_goalPlace x → ¬ x = 0 ∧ (¬ a12_labelled x = 0 ∨ x < z12_blockCount)) → (((60) - (d2_1) : Int).toNat) < n2 → lv_has ls 3 [(0, .ref h0), (1, .int (zI (d2_1)))] → va_P (dC, dI) vwP [(h0, .inr (7, [.int (zI (e2_0_0)), v12_1, v12_2, v12_3, v12_4, v12_5, v12_6, v12_7, v12_8, v12_9, .int (zI (z12_blockCount)), v12_11, v12_12, v12_13, v12_14, .int (zI (e2_0_15)), .ref q_1216, .ref q_1217])), (q_1216, .inl (cA_1216, 60, .inl (fun j : Nat => zI (a12_labelled (j : Int))))), (q_1217, .inl (cA_1217, 60, .inl (fun j : Nat => zI (a12_goalPlace (j : Int)))))] H → va_D A [(h0, .inr (7, [.int (zI (e2_0_0)), v12_1, v12_2, v12_3, v12_4, v12_5, v12_6, v12_7, v12_8, v12_9, .int (zI (z12_blockCount)), v12_11, v12_12, v12_13, v12_14, .int (zI (e2_0_15)), .ref q_1216, .ref q_1217])), (q_1216, .inl (cA_1216, 60, .inl (fun j : Nat => zI (a12_labelled (j : Int))))), (q_1217, .inl (cA_1217, 60, .inl (fun j : Nat => zI (a12_goalPlace (j : Int)))))] → va_S A s.heap H locs → W p l e (headSpec v_X7_checkGoals ({ frames := 1, cells := 0, slots := 0, locals := 21 })).room s m ([.ref h0] : List Value).toArray below meth c H locs 0 0 Q (F0 m 2 ls []) := by
    intro n2
    induction n2 with
    | zero => intro d2_1 e2_0_0 e2_0_15 ls H locs jd2_1 je2_0_0 je2_0_15 jC hm2; exact absurd hm2 (by omega)
    | succ n2 ih2 =>
      intro d2_1 e2_0_0 e2_0_15 ls H locs jd2_1 je2_0_0 je2_0_15 jC hm2 hl hP hD hS
      refine lv_iload_n hx hb dX7_checkGoals_2 rfl (lv_at hl 1 rfl) ?_
      refine lv_bipush (v := 60) hx hb dX7_checkGoals_3 (by decide) ?_
      refine lv_icmp_ge (tgt := 80) hx hb dX7_checkGoals_5 (by decide) (fun b5 => ?_) (fun b5 => ?_)
      · have yb5 : (60 : Int) ≤ (d2_1 : Int) := (zI_le (a := 60) (b := d2_1) (by omega) (by omega) (by omega) (by omega)).mp b5
        subst hQ
        refine W.widen (k := 0) (n := 0) (Nat.le_of_ble_eq_true rfl) (Nat.le_of_ble_eq_true rfl) ?_
        exact W.vret hx hb hr (fun t ht hW => ⟨⟨(), rfl, trivial, e2_0_0, e2_0_15, ⟨(by omega), (by omega), (fun q => ⟨(jC q).1, fun x h1 h2 h3 => (jC q).2 x h1 (by omega) h3⟩)⟩, by rw [ht]; exact hP, va_K.moved hW.alike hK, hD⟩, hS.F ht⟩) hS.2.2 dX7_checkGoals_80
      · have yb5 : ¬ (60 : Int) ≤ (d2_1 : Int) := fun q => b5 ((zI_le (a := 60) (b := d2_1) (by omega) (by omega) (by omega) (by omega)).mpr q)
        refine lv_aload_n hx hb dX7_checkGoals_8 rfl (lv_at hl 0 rfl) ?_
        refine va_get (D := (dC, dI)) (ci := 7) (v := .ref q_1217) (C := RX7) (T := TX7) (N := 18) hx hb hts mem_X7_checkGoals_0 hown hK hP 0 rfl rfl 17 (by decide) (ow (k := 0) rfl) (fun _ h9 => h9) rfl dX7_checkGoals_9 ?_
        refine lv_iload_n hx hb dX7_checkGoals_12 rfl (lv_at hl 1 rfl) ?_
        refine va_iald hx hb hK hP 2 1 rfl rfl (zI_in (a := d2_1) (n := 60) (by omega) (by omega) (by decide)) dX7_checkGoals_13 ?_
        refine lv_topi (fun z ez => ?_)
        obtain rfl : z = zI (a12_goalPlace (d2_1)) := ez.trans (zI_ld (a12_goalPlace) (by omega) (by omega))
        have k1 := hR_a12_goalPlace (d2_1)
        refine lv_if_lt (tgt := 33) hx hb dX7_checkGoals_14 (by decide) (fun b14 => ?_) (fun b14 => ?_)
        · have yb14 : (a12_goalPlace (d2_1) : Int) < (0 : Int) := (zI_lt (a := a12_goalPlace (d2_1)) (b := 0) (by omega) (by omega) (by omega) (by omega)).mp b14
          refine lv_iconst (v := 0) hx hb dX7_checkGoals_33 (by decide) ?_
          refine lv_istore_n (lv' := [(2, .int 0), (0, .ref h0), (1, .int (zI (d2_1)))]) hx hb dX7_checkGoals_34 rfl hl (by decide) rfl (fun ls hl => ?_)
          refine lv_iload_n hx hb dX7_checkGoals_35 rfl (lv_at hl 0 rfl) ?_
          refine lv_if_eq (tgt := 74) hx hb dX7_checkGoals_36 (by decide) (fun _ => ?_) (fun h9 => absurd h9 (by decide))
          refine lv_iinc (v := zI (d2_1 + 1)) (lv' := [(1, .int (zI (d2_1 + 1))), (2, .int 0), (0, .ref h0)]) hx hb dX7_checkGoals_74 hl (k := 2) rfl (zI_add (d2_1) (1)) (by decide) rfl (fun ls hl => ?_)
          refine lv_goto (tgt := 2) hx hb dX7_checkGoals_77 (by decide) ?_
          exact ih2 (d2_1 + 1) e2_0_0 e2_0_15 ls H _ (by omega) (by omega) (by omega) (fun q => ⟨(jC (by omega)).1, fun x h1 h2 h3 => by by_cases e9 : x = d2_1; (rw [e9] at h3 ⊢; omega); exact (jC (by omega)).2 x h1 (by omega) h3⟩) (by omega) (lv_sub hl [2, 0] rfl) hP hD hS
        · have yb14 : ¬ (a12_goalPlace (d2_1) : Int) < (0 : Int) := fun q => b14 ((zI_lt (a := a12_goalPlace (d2_1)) (b := 0) (by omega) (by omega) (by omega) (by omega)).mpr q)
          refine lv_iload_n hx hb dX7_checkGoals_17 rfl (lv_at hl 1 rfl) ?_
          refine lv_if_eq (tgt := 29) hx hb dX7_checkGoals_18 (by decide) (fun b18 => ?_) (fun b18 => ?_)
          · have yb18 : (d2_1 : Int) = (0 : Int) := (zI_eq (a := d2_1) (b := 0) (by omega) (by omega) (by omega) (by omega)).mp b18
            refine lv_iconst (v := 1) hx hb dX7_checkGoals_29 (by decide) ?_
            refine lv_goto (tgt := 34) hx hb dX7_checkGoals_30 (by decide) ?_
            refine lv_istore_n (lv' := [(2, .int 1), (0, .ref h0), (1, .int (zI (d2_1)))]) hx hb dX7_checkGoals_34 rfl hl (by decide) rfl (fun ls hl => ?_)
            refine lv_iload_n hx hb dX7_checkGoals_35 rfl (lv_at hl 0 rfl) ?_
            refine lv_if_eq (tgt := 74) hx hb dX7_checkGoals_36 (by decide) (fun h9 => absurd h9 (by decide)) (fun _ => ?_)
            refine lv_aload_n hx hb dX7_checkGoals_39 rfl (lv_at hl 1 rfl) ?_
            refine va_get (D := (dC, dI)) (ci := 7) (v := .int (zI (e2_0_15))) (C := RX7) (T := TX7) (N := 18) hx hb hts mem_X7_checkGoals_0 hown hK hP 0 rfl rfl 15 (by decide) (ow (k := 1) rfl) (fun _ h9 => h9) rfl dX7_checkGoals_40 ?_
            refine lv_if_lt (tgt := 59) hx hb dX7_checkGoals_43 (by decide) (fun b43 => ?_) (fun b43 => ?_)
            · have yb43 : (e2_0_15 : Int) < (0 : Int) := (zI_lt (a := e2_0_15) (b := 0) (by omega) (by omega) (by omega) (by omega)).mp b43
              refine lv_aload_n hx hb dX7_checkGoals_59 rfl (lv_at hl 1 rfl) ?_
              refine lv_aload_n hx hb dX7_checkGoals_60 rfl (lv_at hl 1 rfl) ?_
              refine va_get (D := (dC, dI)) (ci := 7) (v := .ref q_1217) (C := RX7) (T := TX7) (N := 18) hx hb hts mem_X7_checkGoals_0 hown hK hP 0 rfl rfl 17 (by decide) (ow (k := 0) rfl) (fun _ h9 => h9) rfl dX7_checkGoals_61 ?_
              refine lv_iload_n hx hb dX7_checkGoals_64 rfl (lv_at hl 2 rfl) ?_
              refine va_iald hx hb hK hP 2 1 rfl rfl (zI_in (a := d2_1) (n := 60) (by omega) (by omega) (by decide)) dX7_checkGoals_65 ?_
              refine lv_topi (fun z ez => ?_)
              obtain rfl : z = zI (a12_goalPlace (d2_1)) := ez.trans (zI_ld (a12_goalPlace) (by omega) (by omega))
              have k2 := hR_a12_goalPlace (d2_1)
              refine va_put (D := (dC, dI)) (ci := 7) (v := .int (zI (a12_goalPlace (d2_1)))) (ty := .int) (C := RX7) (T := TX7) (N := 18) hx hb hts mem_X7_checkGoals_0 tyX7 tyX7_ok nmX7 hown hK hP hD hS 0 rfl rfl 15 (by decide) (ow (k := 1) rfl) (fun _ h9 => h9) rfl (by decide +kernel) rfl rfl (Nat.le_of_ble_eq_true rfl) dX7_checkGoals_66 (fun H locs hP hD hS => ?_)
              have hP : va_P (dC, dI) vwP [(h0, .inr (7, [.int (zI (e2_0_0)), v12_1, v12_2, v12_3, v12_4, v12_5, v12_6, v12_7, v12_8, v12_9, .int (zI (z12_blockCount)), v12_11, v12_12, v12_13, v12_14, .int (zI (a12_goalPlace (d2_1))), .ref q_1216, .ref q_1217])), (q_1216, .inl (cA_1216, 60, .inl (fun j : Nat => zI (a12_labelled (j : Int))))), (q_1217, .inl (cA_1217, 60, .inl (fun j : Nat => zI (a12_goalPlace (j : Int)))))] H := hP
              have hD : va_D A [(h0, .inr (7, [.int (zI (e2_0_0)), v12_1, v12_2, v12_3, v12_4, v12_5, v12_6, v12_7, v12_8, v12_9, .int (zI (z12_blockCount)), v12_11, v12_12, v12_13, v12_14, .int (zI (a12_goalPlace (d2_1))), .ref q_1216, .ref q_1217])), (q_1216, .inl (cA_1216, 60, .inl (fun j : Nat => zI (a12_labelled (j : Int))))), (q_1217, .inl (cA_1217, 60, .inl (fun j : Nat => zI (a12_goalPlace (j : Int)))))] := hD
              obtain ⟨z_2001, ez_2001⟩ : ∃ z9 : Int, z9 = a12_goalPlace (d2_1) := ⟨_, rfl⟩
              rw [← ez_2001] at hP hD
              have hP : va_P (dC, dI) vwP [(h0, .inr (7, [.int (zI (e2_0_0)), v12_1, v12_2, v12_3, v12_4, v12_5, v12_6, v12_7, v12_8, v12_9, .int (zI (z12_blockCount)), v12_11, v12_12, v12_13, v12_14, .int (zI (z_2001)), .ref q_1216, .ref q_1217])), (q_1216, .inl (cA_1216, 60, .inl (fun j : Nat => zI (a12_labelled (j : Int))))), (q_1217, .inl (cA_1217, 60, .inl (fun j : Nat => zI (a12_goalPlace (j : Int)))))] H := hP
              have hD : va_D A [(h0, .inr (7, [.int (zI (e2_0_0)), v12_1, v12_2, v12_3, v12_4, v12_5, v12_6, v12_7, v12_8, v12_9, .int (zI (z12_blockCount)), v12_11, v12_12, v12_13, v12_14, .int (zI (z_2001)), .ref q_1216, .ref q_1217])), (q_1216, .inl (cA_1216, 60, .inl (fun j : Nat => zI (a12_labelled (j : Int))))), (q_1217, .inl (cA_1217, 60, .inl (fun j : Nat => zI (a12_goalPlace (j : Int)))))] := hD
              refine lv_aload_n hx hb dX7_checkGoals_69 rfl (lv_at hl 1 rfl) ?_
              refine lv_iconst (v := 3) hx hb dX7_checkGoals_70 (by decide) ?_
              refine va_put (D := (dC, dI)) (ci := 7) (v := .int 3) (ty := .int) (C := RX7) (T := TX7) (N := 18) hx hb hts mem_X7_checkGoals_0 tyX7 tyX7_ok nmX7 hown hK hP hD hS 0 rfl rfl 0 (by decide) (ow (k := 2) rfl) (fun _ h9 => h9) rfl (by decide +kernel) rfl rfl (Nat.le_of_ble_eq_true rfl) dX7_checkGoals_71 (fun H locs hP hD hS => ?_)
              have hP : va_P (dC, dI) vwP [(h0, .inr (7, [.int 3, v12_1, v12_2, v12_3, v12_4, v12_5, v12_6, v12_7, v12_8, v12_9, .int (zI (z12_blockCount)), v12_11, v12_12, v12_13, v12_14, .int (zI (z_2001)), .ref q_1216, .ref q_1217])), (q_1216, .inl (cA_1216, 60, .inl (fun j : Nat => zI (a12_labelled (j : Int))))), (q_1217, .inl (cA_1217, 60, .inl (fun j : Nat => zI (a12_goalPlace (j : Int)))))] H := hP
              have hD : va_D A [(h0, .inr (7, [.int 3, v12_1, v12_2, v12_3, v12_4, v12_5, v12_6, v12_7, v12_8, v12_9, .int (zI (z12_blockCount)), v12_11, v12_12, v12_13, v12_14, .int (zI (z_2001)), .ref q_1216, .ref q_1217])), (q_1216, .inl (cA_1216, 60, .inl (fun j : Nat => zI (a12_labelled (j : Int))))), (q_1217, .inl (cA_1217, 60, .inl (fun j : Nat => zI (a12_goalPlace (j : Int)))))] := hD
              refine lv_iinc (v := zI (d2_1 + 1)) (lv' := [(1, .int (zI (d2_1 + 1))), (2, .int 1), (0, .ref h0)]) hx hb dX7_checkGoals_74 hl (k := 2) rfl (zI_add (d2_1) (1)) (by decide) rfl (fun ls hl => ?_)
              refine lv_goto (tgt := 2) hx hb dX7_checkGoals_77 (by decide) ?_
              exact ih2 (d2_1 + 1) 3 z_2001 ls H _ (by omega) (by omega) (by omega) (fun q => ⟨(jC (by omega)).1, fun x h1 h2 h3 => by by_cases e9 : x = d2_1; (rw [e9] at h3 ⊢; omega); exact (jC (by omega)).2 x h1 (by omega) h3⟩) (by omega) (lv_sub hl [2, 0] rfl) hP hD hS
            · have yb43 : ¬ (e2_0_15 : Int) < (0 : Int) := fun q => b43 ((zI_lt (a := e2_0_15) (b := 0) (by omega) (by omega) (by omega) (by omega)).mpr q)
              refine lv_aload_n hx hb dX7_checkGoals_46 rfl (lv_at hl 1 rfl) ?_
              refine va_get (D := (dC, dI)) (ci := 7) (v := .ref q_1217) (C := RX7) (T := TX7) (N := 18) hx hb hts mem_X7_checkGoals_0 hown hK hP 0 rfl rfl 17 (by decide) (ow (k := 0) rfl) (fun _ h9 => h9) rfl dX7_checkGoals_47 ?_
              refine lv_iload_n hx hb dX7_checkGoals_50 rfl (lv_at hl 2 rfl) ?_
              refine va_iald hx hb hK hP 2 1 rfl rfl (zI_in (a := d2_1) (n := 60) (by omega) (by omega) (by decide)) dX7_checkGoals_51 ?_
              refine lv_topi (fun z ez => ?_)
              obtain rfl : z = zI (a12_goalPlace (d2_1)) := ez.trans (zI_ld (a12_goalPlace) (by omega) (by omega))
              have k3 := hR_a12_goalPlace (d2_1)
              refine lv_aload_n hx hb dX7_checkGoals_52 rfl (lv_at hl 1 rfl) ?_
              refine va_get (D := (dC, dI)) (ci := 7) (v := .int (zI (e2_0_15))) (C := RX7) (T := TX7) (N := 18) hx hb hts mem_X7_checkGoals_0 hown hK hP 0 rfl rfl 15 (by decide) (ow (k := 1) rfl) (fun _ h9 => h9) rfl dX7_checkGoals_53 ?_
              refine lv_icmp_ge (tgt := 74) hx hb dX7_checkGoals_56 (by decide) (fun b56 => ?_) (fun b56 => ?_)
              · have yb56 : (e2_0_15 : Int) ≤ (a12_goalPlace (d2_1) : Int) := (zI_le (a := e2_0_15) (b := a12_goalPlace (d2_1)) (by omega) (by omega) (by omega) (by omega)).mp b56
                refine lv_iinc (v := zI (d2_1 + 1)) (lv' := [(1, .int (zI (d2_1 + 1))), (2, .int 1), (0, .ref h0)]) hx hb dX7_checkGoals_74 hl (k := 2) rfl (zI_add (d2_1) (1)) (by decide) rfl (fun ls hl => ?_)
                refine lv_goto (tgt := 2) hx hb dX7_checkGoals_77 (by decide) ?_
                exact ih2 (d2_1 + 1) e2_0_0 e2_0_15 ls H _ (by omega) (by omega) (by omega) (fun q => ⟨(jC (by omega)).1, fun x h1 h2 h3 => by by_cases e9 : x = d2_1; (rw [e9] at h3 ⊢; omega); exact (jC (by omega)).2 x h1 (by omega) h3⟩) (by omega) (lv_sub hl [2, 0] rfl) hP hD hS
              · have yb56 : ¬ (e2_0_15 : Int) ≤ (a12_goalPlace (d2_1) : Int) := fun q => b56 ((zI_le (a := e2_0_15) (b := a12_goalPlace (d2_1)) (by omega) (by omega) (by omega) (by omega)).mpr q)
                refine lv_aload_n hx hb dX7_checkGoals_59 rfl (lv_at hl 1 rfl) ?_
                refine lv_aload_n hx hb dX7_checkGoals_60 rfl (lv_at hl 1 rfl) ?_
                refine va_get (D := (dC, dI)) (ci := 7) (v := .ref q_1217) (C := RX7) (T := TX7) (N := 18) hx hb hts mem_X7_checkGoals_0 hown hK hP 0 rfl rfl 17 (by decide) (ow (k := 0) rfl) (fun _ h9 => h9) rfl dX7_checkGoals_61 ?_
                refine lv_iload_n hx hb dX7_checkGoals_64 rfl (lv_at hl 2 rfl) ?_
                refine va_iald hx hb hK hP 2 1 rfl rfl (zI_in (a := d2_1) (n := 60) (by omega) (by omega) (by decide)) dX7_checkGoals_65 ?_
                refine lv_topi (fun z ez => ?_)
                obtain rfl : z = zI (a12_goalPlace (d2_1)) := ez.trans (zI_ld (a12_goalPlace) (by omega) (by omega))
                have k4 := hR_a12_goalPlace (d2_1)
                refine va_put (D := (dC, dI)) (ci := 7) (v := .int (zI (a12_goalPlace (d2_1)))) (ty := .int) (C := RX7) (T := TX7) (N := 18) hx hb hts mem_X7_checkGoals_0 tyX7 tyX7_ok nmX7 hown hK hP hD hS 0 rfl rfl 15 (by decide) (ow (k := 1) rfl) (fun _ h9 => h9) rfl (by decide +kernel) rfl rfl (Nat.le_of_ble_eq_true rfl) dX7_checkGoals_66 (fun H locs hP hD hS => ?_)
                have hP : va_P (dC, dI) vwP [(h0, .inr (7, [.int (zI (e2_0_0)), v12_1, v12_2, v12_3, v12_4, v12_5, v12_6, v12_7, v12_8, v12_9, .int (zI (z12_blockCount)), v12_11, v12_12, v12_13, v12_14, .int (zI (a12_goalPlace (d2_1))), .ref q_1216, .ref q_1217])), (q_1216, .inl (cA_1216, 60, .inl (fun j : Nat => zI (a12_labelled (j : Int))))), (q_1217, .inl (cA_1217, 60, .inl (fun j : Nat => zI (a12_goalPlace (j : Int)))))] H := hP
                have hD : va_D A [(h0, .inr (7, [.int (zI (e2_0_0)), v12_1, v12_2, v12_3, v12_4, v12_5, v12_6, v12_7, v12_8, v12_9, .int (zI (z12_blockCount)), v12_11, v12_12, v12_13, v12_14, .int (zI (a12_goalPlace (d2_1))), .ref q_1216, .ref q_1217])), (q_1216, .inl (cA_1216, 60, .inl (fun j : Nat => zI (a12_labelled (j : Int))))), (q_1217, .inl (cA_1217, 60, .inl (fun j : Nat => zI (a12_goalPlace (j : Int)))))] := hD
                obtain ⟨z_2002, ez_2002⟩ : ∃ z9 : Int, z9 = a12_goalPlace (d2_1) := ⟨_, rfl⟩
                rw [← ez_2002] at hP hD
                have hP : va_P (dC, dI) vwP [(h0, .inr (7, [.int (zI (e2_0_0)), v12_1, v12_2, v12_3, v12_4, v12_5, v12_6, v12_7, v12_8, v12_9, .int (zI (z12_blockCount)), v12_11, v12_12, v12_13, v12_14, .int (zI (z_2002)), .ref q_1216, .ref q_1217])), (q_1216, .inl (cA_1216, 60, .inl (fun j : Nat => zI (a12_labelled (j : Int))))), (q_1217, .inl (cA_1217, 60, .inl (fun j : Nat => zI (a12_goalPlace (j : Int)))))] H := hP
                have hD : va_D A [(h0, .inr (7, [.int (zI (e2_0_0)), v12_1, v12_2, v12_3, v12_4, v12_5, v12_6, v12_7, v12_8, v12_9, .int (zI (z12_blockCount)), v12_11, v12_12, v12_13, v12_14, .int (zI (z_2002)), .ref q_1216, .ref q_1217])), (q_1216, .inl (cA_1216, 60, .inl (fun j : Nat => zI (a12_labelled (j : Int))))), (q_1217, .inl (cA_1217, 60, .inl (fun j : Nat => zI (a12_goalPlace (j : Int)))))] := hD
                refine lv_aload_n hx hb dX7_checkGoals_69 rfl (lv_at hl 1 rfl) ?_
                refine lv_iconst (v := 3) hx hb dX7_checkGoals_70 (by decide) ?_
                refine va_put (D := (dC, dI)) (ci := 7) (v := .int 3) (ty := .int) (C := RX7) (T := TX7) (N := 18) hx hb hts mem_X7_checkGoals_0 tyX7 tyX7_ok nmX7 hown hK hP hD hS 0 rfl rfl 0 (by decide) (ow (k := 2) rfl) (fun _ h9 => h9) rfl (by decide +kernel) rfl rfl (Nat.le_of_ble_eq_true rfl) dX7_checkGoals_71 (fun H locs hP hD hS => ?_)
                have hP : va_P (dC, dI) vwP [(h0, .inr (7, [.int 3, v12_1, v12_2, v12_3, v12_4, v12_5, v12_6, v12_7, v12_8, v12_9, .int (zI (z12_blockCount)), v12_11, v12_12, v12_13, v12_14, .int (zI (z_2002)), .ref q_1216, .ref q_1217])), (q_1216, .inl (cA_1216, 60, .inl (fun j : Nat => zI (a12_labelled (j : Int))))), (q_1217, .inl (cA_1217, 60, .inl (fun j : Nat => zI (a12_goalPlace (j : Int)))))] H := hP
                have hD : va_D A [(h0, .inr (7, [.int 3, v12_1, v12_2, v12_3, v12_4, v12_5, v12_6, v12_7, v12_8, v12_9, .int (zI (z12_blockCount)), v12_11, v12_12, v12_13, v12_14, .int (zI (z_2002)), .ref q_1216, .ref q_1217])), (q_1216, .inl (cA_1216, 60, .inl (fun j : Nat => zI (a12_labelled (j : Int))))), (q_1217, .inl (cA_1217, 60, .inl (fun j : Nat => zI (a12_goalPlace (j : Int)))))] := hD
                refine lv_iinc (v := zI (d2_1 + 1)) (lv' := [(1, .int (zI (d2_1 + 1))), (2, .int 1), (0, .ref h0)]) hx hb dX7_checkGoals_74 hl (k := 2) rfl (zI_add (d2_1) (1)) (by decide) rfl (fun ls hl => ?_)
                refine lv_goto (tgt := 2) hx hb dX7_checkGoals_77 (by decide) ?_
                exact ih2 (d2_1 + 1) 3 z_2002 ls H _ (by omega) (by omega) (by omega) (fun q => ⟨(jC (by omega)).1, fun x h1 h2 h3 => by by_cases e9 : x = d2_1; (rw [e9] at h3 ⊢; omega); exact (jC (by omega)).2 x h1 (by omega) h3⟩) (by omega) (lv_sub hl [2, 0] rfl) hP hD hS
          · have yb18 : ¬ (d2_1 : Int) = (0 : Int) := fun q => b18 ((zI_eq (a := d2_1) (b := 0) (by omega) (by omega) (by omega) (by omega)).mpr q)
            refine lv_aload_n hx hb dX7_checkGoals_21 rfl (lv_at hl 0 rfl) ?_
            refine lv_iload_n hx hb dX7_checkGoals_22 rfl (lv_at hl 1 rfl) ?_
            have hPc := hP.sub (ws' := [(h0, .inr (7, [.int (zI (e2_0_0)), v12_1, v12_2, v12_3, v12_4, v12_5, v12_6, v12_7, v12_8, v12_9, .int (zI (z12_blockCount)), v12_11, v12_12, v12_13, v12_14, .int (zI (e2_0_15)), .ref q_1216, .ref q_1217])), (q_1216, .inl (cA_1216, 60, .inl (fun j : Nat => zI (a12_labelled (j : Int)))))]) [0, 1] rfl
            have hDc := hD.sub (ws' := [(h0, .inr (7, [.int (zI (e2_0_0)), v12_1, v12_2, v12_3, v12_4, v12_5, v12_6, v12_7, v12_8, v12_9, .int (zI (z12_blockCount)), v12_11, v12_12, v12_13, v12_14, .int (zI (e2_0_15)), .ref q_1216, .ref q_1217])), (q_1216, .inl (cA_1216, 60, .inl (fun j : Nat => zI (a12_labelled (j : Int)))))]) [0, 1] (by decide) rfl
            have hKc := hK.sub (tys' := [(cA_1216, .boolean)]) [0] rfl
            have hFc := va_free (wc := [(h0, .inr (7, [.int (zI (e2_0_0)), v12_1, v12_2, v12_3, v12_4, v12_5, v12_6, v12_7, v12_8, v12_9, .int (zI (z12_blockCount)), v12_11, v12_12, v12_13, v12_14, .int (zI (e2_0_15)), .ref q_1216, .ref q_1217])), (q_1216, .inl (cA_1216, 60, .inl (fun j : Nat => zI (a12_labelled (j : Int)))))]) hD hS hA [0, 1] rfl
            refine va_calli (va_runV (As := [.int (zI (d2_1))]) (rest := []) ⟨hx, hb, hml, hown, hts⟩ (c_X7_isBlocks l dC dI h0 (.int (zI (e2_0_0))) v12_1 v12_2 v12_3 v12_4 v12_5 v12_6 v12_7 v12_8 v12_9 z12_blockCount v12_11 v12_12 v12_13 v12_14 (.int (zI (e2_0_15))) q_1216 cA_1216 a12_labelled (.ref q_1217) d2_1 (by omega) hR_a12_labelled (by omega) H.size) (cwV 1 hts g_X7_checkGoals_X7_isBlocks rfl rfl rfl (by decide +kernel) ⟨(Nat.le_of_ble_eq_true rfl), (Nat.le_of_ble_eq_true rfl)⟩) ⟨fun a U g mk q => by obtain ⟨q0, q1, qP, qK, qD⟩ := q; exact ⟨q0, q1, qP, va_K.moved (u := U) (U := U.calling g mk a) (Vm.Alike.refl U.vm) qK, qD⟩, va_recv hKc hPc (ci := 7) (q0 := 0) rfl rfl, fun U hU hW => ⟨rfl, by rw [hU], by rw [hU]; exact hPc, va_K.moved hW.alike hKc, hDc.weaken (fun _ _ _ _ => trivial)⟩⟩ rfl rfl hl.1 rfl (lv_room (Nat.le_of_ble_eq_true rfl)) dX7_checkGoals_23 ⟨(Nat.le_of_ble_eq_true rfl), (Nat.le_of_ble_eq_true rfl)⟩) hS (fun q _ h => hFc q h) hFc (fun r_2003 u t H1 locs ht hvm hw hB hz1 hk1 hS => ?_)
            obtain ⟨hP1, hK1, hD1⟩ := hB
            rw [ht] at hP1
            have hK1 := va_K.moved hvm.symm hK1
            obtain ⟨hP, hD⟩ := va_join (wr := [(q_1217, .inl (cA_1217, 60, .inl (fun j : Nat => zI (a12_goalPlace (j : Int)))))]) (w1 := [(h0, .inr (7, [.int (zI (e2_0_0)), v12_1, v12_2, v12_3, v12_4, v12_5, v12_6, v12_7, v12_8, v12_9, .int (zI (z12_blockCount)), v12_11, v12_12, v12_13, v12_14, .int (zI (e2_0_15)), .ref q_1216, .ref q_1217])), (q_1216, .inl (cA_1216, 60, .inl (fun j : Nat => zI (a12_labelled (j : Int)))))]) hP hD [0, 1] [2] rfl rfl (by decide) (by decide) hk1 hFc hP1 hD1
            have hK := (hK.sub (tys' := [(cA_1217, .int)]) [1] rfl).app hK1
            generalize H1 = H at hP hS ⊢
            have hP : va_P (dC, dI) vwP [(q_1217, .inl (cA_1217, 60, .inl (fun j : Nat => zI (a12_goalPlace (j : Int))))), (h0, .inr (7, [.int (zI (e2_0_0)), v12_1, v12_2, v12_3, v12_4, v12_5, v12_6, v12_7, v12_8, v12_9, .int (zI (z12_blockCount)), v12_11, v12_12, v12_13, v12_14, .int (zI (e2_0_15)), .ref q_1216, .ref q_1217])), (q_1216, .inl (cA_1216, 60, .inl (fun j : Nat => zI (a12_labelled (j : Int)))))] H := hP
            have hD : va_D A [(q_1217, .inl (cA_1217, 60, .inl (fun j : Nat => zI (a12_goalPlace (j : Int))))), (h0, .inr (7, [.int (zI (e2_0_0)), v12_1, v12_2, v12_3, v12_4, v12_5, v12_6, v12_7, v12_8, v12_9, .int (zI (z12_blockCount)), v12_11, v12_12, v12_13, v12_14, .int (zI (e2_0_15)), .ref q_1216, .ref q_1217])), (q_1216, .inl (cA_1216, 60, .inl (fun j : Nat => zI (a12_labelled (j : Int)))))] := hD
            have hK : va_K (dC, dI) vwP [(cA_1217, .int), (cA_1216, .boolean)] s := hK
            refine W.widen (k := 0) (n := 0) (Nat.le_of_ble_eq_true rfl) (Nat.le_of_ble_eq_true rfl) ?_
            have hw_2004 := hw
            obtain ⟨z_2005, rfl, hzz_2005⟩ := hw_2004
            refine lv_if_ne (tgt := 33) hx hb dX7_checkGoals_26 (by decide) (fun b26 => ?_) (fun b26 => ?_)
            · have yb26 : ¬ (z_2005 : Int) = (0 : Int) := fun q => b26 ((zI_eq (a := z_2005) (b := 0) (by omega) (by omega) (by omega) (by omega)).mpr q)
              refine lv_iconst (v := 0) hx hb dX7_checkGoals_33 (by decide) ?_
              refine lv_istore_n (lv' := [(2, .int 0), (0, .ref h0), (1, .int (zI (d2_1)))]) hx hb dX7_checkGoals_34 rfl hl (by decide) rfl (fun ls hl => ?_)
              refine lv_iload_n hx hb dX7_checkGoals_35 rfl (lv_at hl 0 rfl) ?_
              refine lv_if_eq (tgt := 74) hx hb dX7_checkGoals_36 (by decide) (fun _ => ?_) (fun h9 => absurd h9 (by decide))
              refine lv_iinc (v := zI (d2_1 + 1)) (lv' := [(1, .int (zI (d2_1 + 1))), (2, .int 0), (0, .ref h0)]) hx hb dX7_checkGoals_74 hl (k := 2) rfl (zI_add (d2_1) (1)) (by decide) rfl (fun ls hl => ?_)
              refine lv_goto (tgt := 2) hx hb dX7_checkGoals_77 (by decide) ?_
              have hP := hP.sub (ws' := [(h0, .inr (7, [.int (zI (e2_0_0)), v12_1, v12_2, v12_3, v12_4, v12_5, v12_6, v12_7, v12_8, v12_9, .int (zI (z12_blockCount)), v12_11, v12_12, v12_13, v12_14, .int (zI (e2_0_15)), .ref q_1216, .ref q_1217])), (q_1216, .inl (cA_1216, 60, .inl (fun j : Nat => zI (a12_labelled (j : Int))))), (q_1217, .inl (cA_1217, 60, .inl (fun j : Nat => zI (a12_goalPlace (j : Int)))))]) [1, 2, 0] rfl
              have hD := hD.sub (ws' := [(h0, .inr (7, [.int (zI (e2_0_0)), v12_1, v12_2, v12_3, v12_4, v12_5, v12_6, v12_7, v12_8, v12_9, .int (zI (z12_blockCount)), v12_11, v12_12, v12_13, v12_14, .int (zI (e2_0_15)), .ref q_1216, .ref q_1217])), (q_1216, .inl (cA_1216, 60, .inl (fun j : Nat => zI (a12_labelled (j : Int))))), (q_1217, .inl (cA_1217, 60, .inl (fun j : Nat => zI (a12_goalPlace (j : Int)))))]) [1, 2, 0] (by decide) rfl
              exact ih2 (d2_1 + 1) e2_0_0 e2_0_15 ls H _ (by omega) (by omega) (by omega) (fun q => ⟨(jC (by omega)).1, fun x h1 h2 h3 => by by_cases e9 : x = d2_1; (rw [e9] at h3 ⊢; omega); exact (jC (by omega)).2 x h1 (by omega) h3⟩) (by omega) (lv_sub hl [2, 0] rfl) hP hD hS
            · have yb26 : (z_2005 : Int) = (0 : Int) := (zI_eq (a := z_2005) (b := 0) (by omega) (by omega) (by omega) (by omega)).mp b26
              refine lv_iconst (v := 1) hx hb dX7_checkGoals_29 (by decide) ?_
              refine lv_goto (tgt := 34) hx hb dX7_checkGoals_30 (by decide) ?_
              refine lv_istore_n (lv' := [(2, .int 1), (0, .ref h0), (1, .int (zI (d2_1)))]) hx hb dX7_checkGoals_34 rfl hl (by decide) rfl (fun ls hl => ?_)
              refine lv_iload_n hx hb dX7_checkGoals_35 rfl (lv_at hl 0 rfl) ?_
              refine lv_if_eq (tgt := 74) hx hb dX7_checkGoals_36 (by decide) (fun h9 => absurd h9 (by decide)) (fun _ => ?_)
              refine lv_aload_n hx hb dX7_checkGoals_39 rfl (lv_at hl 1 rfl) ?_
              refine va_get (D := (dC, dI)) (ci := 7) (v := .int (zI (e2_0_15))) (C := RX7) (T := TX7) (N := 18) hx hb hts mem_X7_checkGoals_0 hown hK hP 1 rfl rfl 15 (by decide) (ow (k := 1) rfl) (fun _ h9 => h9) rfl dX7_checkGoals_40 ?_
              refine lv_if_lt (tgt := 59) hx hb dX7_checkGoals_43 (by decide) (fun b43 => ?_) (fun b43 => ?_)
              · have yb43 : (e2_0_15 : Int) < (0 : Int) := (zI_lt (a := e2_0_15) (b := 0) (by omega) (by omega) (by omega) (by omega)).mp b43
                refine lv_aload_n hx hb dX7_checkGoals_59 rfl (lv_at hl 1 rfl) ?_
                refine lv_aload_n hx hb dX7_checkGoals_60 rfl (lv_at hl 1 rfl) ?_
                refine va_get (D := (dC, dI)) (ci := 7) (v := .ref q_1217) (C := RX7) (T := TX7) (N := 18) hx hb hts mem_X7_checkGoals_0 hown hK hP 1 rfl rfl 17 (by decide) (ow (k := 0) rfl) (fun _ h9 => h9) rfl dX7_checkGoals_61 ?_
                refine lv_iload_n hx hb dX7_checkGoals_64 rfl (lv_at hl 2 rfl) ?_
                refine va_iald hx hb hK hP 0 0 rfl rfl (zI_in (a := d2_1) (n := 60) (by omega) (by omega) (by decide)) dX7_checkGoals_65 ?_
                refine lv_topi (fun z ez => ?_)
                obtain rfl : z = zI (a12_goalPlace (d2_1)) := ez.trans (zI_ld (a12_goalPlace) (by omega) (by omega))
                have k5 := hR_a12_goalPlace (d2_1)
                refine va_put (D := (dC, dI)) (ci := 7) (v := .int (zI (a12_goalPlace (d2_1)))) (ty := .int) (C := RX7) (T := TX7) (N := 18) hx hb hts mem_X7_checkGoals_0 tyX7 tyX7_ok nmX7 hown hK hP hD hS 1 rfl rfl 15 (by decide) (ow (k := 1) rfl) (fun _ h9 => h9) rfl (by decide +kernel) rfl rfl (Nat.le_of_ble_eq_true rfl) dX7_checkGoals_66 (fun H locs hP hD hS => ?_)
                have hP : va_P (dC, dI) vwP [(q_1217, .inl (cA_1217, 60, .inl (fun j : Nat => zI (a12_goalPlace (j : Int))))), (h0, .inr (7, [.int (zI (e2_0_0)), v12_1, v12_2, v12_3, v12_4, v12_5, v12_6, v12_7, v12_8, v12_9, .int (zI (z12_blockCount)), v12_11, v12_12, v12_13, v12_14, .int (zI (a12_goalPlace (d2_1))), .ref q_1216, .ref q_1217])), (q_1216, .inl (cA_1216, 60, .inl (fun j : Nat => zI (a12_labelled (j : Int)))))] H := hP
                have hD : va_D A [(q_1217, .inl (cA_1217, 60, .inl (fun j : Nat => zI (a12_goalPlace (j : Int))))), (h0, .inr (7, [.int (zI (e2_0_0)), v12_1, v12_2, v12_3, v12_4, v12_5, v12_6, v12_7, v12_8, v12_9, .int (zI (z12_blockCount)), v12_11, v12_12, v12_13, v12_14, .int (zI (a12_goalPlace (d2_1))), .ref q_1216, .ref q_1217])), (q_1216, .inl (cA_1216, 60, .inl (fun j : Nat => zI (a12_labelled (j : Int)))))] := hD
                obtain ⟨z_2006, ez_2006⟩ : ∃ z9 : Int, z9 = a12_goalPlace (d2_1) := ⟨_, rfl⟩
                rw [← ez_2006] at hP hD
                have hP : va_P (dC, dI) vwP [(q_1217, .inl (cA_1217, 60, .inl (fun j : Nat => zI (a12_goalPlace (j : Int))))), (h0, .inr (7, [.int (zI (e2_0_0)), v12_1, v12_2, v12_3, v12_4, v12_5, v12_6, v12_7, v12_8, v12_9, .int (zI (z12_blockCount)), v12_11, v12_12, v12_13, v12_14, .int (zI (z_2006)), .ref q_1216, .ref q_1217])), (q_1216, .inl (cA_1216, 60, .inl (fun j : Nat => zI (a12_labelled (j : Int)))))] H := hP
                have hD : va_D A [(q_1217, .inl (cA_1217, 60, .inl (fun j : Nat => zI (a12_goalPlace (j : Int))))), (h0, .inr (7, [.int (zI (e2_0_0)), v12_1, v12_2, v12_3, v12_4, v12_5, v12_6, v12_7, v12_8, v12_9, .int (zI (z12_blockCount)), v12_11, v12_12, v12_13, v12_14, .int (zI (z_2006)), .ref q_1216, .ref q_1217])), (q_1216, .inl (cA_1216, 60, .inl (fun j : Nat => zI (a12_labelled (j : Int)))))] := hD
                refine lv_aload_n hx hb dX7_checkGoals_69 rfl (lv_at hl 1 rfl) ?_
                refine lv_iconst (v := 3) hx hb dX7_checkGoals_70 (by decide) ?_
                refine va_put (D := (dC, dI)) (ci := 7) (v := .int 3) (ty := .int) (C := RX7) (T := TX7) (N := 18) hx hb hts mem_X7_checkGoals_0 tyX7 tyX7_ok nmX7 hown hK hP hD hS 1 rfl rfl 0 (by decide) (ow (k := 2) rfl) (fun _ h9 => h9) rfl (by decide +kernel) rfl rfl (Nat.le_of_ble_eq_true rfl) dX7_checkGoals_71 (fun H locs hP hD hS => ?_)
                have hP : va_P (dC, dI) vwP [(q_1217, .inl (cA_1217, 60, .inl (fun j : Nat => zI (a12_goalPlace (j : Int))))), (h0, .inr (7, [.int 3, v12_1, v12_2, v12_3, v12_4, v12_5, v12_6, v12_7, v12_8, v12_9, .int (zI (z12_blockCount)), v12_11, v12_12, v12_13, v12_14, .int (zI (z_2006)), .ref q_1216, .ref q_1217])), (q_1216, .inl (cA_1216, 60, .inl (fun j : Nat => zI (a12_labelled (j : Int)))))] H := hP
                have hD : va_D A [(q_1217, .inl (cA_1217, 60, .inl (fun j : Nat => zI (a12_goalPlace (j : Int))))), (h0, .inr (7, [.int 3, v12_1, v12_2, v12_3, v12_4, v12_5, v12_6, v12_7, v12_8, v12_9, .int (zI (z12_blockCount)), v12_11, v12_12, v12_13, v12_14, .int (zI (z_2006)), .ref q_1216, .ref q_1217])), (q_1216, .inl (cA_1216, 60, .inl (fun j : Nat => zI (a12_labelled (j : Int)))))] := hD
                refine lv_iinc (v := zI (d2_1 + 1)) (lv' := [(1, .int (zI (d2_1 + 1))), (2, .int 1), (0, .ref h0)]) hx hb dX7_checkGoals_74 hl (k := 2) rfl (zI_add (d2_1) (1)) (by decide) rfl (fun ls hl => ?_)
                refine lv_goto (tgt := 2) hx hb dX7_checkGoals_77 (by decide) ?_
                have hP := hP.sub (ws' := [(h0, .inr (7, [.int 3, v12_1, v12_2, v12_3, v12_4, v12_5, v12_6, v12_7, v12_8, v12_9, .int (zI (z12_blockCount)), v12_11, v12_12, v12_13, v12_14, .int (zI (z_2006)), .ref q_1216, .ref q_1217])), (q_1216, .inl (cA_1216, 60, .inl (fun j : Nat => zI (a12_labelled (j : Int))))), (q_1217, .inl (cA_1217, 60, .inl (fun j : Nat => zI (a12_goalPlace (j : Int)))))]) [1, 2, 0] rfl
                have hD := hD.sub (ws' := [(h0, .inr (7, [.int 3, v12_1, v12_2, v12_3, v12_4, v12_5, v12_6, v12_7, v12_8, v12_9, .int (zI (z12_blockCount)), v12_11, v12_12, v12_13, v12_14, .int (zI (z_2006)), .ref q_1216, .ref q_1217])), (q_1216, .inl (cA_1216, 60, .inl (fun j : Nat => zI (a12_labelled (j : Int))))), (q_1217, .inl (cA_1217, 60, .inl (fun j : Nat => zI (a12_goalPlace (j : Int)))))]) [1, 2, 0] (by decide) rfl
                exact ih2 (d2_1 + 1) 3 z_2006 ls H _ (by omega) (by omega) (by omega) (fun q => ⟨(jC (by omega)).1, fun x h1 h2 h3 => by by_cases e9 : x = d2_1; (rw [e9] at h3 ⊢; omega); exact (jC (by omega)).2 x h1 (by omega) h3⟩) (by omega) (lv_sub hl [2, 0] rfl) hP hD hS
              · have yb43 : ¬ (e2_0_15 : Int) < (0 : Int) := fun q => b43 ((zI_lt (a := e2_0_15) (b := 0) (by omega) (by omega) (by omega) (by omega)).mpr q)
                refine lv_aload_n hx hb dX7_checkGoals_46 rfl (lv_at hl 1 rfl) ?_
                refine va_get (D := (dC, dI)) (ci := 7) (v := .ref q_1217) (C := RX7) (T := TX7) (N := 18) hx hb hts mem_X7_checkGoals_0 hown hK hP 1 rfl rfl 17 (by decide) (ow (k := 0) rfl) (fun _ h9 => h9) rfl dX7_checkGoals_47 ?_
                refine lv_iload_n hx hb dX7_checkGoals_50 rfl (lv_at hl 2 rfl) ?_
                refine va_iald hx hb hK hP 0 0 rfl rfl (zI_in (a := d2_1) (n := 60) (by omega) (by omega) (by decide)) dX7_checkGoals_51 ?_
                refine lv_topi (fun z ez => ?_)
                obtain rfl : z = zI (a12_goalPlace (d2_1)) := ez.trans (zI_ld (a12_goalPlace) (by omega) (by omega))
                have k6 := hR_a12_goalPlace (d2_1)
                refine lv_aload_n hx hb dX7_checkGoals_52 rfl (lv_at hl 1 rfl) ?_
                refine va_get (D := (dC, dI)) (ci := 7) (v := .int (zI (e2_0_15))) (C := RX7) (T := TX7) (N := 18) hx hb hts mem_X7_checkGoals_0 hown hK hP 1 rfl rfl 15 (by decide) (ow (k := 1) rfl) (fun _ h9 => h9) rfl dX7_checkGoals_53 ?_
                refine lv_icmp_ge (tgt := 74) hx hb dX7_checkGoals_56 (by decide) (fun b56 => ?_) (fun b56 => ?_)
                · have yb56 : (e2_0_15 : Int) ≤ (a12_goalPlace (d2_1) : Int) := (zI_le (a := e2_0_15) (b := a12_goalPlace (d2_1)) (by omega) (by omega) (by omega) (by omega)).mp b56
                  refine lv_iinc (v := zI (d2_1 + 1)) (lv' := [(1, .int (zI (d2_1 + 1))), (2, .int 1), (0, .ref h0)]) hx hb dX7_checkGoals_74 hl (k := 2) rfl (zI_add (d2_1) (1)) (by decide) rfl (fun ls hl => ?_)
                  refine lv_goto (tgt := 2) hx hb dX7_checkGoals_77 (by decide) ?_
                  have hP := hP.sub (ws' := [(h0, .inr (7, [.int (zI (e2_0_0)), v12_1, v12_2, v12_3, v12_4, v12_5, v12_6, v12_7, v12_8, v12_9, .int (zI (z12_blockCount)), v12_11, v12_12, v12_13, v12_14, .int (zI (e2_0_15)), .ref q_1216, .ref q_1217])), (q_1216, .inl (cA_1216, 60, .inl (fun j : Nat => zI (a12_labelled (j : Int))))), (q_1217, .inl (cA_1217, 60, .inl (fun j : Nat => zI (a12_goalPlace (j : Int)))))]) [1, 2, 0] rfl
                  have hD := hD.sub (ws' := [(h0, .inr (7, [.int (zI (e2_0_0)), v12_1, v12_2, v12_3, v12_4, v12_5, v12_6, v12_7, v12_8, v12_9, .int (zI (z12_blockCount)), v12_11, v12_12, v12_13, v12_14, .int (zI (e2_0_15)), .ref q_1216, .ref q_1217])), (q_1216, .inl (cA_1216, 60, .inl (fun j : Nat => zI (a12_labelled (j : Int))))), (q_1217, .inl (cA_1217, 60, .inl (fun j : Nat => zI (a12_goalPlace (j : Int)))))]) [1, 2, 0] (by decide) rfl
                  exact ih2 (d2_1 + 1) e2_0_0 e2_0_15 ls H _ (by omega) (by omega) (by omega) (fun q => ⟨(jC (by omega)).1, fun x h1 h2 h3 => by by_cases e9 : x = d2_1; (rw [e9] at h3 ⊢; omega); exact (jC (by omega)).2 x h1 (by omega) h3⟩) (by omega) (lv_sub hl [2, 0] rfl) hP hD hS
                · have yb56 : ¬ (e2_0_15 : Int) ≤ (a12_goalPlace (d2_1) : Int) := fun q => b56 ((zI_le (a := e2_0_15) (b := a12_goalPlace (d2_1)) (by omega) (by omega) (by omega) (by omega)).mpr q)
                  refine lv_aload_n hx hb dX7_checkGoals_59 rfl (lv_at hl 1 rfl) ?_
                  refine lv_aload_n hx hb dX7_checkGoals_60 rfl (lv_at hl 1 rfl) ?_
                  refine va_get (D := (dC, dI)) (ci := 7) (v := .ref q_1217) (C := RX7) (T := TX7) (N := 18) hx hb hts mem_X7_checkGoals_0 hown hK hP 1 rfl rfl 17 (by decide) (ow (k := 0) rfl) (fun _ h9 => h9) rfl dX7_checkGoals_61 ?_
                  refine lv_iload_n hx hb dX7_checkGoals_64 rfl (lv_at hl 2 rfl) ?_
                  refine va_iald hx hb hK hP 0 0 rfl rfl (zI_in (a := d2_1) (n := 60) (by omega) (by omega) (by decide)) dX7_checkGoals_65 ?_
                  refine lv_topi (fun z ez => ?_)
                  obtain rfl : z = zI (a12_goalPlace (d2_1)) := ez.trans (zI_ld (a12_goalPlace) (by omega) (by omega))
                  have k7 := hR_a12_goalPlace (d2_1)
                  refine va_put (D := (dC, dI)) (ci := 7) (v := .int (zI (a12_goalPlace (d2_1)))) (ty := .int) (C := RX7) (T := TX7) (N := 18) hx hb hts mem_X7_checkGoals_0 tyX7 tyX7_ok nmX7 hown hK hP hD hS 1 rfl rfl 15 (by decide) (ow (k := 1) rfl) (fun _ h9 => h9) rfl (by decide +kernel) rfl rfl (Nat.le_of_ble_eq_true rfl) dX7_checkGoals_66 (fun H locs hP hD hS => ?_)
                  have hP : va_P (dC, dI) vwP [(q_1217, .inl (cA_1217, 60, .inl (fun j : Nat => zI (a12_goalPlace (j : Int))))), (h0, .inr (7, [.int (zI (e2_0_0)), v12_1, v12_2, v12_3, v12_4, v12_5, v12_6, v12_7, v12_8, v12_9, .int (zI (z12_blockCount)), v12_11, v12_12, v12_13, v12_14, .int (zI (a12_goalPlace (d2_1))), .ref q_1216, .ref q_1217])), (q_1216, .inl (cA_1216, 60, .inl (fun j : Nat => zI (a12_labelled (j : Int)))))] H := hP
                  have hD : va_D A [(q_1217, .inl (cA_1217, 60, .inl (fun j : Nat => zI (a12_goalPlace (j : Int))))), (h0, .inr (7, [.int (zI (e2_0_0)), v12_1, v12_2, v12_3, v12_4, v12_5, v12_6, v12_7, v12_8, v12_9, .int (zI (z12_blockCount)), v12_11, v12_12, v12_13, v12_14, .int (zI (a12_goalPlace (d2_1))), .ref q_1216, .ref q_1217])), (q_1216, .inl (cA_1216, 60, .inl (fun j : Nat => zI (a12_labelled (j : Int)))))] := hD
                  obtain ⟨z_2007, ez_2007⟩ : ∃ z9 : Int, z9 = a12_goalPlace (d2_1) := ⟨_, rfl⟩
                  rw [← ez_2007] at hP hD
                  have hP : va_P (dC, dI) vwP [(q_1217, .inl (cA_1217, 60, .inl (fun j : Nat => zI (a12_goalPlace (j : Int))))), (h0, .inr (7, [.int (zI (e2_0_0)), v12_1, v12_2, v12_3, v12_4, v12_5, v12_6, v12_7, v12_8, v12_9, .int (zI (z12_blockCount)), v12_11, v12_12, v12_13, v12_14, .int (zI (z_2007)), .ref q_1216, .ref q_1217])), (q_1216, .inl (cA_1216, 60, .inl (fun j : Nat => zI (a12_labelled (j : Int)))))] H := hP
                  have hD : va_D A [(q_1217, .inl (cA_1217, 60, .inl (fun j : Nat => zI (a12_goalPlace (j : Int))))), (h0, .inr (7, [.int (zI (e2_0_0)), v12_1, v12_2, v12_3, v12_4, v12_5, v12_6, v12_7, v12_8, v12_9, .int (zI (z12_blockCount)), v12_11, v12_12, v12_13, v12_14, .int (zI (z_2007)), .ref q_1216, .ref q_1217])), (q_1216, .inl (cA_1216, 60, .inl (fun j : Nat => zI (a12_labelled (j : Int)))))] := hD
                  refine lv_aload_n hx hb dX7_checkGoals_69 rfl (lv_at hl 1 rfl) ?_
                  refine lv_iconst (v := 3) hx hb dX7_checkGoals_70 (by decide) ?_
                  refine va_put (D := (dC, dI)) (ci := 7) (v := .int 3) (ty := .int) (C := RX7) (T := TX7) (N := 18) hx hb hts mem_X7_checkGoals_0 tyX7 tyX7_ok nmX7 hown hK hP hD hS 1 rfl rfl 0 (by decide) (ow (k := 2) rfl) (fun _ h9 => h9) rfl (by decide +kernel) rfl rfl (Nat.le_of_ble_eq_true rfl) dX7_checkGoals_71 (fun H locs hP hD hS => ?_)
                  have hP : va_P (dC, dI) vwP [(q_1217, .inl (cA_1217, 60, .inl (fun j : Nat => zI (a12_goalPlace (j : Int))))), (h0, .inr (7, [.int 3, v12_1, v12_2, v12_3, v12_4, v12_5, v12_6, v12_7, v12_8, v12_9, .int (zI (z12_blockCount)), v12_11, v12_12, v12_13, v12_14, .int (zI (z_2007)), .ref q_1216, .ref q_1217])), (q_1216, .inl (cA_1216, 60, .inl (fun j : Nat => zI (a12_labelled (j : Int)))))] H := hP
                  have hD : va_D A [(q_1217, .inl (cA_1217, 60, .inl (fun j : Nat => zI (a12_goalPlace (j : Int))))), (h0, .inr (7, [.int 3, v12_1, v12_2, v12_3, v12_4, v12_5, v12_6, v12_7, v12_8, v12_9, .int (zI (z12_blockCount)), v12_11, v12_12, v12_13, v12_14, .int (zI (z_2007)), .ref q_1216, .ref q_1217])), (q_1216, .inl (cA_1216, 60, .inl (fun j : Nat => zI (a12_labelled (j : Int)))))] := hD
                  refine lv_iinc (v := zI (d2_1 + 1)) (lv' := [(1, .int (zI (d2_1 + 1))), (2, .int 1), (0, .ref h0)]) hx hb dX7_checkGoals_74 hl (k := 2) rfl (zI_add (d2_1) (1)) (by decide) rfl (fun ls hl => ?_)
                  refine lv_goto (tgt := 2) hx hb dX7_checkGoals_77 (by decide) ?_
                  have hP := hP.sub (ws' := [(h0, .inr (7, [.int 3, v12_1, v12_2, v12_3, v12_4, v12_5, v12_6, v12_7, v12_8, v12_9, .int (zI (z12_blockCount)), v12_11, v12_12, v12_13, v12_14, .int (zI (z_2007)), .ref q_1216, .ref q_1217])), (q_1216, .inl (cA_1216, 60, .inl (fun j : Nat => zI (a12_labelled (j : Int))))), (q_1217, .inl (cA_1217, 60, .inl (fun j : Nat => zI (a12_goalPlace (j : Int)))))]) [1, 2, 0] rfl
                  have hD := hD.sub (ws' := [(h0, .inr (7, [.int 3, v12_1, v12_2, v12_3, v12_4, v12_5, v12_6, v12_7, v12_8, v12_9, .int (zI (z12_blockCount)), v12_11, v12_12, v12_13, v12_14, .int (zI (z_2007)), .ref q_1216, .ref q_1217])), (q_1216, .inl (cA_1216, 60, .inl (fun j : Nat => zI (a12_labelled (j : Int))))), (q_1217, .inl (cA_1217, 60, .inl (fun j : Nat => zI (a12_goalPlace (j : Int)))))]) [1, 2, 0] (by decide) rfl
                  exact ih2 (d2_1 + 1) 3 z_2007 ls H _ (by omega) (by omega) (by omega) (fun q => ⟨(jC (by omega)).1, fun x h1 h2 h3 => by by_cases e9 : x = d2_1; (rw [e9] at h3 ⊢; omega); exact (jC (by omega)).2 x h1 (by omega) h3⟩) (by omega) (lv_sub hl [2, 0] rfl) hP hD hS
  exact key2 (((60) - (0) : Int).toNat + 1) 0 z12_reason z12_brokenPlace ls H _ (by omega) (by omega) (by omega) (fun q => ⟨q, fun x h1 h2 => by omega⟩) (by omega) (lv_sub hl [1, 0] rfl) hP hD hS
