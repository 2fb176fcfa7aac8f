def o_X0_addRowL : List Cond := [.fieldLink RX0 15 "SsaForge$Code" "rows" "I", .methodLink RX0 81 yX0_putRow, .instanceMethod yX0_putRow, .selects RX0 yX0_putRow yX0_putRow, .initialized RX0]
def v_X0_addRowL : List Cond := .code yX0_addRow cX0_addRow 7 (some .boolean) :: (o_X0_addRowL ++ (wsX00 ++ (v_X0_putRowL ++ [])))
theorem mow_X0_addRowL : ∀ w ∈ o_X0_addRowL, w ∈ v_X0_addRowL := fun _ h => List.mem_cons_of_mem _ (List.mem_append_left _ h)
theorem mem_X0_addRowL_0 : ∀ w ∈ wsX00, w ∈ v_X0_addRowL := fun _ h => List.mem_cons_of_mem _ (List.mem_append_right _ (List.mem_append_left _ h))
theorem mem_X0_addRowL_1 : ∀ w ∈ v_X0_putRowL, w ∈ v_X0_addRowL := fun _ h => List.mem_cons_of_mem _ (List.mem_append_right _ (List.mem_append_right _ (List.mem_append_left _ h)))
set_option maxRecDepth 20000 in
theorem gw_X0_addRowL : v_X0_addRowL.all goodWord = true := by decide +kernel
set_option maxRecDepth 20000 in
theorem g_X0_addRowL_X0_putRowL : GoodIn v_X0_addRowL (wsV RX0 81 RX0 yX0_putRow v_X0_putRowL) := goodIn_app (goodIn_sub (fun w h => mow_X0_addRowL w (by revert w h; decide +kernel)) (by decide +kernel)) (goodIn_sub mem_X0_addRowL_1 gw_X0_putRowL)
set_option maxHeartbeats 4000000 in
set_option maxRecDepth 100000 in
theorem c_X0_addRowL (l : Launch) (dC : Nat → ClassId) (dI : Nat → Nat → Nat) (h0 : Nat) (v_0 : Value) (R1 : Int) (v_2 : Value) (v_3 : Value) (v_4 : Value) (q_705 : Nat) (cA_705 : ClassId) (a_5 : Int → Int) (q_706 : Nat) (cA_706 : ClassId) (a_6 : Int → Int) (q_707 : Nat) (cA_707 : ClassId) (a_7 : Int → Int) (q_708 : Nat) (cA_708 : ClassId) (a_8 : Int → Int) (v_9 : Value) (v_10 : Value) (v_11 : Value) (v_12 : Value) (v_13 : Value) (v_14 : Value) (v_15 : Value) (v_16 : Value) (v_17 : Value) (v_18 : Value) (set : Int) (x1 : Int) (x2 : Int) (ro : Int) (hNR1 : 0 ≤ R1 ∧ R1 ≤ 2000) (hR_a_5 : ∀ j : Int, -1 ≤ a_5 j ∧ a_5 j ≤ 100) (hR_a_6 : ∀ j : Int, -1 ≤ a_6 j ∧ a_6 j ≤ 1023) (hR_a_7 : ∀ j : Int, ((-2147483648 ≤ a_7 j ∧ a_7 j ≤ 4294968319) ∨ a_7 j = 1099511627776)) (hR_a_8 : ∀ j : Int, ((-2147483648 ≤ a_8 j ∧ a_8 j ≤ 4294968319) ∨ a_8 j = 1099511627776)) (hNset : -1 ≤ set ∧ set ≤ 1023) (hNx1 : ((-2147483648 ≤ x1 ∧ x1 ≤ 4294968319) ∨ x1 = 1099511627776)) (hNx2 : ((-2147483648 ≤ x2 ∧ x2 ≤ 4294968319) ∨ x2 = 1099511627776)) (hNro : -1 ≤ ro ∧ ro ≤ 100) (hNr : R1 < 2000) (sz : Nat) : Met l yX0_addRow v_X0_addRowL ({ frames := 1, cells := 0, slots := 0, locals := 27 }) (va_Pc [.ref h0, .int (zI (ro)), .int (zI (set)), .long (lI (x1)), .long (lI (x2))] (fun U => U.heap.size = sz ∧ va_P (dC, dI) vwP [(h0, .inr (0, [v_0, .int (zI (R1)), v_2, v_3, v_4, .ref q_705, .ref q_706, .ref q_707, .ref q_708, v_9, v_10, v_11, v_12, v_13, v_14, v_15, v_16, v_17, v_18])), (q_705, .inl (cA_705, 2000, .inl (fun j : Nat => zI (a_5 (j : Int))))), (q_706, .inl (cA_706, 2000, .inl (fun j : Nat => zI (a_6 (j : Int))))), (q_707, .inl (cA_707, 2000, .inr (.inl (fun j : Nat => lI (a_7 (j : Int)))))), (q_708, .inl (cA_708, 2000, .inr (.inl (fun j : Nat => lI (a_8 (j : Int))))))] U.heap ∧ va_K (dC, dI) vwP [(cA_705, .int), (cA_706, .int), (cA_707, .long), (cA_708, .long)] U ∧ va_D (fun _ => True) [(h0, .inr (0, [v_0, .int (zI (R1)), v_2, v_3, v_4, .ref q_705, .ref q_706, .ref q_707, .ref q_708, v_9, v_10, v_11, v_12, v_13, v_14, v_15, v_16, v_17, v_18])), (q_705, .inl (cA_705, 2000, .inl (fun j : Nat => zI (a_5 (j : Int))))), (q_706, .inl (cA_706, 2000, .inl (fun j : Nat => zI (a_6 (j : Int))))), (q_707, .inl (cA_707, 2000, .inr (.inl (fun j : Nat => lI (a_7 (j : Int)))))), (q_708, .inl (cA_708, 2000, .inr (.inl (fun j : Nat => lI (a_8 (j : Int))))))])) (va_Qi (fun (r : Int32) (zr : Int) => r = zI zr ∧ (zr = 1)) (fun (zr : Int) (t : State) => ∃ (z0_9 : Int) (a1_9 : Int → Int) (a2_9 : Int → Int) (a3_9 : Int → Int) (a4_9 : Int → Int), ((0 ≤ z0_9 ∧ z0_9 ≤ 2000) ∧ (∀ j : Int, -1 ≤ a1_9 j ∧ a1_9 j ≤ 100) ∧ (∀ j : Int, -1 ≤ a2_9 j ∧ a2_9 j ≤ 1023) ∧ (∀ j : Int, ((-2147483648 ≤ a3_9 j ∧ a3_9 j ≤ 4294968319) ∨ a3_9 j = 1099511627776)) ∧ (∀ j : Int, ((-2147483648 ≤ a4_9 j ∧ a4_9 j ≤ 4294968319) ∨ a4_9 j = 1099511627776)) ∧ (a1_9 = zup a_5 R1 ro ∧ a2_9 = zup a_6 R1 set ∧ a3_9 = zup a_7 R1 x1 ∧ a4_9 = zup a_8 R1 x2 ∧ z0_9 = R1 + 1)) ∧ va_P (dC, dI) vwP [(h0, .inr (0, [v_0, .int (zI (z0_9)), v_2, v_3, v_4, .ref q_705, .ref q_706, .ref q_707, .ref q_708, v_9, v_10, v_11, v_12, v_13, v_14, v_15, v_16, v_17, v_18])), (q_705, .inl (cA_705, 2000, .inl (fun j : Nat => zI (a1_9 (j : Int))))), (q_706, .inl (cA_706, 2000, .inl (fun j : Nat => zI (a2_9 (j : Int))))), (q_707, .inl (cA_707, 2000, .inr (.inl (fun j : Nat => lI (a3_9 (j : Int)))))), (q_708, .inl (cA_708, 2000, .inr (.inl (fun j : Nat => lI (a4_9 (j : Int))))))] t.heap ∧ va_K (dC, dI) vwP [(cA_705, .int), (cA_706, .int), (cA_707, .long), (cA_708, .long)] t ∧ va_D (va_A [(h0, .inr (0, [v_0, .int (zI (R1)), v_2, v_3, v_4, .ref q_705, .ref q_706, .ref q_707, .ref q_708, v_9, v_10, v_11, v_12, v_13, v_14, v_15, v_16, v_17, v_18])), (q_705, .inl (cA_705, 2000, .inl (fun j : Nat => zI (a_5 (j : Int))))), (q_706, .inl (cA_706, 2000, .inl (fun j : Nat => zI (a_6 (j : Int))))), (q_707, .inl (cA_707, 2000, .inr (.inl (fun j : Nat => lI (a_7 (j : Int)))))), (q_708, .inl (cA_708, 2000, .inr (.inl (fun j : Nat => lI (a_8 (j : Int))))))] sz) [(h0, .inr (0, [v_0, .int (zI (z0_9)), v_2, v_3, v_4, .ref q_705, .ref q_706, .ref q_707, .ref q_708, v_9, v_10, v_11, v_12, v_13, v_14, v_15, v_16, v_17, v_18])), (q_705, .inl (cA_705, 2000, .inl (fun j : Nat => zI (a1_9 (j : Int))))), (q_706, .inl (cA_706, 2000, .inl (fun j : Nat => zI (a2_9 (j : Int))))), (q_707, .inl (cA_707, 2000, .inr (.inl (fun j : Nat => lI (a3_9 (j : Int)))))), (q_708, .inl (cA_708, 2000, .inr (.inl (fun j : Nat => lI (a4_9 (j : Int))))))]) (va_A [(h0, .inr (0, [v_0, .int (zI (R1)), v_2, v_3, v_4, .ref q_705, .ref q_706, .ref q_707, .ref q_708, v_9, v_10, v_11, v_12, v_13, v_14, v_15, v_16, v_17, v_18])), (q_705, .inl (cA_705, 2000, .inl (fun j : Nat => zI (a_5 (j : Int))))), (q_706, .inl (cA_706, 2000, .inl (fun j : Nat => zI (a_6 (j : Int))))), (q_707, .inl (cA_707, 2000, .inr (.inl (fun j : Nat => lI (a_7 (j : Int)))))), (q_708, .inl (cA_708, 2000, .inr (.inl (fun j : Nat => lI (a_8 (j : Int))))))] sz)) 0 0 (va_A [(h0, .inr (0, [v_0, .int (zI (R1)), v_2, v_3, v_4, .ref q_705, .ref q_706, .ref q_707, .ref q_708, v_9, v_10, v_11, v_12, v_13, v_14, v_15, v_16, v_17, v_18])), (q_705, .inl (cA_705, 2000, .inl (fun j : Nat => zI (a_5 (j : Int))))), (q_706, .inl (cA_706, 2000, .inl (fun j : Nat => zI (a_6 (j : Int))))), (q_707, .inl (cA_707, 2000, .inr (.inl (fun j : Nat => lI (a_7 (j : Int)))))), (q_708, .inl (cA_708, 2000, .inr (.inl (fun j : Nat => lI (a_8 (j : Int))))))] sz) := by
  refine Met.ofW (cc := cX0_addRow) (maxL := 7) (ret := (some .boolean)) (by decide) rfl ?_
  intro p e s m args below meth c s₁ B hml hv
  obtain ⟨rfl, hsz, hP, hK, hD0⟩ := hv
  have hx := B.exec
  have hb := B.bytes
  have hr := B.returns
  have hts := atoms_spec (ws := v_X0_addRowL) B.pre
  have hown : s.vm.findClass RX0 = some m.cls := findClass_of_methodNamed B.named
  have hlocks := B.notSynchronized
  have ow : ∀ {k : Nat} {w : Cond}, o_X0_addRowL[k]? = some w → w.before ([.ref h0, .int (zI (ro)), .int (zI (set)), .long (lI (x1)), .long (lI (x2))] : List Value).toArray s = true := fun h => hts _ (mow_X0_addRowL _ (List.mem_of_getElem? h))
  subst hsz
  have hD := hD0.self (sz := s.heap.size)
  generalize hAe : va_A [(h0, .inr (0, [v_0, .int (zI (R1)), v_2, v_3, v_4, .ref q_705, .ref q_706, .ref q_707, .ref q_708, v_9, v_10, v_11, v_12, v_13, v_14, v_15, v_16, v_17, v_18])), (q_705, .inl (cA_705, 2000, .inl (fun j : Nat => zI (a_5 (j : Int))))), (q_706, .inl (cA_706, 2000, .inl (fun j : Nat => zI (a_6 (j : Int))))), (q_707, .inl (cA_707, 2000, .inr (.inl (fun j : Nat => lI (a_7 (j : Int)))))), (q_708, .inl (cA_708, 2000, .inr (.inl (fun j : Nat => lI (a_8 (j : Int))))))] s.heap.size = A at hD ⊢
  have hA : ∀ q : Nat, s.heap.size ≤ q → A q := fun q h => by rw [← hAe]; exact Or.inr h
  have hS : va_S A s.heap s.heap [] := va_S.rf
  have hP : va_P (dC, dI) vwP [(h0, .inr (0, [v_0, .int (zI (R1)), v_2, v_3, v_4, .ref q_705, .ref q_706, .ref q_707, .ref q_708, v_9, v_10, v_11, v_12, v_13, v_14, v_15, v_16, v_17, v_18])), (q_705, .inl (cA_705, 2000, .inl (fun j : Nat => zI (a_5 (j : Int))))), (q_706, .inl (cA_706, 2000, .inl (fun j : Nat => zI (a_6 (j : Int))))), (q_707, .inl (cA_707, 2000, .inr (.inl (fun j : Nat => lI (a_7 (j : Int)))))), (q_708, .inl (cA_708, 2000, .inr (.inl (fun j : Nat => lI (a_8 (j : Int))))))] s.heap := hP
  have hl := lv_entry ([.ref h0, .int (zI (ro)), .int (zI (set)), .long (lI (x1)), .long (lI (x2))]) (n := 7) (Nat.le_of_ble_eq_true rfl)
  rw [lg_entry_eq]
  generalize (lg_sl ([.ref h0, .int (zI (ro)), .int (zI (set)), .long (lI (x1)), .long (lI (x2))]) ++ List.replicate (7 - (lg_sl ([.ref h0, .int (zI (ro)), .int (zI (set)), .long (lI (x1)), .long (lI (x2))])).length) Slot.unset).toArray = ls at hl ⊢
  have hl : lv_has ls 7 [(0, .ref h0), (1, .int (zI (ro))), (2, .int (zI (set))), (3, .long (lI (x1))), (5, .long (lI (x2)))] := hl
  obtain ⟨H, hH⟩ : ∃ H, H = s.heap := ⟨_, rfl⟩
  rw [← hH] at hP
  have hS : va_S A s.heap H [] := by rw [hH]; exact hS
  rw [← hH]
  refine zW_cap (fun Q hQ => ?_)
  refine lv_aload_n hx hb dX0_addRow_0 rfl (lv_at hl 0 rfl) ?_
  refine va_get (D := (dC, dI)) (ci := 0) (v := .int (zI (R1))) (C := RX0) (T := TX0) (N := 19) hx hb hts mem_X0_addRowL_0 hown hK hP 0 rfl rfl 1 (by decide) (ow (k := 0) rfl) (fun _ h9 => h9) rfl dX0_addRow_1 ?_
  refine lv_sipush (v := 2000) hx hb dX0_addRow_4 (by decide) ?_
  refine lv_icmp_lt (tgt := 12) hx hb dX0_addRow_7 (by decide) (fun b7 => ?_) (fun b7 => ?_)
  · have yb7 : (R1 : Int) < (2000 : Int) := (zI_lt (a := R1) (b := 2000) (by omega) (by omega) (by omega) (by omega)).mp b7
    refine lv_aload_n hx hb dX0_addRow_12 rfl (lv_at hl 0 rfl) ?_
    refine lv_aload_n hx hb dX0_addRow_13 rfl (lv_at hl 0 rfl) ?_
    refine va_get (D := (dC, dI)) (ci := 0) (v := .int (zI (R1))) (C := RX0) (T := TX0) (N := 19) hx hb hts mem_X0_addRowL_0 hown hK hP 0 rfl rfl 1 (by decide) (ow (k := 0) rfl) (fun _ h9 => h9) rfl dX0_addRow_14 ?_
    refine lv_iload_n hx hb dX0_addRow_17 rfl (lv_at hl 1 rfl) ?_
    refine lv_iload_n hx hb dX0_addRow_18 rfl (lv_at hl 2 rfl) ?_
    refine lv_lload_n hx hb dX0_addRow_19 rfl (lv_at hl 3 rfl) ?_
    refine lv_lload hx hb dX0_addRow_20 (lv_at hl 4 rfl) ?_
    have hPc := hP.sub (ws' := [(h0, .inr (0, [v_0, .int (zI (R1)), v_2, v_3, v_4, .ref q_705, .ref q_706, .ref q_707, .ref q_708, v_9, v_10, v_11, v_12, v_13, v_14, v_15, v_16, v_17, v_18])), (q_705, .inl (cA_705, 2000, .inl (fun j : Nat => zI (a_5 (j : Int))))), (q_706, .inl (cA_706, 2000, .inl (fun j : Nat => zI (a_6 (j : Int))))), (q_707, .inl (cA_707, 2000, .inr (.inl (fun j : Nat => lI (a_7 (j : Int)))))), (q_708, .inl (cA_708, 2000, .inr (.inl (fun j : Nat => lI (a_8 (j : Int))))))]) [0, 1, 2, 3, 4] rfl
    have hDc := hD.sub (ws' := [(h0, .inr (0, [v_0, .int (zI (R1)), v_2, v_3, v_4, .ref q_705, .ref q_706, .ref q_707, .ref q_708, v_9, v_10, v_11, v_12, v_13, v_14, v_15, v_16, v_17, v_18])), (q_705, .inl (cA_705, 2000, .inl (fun j : Nat => zI (a_5 (j : Int))))), (q_706, .inl (cA_706, 2000, .inl (fun j : Nat => zI (a_6 (j : Int))))), (q_707, .inl (cA_707, 2000, .inr (.inl (fun j : Nat => lI (a_7 (j : Int)))))), (q_708, .inl (cA_708, 2000, .inr (.inl (fun j : Nat => lI (a_8 (j : Int))))))]) [0, 1, 2, 3, 4] (by decide) rfl
    have hKc := hK.sub (tys' := [(cA_705, .int), (cA_706, .int), (cA_707, .long), (cA_708, .long)]) [0, 1, 2, 3] rfl
    have hFc := va_free (wc := [(h0, .inr (0, [v_0, .int (zI (R1)), v_2, v_3, v_4, .ref q_705, .ref q_706, .ref q_707, .ref q_708, v_9, v_10, v_11, v_12, v_13, v_14, v_15, v_16, v_17, v_18])), (q_705, .inl (cA_705, 2000, .inl (fun j : Nat => zI (a_5 (j : Int))))), (q_706, .inl (cA_706, 2000, .inl (fun j : Nat => zI (a_6 (j : Int))))), (q_707, .inl (cA_707, 2000, .inr (.inl (fun j : Nat => lI (a_7 (j : Int)))))), (q_708, .inl (cA_708, 2000, .inr (.inl (fun j : Nat => lI (a_8 (j : Int))))))]) hD hS hA [0, 1, 2, 3, 4] rfl
    refine va_callv (va_runV (As := [.int (zI (R1)), .int (zI (ro)), .int (zI (set)), .long (lI (x1)), .long (lI (x2))]) (rest := []) ⟨hx, hb, hml, hown, hts⟩ (c_X0_putRowL l dC dI h0 v_0 (.int (zI (R1))) v_2 v_3 v_4 q_705 cA_705 a_5 q_706 cA_706 a_6 q_707 cA_707 a_7 q_708 cA_708 a_8 v_9 v_10 v_11 v_12 v_13 v_14 v_15 v_16 v_17 v_18 R1 set x1 x2 ro hR_a_5 hR_a_6 hR_a_7 hR_a_8 (by omega) (by omega) (by omega) (by omega) (by omega) H.size) (cwV 5 hts g_X0_addRowL_X0_putRowL rfl rfl rfl (by decide +kernel) ⟨(Nat.le_of_ble_eq_true rfl), (Nat.le_of_ble_eq_true rfl)⟩) ⟨fun a U g mk q => by obtain ⟨q0, q1, qP, qK, qD⟩ := q; exact ⟨q0, q1, qP, va_K.moved (u := U) (U := U.calling g mk a) (Vm.Alike.refl U.vm) qK, qD⟩, va_recv hKc hPc (ci := 0) (q0 := 0) rfl rfl, fun U hU hW => ⟨rfl, by rw [hU], by rw [hU]; exact hPc, va_K.moved hW.alike hKc, hDc.weaken (fun _ _ _ _ => trivial)⟩⟩ rfl rfl hl.1 rfl (lv_room (Nat.le_of_ble_eq_true rfl)) dX0_addRow_22 ⟨(Nat.le_of_ble_eq_true rfl), (Nat.le_of_ble_eq_true rfl)⟩) hS (fun q _ h => hFc q h) hFc (fun  u t H1 locs ht hvm hw hB hz1 hk1 hS => ?_)
    obtain ⟨a0_2001, a1_2002, a2_2003, a3_2004, hxt_2004, hP1, hK1, hD1⟩ := hB
    rw [ht] at hP1
    have hK1 := va_K.moved hvm.symm hK1
    obtain ⟨hP, hD⟩ := va_join (wr := []) (w1 := [(h0, .inr (0, [v_0, .int (zI (R1)), v_2, v_3, v_4, .ref q_705, .ref q_706, .ref q_707, .ref q_708, v_9, v_10, v_11, v_12, v_13, v_14, v_15, v_16, v_17, v_18])), (q_705, .inl (cA_705, 2000, .inl (fun j : Nat => zI (a0_2001 (j : Int))))), (q_706, .inl (cA_706, 2000, .inl (fun j : Nat => zI (a1_2002 (j : Int))))), (q_707, .inl (cA_707, 2000, .inr (.inl (fun j : Nat => lI (a2_2003 (j : Int)))))), (q_708, .inl (cA_708, 2000, .inr (.inl (fun j : Nat => lI (a3_2004 (j : Int))))))]) hP hD [0, 1, 2, 3, 4] [] rfl rfl (by decide) (by decide) hk1 hFc hP1 hD1
    have hK := (hK.sub (tys' := []) [] rfl).app hK1
    generalize H1 = H at hP hS ⊢
    have hP : va_P (dC, dI) vwP [(h0, .inr (0, [v_0, .int (zI (R1)), v_2, v_3, v_4, .ref q_705, .ref q_706, .ref q_707, .ref q_708, v_9, v_10, v_11, v_12, v_13, v_14, v_15, v_16, v_17, v_18])), (q_705, .inl (cA_705, 2000, .inl (fun j : Nat => zI (a0_2001 (j : Int))))), (q_706, .inl (cA_706, 2000, .inl (fun j : Nat => zI (a1_2002 (j : Int))))), (q_707, .inl (cA_707, 2000, .inr (.inl (fun j : Nat => lI (a2_2003 (j : Int)))))), (q_708, .inl (cA_708, 2000, .inr (.inl (fun j : Nat => lI (a3_2004 (j : Int))))))] H := hP
    have hD : va_D A [(h0, .inr (0, [v_0, .int (zI (R1)), v_2, v_3, v_4, .ref q_705, .ref q_706, .ref q_707, .ref q_708, v_9, v_10, v_11, v_12, v_13, v_14, v_15, v_16, v_17, v_18])), (q_705, .inl (cA_705, 2000, .inl (fun j : Nat => zI (a0_2001 (j : Int))))), (q_706, .inl (cA_706, 2000, .inl (fun j : Nat => zI (a1_2002 (j : Int))))), (q_707, .inl (cA_707, 2000, .inr (.inl (fun j : Nat => lI (a2_2003 (j : Int)))))), (q_708, .inl (cA_708, 2000, .inr (.inl (fun j : Nat => lI (a3_2004 (j : Int))))))] := hD
    have hK : va_K (dC, dI) vwP [(cA_705, .int), (cA_706, .int), (cA_707, .long), (cA_708, .long)] s := hK
    refine W.widen (k := 0) (n := 0) (Nat.le_of_ble_eq_true rfl) (Nat.le_of_ble_eq_true rfl) ?_
    obtain ⟨rk_2005, rk_2006, rk_2007, rk_2008, hu_2008⟩ := hxt_2004
    refine lv_aload_n hx hb dX0_addRow_25 rfl (lv_at hl 0 rfl) ?_
    refine lv_dup hx hb dX0_addRow_26 rfl ?_
    refine va_get (D := (dC, dI)) (ci := 0) (v := .int (zI (R1))) (C := RX0) (T := TX0) (N := 19) hx hb hts mem_X0_addRowL_0 hown hK hP 0 rfl rfl 1 (by decide) (ow (k := 0) rfl) (fun _ h9 => h9) rfl dX0_addRow_27 ?_
    refine lv_iconst (v := 1) hx hb dX0_addRow_30 (by decide) ?_
    refine lv_iadd hx hb dX0_addRow_31 ?_
    refine lv_topi (fun z ez => ?_)
    obtain rfl : z = zI (R1 + 1) := ez.trans (zI_add (R1) (1))
    refine va_put (D := (dC, dI)) (ci := 0) (v := .int (zI (R1 + 1))) (ty := .int) (C := RX0) (T := TX0) (N := 19) hx hb hts mem_X0_addRowL_0 tyX0 tyX0_ok nmX0 hown hK hP hD hS 0 rfl rfl 1 (by decide) (ow (k := 0) rfl) (fun _ h9 => h9) rfl (by decide +kernel) rfl rfl (Nat.le_of_ble_eq_true rfl) dX0_addRow_32 (fun H locs hP hD hS => ?_)
    have hP : va_P (dC, dI) vwP [(h0, .inr (0, [v_0, .int (zI (R1 + 1)), v_2, v_3, v_4, .ref q_705, .ref q_706, .ref q_707, .ref q_708, v_9, v_10, v_11, v_12, v_13, v_14, v_15, v_16, v_17, v_18])), (q_705, .inl (cA_705, 2000, .inl (fun j : Nat => zI (a0_2001 (j : Int))))), (q_706, .inl (cA_706, 2000, .inl (fun j : Nat => zI (a1_2002 (j : Int))))), (q_707, .inl (cA_707, 2000, .inr (.inl (fun j : Nat => lI (a2_2003 (j : Int)))))), (q_708, .inl (cA_708, 2000, .inr (.inl (fun j : Nat => lI (a3_2004 (j : Int))))))] H := hP
    have hD : va_D A [(h0, .inr (0, [v_0, .int (zI (R1 + 1)), v_2, v_3, v_4, .ref q_705, .ref q_706, .ref q_707, .ref q_708, v_9, v_10, v_11, v_12, v_13, v_14, v_15, v_16, v_17, v_18])), (q_705, .inl (cA_705, 2000, .inl (fun j : Nat => zI (a0_2001 (j : Int))))), (q_706, .inl (cA_706, 2000, .inl (fun j : Nat => zI (a1_2002 (j : Int))))), (q_707, .inl (cA_707, 2000, .inr (.inl (fun j : Nat => lI (a2_2003 (j : Int)))))), (q_708, .inl (cA_708, 2000, .inr (.inl (fun j : Nat => lI (a3_2004 (j : Int))))))] := hD
    obtain ⟨z_2009, ez_2009⟩ : ∃ z9 : Int, z9 = R1 + 1 := ⟨_, rfl⟩
    rw [← ez_2009] at hP hD
    have hP : va_P (dC, dI) vwP [(h0, .inr (0, [v_0, .int (zI (z_2009)), v_2, v_3, v_4, .ref q_705, .ref q_706, .ref q_707, .ref q_708, v_9, v_10, v_11, v_12, v_13, v_14, v_15, v_16, v_17, v_18])), (q_705, .inl (cA_705, 2000, .inl (fun j : Nat => zI (a0_2001 (j : Int))))), (q_706, .inl (cA_706, 2000, .inl (fun j : Nat => zI (a1_2002 (j : Int))))), (q_707, .inl (cA_707, 2000, .inr (.inl (fun j : Nat => lI (a2_2003 (j : Int)))))), (q_708, .inl (cA_708, 2000, .inr (.inl (fun j : Nat => lI (a3_2004 (j : Int))))))] H := hP
    have hD : va_D A [(h0, .inr (0, [v_0, .int (zI (z_2009)), v_2, v_3, v_4, .ref q_705, .ref q_706, .ref q_707, .ref q_708, v_9, v_10, v_11, v_12, v_13, v_14, v_15, v_16, v_17, v_18])), (q_705, .inl (cA_705, 2000, .inl (fun j : Nat => zI (a0_2001 (j : Int))))), (q_706, .inl (cA_706, 2000, .inl (fun j : Nat => zI (a1_2002 (j : Int))))), (q_707, .inl (cA_707, 2000, .inr (.inl (fun j : Nat => lI (a2_2003 (j : Int)))))), (q_708, .inl (cA_708, 2000, .inr (.inl (fun j : Nat => lI (a3_2004 (j : Int))))))] := hD
    refine lv_iconst (v := 1) hx hb dX0_addRow_35 (by decide) ?_
    subst hQ
    refine W.widen (k := 0) (n := 0) (Nat.le_of_ble_eq_true rfl) (Nat.le_of_ble_eq_true rfl) ?_
    exact W.zret (v := 1) hx hb hr (by decide) (fun t ht hW => ⟨⟨1, (1), rfl, ⟨rfl, (by omega)⟩, z_2009, a0_2001, a1_2002, a2_2003, a3_2004, ⟨(by omega), rk_2005, rk_2006, rk_2007, rk_2008, ⟨hu_2008.1, hu_2008.2.1, hu_2008.2.2.1, hu_2008.2.2.2, by omega⟩⟩, by rw [ht]; exact hP, va_K.moved hW.alike hK, hD⟩, hS.F ht⟩) hS.2.2 dX0_addRow_36
  · have yb7 : ¬ (R1 : Int) < (2000 : Int) := fun q => b7 ((zI_lt (a := R1) (b := 2000) (by omega) (by omega) (by omega) (by omega)).mpr q)
    refine lv_iconst (v := 0) hx hb dX0_addRow_10 (by decide) ?_
    subst hQ
    refine W.widen (k := 0) (n := 0) (Nat.le_of_ble_eq_true rfl) (Nat.le_of_ble_eq_true rfl) ?_
    exact W.zret (v := 0) hx hb hr (by decide) (fun t ht hW => ⟨⟨0, (0), rfl, ⟨rfl, (by omega)⟩, R1, a_5, a_6, a_7, a_8, ⟨(by omega), hR_a_5, hR_a_6, hR_a_7, hR_a_8, (by exfalso; omega)⟩, by rw [ht]; exact hP, va_K.moved hW.alike hK, hD⟩, hS.F ht⟩) hS.2.2 dX0_addRow_11
theorem dX0_sweep_0 : decode cX0_sweep 0 = .ok (.aload_n 0, 1) := by decide +kernel
theorem dX0_sweep_1 : decode cX0_sweep 1 = .ok (.getfield 15, 3) := by decide +kernel
theorem dX0_sweep_4 : decode cX0_sweep 4 = .ok (.aload_n 0, 1) := by decide +kernel
theorem dX0_sweep_5 : decode cX0_sweep 5 = .ok (.getfield 18, 3) := by decide +kernel
theorem dX0_sweep_8 : decode cX0_sweep 8 = .ok (.iadd, 1) := by decide +kernel
theorem dX0_sweep_9 : decode cX0_sweep 9 = .ok (.istore_n 1, 1) := by decide +kernel
theorem dX0_sweep_10 : decode cX0_sweep 10 = .ok (.iconst 0, 1) := by decide +kernel
theorem dX0_sweep_11 : decode cX0_sweep 11 = .ok (.istore_n 2, 1) := by decide +kernel
theorem dX0_sweep_12 : decode cX0_sweep 12 = .ok (.iconst 0, 1) := by decide +kernel
theorem dX0_sweep_13 : decode cX0_sweep 13 = .ok (.istore_n 3, 1) := by decide +kernel
theorem dX0_sweep_14 : decode cX0_sweep 14 = .ok (.aload_n 0, 1) := by decide +kernel
theorem dX0_sweep_15 : decode cX0_sweep 15 = .ok (.iconst 0, 1) := by decide +kernel
theorem dX0_sweep_16 : decode cX0_sweep 16 = .ok (.putfield 15, 3) := by decide +kernel
theorem dX0_sweep_19 : decode cX0_sweep 19 = .ok (.aload_n 0, 1) := by decide +kernel
theorem dX0_sweep_20 : decode cX0_sweep 20 = .ok (.iconst 0, 1) := by decide +kernel
theorem dX0_sweep_21 : decode cX0_sweep 21 = .ok (.putfield 18, 3) := by decide +kernel
theorem dX0_sweep_24 : decode cX0_sweep 24 = .ok (.iconst 0, 1) := by decide +kernel
theorem dX0_sweep_25 : decode cX0_sweep 25 = .ok (.istore 4, 2) := by decide +kernel
theorem dX0_sweep_27 : decode cX0_sweep 27 = .ok (.iload 4, 2) := by decide +kernel
theorem dX0_sweep_29 : decode cX0_sweep 29 = .ok (.aload_n 0, 1) := by decide +kernel
theorem dX0_sweep_30 : decode cX0_sweep 30 = .ok (.getfield 9, 3) := by decide +kernel
theorem dX0_sweep_33 : decode cX0_sweep 33 = .ok (.if_icmp .ge 162, 3) := by decide +kernel
theorem dX0_sweep_195 : decode cX0_sweep 195 = .ok (.iload_n 1, 1) := by decide +kernel
theorem dX0_sweep_196 : decode cX0_sweep 196 = .ok (.aload_n 0, 1) := by decide +kernel
theorem dX0_sweep_197 : decode cX0_sweep 197 = .ok (.getfield 15, 3) := by decide +kernel
theorem dX0_sweep_200 : decode cX0_sweep 200 = .ok (.isub, 1) := by decide +kernel
theorem dX0_sweep_201 : decode cX0_sweep 201 = .ok (.aload_n 0, 1) := by decide +kernel
theorem dX0_sweep_202 : decode cX0_sweep 202 = .ok (.getfield 18, 3) := by decide +kernel
theorem dX0_sweep_205 : decode cX0_sweep 205 = .ok (.isub, 1) := by decide +kernel
theorem dX0_sweep_206 : decode cX0_sweep 206 = .ok (.ireturn, 1) := by decide +kernel
theorem dX0_sweep_36 : decode cX0_sweep 36 = .ok (.iload_n 2, 1) := by decide +kernel
theorem dX0_sweep_37 : decode cX0_sweep 37 = .ok (.aload_n 0, 1) := by decide +kernel
theorem dX0_sweep_38 : decode cX0_sweep 38 = .ok (.getfield 24, 3) := by decide +kernel
theorem dX0_sweep_41 : decode cX0_sweep 41 = .ok (.iload 4, 2) := by decide +kernel
theorem dX0_sweep_43 : decode cX0_sweep 43 = .ok (.iconst 1, 1) := by decide +kernel
theorem dX0_sweep_44 : decode cX0_sweep 44 = .ok (.iadd, 1) := by decide +kernel
theorem dX0_sweep_45 : decode cX0_sweep 45 = .ok (.iaload, 1) := by decide +kernel
theorem dX0_sweep_46 : decode cX0_sweep 46 = .ok (.if_icmp .ge 48, 3) := by decide +kernel
theorem dX0_sweep_94 : decode cX0_sweep 94 = .ok (.aload_n 0, 1) := by decide +kernel
theorem dX0_sweep_95 : decode cX0_sweep 95 = .ok (.getfield 24, 3) := by decide +kernel
theorem dX0_sweep_98 : decode cX0_sweep 98 = .ok (.iload 4, 2) := by decide +kernel
theorem dX0_sweep_100 : decode cX0_sweep 100 = .ok (.iconst 1, 1) := by decide +kernel
theorem dX0_sweep_101 : decode cX0_sweep 101 = .ok (.iadd, 1) := by decide +kernel
theorem dX0_sweep_102 : decode cX0_sweep 102 = .ok (.aload_n 0, 1) := by decide +kernel
theorem dX0_sweep_103 : decode cX0_sweep 103 = .ok (.getfield 15, 3) := by decide +kernel
theorem dX0_sweep_106 : decode cX0_sweep 106 = .ok (.iastore, 1) := by decide +kernel
theorem dX0_sweep_107 : decode cX0_sweep 107 = .ok (.iload_n 3, 1) := by decide +kernel
theorem dX0_sweep_108 : decode cX0_sweep 108 = .ok (.aload_n 0, 1) := by decide +kernel
theorem dX0_sweep_109 : decode cX0_sweep 109 = .ok (.getfield 59, 3) := by decide +kernel
theorem dX0_sweep_112 : decode cX0_sweep 112 = .ok (.iload 4, 2) := by decide +kernel
theorem dX0_sweep_114 : decode cX0_sweep 114 = .ok (.iconst 1, 1) := by decide +kernel
theorem dX0_sweep_115 : decode cX0_sweep 115 = .ok (.iadd, 1) := by decide +kernel
theorem dX0_sweep_116 : decode cX0_sweep 116 = .ok (.iaload, 1) := by decide +kernel
theorem dX0_sweep_117 : decode cX0_sweep 117 = .ok (.if_icmp .ge 59, 3) := by decide +kernel
theorem dX0_sweep_176 : decode cX0_sweep 176 = .ok (.aload_n 0, 1) := by decide +kernel
theorem dX0_sweep_177 : decode cX0_sweep 177 = .ok (.getfield 59, 3) := by decide +kernel
theorem dX0_sweep_180 : decode cX0_sweep 180 = .ok (.iload 4, 2) := by decide +kernel
theorem dX0_sweep_182 : decode cX0_sweep 182 = .ok (.iconst 1, 1) := by decide +kernel
theorem dX0_sweep_183 : decode cX0_sweep 183 = .ok (.iadd, 1) := by decide +kernel
theorem dX0_sweep_184 : decode cX0_sweep 184 = .ok (.aload_n 0, 1) := by decide +kernel
theorem dX0_sweep_185 : decode cX0_sweep 185 = .ok (.getfield 18, 3) := by decide +kernel
theorem dX0_sweep_188 : decode cX0_sweep 188 = .ok (.iastore, 1) := by decide +kernel
theorem dX0_sweep_189 : decode cX0_sweep 189 = .ok (.iinc 4 1, 3) := by decide +kernel
theorem dX0_sweep_192 : decode cX0_sweep 192 = .ok (.goto (-165), 3) := by decide +kernel
theorem dX0_sweep_120 : decode cX0_sweep 120 = .ok (.aload_n 0, 1) := by decide +kernel
theorem dX0_sweep_121 : decode cX0_sweep 121 = .ok (.getfield 62, 3) := by decide +kernel
theorem dX0_sweep_124 : decode cX0_sweep 124 = .ok (.iload_n 3, 1) := by decide +kernel
theorem dX0_sweep_125 : decode cX0_sweep 125 = .ok (.iaload, 1) := by decide +kernel
theorem dX0_sweep_126 : decode cX0_sweep 126 = .ok (.iconst (-1), 1) := by decide +kernel
theorem dX0_sweep_127 : decode cX0_sweep 127 = .ok (.if_icmp .eq 43, 3) := by decide +kernel
theorem dX0_sweep_170 : decode cX0_sweep 170 = .ok (.iinc 3 1, 3) := by decide +kernel
theorem dX0_sweep_173 : decode cX0_sweep 173 = .ok (.goto (-66), 3) := by decide +kernel
theorem dX0_sweep_130 : decode cX0_sweep 130 = .ok (.aload_n 0, 1) := by decide +kernel
theorem dX0_sweep_131 : decode cX0_sweep 131 = .ok (.getfield 62, 3) := by decide +kernel
theorem dX0_sweep_134 : decode cX0_sweep 134 = .ok (.aload_n 0, 1) := by decide +kernel
theorem dX0_sweep_135 : decode cX0_sweep 135 = .ok (.getfield 18, 3) := by decide +kernel
theorem dX0_sweep_138 : decode cX0_sweep 138 = .ok (.aload_n 0, 1) := by decide +kernel
theorem dX0_sweep_139 : decode cX0_sweep 139 = .ok (.getfield 62, 3) := by decide +kernel
theorem dX0_sweep_142 : decode cX0_sweep 142 = .ok (.iload_n 3, 1) := by decide +kernel
theorem dX0_sweep_143 : decode cX0_sweep 143 = .ok (.iaload, 1) := by decide +kernel
theorem dX0_sweep_144 : decode cX0_sweep 144 = .ok (.iastore, 1) := by decide +kernel
theorem dX0_sweep_145 : decode cX0_sweep 145 = .ok (.aload_n 0, 1) := by decide +kernel
theorem dX0_sweep_146 : decode cX0_sweep 146 = .ok (.getfield 65, 3) := by decide +kernel
theorem dX0_sweep_149 : decode cX0_sweep 149 = .ok (.aload_n 0, 1) := by decide +kernel
theorem dX0_sweep_150 : decode cX0_sweep 150 = .ok (.getfield 18, 3) := by decide +kernel
theorem dX0_sweep_153 : decode cX0_sweep 153 = .ok (.aload_n 0, 1) := by decide +kernel
theorem dX0_sweep_154 : decode cX0_sweep 154 = .ok (.getfield 65, 3) := by decide +kernel
theorem dX0_sweep_157 : decode cX0_sweep 157 = .ok (.iload_n 3, 1) := by decide +kernel
theorem dX0_sweep_158 : decode cX0_sweep 158 = .ok (.iaload, 1) := by decide +kernel
theorem dX0_sweep_159 : decode cX0_sweep 159 = .ok (.iastore, 1) := by decide +kernel
theorem dX0_sweep_160 : decode cX0_sweep 160 = .ok (.aload_n 0, 1) := by decide +kernel
theorem dX0_sweep_161 : decode cX0_sweep 161 = .ok (.dup, 1) := by decide +kernel
theorem dX0_sweep_162 : decode cX0_sweep 162 = .ok (.getfield 18, 3) := by decide +kernel
theorem dX0_sweep_165 : decode cX0_sweep 165 = .ok (.iconst 1, 1) := by decide +kernel
theorem dX0_sweep_166 : decode cX0_sweep 166 = .ok (.iadd, 1) := by decide +kernel
theorem dX0_sweep_167 : decode cX0_sweep 167 = .ok (.putfield 18, 3) := by decide +kernel
theorem dX0_sweep_49 : decode cX0_sweep 49 = .ok (.aload_n 0, 1) := by decide +kernel
theorem dX0_sweep_50 : decode cX0_sweep 50 = .ok (.getfield 28, 3) := by decide +kernel
theorem dX0_sweep_53 : decode cX0_sweep 53 = .ok (.iload_n 2, 1) := by decide +kernel
theorem dX0_sweep_54 : decode cX0_sweep 54 = .ok (.iaload, 1) := by decide +kernel
theorem dX0_sweep_55 : decode cX0_sweep 55 = .ok (.iconst (-1), 1) := by decide +kernel
theorem dX0_sweep_56 : decode cX0_sweep 56 = .ok (.if_icmp .eq 32, 3) := by decide +kernel
theorem dX0_sweep_88 : decode cX0_sweep 88 = .ok (.iinc 2 1, 3) := by decide +kernel
theorem dX0_sweep_91 : decode cX0_sweep 91 = .ok (.goto (-55), 3) := by decide +kernel
theorem dX0_sweep_59 : decode cX0_sweep 59 = .ok (.aload_n 0, 1) := by decide +kernel
theorem dX0_sweep_60 : decode cX0_sweep 60 = .ok (.aload_n 0, 1) := by decide +kernel
theorem dX0_sweep_61 : decode cX0_sweep 61 = .ok (.getfield 28, 3) := by decide +kernel
theorem dX0_sweep_64 : decode cX0_sweep 64 = .ok (.iload_n 2, 1) := by decide +kernel
theorem dX0_sweep_65 : decode cX0_sweep 65 = .ok (.iaload, 1) := by decide +kernel
theorem dX0_sweep_66 : decode cX0_sweep 66 = .ok (.aload_n 0, 1) := by decide +kernel
theorem dX0_sweep_67 : decode cX0_sweep 67 = .ok (.getfield 31, 3) := by decide +kernel
theorem dX0_sweep_70 : decode cX0_sweep 70 = .ok (.iload_n 2, 1) := by decide +kernel
theorem dX0_sweep_71 : decode cX0_sweep 71 = .ok (.iaload, 1) := by decide +kernel
theorem dX0_sweep_72 : decode cX0_sweep 72 = .ok (.aload_n 0, 1) := by decide +kernel
theorem dX0_sweep_73 : decode cX0_sweep 73 = .ok (.getfield 34, 3) := by decide +kernel
theorem dX0_sweep_76 : decode cX0_sweep 76 = .ok (.iload_n 2, 1) := by decide +kernel
theorem dX0_sweep_77 : decode cX0_sweep 77 = .ok (.laload, 1) := by decide +kernel
theorem dX0_sweep_78 : decode cX0_sweep 78 = .ok (.aload_n 0, 1) := by decide +kernel
theorem dX0_sweep_79 : decode cX0_sweep 79 = .ok (.getfield 38, 3) := by decide +kernel
theorem dX0_sweep_82 : decode cX0_sweep 82 = .ok (.iload_n 2, 1) := by decide +kernel
theorem dX0_sweep_83 : decode cX0_sweep 83 = .ok (.laload, 1) := by decide +kernel
theorem dX0_sweep_84 : decode cX0_sweep 84 = .ok (.invokevirtual 85, 3) := by decide +kernel
theorem dX0_sweep_87 : decode cX0_sweep 87 = .ok (.pop, 1) := by decide +kernel
def o_X0_sweepL : List Cond := [.fieldLink RX0 15 "SsaForge$Code" "rows" "I", .fieldLink RX0 18 "SsaForge$Code" "phis" "I", .fieldLink RX0 9 "SsaForge$Code" "blocks" "I", .fieldLink RX0 24 "SsaForge$Code" "rowStart" "[I", .fieldLink RX0 59 "SsaForge$Code" "phiStart" "[I", .fieldLink RX0 62 "SsaForge$Code" "phiTarget" "[I", .fieldLink RX0 65 "SsaForge$Code" "argStart" "[I", .fieldLink RX0 28 "SsaForge$Code" "op" "[I", .fieldLink RX0 31 "SsaForge$Code" "target" "[I", .fieldLink RX0 34 "SsaForge$Code" "left" "[J", .fieldLink RX0 38 "SsaForge$Code" "right" "[J", .methodLink RX0 85 yX0_addRow, .instanceMethod yX0_addRow, .selects RX0 yX0_addRow yX0_addRow, .initialized RX0]
def v_X0_sweepL : List Cond := .code yX0_sweep cX0_sweep 5 (some .int) :: (o_X0_sweepL ++ (wsX00 ++ (v_X0_addRowL ++ [])))
theorem mow_X0_sweepL : ∀ w ∈ o_X0_sweepL, w ∈ v_X0_sweepL := fun _ h => List.mem_cons_of_mem _ (List.mem_append_left _ h)
theorem mem_X0_sweepL_0 : ∀ w ∈ wsX00, w ∈ v_X0_sweepL := fun _ h => List.mem_cons_of_mem _ (List.mem_append_right _ (List.mem_append_left _ h))
theorem mem_X0_sweepL_1 : ∀ w ∈ v_X0_addRowL, w ∈ v_X0_sweepL := fun _ h => List.mem_cons_of_mem _ (List.mem_append_right _ (List.mem_append_right _ (List.mem_append_left _ h)))
set_option maxRecDepth 20000 in
theorem gw_X0_sweepL : v_X0_sweepL.all goodWord = true := by decide +kernel
set_option maxRecDepth 20000 in
theorem g_X0_sweepL_X0_addRowL : GoodIn v_X0_sweepL (wsV RX0 85 RX0 yX0_addRow v_X0_addRowL) := goodIn_app (goodIn_sub (fun w h => mow_X0_sweepL w (by revert w h; decide +kernel)) (by decide +kernel)) (goodIn_sub mem_X0_sweepL_1 gw_X0_addRowL)
set_option maxHeartbeats 4000000 in
set_option maxRecDepth 100000 in
theorem c_X0_sweepL (l : Launch) (dC : Nat → ClassId) (dI : Nat → Nat → Nat) (h0 : Nat) (B1 : Int) (R1 : Int) (P1 : Int) (v_3 : Value) (q_704 : Nat) (cA_704 : ClassId) (a_4 : Int → Int) (q_705 : Nat) (cA_705 : ClassId) (a_5 : Int → Int) (q_706 : Nat) (cA_706 : ClassId) (a_6 : Int → Int) (q_707 : Nat) (cA_707 : ClassId) (a_7 : Int → Int) (q_708 : Nat) (cA_708 : ClassId) (a_8 : Int → Int) (v_9 : Value) (v_10 : Value) (v_11 : Value) (v_12 : Value) (v_13 : Value) (v_14 : Value) (q_715 : Nat) (cA_715 : ClassId) (a_15 : Int → Int) (q_716 : Nat) (cA_716 : ClassId) (a_16 : Int → Int) (q_717 : Nat) (cA_717 : ClassId) (a_17 : Int → Int) (v_18 : Value) (hNB1 : 0 ≤ B1 ∧ B1 ≤ 300) (hNR1 : 0 ≤ R1 ∧ R1 ≤ 2000) (hNP1 : 0 ≤ P1 ∧ P1 ≤ 1000) (hR_a_4 : ∀ j : Int, 0 ≤ a_4 j ∧ a_4 j ≤ 2000) (hR_a_5 : ∀ j : Int, -1 ≤ a_5 j ∧ a_5 j ≤ 100) (hR_a_6 : ∀ j : Int, -1 ≤ a_6 j ∧ a_6 j ≤ 1023) (hR_a_7 : ∀ j : Int, ((-2147483648 ≤ a_7 j ∧ a_7 j ≤ 4294968319) ∨ a_7 j = 1099511627776)) (hR_a_8 : ∀ j : Int, ((-2147483648 ≤ a_8 j ∧ a_8 j ≤ 4294968319) ∨ a_8 j = 1099511627776)) (hR_a_15 : ∀ j : Int, 0 ≤ a_15 j ∧ a_15 j ≤ 1000) (hR_a_16 : ∀ j : Int, -1 ≤ a_16 j ∧ a_16 j ≤ 1023) (hR_a_17 : ∀ j : Int, 0 ≤ a_17 j ∧ a_17 j ≤ 60000) (hX_MR : MS B1 R1 a_4) (hX_MF : MS B1 P1 a_15) (sz : Nat) : Met l yX0_sweep v_X0_sweepL ({ frames := 2, cells := 0, slots := 0, locals := 53 }) (va_Pc [.ref h0] (fun U => U.heap.size = sz ∧ va_P (dC, dI) vwP [(h0, .inr (0, [.int (zI (B1)), .int (zI (R1)), .int (zI (P1)), v_3, .ref q_704, .ref q_705, .ref q_706, .ref q_707, .ref q_708, v_9, v_10, v_11, v_12, v_13, v_14, .ref q_715, .ref q_716, .ref q_717, v_18])), (q_704, .inl (cA_704, 301, .inl (fun j : Nat => zI (a_4 (j : Int))))), (q_705, .inl (cA_705, 2000, .inl (fun j : Nat => zI (a_5 (j : Int))))), (q_706, .inl (cA_706, 2000, .inl (fun j : Nat => zI (a_6 (j : Int))))), (q_707, .inl (cA_707, 2000, .inr (.inl (fun j : Nat => lI (a_7 (j : Int)))))), (q_708, .inl (cA_708, 2000, .inr (.inl (fun j : Nat => lI (a_8 (j : Int)))))), (q_715, .inl (cA_715, 301, .inl (fun j : Nat => zI (a_15 (j : Int))))), (q_716, .inl (cA_716, 1000, .inl (fun j : Nat => zI (a_16 (j : Int))))), (q_717, .inl (cA_717, 1000, .inl (fun j : Nat => zI (a_17 (j : Int)))))] U.heap ∧ va_K (dC, dI) vwP [(cA_704, .int), (cA_705, .int), (cA_706, .int), (cA_707, .long), (cA_708, .long), (cA_715, .int), (cA_716, .int), (cA_717, .int)] U ∧ va_D (fun _ => True) [(h0, .inr (0, [.int (zI (B1)), .int (zI (R1)), .int (zI (P1)), v_3, .ref q_704, .ref q_705, .ref q_706, .ref q_707, .ref q_708, v_9, v_10, v_11, v_12, v_13, v_14, .ref q_715, .ref q_716, .ref q_717, v_18])), (q_704, .inl (cA_704, 301, .inl (fun j : Nat => zI (a_4 (j : Int))))), (q_705, .inl (cA_705, 2000, .inl (fun j : Nat => zI (a_5 (j : Int))))), (q_706, .inl (cA_706, 2000, .inl (fun j : Nat => zI (a_6 (j : Int))))), (q_707, .inl (cA_707, 2000, .inr (.inl (fun j : Nat => lI (a_7 (j : Int)))))), (q_708, .inl (cA_708, 2000, .inr (.inl (fun j : Nat => lI (a_8 (j : Int)))))), (q_715, .inl (cA_715, 301, .inl (fun j : Nat => zI (a_15 (j : Int))))), (q_716, .inl (cA_716, 1000, .inl (fun j : Nat => zI (a_16 (j : Int))))), (q_717, .inl (cA_717, 1000, .inl (fun j : Nat => zI (a_17 (j : Int)))))])) (va_Qi (fun (r : Int32) (_ : Unit) => ∃ z : Int, r = zI z ∧ (-6000 ≤ z ∧ z ≤ 6000)) (fun (_ : Unit) (t : State) => ∃ (z0_9 : Int) (z1_9 : Int) (a2_9 : Int → Int) (a3_9 : Int → Int) (a4_9 : Int → Int) (a5_9 : Int → Int) (a6_9 : Int → Int) (a7_9 : Int → Int) (a8_9 : Int → Int) (a9_9 : Int → Int), ((0 ≤ z0_9 ∧ z0_9 ≤ 2000) ∧ (0 ≤ z1_9 ∧ z1_9 ≤ 1000) ∧ (∀ j : Int, 0 ≤ a2_9 j ∧ a2_9 j ≤ 2000) ∧ (∀ j : Int, -1 ≤ a3_9 j ∧ a3_9 j ≤ 100) ∧ (∀ j : Int, -1 ≤ a4_9 j ∧ a4_9 j ≤ 1023) ∧ (∀ j : Int, ((-2147483648 ≤ a5_9 j ∧ a5_9 j ≤ 4294968319) ∨ a5_9 j = 1099511627776)) ∧ (∀ j : Int, ((-2147483648 ≤ a6_9 j ∧ a6_9 j ≤ 4294968319) ∨ a6_9 j = 1099511627776)) ∧ (∀ j : Int, 0 ≤ a7_9 j ∧ a7_9 j ≤ 1000) ∧ (∀ j : Int, -1 ≤ a8_9 j ∧ a8_9 j ≤ 1023) ∧ (∀ j : Int, 0 ≤ a9_9 j ∧ a9_9 j ≤ 60000) ∧ (∃ f g : Int → Int, SWS a_5 a_6 a_7 a_8 a_4 a_16 a_17 a_15 a3_9 a4_9 a5_9 a6_9 a2_9 a8_9 a9_9 a7_9 f g z0_9 R1 z1_9 P1 B1)) ∧ va_P (dC, dI) vwP [(h0, .inr (0, [.int (zI (B1)), .int (zI (z0_9)), .int (zI (z1_9)), v_3, .ref q_704, .ref q_705, .ref q_706, .ref q_707, .ref q_708, v_9, v_10, v_11, v_12, v_13, v_14, .ref q_715, .ref q_716, .ref q_717, v_18])), (q_704, .inl (cA_704, 301, .inl (fun j : Nat => zI (a2_9 (j : Int))))), (q_705, .inl (cA_705, 2000, .inl (fun j : Nat => zI (a3_9 (j : Int))))), (q_706, .inl (cA_706, 2000, .inl (fun j : Nat => zI (a4_9 (j : Int))))), (q_707, .inl (cA_707, 2000, .inr (.inl (fun j : Nat => lI (a5_9 (j : Int)))))), (q_708, .inl (cA_708, 2000, .inr (.inl (fun j : Nat => lI (a6_9 (j : Int)))))), (q_715, .inl (cA_715, 301, .inl (fun j : Nat => zI (a7_9 (j : Int))))), (q_716, .inl (cA_716, 1000, .inl (fun j : Nat => zI (a8_9 (j : Int))))), (q_717, .inl (cA_717, 1000, .inl (fun j : Nat => zI (a9_9 (j : Int)))))] t.heap ∧ va_K (dC, dI) vwP [(cA_704, .int), (cA_705, .int), (cA_706, .int), (cA_707, .long), (cA_708, .long), (cA_715, .int), (cA_716, .int), (cA_717, .int)] t ∧ va_D (va_A [(h0, .inr (0, [.int (zI (B1)), .int (zI (R1)), .int (zI (P1)), v_3, .ref q_704, .ref q_705, .ref q_706, .ref q_707, .ref q_708, v_9, v_10, v_11, v_12, v_13, v_14, .ref q_715, .ref q_716, .ref q_717, v_18])), (q_704, .inl (cA_704, 301, .inl (fun j : Nat => zI (a_4 (j : Int))))), (q_705, .inl (cA_705, 2000, .inl (fun j : Nat => zI (a_5 (j : Int))))), (q_706, .inl (cA_706, 2000, .inl (fun j : Nat => zI (a_6 (j : Int))))), (q_707, .inl (cA_707, 2000, .inr (.inl (fun j : Nat => lI (a_7 (j : Int)))))), (q_708, .inl (cA_708, 2000, .inr (.inl (fun j : Nat => lI (a_8 (j : Int)))))), (q_715, .inl (cA_715, 301, .inl (fun j : Nat => zI (a_15 (j : Int))))), (q_716, .inl (cA_716, 1000, .inl (fun j : Nat => zI (a_16 (j : Int))))), (q_717, .inl (cA_717, 1000, .inl (fun j : Nat => zI (a_17 (j : Int)))))] sz) [(h0, .inr (0, [.int (zI (B1)), .int (zI (z0_9)), .int (zI (z1_9)), v_3, .ref q_704, .ref q_705, .ref q_706, .ref q_707, .ref q_708, v_9, v_10, v_11, v_12, v_13, v_14, .ref q_715, .ref q_716, .ref q_717, v_18])), (q_704, .inl (cA_704, 301, .inl (fun j : Nat => zI (a2_9 (j : Int))))), (q_705, .inl (cA_705, 2000, .inl (fun j : Nat => zI (a3_9 (j : Int))))), (q_706, .inl (cA_706, 2000, .inl (fun j : Nat => zI (a4_9 (j : Int))))), (q_707, .inl (cA_707, 2000, .inr (.inl (fun j : Nat => lI (a5_9 (j : Int)))))), (q_708, .inl (cA_708, 2000, .inr (.inl (fun j : Nat => lI (a6_9 (j : Int)))))), (q_715, .inl (cA_715, 301, .inl (fun j : Nat => zI (a7_9 (j : Int))))), (q_716, .inl (cA_716, 1000, .inl (fun j : Nat => zI (a8_9 (j : Int))))), (q_717, .inl (cA_717, 1000, .inl (fun j : Nat => zI (a9_9 (j : Int)))))]) (va_A [(h0, .inr (0, [.int (zI (B1)), .int (zI (R1)), .int (zI (P1)), v_3, .ref q_704, .ref q_705, .ref q_706, .ref q_707, .ref q_708, v_9, v_10, v_11, v_12, v_13, v_14, .ref q_715, .ref q_716, .ref q_717, v_18])), (q_704, .inl (cA_704, 301, .inl (fun j : Nat => zI (a_4 (j : Int))))), (q_705, .inl (cA_705, 2000, .inl (fun j : Nat => zI (a_5 (j : Int))))), (q_706, .inl (cA_706, 2000, .inl (fun j : Nat => zI (a_6 (j : Int))))), (q_707, .inl (cA_707, 2000, .inr (.inl (fun j : Nat => lI (a_7 (j : Int)))))), (q_708, .inl (cA_708, 2000, .inr (.inl (fun j : Nat => lI (a_8 (j : Int)))))), (q_715, .inl (cA_715, 301, .inl (fun j : Nat => zI (a_15 (j : Int))))), (q_716, .inl (cA_716, 1000, .inl (fun j : Nat => zI (a_16 (j : Int))))), (q_717, .inl (cA_717, 1000, .inl (fun j : Nat => zI (a_17 (j : Int)))))] sz)) 0 0 (va_A [(h0, .inr (0, [.int (zI (B1)), .int (zI (R1)), .int (zI (P1)), v_3, .ref q_704, .ref q_705, .ref q_706, .ref q_707, .ref q_708, v_9, v_10, v_11, v_12, v_13, v_14, .ref q_715, .ref q_716, .ref q_717, v_18])), (q_704, .inl (cA_704, 301, .inl (fun j : Nat => zI (a_4 (j : Int))))), (q_705, .inl (cA_705, 2000, .inl (fun j : Nat => zI (a_5 (j : Int))))), (q_706, .inl (cA_706, 2000, .inl (fun j : Nat => zI (a_6 (j : Int))))), (q_707, .inl (cA_707, 2000, .inr (.inl (fun j : Nat => lI (a_7 (j : Int)))))), (q_708, .inl (cA_708, 2000, .inr (.inl (fun j : Nat => lI (a_8 (j : Int)))))), (q_715, .inl (cA_715, 301, .inl (fun j : Nat => zI (a_15 (j : Int))))), (q_716, .inl (cA_716, 1000, .inl (fun j : Nat => zI (a_16 (j : Int))))), (q_717, .inl (cA_717, 1000, .inl (fun j : Nat => zI (a_17 (j : Int)))))] sz) := by
  refine Met.ofW (cc := cX0_sweep) (maxL := 5) (ret := (some .int)) (by decide) rfl ?_
  intro p e s m args below meth c s₁ B hml hv
  obtain ⟨rfl, hsz, hP, hK, hD0⟩ := hv
  have hx := B.exec
  have hb := B.bytes
  have hr := B.returns
  have hts := atoms_spec (ws := v_X0_sweepL) B.pre
  have hown : s.vm.findClass RX0 = some m.cls := findClass_of_methodNamed B.named
  have hlocks := B.notSynchronized
  have ow : ∀ {k : Nat} {w : Cond}, o_X0_sweepL[k]? = some w → w.before ([.ref h0] : List Value).toArray s = true := fun h => hts _ (mow_X0_sweepL _ (List.mem_of_getElem? h))
  subst hsz
  have hD := hD0.self (sz := s.heap.size)
  generalize hAe : va_A [(h0, .inr (0, [.int (zI (B1)), .int (zI (R1)), .int (zI (P1)), v_3, .ref q_704, .ref q_705, .ref q_706, .ref q_707, .ref q_708, v_9, v_10, v_11, v_12, v_13, v_14, .ref q_715, .ref q_716, .ref q_717, v_18])), (q_704, .inl (cA_704, 301, .inl (fun j : Nat => zI (a_4 (j : Int))))), (q_705, .inl (cA_705, 2000, .inl (fun j : Nat => zI (a_5 (j : Int))))), (q_706, .inl (cA_706, 2000, .inl (fun j : Nat => zI (a_6 (j : Int))))), (q_707, .inl (cA_707, 2000, .inr (.inl (fun j : Nat => lI (a_7 (j : Int)))))), (q_708, .inl (cA_708, 2000, .inr (.inl (fun j : Nat => lI (a_8 (j : Int)))))), (q_715, .inl (cA_715, 301, .inl (fun j : Nat => zI (a_15 (j : Int))))), (q_716, .inl (cA_716, 1000, .inl (fun j : Nat => zI (a_16 (j : Int))))), (q_717, .inl (cA_717, 1000, .inl (fun j : Nat => zI (a_17 (j : Int)))))] s.heap.size = A at hD ⊢
  have hA : ∀ q : Nat, s.heap.size ≤ q → A q := fun q h => by rw [← hAe]; exact Or.inr h
  have hS : va_S A s.heap s.heap [] := va_S.rf
  have hP : va_P (dC, dI) vwP [(h0, .inr (0, [.int (zI (B1)), .int (zI (R1)), .int (zI (P1)), v_3, .ref q_704, .ref q_705, .ref q_706, .ref q_707, .ref q_708, v_9, v_10, v_11, v_12, v_13, v_14, .ref q_715, .ref q_716, .ref q_717, v_18])), (q_704, .inl (cA_704, 301, .inl (fun j : Nat => zI (a_4 (j : Int))))), (q_705, .inl (cA_705, 2000, .inl (fun j : Nat => zI (a_5 (j : Int))))), (q_706, .inl (cA_706, 2000, .inl (fun j : Nat => zI (a_6 (j : Int))))), (q_707, .inl (cA_707, 2000, .inr (.inl (fun j : Nat => lI (a_7 (j : Int)))))), (q_708, .inl (cA_708, 2000, .inr (.inl (fun j : Nat => lI (a_8 (j : Int)))))), (q_715, .inl (cA_715, 301, .inl (fun j : Nat => zI (a_15 (j : Int))))), (q_716, .inl (cA_716, 1000, .inl (fun j : Nat => zI (a_16 (j : Int))))), (q_717, .inl (cA_717, 1000, .inl (fun j : Nat => zI (a_17 (j : Int)))))] s.heap := hP
  have hl := lv_entry ([.ref h0]) (n := 5) (Nat.le_of_ble_eq_true rfl)
  rw [lg_entry_eq]
  generalize (lg_sl ([.ref h0]) ++ List.replicate (5 - (lg_sl ([.ref h0])).length) Slot.unset).toArray = ls at hl ⊢
  have hl : lv_has ls 5 [(0, .ref h0)] := hl
  obtain ⟨H, hH⟩ : ∃ H, H = s.heap := ⟨_, rfl⟩
  rw [← hH] at hP
  have hS : va_S A s.heap H [] := by rw [hH]; exact hS
  rw [← hH]
  refine zW_cap (fun Q hQ => ?_)
  refine lv_aload_n hx hb dX0_sweep_0 rfl (lv_at hl 0 rfl) ?_
  refine va_get (D := (dC, dI)) (ci := 0) (v := .int (zI (R1))) (C := RX0) (T := TX0) (N := 19) hx hb hts mem_X0_sweepL_0 hown hK hP 0 rfl rfl 1 (by decide) (ow (k := 0) rfl) (fun _ h9 => h9) rfl dX0_sweep_1 ?_
  refine lv_aload_n hx hb dX0_sweep_4 rfl (lv_at hl 0 rfl) ?_
  refine va_get (D := (dC, dI)) (ci := 0) (v := .int (zI (P1))) (C := RX0) (T := TX0) (N := 19) hx hb hts mem_X0_sweepL_0 hown hK hP 0 rfl rfl 2 (by decide) (ow (k := 1) rfl) (fun _ h9 => h9) rfl dX0_sweep_5 ?_
  refine lv_iadd hx hb dX0_sweep_8 ?_
  refine lv_topi (fun z ez => ?_)
  obtain rfl : z = zI (R1 + P1) := ez.trans (zI_add (R1) (P1))
  refine lv_istore_n (lv' := [(1, .int (zI (R1 + P1))), (0, .ref h0)]) hx hb dX0_sweep_9 rfl hl (by decide) rfl (fun ls hl => ?_)
  refine lv_iconst (v := 0) hx hb dX0_sweep_10 (by decide) ?_
  refine lv_istore_n (lv' := [(2, .int 0), (1, .int (zI (R1 + P1))), (0, .ref h0)]) hx hb dX0_sweep_11 rfl hl (by decide) rfl (fun ls hl => ?_)
  refine lv_iconst (v := 0) hx hb dX0_sweep_12 (by decide) ?_
  refine lv_istore_n (lv' := [(3, .int 0), (2, .int 0), (1, .int (zI (R1 + P1))), (0, .ref h0)]) hx hb dX0_sweep_13 rfl hl (by decide) rfl (fun ls hl => ?_)
  have h0r := hX_MR.z
  have h0f := hX_MF.z
  refine lv_aload_n hx hb dX0_sweep_14 rfl (lv_at hl 3 rfl) ?_
  refine lv_iconst (v := 0) hx hb dX0_sweep_15 (by decide) ?_
  refine va_put (D := (dC, dI)) (ci := 0) (v := .int 0) (ty := .int) (C := RX0) (T := TX0) (N := 19) hx hb hts mem_X0_sweepL_0 tyX0 tyX0_ok nmX0 hown hK hP hD hS 0 rfl rfl 1 (by decide) (ow (k := 0) rfl) (fun _ h9 => h9) rfl (by decide +kernel) rfl rfl (Nat.le_of_ble_eq_true rfl) dX0_sweep_16 (fun H locs hP hD hS => ?_)
  have hP : va_P (dC, dI) vwP [(h0, .inr (0, [.int (zI (B1)), .int 0, .int (zI (P1)), v_3, .ref q_704, .ref q_705, .ref q_706, .ref q_707, .ref q_708, v_9, v_10, v_11, v_12, v_13, v_14, .ref q_715, .ref q_716, .ref q_717, v_18])), (q_704, .inl (cA_704, 301, .inl (fun j : Nat => zI (a_4 (j : Int))))), (q_705, .inl (cA_705, 2000, .inl (fun j : Nat => zI (a_5 (j : Int))))), (q_706, .inl (cA_706, 2000, .inl (fun j : Nat => zI (a_6 (j : Int))))), (q_707, .inl (cA_707, 2000, .inr (.inl (fun j : Nat => lI (a_7 (j : Int)))))), (q_708, .inl (cA_708, 2000, .inr (.inl (fun j : Nat => lI (a_8 (j : Int)))))), (q_715, .inl (cA_715, 301, .inl (fun j : Nat => zI (a_15 (j : Int))))), (q_716, .inl (cA_716, 1000, .inl (fun j : Nat => zI (a_16 (j : Int))))), (q_717, .inl (cA_717, 1000, .inl (fun j : Nat => zI (a_17 (j : Int)))))] H := hP
  have hD : va_D A [(h0, .inr (0, [.int (zI (B1)), .int 0, .int (zI (P1)), v_3, .ref q_704, .ref q_705, .ref q_706, .ref q_707, .ref q_708, v_9, v_10, v_11, v_12, v_13, v_14, .ref q_715, .ref q_716, .ref q_717, v_18])), (q_704, .inl (cA_704, 301, .inl (fun j : Nat => zI (a_4 (j : Int))))), (q_705, .inl (cA_705, 2000, .inl (fun j : Nat => zI (a_5 (j : Int))))), (q_706, .inl (cA_706, 2000, .inl (fun j : Nat => zI (a_6 (j : Int))))), (q_707, .inl (cA_707, 2000, .inr (.inl (fun j : Nat => lI (a_7 (j : Int)))))), (q_708, .inl (cA_708, 2000, .inr (.inl (fun j : Nat => lI (a_8 (j : Int)))))), (q_715, .inl (cA_715, 301, .inl (fun j : Nat => zI (a_15 (j : Int))))), (q_716, .inl (cA_716, 1000, .inl (fun j : Nat => zI (a_16 (j : Int))))), (q_717, .inl (cA_717, 1000, .inl (fun j : Nat => zI (a_17 (j : Int)))))] := hD
  refine lv_aload_n hx hb dX0_sweep_19 rfl (lv_at hl 3 rfl) ?_
  refine lv_iconst (v := 0) hx hb dX0_sweep_20 (by decide) ?_
  refine va_put (D := (dC, dI)) (ci := 0) (v := .int 0) (ty := .int) (C := RX0) (T := TX0) (N := 19) hx hb hts mem_X0_sweepL_0 tyX0 tyX0_ok nmX0 hown hK hP hD hS 0 rfl rfl 2 (by decide) (ow (k := 1) rfl) (fun _ h9 => h9) rfl (by decide +kernel) rfl rfl (Nat.le_of_ble_eq_true rfl) dX0_sweep_21 (fun H locs hP hD hS => ?_)
  have hP : va_P (dC, dI) vwP [(h0, .inr (0, [.int (zI (B1)), .int 0, .int 0, v_3, .ref q_704, .ref q_705, .ref q_706, .ref q_707, .ref q_708, v_9, v_10, v_11, v_12, v_13, v_14, .ref q_715, .ref q_716, .ref q_717, v_18])), (q_704, .inl (cA_704, 301, .inl (fun j : Nat => zI (a_4 (j : Int))))), (q_705, .inl (cA_705, 2000, .inl (fun j : Nat => zI (a_5 (j : Int))))), (q_706, .inl (cA_706, 2000, .inl (fun j : Nat => zI (a_6 (j : Int))))), (q_707, .inl (cA_707, 2000, .inr (.inl (fun j : Nat => lI (a_7 (j : Int)))))), (q_708, .inl (cA_708, 2000, .inr (.inl (fun j : Nat => lI (a_8 (j : Int)))))), (q_715, .inl (cA_715, 301, .inl (fun j : Nat => zI (a_15 (j : Int))))), (q_716, .inl (cA_716, 1000, .inl (fun j : Nat => zI (a_16 (j : Int))))), (q_717, .inl (cA_717, 1000, .inl (fun j : Nat => zI (a_17 (j : Int)))))] H := hP
  have hD : va_D A [(h0, .inr (0, [.int (zI (B1)), .int 0, .int 0, v_3, .ref q_704, .ref q_705, .ref q_706, .ref q_707, .ref q_708, v_9, v_10, v_11, v_12, v_13, v_14, .ref q_715, .ref q_716, .ref q_717, v_18])), (q_704, .inl (cA_704, 301, .inl (fun j : Nat => zI (a_4 (j : Int))))), (q_705, .inl (cA_705, 2000, .inl (fun j : Nat => zI (a_5 (j : Int))))), (q_706, .inl (cA_706, 2000, .inl (fun j : Nat => zI (a_6 (j : Int))))), (q_707, .inl (cA_707, 2000, .inr (.inl (fun j : Nat => lI (a_7 (j : Int)))))), (q_708, .inl (cA_708, 2000, .inr (.inl (fun j : Nat => lI (a_8 (j : Int)))))), (q_715, .inl (cA_715, 301, .inl (fun j : Nat => zI (a_15 (j : Int))))), (q_716, .inl (cA_716, 1000, .inl (fun j : Nat => zI (a_16 (j : Int))))), (q_717, .inl (cA_717, 1000, .inl (fun j : Nat => zI (a_17 (j : Int)))))] := hD
  refine lv_iconst (v := 0) hx hb dX0_sweep_24 (by decide) ?_
  refine lv_istore (lv' := [(4, .int 0), (3, .int 0), (2, .int 0), (1, .int (zI (R1 + P1))), (0, .ref h0)]) hx hb dX0_sweep_25 hl (by decide) rfl (fun ls hl => ?_)
  have key27 : ∀ n27 : Nat, ∀ (d27_4 : Int) (d27_3 : Int) (d27_2 : Int) (e27_0_1 : Int) (e27_0_2 : Int) (w27_704 : Int → Int) (w27_705 : Int → Int) (w27_706 : Int → Int) (w27_707 : Int → Int) (w27_708 : Int → Int) (w27_715 : Int → Int) (w27_716 : Int → Int) (w27_717 : Int → Int) (ls : Array Slot) (H : Heap) (locs : List Loc), (0 ≤ d27_4 ∧ d27_4 ≤ B1) → (d27_3 = a_15 d27_4) → (d27_2 = a_4 d27_4) → (0 ≤ e27_0_1 ∧ e27_0_1 ≤ 2000) → (0 ≤ e27_0_2 ∧ e27_0_2 ≤ 1000) → (∀ j : Int, 0 ≤ w27_704 j ∧ w27_704 j ≤ 2000) → (∀ j : Int, -1 ≤ w27_705 j ∧ w27_705 j ≤ 100) → (∀ j : Int, -1 ≤ w27_706 j ∧ w27_706 j ≤ 1023) → (∀ j : Int, ((-2147483648 ≤ w27_707 j ∧ w27_707 j ≤ 4294968319) ∨ w27_707 j = 1099511627776)) → (∀ j : Int, ((-2147483648 ≤ w27_708 j ∧ w27_708 j ≤ 4294968319) ∨ w27_708 j = 1099511627776)) → (∀ j : Int, 0 ≤ w27_715 j ∧ w27_715 j ≤ 1000) → (∀ j : Int, -1 ≤ w27_716 j ∧ w27_716 j ≤ 1023) → (∀ j : Int, 0 ≤ w27_717 j ∧ w27_717 j ≤ 60000) → (∃ f g : Int → Int, SWS a_5 a_6 a_7 a_8 a_4 a_16 a_17 a_15 w27_705 w27_706 w27_707 w27_708 w27_704 w27_716 w27_717 w27_715 f g e27_0_1 d27_2 e27_0_2 d27_3 d27_4) → (((B1) - (d27_4) : Int).toNat) < n27 → lv_has ls 5 [(0, .ref h0), (1, .int (zI (R1 + P1))), (2, .int (zI (d27_2))), (3, .int (zI (d27_3))), (4, .int (zI (d27_4)))] → va_P (dC, dI) vwP [(h0, .inr (0, [.int (zI (B1)), .int (zI (e27_0_1)), .int (zI (e27_0_2)), v_3, .ref q_704, .ref q_705, .ref q_706, .ref q_707, .ref q_708, v_9, v_10, v_11, v_12, v_13, v_14, .ref q_715, .ref q_716, .ref q_717, v_18])), (q_704, .inl (cA_704, 301, .inl (fun j : Nat => zI (w27_704 (j : Int))))), (q_705, .inl (cA_705, 2000, .inl (fun j : Nat => zI (w27_705 (j : Int))))), (q_706, .inl (cA_706, 2000, .inl (fun j : Nat => zI (w27_706 (j : Int))))), (q_707, .inl (cA_707, 2000, .inr (.inl (fun j : Nat => lI (w27_707 (j : Int)))))), (q_708, .inl (cA_708, 2000, .inr (.inl (fun j : Nat => lI (w27_708 (j : Int)))))), (q_715, .inl (cA_715, 301, .inl (fun j : Nat => zI (w27_715 (j : Int))))), (q_716, .inl (cA_716, 1000, .inl (fun j : Nat => zI (w27_716 (j : Int))))), (q_717, .inl (cA_717, 1000, .inl (fun j : Nat => zI (w27_717 (j : Int)))))] H → va_D A [(h0, .inr (0, [.int (zI (B1)), .int (zI (e27_0_1)), .int (zI (e27_0_2)), v_3, .ref q_704, .ref q_705, .ref q_706, .ref q_707, .ref q_708, v_9, v_10, v_11, v_12, v_13, v_14, .ref q_715, .ref q_716, .ref q_717, v_18])), (q_704, .inl (cA_704, 301, .inl (fun j : Nat => zI (w27_704 (j : Int))))), (q_705, .inl (cA_705, 2000, .inl (fun j : Nat => zI (w27_705 (j : Int))))), (q_706, .inl (cA_706, 2000, .inl (fun j : Nat => zI (w27_706 (j : Int))))), (q_707, .inl (cA_707, 2000, .inr (.inl (fun j : Nat => lI (w27_707 (j : Int)))))), (q_708, .inl (cA_708, 2000, .inr (.inl (fun j : Nat => lI (w27_708 (j : Int)))))), (q_715, .inl (cA_715, 301, .inl (fun j : Nat => zI (w27_715 (j : Int))))), (q_716, .inl (cA_716, 1000, .inl (fun j : Nat => zI (w27_716 (j : Int))))), (q_717, .inl (cA_717, 1000, .inl (fun j : Nat => zI (w27_717 (j : Int)))))] → va_S A s.heap H locs → W p l e (headSpec v_X0_sweepL ({ frames := 2, cells := 0, slots := 0, locals := 53 })).room s m ([.ref h0] : List Value).toArray below meth c H locs 0 0 Q (F0 m 27 ls []) := by
    intro n27
    induction n27 with
    | zero => intro d27_4 d27_3 d27_2 e27_0_1 e27_0_2 w27_704 w27_705 w27_706 w27_707 w27_708 w27_715 w27_716 w27_717 ls H locs jd27_4 jd27_3 jd27_2 je27_0_1 je27_0_2 jw27_704 jw27_705 jw27_706 jw27_707 jw27_708 jw27_715 jw27_716 jw27_717 jW hm27; exact absurd hm27 (by omega)
    | succ n27 ih27 =>
      intro d27_4 d27_3 d27_2 e27_0_1 e27_0_2 w27_704 w27_705 w27_706 w27_707 w27_708 w27_715 w27_716 w27_717 ls H locs jd27_4 jd27_3 jd27_2 je27_0_1 je27_0_2 jw27_704 jw27_705 jw27_706 jw27_707 jw27_708 jw27_715 jw27_716 jw27_717 jW hm27 hl hP hD hS
      have hm8 : B1 ≤ d27_4 ∨ (a_4 d27_4 ≤ a_4 (d27_4 + 1) ∧ a_15 d27_4 ≤ a_15 (d27_4 + 1)) := (by rcases Int.lt_or_le d27_4 B1 with q9 | q9; exact Or.inr ⟨hX_MR.mo d27_4 (by omega) q9, hX_MF.mo d27_4 (by omega) q9⟩; exact Or.inl q9)
      refine lv_iload hx hb dX0_sweep_27 (lv_at hl 4 rfl) ?_
      refine lv_aload_n hx hb dX0_sweep_29 rfl (lv_at hl 0 rfl) ?_
      refine va_get (D := (dC, dI)) (ci := 0) (v := .int (zI (B1))) (C := RX0) (T := TX0) (N := 19) hx hb hts mem_X0_sweepL_0 hown hK hP 0 rfl rfl 0 (by decide) (ow (k := 2) rfl) (fun _ h9 => h9) rfl dX0_sweep_30 ?_
      refine lv_icmp_ge (tgt := 195) hx hb dX0_sweep_33 (by decide) (fun b33 => ?_) (fun b33 => ?_)
      · have yb33 : (B1 : Int) ≤ (d27_4 : Int) := (zI_le (a := B1) (b := d27_4) (by omega) (by omega) (by omega) (by omega)).mp b33
        refine lv_iload_n hx hb dX0_sweep_195 rfl (lv_at hl 1 rfl) ?_
        refine lv_aload_n hx hb dX0_sweep_196 rfl (lv_at hl 0 rfl) ?_
        refine va_get (D := (dC, dI)) (ci := 0) (v := .int (zI (e27_0_1))) (C := RX0) (T := TX0) (N := 19) hx hb hts mem_X0_sweepL_0 hown hK hP 0 rfl rfl 1 (by decide) (ow (k := 0) rfl) (fun _ h9 => h9) rfl dX0_sweep_197 ?_
        refine lv_isub hx hb dX0_sweep_200 ?_
        refine lv_topi (fun z ez => ?_)
        obtain rfl : z = zI ((R1 + P1) - e27_0_1) := ez.trans (zI_sub (R1 + P1) (e27_0_1))
        refine lv_aload_n hx hb dX0_sweep_201 rfl (lv_at hl 0 rfl) ?_
        refine va_get (D := (dC, dI)) (ci := 0) (v := .int (zI (e27_0_2))) (C := RX0) (T := TX0) (N := 19) hx hb hts mem_X0_sweepL_0 hown hK hP 0 rfl rfl 2 (by decide) (ow (k := 1) rfl) (fun _ h9 => h9) rfl dX0_sweep_202 ?_
        refine lv_isub hx hb dX0_sweep_205 ?_
        refine lv_topi (fun z ez => ?_)
        obtain rfl : z = zI (((R1 + P1) - e27_0_1) - e27_0_2) := ez.trans (zI_sub ((R1 + P1) - e27_0_1) (e27_0_2))
        subst hQ
        refine W.widen (k := 0) (n := 0) (Nat.le_of_ble_eq_true rfl) (Nat.le_of_ble_eq_true rfl) ?_
        exact W.iret (v := (zI (((R1 + P1) - e27_0_1) - e27_0_2))) hx hb hr (fun t ht hW => ⟨⟨(zI (((R1 + P1) - e27_0_1) - e27_0_2)), (), rfl, ⟨((R1 + P1) - e27_0_1) - e27_0_2, rfl, by omega⟩, e27_0_1, e27_0_2, w27_704, w27_705, w27_706, w27_707, w27_708, w27_715, w27_716, w27_717, ⟨(by omega), (by omega), jw27_704, jw27_705, jw27_706, jw27_707, jw27_708, jw27_715, jw27_716, jw27_717, (by obtain ⟨f, g, h1⟩ := jW; have q9 : d27_4 = B1 := (by omega); have q8 := hX_MR.e; have q7 := hX_MF.e; rw [q9] at h1; rw [show d27_2 = R1 by rw [jd27_2, q9]; exact q8, show d27_3 = P1 by rw [jd27_3, q9]; exact q7] at h1; exact ⟨f, g, h1⟩)⟩, by rw [ht]; exact hP, va_K.moved hW.alike hK, hD⟩, hS.F ht⟩) hS.2.2 dX0_sweep_206
      · have yb33 : ¬ (B1 : Int) ≤ (d27_4 : Int) := fun q => b33 ((zI_le (a := B1) (b := d27_4) (by omega) (by omega) (by omega) (by omega)).mpr q)
        have key36 : ∀ n36 : Nat, ∀ (d36_2 : Int) (e36_0_1 : Int) (w36_705 : Int → Int) (w36_706 : Int → Int) (w36_707 : Int → Int) (w36_708 : Int → Int) (ls : Array Slot) (H : Heap) (locs : List Loc), (a_4 d27_4 ≤ d36_2 ∧ d36_2 ≤ a_4 (d27_4 + 1)) → (0 ≤ e36_0_1 ∧ e36_0_1 ≤ 2000) → (∀ j : Int, -1 ≤ w36_705 j ∧ w36_705 j ≤ 100) → (∀ j : Int, -1 ≤ w36_706 j ∧ w36_706 j ≤ 1023) → (∀ j : Int, ((-2147483648 ≤ w36_707 j ∧ w36_707 j ≤ 4294968319) ∨ w36_707 j = 1099511627776)) → (∀ j : Int, ((-2147483648 ≤ w36_708 j ∧ w36_708 j ≤ 4294968319) ∨ w36_708 j = 1099511627776)) → (∃ f g : Int → Int, SWS a_5 a_6 a_7 a_8 a_4 a_16 a_17 a_15 w36_705 w36_706 w36_707 w36_708 w27_704 w27_716 w27_717 w27_715 f g e36_0_1 d36_2 e27_0_2 d27_3 d27_4) → (((w27_704 (d27_4 + 1)) - (d36_2) : Int).toNat) < n36 → lv_has ls 5 [(0, .ref h0), (1, .int (zI (R1 + P1))), (2, .int (zI (d36_2))), (3, .int (zI (d27_3))), (4, .int (zI (d27_4)))] → va_P (dC, dI) vwP [(h0, .inr (0, [.int (zI (B1)), .int (zI (e36_0_1)), .int (zI (e27_0_2)), v_3, .ref q_704, .ref q_705, .ref q_706, .ref q_707, .ref q_708, v_9, v_10, v_11, v_12, v_13, v_14, .ref q_715, .ref q_716, .ref q_717, v_18])), (q_704, .inl (cA_704, 301, .inl (fun j : Nat => zI (w27_704 (j : Int))))), (q_705, .inl (cA_705, 2000, .inl (fun j : Nat => zI (w36_705 (j : Int))))), (q_706, .inl (cA_706, 2000, .inl (fun j : Nat => zI (w36_706 (j : Int))))), (q_707, .inl (cA_707, 2000, .inr (.inl (fun j : Nat => lI (w36_707 (j : Int)))))), (q_708, .inl (cA_708, 2000, .inr (.inl (fun j : Nat => lI (w36_708 (j : Int)))))), (q_715, .inl (cA_715, 301, .inl (fun j : Nat => zI (w27_715 (j : Int))))), (q_716, .inl (cA_716, 1000, .inl (fun j : Nat => zI (w27_716 (j : Int))))), (q_717, .inl (cA_717, 1000, .inl (fun j : Nat => zI (w27_717 (j : Int)))))] H → va_D A [(h0, .inr (0, [.int (zI (B1)), .int (zI (e36_0_1)), .int (zI (e27_0_2)), v_3, .ref q_704, .ref q_705, .ref q_706, .ref q_707, .ref q_708, v_9, v_10, v_11, v_12, v_13, v_14, .ref q_715, .ref q_716, .ref q_717, v_18])), (q_704, .inl (cA_704, 301, .inl (fun j : Nat => zI (w27_704 (j : Int))))), (q_705, .inl (cA_705, 2000, .inl (fun j : Nat => zI (w36_705 (j : Int))))), (q_706, .inl (cA_706, 2000, .inl (fun j : Nat => zI (w36_706 (j : Int))))), (q_707, .inl (cA_707, 2000, .inr (.inl (fun j : Nat => lI (w36_707 (j : Int)))))), (q_708, .inl (cA_708, 2000, .inr (.inl (fun j : Nat => lI (w36_708 (j : Int)))))), (q_715, .inl (cA_715, 301, .inl (fun j : Nat => zI (w27_715 (j : Int))))), (q_716, .inl (cA_716, 1000, .inl (fun j : Nat => zI (w27_716 (j : Int))))), (q_717, .inl (cA_717, 1000, .inl (fun j : Nat => zI (w27_717 (j : Int)))))] → va_S A s.heap H locs → W p l e (headSpec v_X0_sweepL ({ frames := 2, cells := 0, slots := 0, locals := 53 })).room s m ([.ref h0] : List Value).toArray below meth c H locs 0 0 Q (F0 m 36 ls []) := by
          intro n36
          induction n36 with
          | zero => intro d36_2 e36_0_1 w36_705 w36_706 w36_707 w36_708 ls H locs jd36_2 je36_0_1 jw36_705 jw36_706 jw36_707 jw36_708 jW hm36; exact absurd hm36 (by omega)
          | succ n36 ih36 =>
            intro d36_2 e36_0_1 w36_705 w36_706 w36_707 w36_708 ls H locs jd36_2 je36_0_1 jw36_705 jw36_706 jw36_707 jw36_708 jW hm36 hl hP hD hS
            have hm1 := hX_MR.mo d27_4 (by omega) (by omega)
            have hm2 := hX_MF.mo d27_4 (by omega) (by omega)
            have hl9 : w27_704 (d27_4 + 1) = a_4 (d27_4 + 1) ∧ w27_715 (d27_4 + 1) = a_15 (d27_4 + 1) := (by obtain ⟨f, g, h1⟩ := jW; exact ⟨h1.lr (d27_4 + 1) (by omega), h1.lf (d27_4 + 1) (by omega)⟩)
            have hnj : 0 ≤ e27_0_1 := (by omega)
            refine lv_iload_n hx hb dX0_sweep_36 rfl (lv_at hl 2 rfl) ?_
            refine lv_aload_n hx hb dX0_sweep_37 rfl (lv_at hl 0 rfl) ?_
            refine va_get (D := (dC, dI)) (ci := 0) (v := .ref q_704) (C := RX0) (T := TX0) (N := 19) hx hb hts mem_X0_sweepL_0 hown hK hP 0 rfl rfl 4 (by decide) (ow (k := 3) rfl) (fun _ h9 => h9) rfl dX0_sweep_38 ?_
            refine lv_iload hx hb dX0_sweep_41 (lv_at hl 4 rfl) ?_
            refine lv_iconst (v := 1) hx hb dX0_sweep_43 (by decide) ?_
            refine lv_iadd hx hb dX0_sweep_44 ?_
            refine lv_topi (fun z ez => ?_)
            obtain rfl : z = zI (d27_4 + 1) := ez.trans (zI_add (d27_4) (1))
            refine va_iald hx hb hK hP 1 0 rfl rfl (zI_in (a := d27_4 + 1) (n := 301) (by omega) (by omega) (by decide)) dX0_sweep_45 ?_
            refine lv_topi (fun z ez => ?_)
            obtain rfl : z = zI (w27_704 (d27_4 + 1)) := ez.trans (zI_ld (w27_704) (by omega) (by omega))
            have k1 := jw27_704 (d27_4 + 1)
            refine lv_icmp_ge (tgt := 94) hx hb dX0_sweep_46 (by decide) (fun b46 => ?_) (fun b46 => ?_)
            · have yb46 : (w27_704 (d27_4 + 1) : Int) ≤ (d36_2 : Int) := (zI_le (a := w27_704 (d27_4 + 1)) (b := d36_2) (by omega) (by omega) (by omega) (by omega)).mp b46
              have hre : d36_2 = a_4 (d27_4 + 1) := (by omega)
              refine lv_aload_n hx hb dX0_sweep_94 rfl (lv_at hl 0 rfl) ?_
              refine va_get (D := (dC, dI)) (ci := 0) (v := .ref q_704) (C := RX0) (T := TX0) (N := 19) hx hb hts mem_X0_sweepL_0 hown hK hP 0 rfl rfl 4 (by decide) (ow (k := 3) rfl) (fun _ h9 => h9) rfl dX0_sweep_95 ?_
              refine lv_iload hx hb dX0_sweep_98 (lv_at hl 4 rfl) ?_
              refine lv_iconst (v := 1) hx hb dX0_sweep_100 (by decide) ?_
              refine lv_iadd hx hb dX0_sweep_101 ?_
              refine lv_topi (fun z ez => ?_)
              obtain rfl : z = zI (d27_4 + 1) := ez.trans (zI_add (d27_4) (1))
              refine lv_aload_n hx hb dX0_sweep_102 rfl (lv_at hl 0 rfl) ?_
              refine va_get (D := (dC, dI)) (ci := 0) (v := .int (zI (e36_0_1))) (C := RX0) (T := TX0) (N := 19) hx hb hts mem_X0_sweepL_0 hown hK hP 0 rfl rfl 1 (by decide) (ow (k := 0) rfl) (fun _ h9 => h9) rfl dX0_sweep_103 ?_
              refine va_iast (i := zI (d27_4 + 1)) hx hb hK hP hD hS 1 0 rfl rfl (zI_in (a := d27_4 + 1) (n := 301) (by omega) (by omega) (by decide)) dX0_sweep_106 (fun H locs hP hD hS => ?_)
              have eQ : upd (fun j : Nat => zI (w27_704 (j : Int))) (zI (d27_4 + 1)).toNatClampNeg (zI (e36_0_1)) = (fun j : Nat => zI (zup w27_704 (d27_4 + 1) (e36_0_1) (j : Int))) := zI_st w27_704 (e := d27_4 + 1) (v := e36_0_1) (by omega) (by omega)
              rw [eQ] at hP hD
              clear eQ
              have ra_2001 : ∀ j : Int, 0 ≤ zup w27_704 (d27_4 + 1) (e36_0_1) j ∧ zup w27_704 (d27_4 + 1) (e36_0_1) j ≤ 2000 := zup_P (P := fun x9 => 0 ≤ x9 ∧ x9 ≤ 2000) jw27_704 (show 0 ≤ (e36_0_1) ∧ (e36_0_1) ≤ 2000 by omega)
              obtain ⟨a_2001, ea_2001⟩ : ∃ a9 : Int → Int, a9 = zup w27_704 (d27_4 + 1) (e36_0_1) := ⟨_, rfl⟩
              rw [← ea_2001] at hP hD ra_2001
              have hP : va_P (dC, dI) vwP [(h0, .inr (0, [.int (zI (B1)), .int (zI (e36_0_1)), .int (zI (e27_0_2)), v_3, .ref q_704, .ref q_705, .ref q_706, .ref q_707, .ref q_708, v_9, v_10, v_11, v_12, v_13, v_14, .ref q_715, .ref q_716, .ref q_717, v_18])), (q_704, .inl (cA_704, 301, .inl (fun j : Nat => zI (a_2001 (j : Int))))), (q_705, .inl (cA_705, 2000, .inl (fun j : Nat => zI (w36_705 (j : Int))))), (q_706, .inl (cA_706, 2000, .inl (fun j : Nat => zI (w36_706 (j : Int))))), (q_707, .inl (cA_707, 2000, .inr (.inl (fun j : Nat => lI (w36_707 (j : Int)))))), (q_708, .inl (cA_708, 2000, .inr (.inl (fun j : Nat => lI (w36_708 (j : Int)))))), (q_715, .inl (cA_715, 301, .inl (fun j : Nat => zI (w27_715 (j : Int))))), (q_716, .inl (cA_716, 1000, .inl (fun j : Nat => zI (w27_716 (j : Int))))), (q_717, .inl (cA_717, 1000, .inl (fun j : Nat => zI (w27_717 (j : Int)))))] H := hP
              have hD : va_D A [(h0, .inr (0, [.int (zI (B1)), .int (zI (e36_0_1)), .int (zI (e27_0_2)), v_3, .ref q_704, .ref q_705, .ref q_706, .ref q_707, .ref q_708, v_9, v_10, v_11, v_12, v_13, v_14, .ref q_715, .ref q_716, .ref q_717, v_18])), (q_704, .inl (cA_704, 301, .inl (fun j : Nat => zI (a_2001 (j : Int))))), (q_705, .inl (cA_705, 2000, .inl (fun j : Nat => zI (w36_705 (j : Int))))), (q_706, .inl (cA_706, 2000, .inl (fun j : Nat => zI (w36_706 (j : Int))))), (q_707, .inl (cA_707, 2000, .inr (.inl (fun j : Nat => lI (w36_707 (j : Int)))))), (q_708, .inl (cA_708, 2000, .inr (.inl (fun j : Nat => lI (w36_708 (j : Int)))))), (q_715, .inl (cA_715, 301, .inl (fun j : Nat => zI (w27_715 (j : Int))))), (q_716, .inl (cA_716, 1000, .inl (fun j : Nat => zI (w27_716 (j : Int))))), (q_717, .inl (cA_717, 1000, .inl (fun j : Nat => zI (w27_717 (j : Int)))))] := hD
              have key107 : ∀ n107 : Nat, ∀ (d107_3 : Int) (e107_0_2 : Int) (w107_716 : Int → Int) (w107_717 : Int → Int) (ls : Array Slot) (H : Heap) (locs : List Loc), (a_15 d27_4 ≤ d107_3 ∧ d107_3 ≤ a_15 (d27_4 + 1)) → (0 ≤ e107_0_2 ∧ e107_0_2 ≤ 1000) → (∀ j : Int, -1 ≤ w107_716 j ∧ w107_716 j ≤ 1023) → (∀ j : Int, 0 ≤ w107_717 j ∧ w107_717 j ≤ 60000) → (∃ f g : Int → Int, SWP a_5 a_6 a_7 a_8 a_4 a_16 a_17 a_15 w36_705 w36_706 w36_707 w36_708 a_2001 w107_716 w107_717 w27_715 f g e36_0_1 d36_2 e107_0_2 d107_3 d27_4) → (((w27_715 (d27_4 + 1)) - (d107_3) : Int).toNat) < n107 → lv_has ls 5 [(0, .ref h0), (1, .int (zI (R1 + P1))), (2, .int (zI (d36_2))), (3, .int (zI (d107_3))), (4, .int (zI (d27_4)))] → va_P (dC, dI) vwP [(h0, .inr (0, [.int (zI (B1)), .int (zI (e36_0_1)), .int (zI (e107_0_2)), v_3, .ref q_704, .ref q_705, .ref q_706, .ref q_707, .ref q_708, v_9, v_10, v_11, v_12, v_13, v_14, .ref q_715, .ref q_716, .ref q_717, v_18])), (q_704, .inl (cA_704, 301, .inl (fun j : Nat => zI (a_2001 (j : Int))))), (q_705, .inl (cA_705, 2000, .inl (fun j : Nat => zI (w36_705 (j : Int))))), (q_706, .inl (cA_706, 2000, .inl (fun j : Nat => zI (w36_706 (j : Int))))), (q_707, .inl (cA_707, 2000, .inr (.inl (fun j : Nat => lI (w36_707 (j : Int)))))), (q_708, .inl (cA_708, 2000, .inr (.inl (fun j : Nat => lI (w36_708 (j : Int)))))), (q_715, .inl (cA_715, 301, .inl (fun j : Nat => zI (w27_715 (j : Int))))), (q_716, .inl (cA_716, 1000, .inl (fun j : Nat => zI (w107_716 (j : Int))))), (q_717, .inl (cA_717, 1000, .inl (fun j : Nat => zI (w107_717 (j : Int)))))] H → va_D A [(h0, .inr (0, [.int (zI (B1)), .int (zI (e36_0_1)), .int (zI (e107_0_2)), v_3, .ref q_704, .ref q_705, .ref q_706, .ref q_707, .ref q_708, v_9, v_10, v_11, v_12, v_13, v_14, .ref q_715, .ref q_716, .ref q_717, v_18])), (q_704, .inl (cA_704, 301, .inl (fun j : Nat => zI (a_2001 (j : Int))))), (q_705, .inl (cA_705, 2000, .inl (fun j : Nat => zI (w36_705 (j : Int))))), (q_706, .inl (cA_706, 2000, .inl (fun j : Nat => zI (w36_706 (j : Int))))), (q_707, .inl (cA_707, 2000, .inr (.inl (fun j : Nat => lI (w36_707 (j : Int)))))), (q_708, .inl (cA_708, 2000, .inr (.inl (fun j : Nat => lI (w36_708 (j : Int)))))), (q_715, .inl (cA_715, 301, .inl (fun j : Nat => zI (w27_715 (j : Int))))), (q_716, .inl (cA_716, 1000, .inl (fun j : Nat => zI (w107_716 (j : Int))))), (q_717, .inl (cA_717, 1000, .inl (fun j : Nat => zI (w107_717 (j : Int)))))] → va_S A s.heap H locs → W p l e (headSpec v_X0_sweepL ({ frames := 2, cells := 0, slots := 0, locals := 53 })).room s m ([.ref h0] : List Value).toArray below meth c H locs 0 0 Q (F0 m 107 ls []) := by
                intro n107
                induction n107 with
                | zero => intro d107_3 e107_0_2 w107_716 w107_717 ls H locs jd107_3 je107_0_2 jw107_716 jw107_717 jW hm107; exact absurd hm107 (by omega)
                | succ n107 ih107 =>
                  intro d107_3 e107_0_2 w107_716 w107_717 ls H locs jd107_3 je107_0_2 jw107_716 jw107_717 jW hm107 hl hP hD hS
                  refine lv_iload_n hx hb dX0_sweep_107 rfl (lv_at hl 3 rfl) ?_
                  refine lv_aload_n hx hb dX0_sweep_108 rfl (lv_at hl 0 rfl) ?_
                  refine va_get (D := (dC, dI)) (ci := 0) (v := .ref q_715) (C := RX0) (T := TX0) (N := 19) hx hb hts mem_X0_sweepL_0 hown hK hP 0 rfl rfl 15 (by decide) (ow (k := 4) rfl) (fun _ h9 => h9) rfl dX0_sweep_109 ?_
                  refine lv_iload hx hb dX0_sweep_112 (lv_at hl 4 rfl) ?_
                  refine lv_iconst (v := 1) hx hb dX0_sweep_114 (by decide) ?_
                  refine lv_iadd hx hb dX0_sweep_115 ?_
                  refine lv_topi (fun z ez => ?_)
                  obtain rfl : z = zI (d27_4 + 1) := ez.trans (zI_add (d27_4) (1))
                  refine va_iald hx hb hK hP 6 5 rfl rfl (zI_in (a := d27_4 + 1) (n := 301) (by omega) (by omega) (by decide)) dX0_sweep_116 ?_
                  refine lv_topi (fun z ez => ?_)
                  obtain rfl : z = zI (w27_715 (d27_4 + 1)) := ez.trans (zI_ld (w27_715) (by omega) (by omega))
                  have k2 := jw27_715 (d27_4 + 1)
                  refine lv_icmp_ge (tgt := 176) hx hb dX0_sweep_117 (by decide) (fun b117 => ?_) (fun b117 => ?_)
                  · have yb117 : (w27_715 (d27_4 + 1) : Int) ≤ (d107_3 : Int) := (zI_le (a := w27_715 (d27_4 + 1)) (b := d107_3) (by omega) (by omega) (by omega) (by omega)).mp b117
                    have hpe : d107_3 = a_15 (d27_4 + 1) := (by omega)
                    refine lv_aload_n hx hb dX0_sweep_176 rfl (lv_at hl 0 rfl) ?_
                    refine va_get (D := (dC, dI)) (ci := 0) (v := .ref q_715) (C := RX0) (T := TX0) (N := 19) hx hb hts mem_X0_sweepL_0 hown hK hP 0 rfl rfl 15 (by decide) (ow (k := 4) rfl) (fun _ h9 => h9) rfl dX0_sweep_177 ?_
                    refine lv_iload hx hb dX0_sweep_180 (lv_at hl 4 rfl) ?_
                    refine lv_iconst (v := 1) hx hb dX0_sweep_182 (by decide) ?_
                    refine lv_iadd hx hb dX0_sweep_183 ?_
                    refine lv_topi (fun z ez => ?_)
                    obtain rfl : z = zI (d27_4 + 1) := ez.trans (zI_add (d27_4) (1))
                    refine lv_aload_n hx hb dX0_sweep_184 rfl (lv_at hl 0 rfl) ?_
                    refine va_get (D := (dC, dI)) (ci := 0) (v := .int (zI (e107_0_2))) (C := RX0) (T := TX0) (N := 19) hx hb hts mem_X0_sweepL_0 hown hK hP 0 rfl rfl 2 (by decide) (ow (k := 1) rfl) (fun _ h9 => h9) rfl dX0_sweep_185 ?_
                    refine va_iast (i := zI (d27_4 + 1)) hx hb hK hP hD hS 6 5 rfl rfl (zI_in (a := d27_4 + 1) (n := 301) (by omega) (by omega) (by decide)) dX0_sweep_188 (fun H locs hP hD hS => ?_)
                    have eQ : upd (fun j : Nat => zI (w27_715 (j : Int))) (zI (d27_4 + 1)).toNatClampNeg (zI (e107_0_2)) = (fun j : Nat => zI (zup w27_715 (d27_4 + 1) (e107_0_2) (j : Int))) := zI_st w27_715 (e := d27_4 + 1) (v := e107_0_2) (by omega) (by omega)
                    rw [eQ] at hP hD
                    clear eQ
                    have ra_2002 : ∀ j : Int, 0 ≤ zup w27_715 (d27_4 + 1) (e107_0_2) j ∧ zup w27_715 (d27_4 + 1) (e107_0_2) j ≤ 1000 := zup_P (P := fun x9 => 0 ≤ x9 ∧ x9 ≤ 1000) jw27_715 (show 0 ≤ (e107_0_2) ∧ (e107_0_2) ≤ 1000 by omega)
                    obtain ⟨a_2002, ea_2002⟩ : ∃ a9 : Int → Int, a9 = zup w27_715 (d27_4 + 1) (e107_0_2) := ⟨_, rfl⟩
                    rw [← ea_2002] at hP hD ra_2002
                    have hP : va_P (dC, dI) vwP [(h0, .inr (0, [.int (zI (B1)), .int (zI (e36_0_1)), .int (zI (e107_0_2)), v_3, .ref q_704, .ref q_705, .ref q_706, .ref q_707, .ref q_708, v_9, v_10, v_11, v_12, v_13, v_14, .ref q_715, .ref q_716, .ref q_717, v_18])), (q_704, .inl (cA_704, 301, .inl (fun j : Nat => zI (a_2001 (j : Int))))), (q_705, .inl (cA_705, 2000, .inl (fun j : Nat => zI (w36_705 (j : Int))))), (q_706, .inl (cA_706, 2000, .inl (fun j : Nat => zI (w36_706 (j : Int))))), (q_707, .inl (cA_707, 2000, .inr (.inl (fun j : Nat => lI (w36_707 (j : Int)))))), (q_708, .inl (cA_708, 2000, .inr (.inl (fun j : Nat => lI (w36_708 (j : Int)))))), (q_715, .inl (cA_715, 301, .inl (fun j : Nat => zI (a_2002 (j : Int))))), (q_716, .inl (cA_716, 1000, .inl (fun j : Nat => zI (w107_716 (j : Int))))), (q_717, .inl (cA_717, 1000, .inl (fun j : Nat => zI (w107_717 (j : Int)))))] H := hP
                    have hD : va_D A [(h0, .inr (0, [.int (zI (B1)), .int (zI (e36_0_1)), .int (zI (e107_0_2)), v_3, .ref q_704, .ref q_705, .ref q_706, .ref q_707, .ref q_708, v_9, v_10, v_11, v_12, v_13, v_14, .ref q_715, .ref q_716, .ref q_717, v_18])), (q_704, .inl (cA_704, 301, .inl (fun j : Nat => zI (a_2001 (j : Int))))), (q_705, .inl (cA_705, 2000, .inl (fun j : Nat => zI (w36_705 (j : Int))))), (q_706, .inl (cA_706, 2000, .inl (fun j : Nat => zI (w36_706 (j : Int))))), (q_707, .inl (cA_707, 2000, .inr (.inl (fun j : Nat => lI (w36_707 (j : Int)))))), (q_708, .inl (cA_708, 2000, .inr (.inl (fun j : Nat => lI (w36_708 (j : Int)))))), (q_715, .inl (cA_715, 301, .inl (fun j : Nat => zI (a_2002 (j : Int))))), (q_716, .inl (cA_716, 1000, .inl (fun j : Nat => zI (w107_716 (j : Int))))), (q_717, .inl (cA_717, 1000, .inl (fun j : Nat => zI (w107_717 (j : Int)))))] := hD
                    refine lv_iinc (v := zI (d27_4 + 1)) (lv' := [(4, .int (zI (d27_4 + 1))), (0, .ref h0), (1, .int (zI (R1 + P1))), (2, .int (zI (d36_2))), (3, .int (zI (d107_3)))]) hx hb dX0_sweep_189 hl (k := 4) rfl (zI_add (d27_4) (1)) (by decide) rfl (fun ls hl => ?_)
                    refine lv_goto (tgt := 27) hx hb dX0_sweep_192 (by decide) ?_
                    exact ih27 (d27_4 + 1) d107_3 d36_2 e36_0_1 e107_0_2 a_2001 w36_705 w36_706 w36_707 w36_708 a_2002 w107_716 w107_717 ls H _ (by omega) (by omega) (by omega) (by omega) (by omega) ra_2001 jw36_705 jw36_706 jw36_707 jw36_708 ra_2002 jw107_716 jw107_717 (by obtain ⟨f, g, h1⟩ := jW; rw [ea_2002]; exact ⟨f, g, SWP.next h1 hpe (by omega)⟩) (by omega) (lv_sub hl [1, 2, 3, 4, 0] rfl) hP hD hS
                  · have yb117 : ¬ (w27_715 (d27_4 + 1) : Int) ≤ (d107_3 : Int) := fun q => b117 ((zI_le (a := w27_715 (d27_4 + 1)) (b := d107_3) (by omega) (by omega) (by omega) (by omega)).mpr q)
                    have hmk : 0 ≤ e107_0_2 ∧ e107_0_2 ≤ d107_3 := (by obtain ⟨f, g, h1⟩ := jW; exact h1.k2.n0)
                    have hfa := hR_a_15 (d27_4 + 1)
                    refine lv_aload_n hx hb dX0_sweep_120 rfl (lv_at hl 0 rfl) ?_
                    refine va_get (D := (dC, dI)) (ci := 0) (v := .ref q_716) (C := RX0) (T := TX0) (N := 19) hx hb hts mem_X0_sweepL_0 hown hK hP 0 rfl rfl 16 (by decide) (ow (k := 5) rfl) (fun _ h9 => h9) rfl dX0_sweep_121 ?_
                    refine lv_iload_n hx hb dX0_sweep_124 rfl (lv_at hl 3 rfl) ?_
                    refine va_iald hx hb hK hP 7 6 rfl rfl (zI_in (a := d107_3) (n := 1000) (by omega) (by omega) (by decide)) dX0_sweep_125 ?_
                    refine lv_topi (fun z ez => ?_)
                    obtain rfl : z = zI (w107_716 (d107_3)) := ez.trans (zI_ld (w107_716) (by omega) (by omega))
                    have k3 := jw107_716 (d107_3)
                    refine lv_iconst (v := (-1)) hx hb dX0_sweep_126 (by decide) ?_
                    refine lv_icmp_eq (tgt := 170) hx hb dX0_sweep_127 (by decide) (fun b127 => ?_) (fun b127 => ?_)
                    · have yb127 : (w107_716 (d107_3) : Int) = (-1 : Int) := (zI_eq (a := w107_716 (d107_3)) (b := -1) (by omega) (by omega) (by omega) (by omega)).mp b127
                      refine lv_iinc (v := zI (d107_3 + 1)) (lv' := [(3, .int (zI (d107_3 + 1))), (0, .ref h0), (1, .int (zI (R1 + P1))), (2, .int (zI (d36_2))), (4, .int (zI (d27_4)))]) hx hb dX0_sweep_170 hl (k := 3) rfl (zI_add (d107_3) (1)) (by decide) rfl (fun ls hl => ?_)
                      refine lv_goto (tgt := 107) hx hb dX0_sweep_173 (by decide) ?_
                      exact ih107 (d107_3 + 1) e107_0_2 w107_716 w107_717 ls H _ (by omega) (by omega) jw107_716 jw107_717 (by obtain ⟨f, g, h1⟩ := jW; exact ⟨f, g, SWP.pskip h1 (by omega)⟩) (by omega) (lv_sub hl [1, 2, 3, 0, 4] rfl) hP hD hS
                    · have yb127 : ¬ (w107_716 (d107_3) : Int) = (-1 : Int) := fun q => b127 ((zI_eq (a := w107_716 (d107_3)) (b := -1) (by omega) (by omega) (by omega) (by omega)).mpr q)
                      refine lv_aload_n hx hb dX0_sweep_130 rfl (lv_at hl 0 rfl) ?_
                      refine va_get (D := (dC, dI)) (ci := 0) (v := .ref q_716) (C := RX0) (T := TX0) (N := 19) hx hb hts mem_X0_sweepL_0 hown hK hP 0 rfl rfl 16 (by decide) (ow (k := 5) rfl) (fun _ h9 => h9) rfl dX0_sweep_131 ?_
                      refine lv_aload_n hx hb dX0_sweep_134 rfl (lv_at hl 0 rfl) ?_
                      refine va_get (D := (dC, dI)) (ci := 0) (v := .int (zI (e107_0_2))) (C := RX0) (T := TX0) (N := 19) hx hb hts mem_X0_sweepL_0 hown hK hP 0 rfl rfl 2 (by decide) (ow (k := 1) rfl) (fun _ h9 => h9) rfl dX0_sweep_135 ?_
                      refine lv_aload_n hx hb dX0_sweep_138 rfl (lv_at hl 0 rfl) ?_
                      refine va_get (D := (dC, dI)) (ci := 0) (v := .ref q_716) (C := RX0) (T := TX0) (N := 19) hx hb hts mem_X0_sweepL_0 hown hK hP 0 rfl rfl 16 (by decide) (ow (k := 5) rfl) (fun _ h9 => h9) rfl dX0_sweep_139 ?_
                      refine lv_iload_n hx hb dX0_sweep_142 rfl (lv_at hl 3 rfl) ?_
                      refine va_iald hx hb hK hP 7 6 rfl rfl (zI_in (a := d107_3) (n := 1000) (by omega) (by omega) (by decide)) dX0_sweep_143 ?_
                      refine lv_topi (fun z ez => ?_)
                      obtain rfl : z = zI (w107_716 (d107_3)) := ez.trans (zI_ld (w107_716) (by omega) (by omega))
                      have k4 := jw107_716 (d107_3)
                      refine va_iast (i := zI (e107_0_2)) hx hb hK hP hD hS 7 6 rfl rfl (zI_in (a := e107_0_2) (n := 1000) (by omega) (by omega) (by decide)) dX0_sweep_144 (fun H locs hP hD hS => ?_)
                      have eQ : upd (fun j : Nat => zI (w107_716 (j : Int))) (zI (e107_0_2)).toNatClampNeg (zI (w107_716 (d107_3))) = (fun j : Nat => zI (zup w107_716 (e107_0_2) (w107_716 (d107_3)) (j : Int))) := zI_st w107_716 (e := e107_0_2) (v := w107_716 (d107_3)) (by omega) (by omega)
                      rw [eQ] at hP hD
                      clear eQ
                      have ra_2003 : ∀ j : Int, -1 ≤ zup w107_716 (e107_0_2) (w107_716 (d107_3)) j ∧ zup w107_716 (e107_0_2) (w107_716 (d107_3)) j ≤ 1023 := zup_P (P := fun x9 => -1 ≤ x9 ∧ x9 ≤ 1023) jw107_716 (show -1 ≤ (w107_716 (d107_3)) ∧ (w107_716 (d107_3)) ≤ 1023 by omega)
                      obtain ⟨a_2003, ea_2003⟩ : ∃ a9 : Int → Int, a9 = zup w107_716 (e107_0_2) (w107_716 (d107_3)) := ⟨_, rfl⟩
                      rw [← ea_2003] at hP hD ra_2003
                      have hP : va_P (dC, dI) vwP [(h0, .inr (0, [.int (zI (B1)), .int (zI (e36_0_1)), .int (zI (e107_0_2)), v_3, .ref q_704, .ref q_705, .ref q_706, .ref q_707, .ref q_708, v_9, v_10, v_11, v_12, v_13, v_14, .ref q_715, .ref q_716, .ref q_717, v_18])), (q_704, .inl (cA_704, 301, .inl (fun j : Nat => zI (a_2001 (j : Int))))), (q_705, .inl (cA_705, 2000, .inl (fun j : Nat => zI (w36_705 (j : Int))))), (q_706, .inl (cA_706, 2000, .inl (fun j : Nat => zI (w36_706 (j : Int))))), (q_707, .inl (cA_707, 2000, .inr (.inl (fun j : Nat => lI (w36_707 (j : Int)))))), (q_708, .inl (cA_708, 2000, .inr (.inl (fun j : Nat => lI (w36_708 (j : Int)))))), (q_715, .inl (cA_715, 301, .inl (fun j : Nat => zI (w27_715 (j : Int))))), (q_716, .inl (cA_716, 1000, .inl (fun j : Nat => zI (a_2003 (j : Int))))), (q_717, .inl (cA_717, 1000, .inl (fun j : Nat => zI (w107_717 (j : Int)))))] H := hP
                      have hD : va_D A [(h0, .inr (0, [.int (zI (B1)), .int (zI (e36_0_1)), .int (zI (e107_0_2)), v_3, .ref q_704, .ref q_705, .ref q_706, .ref q_707, .ref q_708, v_9, v_10, v_11, v_12, v_13, v_14, .ref q_715, .ref q_716, .ref q_717, v_18])), (q_704, .inl (cA_704, 301, .inl (fun j : Nat => zI (a_2001 (j : Int))))), (q_705, .inl (cA_705, 2000, .inl (fun j : Nat => zI (w36_705 (j : Int))))), (q_706, .inl (cA_706, 2000, .inl (fun j : Nat => zI (w36_706 (j : Int))))), (q_707, .inl (cA_707, 2000, .inr (.inl (fun j : Nat => lI (w36_707 (j : Int)))))), (q_708, .inl (cA_708, 2000, .inr (.inl (fun j : Nat => lI (w36_708 (j : Int)))))), (q_715, .inl (cA_715, 301, .inl (fun j : Nat => zI (w27_715 (j : Int))))), (q_716, .inl (cA_716, 1000, .inl (fun j : Nat => zI (a_2003 (j : Int))))), (q_717, .inl (cA_717, 1000, .inl (fun j : Nat => zI (w107_717 (j : Int)))))] := hD
                      refine lv_aload_n hx hb dX0_sweep_145 rfl (lv_at hl 0 rfl) ?_
                      refine va_get (D := (dC, dI)) (ci := 0) (v := .ref q_717) (C := RX0) (T := TX0) (N := 19) hx hb hts mem_X0_sweepL_0 hown hK hP 0 rfl rfl 17 (by decide) (ow (k := 6) rfl) (fun _ h9 => h9) rfl dX0_sweep_146 ?_
                      refine lv_aload_n hx hb dX0_sweep_149 rfl (lv_at hl 0 rfl) ?_
                      refine va_get (D := (dC, dI)) (ci := 0) (v := .int (zI (e107_0_2))) (C := RX0) (T := TX0) (N := 19) hx hb hts mem_X0_sweepL_0 hown hK hP 0 rfl rfl 2 (by decide) (ow (k := 1) rfl) (fun _ h9 => h9) rfl dX0_sweep_150 ?_
                      refine lv_aload_n hx hb dX0_sweep_153 rfl (lv_at hl 0 rfl) ?_
                      refine va_get (D := (dC, dI)) (ci := 0) (v := .ref q_717) (C := RX0) (T := TX0) (N := 19) hx hb hts mem_X0_sweepL_0 hown hK hP 0 rfl rfl 17 (by decide) (ow (k := 6) rfl) (fun _ h9 => h9) rfl dX0_sweep_154 ?_
                      refine lv_iload_n hx hb dX0_sweep_157 rfl (lv_at hl 3 rfl) ?_
                      refine va_iald hx hb hK hP 8 7 rfl rfl (zI_in (a := d107_3) (n := 1000) (by omega) (by omega) (by decide)) dX0_sweep_158 ?_
                      refine lv_topi (fun z ez => ?_)
                      obtain rfl : z = zI (w107_717 (d107_3)) := ez.trans (zI_ld (w107_717) (by omega) (by omega))
                      have k5 := jw107_717 (d107_3)
                      refine va_iast (i := zI (e107_0_2)) hx hb hK hP hD hS 8 7 rfl rfl (zI_in (a := e107_0_2) (n := 1000) (by omega) (by omega) (by decide)) dX0_sweep_159 (fun H locs hP hD hS => ?_)
                      have eQ : upd (fun j : Nat => zI (w107_717 (j : Int))) (zI (e107_0_2)).toNatClampNeg (zI (w107_717 (d107_3))) = (fun j : Nat => zI (zup w107_717 (e107_0_2) (w107_717 (d107_3)) (j : Int))) := zI_st w107_717 (e := e107_0_2) (v := w107_717 (d107_3)) (by omega) (by omega)
                      rw [eQ] at hP hD
                      clear eQ
                      have ra_2004 : ∀ j : Int, 0 ≤ zup w107_717 (e107_0_2) (w107_717 (d107_3)) j ∧ zup w107_717 (e107_0_2) (w107_717 (d107_3)) j ≤ 60000 := zup_P (P := fun x9 => 0 ≤ x9 ∧ x9 ≤ 60000) jw107_717 (show 0 ≤ (w107_717 (d107_3)) ∧ (w107_717 (d107_3)) ≤ 60000 by omega)
                      obtain ⟨a_2004, ea_2004⟩ : ∃ a9 : Int → Int, a9 = zup w107_717 (e107_0_2) (w107_717 (d107_3)) := ⟨_, rfl⟩
                      rw [← ea_2004] at hP hD ra_2004
                      have hP : va_P (dC, dI) vwP [(h0, .inr (0, [.int (zI (B1)), .int (zI (e36_0_1)), .int (zI (e107_0_2)), v_3, .ref q_704, .ref q_705, .ref q_706, .ref q_707, .ref q_708, v_9, v_10, v_11, v_12, v_13, v_14, .ref q_715, .ref q_716, .ref q_717, v_18])), (q_704, .inl (cA_704, 301, .inl (fun j : Nat => zI (a_2001 (j : Int))))), (q_705, .inl (cA_705, 2000, .inl (fun j : Nat => zI (w36_705 (j : Int))))), (q_706, .inl (cA_706, 2000, .inl (fun j : Nat => zI (w36_706 (j : Int))))), (q_707, .inl (cA_707, 2000, .inr (.inl (fun j : Nat => lI (w36_707 (j : Int)))))), (q_708, .inl (cA_708, 2000, .inr (.inl (fun j : Nat => lI (w36_708 (j : Int)))))), (q_715, .inl (cA_715, 301, .inl (fun j : Nat => zI (w27_715 (j : Int))))), (q_716, .inl (cA_716, 1000, .inl (fun j : Nat => zI (a_2003 (j : Int))))), (q_717, .inl (cA_717, 1000, .inl (fun j : Nat => zI (a_2004 (j : Int)))))] H := hP
                      have hD : va_D A [(h0, .inr (0, [.int (zI (B1)), .int (zI (e36_0_1)), .int (zI (e107_0_2)), v_3, .ref q_704, .ref q_705, .ref q_706, .ref q_707, .ref q_708, v_9, v_10, v_11, v_12, v_13, v_14, .ref q_715, .ref q_716, .ref q_717, v_18])), (q_704, .inl (cA_704, 301, .inl (fun j : Nat => zI (a_2001 (j : Int))))), (q_705, .inl (cA_705, 2000, .inl (fun j : Nat => zI (w36_705 (j : Int))))), (q_706, .inl (cA_706, 2000, .inl (fun j : Nat => zI (w36_706 (j : Int))))), (q_707, .inl (cA_707, 2000, .inr (.inl (fun j : Nat => lI (w36_707 (j : Int)))))), (q_708, .inl (cA_708, 2000, .inr (.inl (fun j : Nat => lI (w36_708 (j : Int)))))), (q_715, .inl (cA_715, 301, .inl (fun j : Nat => zI (w27_715 (j : Int))))), (q_716, .inl (cA_716, 1000, .inl (fun j : Nat => zI (a_2003 (j : Int))))), (q_717, .inl (cA_717, 1000, .inl (fun j : Nat => zI (a_2004 (j : Int)))))] := hD
                      refine lv_aload_n hx hb dX0_sweep_160 rfl (lv_at hl 0 rfl) ?_
                      refine lv_dup hx hb dX0_sweep_161 rfl ?_
                      refine va_get (D := (dC, dI)) (ci := 0) (v := .int (zI (e107_0_2))) (C := RX0) (T := TX0) (N := 19) hx hb hts mem_X0_sweepL_0 hown hK hP 0 rfl rfl 2 (by decide) (ow (k := 1) rfl) (fun _ h9 => h9) rfl dX0_sweep_162 ?_
                      refine lv_iconst (v := 1) hx hb dX0_sweep_165 (by decide) ?_
                      refine lv_iadd hx hb dX0_sweep_166 ?_
                      refine lv_topi (fun z ez => ?_)
                      obtain rfl : z = zI (e107_0_2 + 1) := ez.trans (zI_add (e107_0_2) (1))
                      refine va_put (D := (dC, dI)) (ci := 0) (v := .int (zI (e107_0_2 + 1))) (ty := .int) (C := RX0) (T := TX0) (N := 19) hx hb hts mem_X0_sweepL_0 tyX0 tyX0_ok nmX0 hown hK hP hD hS 0 rfl rfl 2 (by decide) (ow (k := 1) rfl) (fun _ h9 => h9) rfl (by decide +kernel) rfl rfl (Nat.le_of_ble_eq_true rfl) dX0_sweep_167 (fun H locs hP hD hS => ?_)
                      have hP : va_P (dC, dI) vwP [(h0, .inr (0, [.int (zI (B1)), .int (zI (e36_0_1)), .int (zI (e107_0_2 + 1)), v_3, .ref q_704, .ref q_705, .ref q_706, .ref q_707, .ref q_708, v_9, v_10, v_11, v_12, v_13, v_14, .ref q_715, .ref q_716, .ref q_717, v_18])), (q_704, .inl (cA_704, 301, .inl (fun j : Nat => zI (a_2001 (j : Int))))), (q_705, .inl (cA_705, 2000, .inl (fun j : Nat => zI (w36_705 (j : Int))))), (q_706, .inl (cA_706, 2000, .inl (fun j : Nat => zI (w36_706 (j : Int))))), (q_707, .inl (cA_707, 2000, .inr (.inl (fun j : Nat => lI (w36_707 (j : Int)))))), (q_708, .inl (cA_708, 2000, .inr (.inl (fun j : Nat => lI (w36_708 (j : Int)))))), (q_715, .inl (cA_715, 301, .inl (fun j : Nat => zI (w27_715 (j : Int))))), (q_716, .inl (cA_716, 1000, .inl (fun j : Nat => zI (a_2003 (j : Int))))), (q_717, .inl (cA_717, 1000, .inl (fun j : Nat => zI (a_2004 (j : Int)))))] H := hP
                      have hD : va_D A [(h0, .inr (0, [.int (zI (B1)), .int (zI (e36_0_1)), .int (zI (e107_0_2 + 1)), v_3, .ref q_704, .ref q_705, .ref q_706, .ref q_707, .ref q_708, v_9, v_10, v_11, v_12, v_13, v_14, .ref q_715, .ref q_716, .ref q_717, v_18])), (q_704, .inl (cA_704, 301, .inl (fun j : Nat => zI (a_2001 (j : Int))))), (q_705, .inl (cA_705, 2000, .inl (fun j : Nat => zI (w36_705 (j : Int))))), (q_706, .inl (cA_706, 2000, .inl (fun j : Nat => zI (w36_706 (j : Int))))), (q_707, .inl (cA_707, 2000, .inr (.inl (fun j : Nat => lI (w36_707 (j : Int)))))), (q_708, .inl (cA_708, 2000, .inr (.inl (fun j : Nat => lI (w36_708 (j : Int)))))), (q_715, .inl (cA_715, 301, .inl (fun j : Nat => zI (w27_715 (j : Int))))), (q_716, .inl (cA_716, 1000, .inl (fun j : Nat => zI (a_2003 (j : Int))))), (q_717, .inl (cA_717, 1000, .inl (fun j : Nat => zI (a_2004 (j : Int)))))] := hD
                      obtain ⟨z_2005, ez_2005⟩ : ∃ z9 : Int, z9 = e107_0_2 + 1 := ⟨_, rfl⟩
                      rw [← ez_2005] at hP hD
                      have hP : va_P (dC, dI) vwP [(h0, .inr (0, [.int (zI (B1)), .int (zI (e36_0_1)), .int (zI (z_2005)), v_3, .ref q_704, .ref q_705, .ref q_706, .ref q_707, .ref q_708, v_9, v_10, v_11, v_12, v_13, v_14, .ref q_715, .ref q_716, .ref q_717, v_18])), (q_704, .inl (cA_704, 301, .inl (fun j : Nat => zI (a_2001 (j : Int))))), (q_705, .inl (cA_705, 2000, .inl (fun j : Nat => zI (w36_705 (j : Int))))), (q_706, .inl (cA_706, 2000, .inl (fun j : Nat => zI (w36_706 (j : Int))))), (q_707, .inl (cA_707, 2000, .inr (.inl (fun j : Nat => lI (w36_707 (j : Int)))))), (q_708, .inl (cA_708, 2000, .inr (.inl (fun j : Nat => lI (w36_708 (j : Int)))))), (q_715, .inl (cA_715, 301, .inl (fun j : Nat => zI (w27_715 (j : Int))))), (q_716, .inl (cA_716, 1000, .inl (fun j : Nat => zI (a_2003 (j : Int))))), (q_717, .inl (cA_717, 1000, .inl (fun j : Nat => zI (a_2004 (j : Int)))))] H := hP
                      have hD : va_D A [(h0, .inr (0, [.int (zI (B1)), .int (zI (e36_0_1)), .int (zI (z_2005)), v_3, .ref q_704, .ref q_705, .ref q_706, .ref q_707, .ref q_708, v_9, v_10, v_11, v_12, v_13, v_14, .ref q_715, .ref q_716, .ref q_717, v_18])), (q_704, .inl (cA_704, 301, .inl (fun j : Nat => zI (a_2001 (j : Int))))), (q_705, .inl (cA_705, 2000, .inl (fun j : Nat => zI (w36_705 (j : Int))))), (q_706, .inl (cA_706, 2000, .inl (fun j : Nat => zI (w36_706 (j : Int))))), (q_707, .inl (cA_707, 2000, .inr (.inl (fun j : Nat => lI (w36_707 (j : Int)))))), (q_708, .inl (cA_708, 2000, .inr (.inl (fun j : Nat => lI (w36_708 (j : Int)))))), (q_715, .inl (cA_715, 301, .inl (fun j : Nat => zI (w27_715 (j : Int))))), (q_716, .inl (cA_716, 1000, .inl (fun j : Nat => zI (a_2003 (j : Int))))), (q_717, .inl (cA_717, 1000, .inl (fun j : Nat => zI (a_2004 (j : Int)))))] := hD
                      refine lv_iinc (v := zI (d107_3 + 1)) (lv' := [(3, .int (zI (d107_3 + 1))), (0, .ref h0), (1, .int (zI (R1 + P1))), (2, .int (zI (d36_2))), (4, .int (zI (d27_4)))]) hx hb dX0_sweep_170 hl (k := 3) rfl (zI_add (d107_3) (1)) (by decide) rfl (fun ls hl => ?_)
                      refine lv_goto (tgt := 107) hx hb dX0_sweep_173 (by decide) ?_
                      exact ih107 (d107_3 + 1) z_2005 a_2003 a_2004 ls H _ (by omega) (by omega) ra_2003 ra_2004 (by obtain ⟨f, g, h1⟩ := jW; rw [ea_2003, ea_2004, ez_2005]; exact ⟨f, _, SWP.padd h1 (by omega) (fun x h2 h3 => by have q9 := hX_MF.le' h2 (show x ≤ d27_4 by omega) (by omega); omega)⟩) (by omega) (lv_sub hl [1, 2, 3, 0, 4] rfl) hP hD hS
              exact key107 (((w27_715 (d27_4 + 1)) - (d27_3) : Int).toNat + 1) d27_3 e27_0_2 w27_716 w27_717 ls H _ (by omega) (by omega) jw27_716 jw27_717 (by obtain ⟨f, g, h1⟩ := jW; rw [ea_2001]; exact ⟨f, g, SWS.mid h1 hre (by omega)⟩) (by omega) (lv_sub hl [0, 1, 2, 3, 4] rfl) hP hD hS
            · have yb46 : ¬ (w27_704 (d27_4 + 1) : Int) ≤ (d36_2 : Int) := fun q => b46 ((zI_le (a := w27_704 (d27_4 + 1)) (b := d36_2) (by omega) (by omega) (by omega) (by omega)).mpr q)
              have hnj : 0 ≤ e36_0_1 ∧ e36_0_1 ≤ d36_2 := (by obtain ⟨f, g, h1⟩ := jW; exact h1.k1.n0)
              have hrr := hX_MR.le' (show 0 ≤ d27_4 + 1 by omega) (show d27_4 + 1 ≤ B1 by omega) (by omega)
              have hre0 := hX_MR.e
              have hra := hR_a_4 (d27_4 + 1)
              refine lv_aload_n hx hb dX0_sweep_49 rfl (lv_at hl 0 rfl) ?_
              refine va_get (D := (dC, dI)) (ci := 0) (v := .ref q_705) (C := RX0) (T := TX0) (N := 19) hx hb hts mem_X0_sweepL_0 hown hK hP 0 rfl rfl 5 (by decide) (ow (k := 7) rfl) (fun _ h9 => h9) rfl dX0_sweep_50 ?_
              refine lv_iload_n hx hb dX0_sweep_53 rfl (lv_at hl 2 rfl) ?_
              refine va_iald hx hb hK hP 2 1 rfl rfl (zI_in (a := d36_2) (n := 2000) (by omega) (by omega) (by decide)) dX0_sweep_54 ?_
              refine lv_topi (fun z ez => ?_)
              obtain rfl : z = zI (w36_705 (d36_2)) := ez.trans (zI_ld (w36_705) (by omega) (by omega))
              have k6 := jw36_705 (d36_2)
              refine lv_iconst (v := (-1)) hx hb dX0_sweep_55 (by decide) ?_
              refine lv_icmp_eq (tgt := 88) hx hb dX0_sweep_56 (by decide) (fun b56 => ?_) (fun b56 => ?_)
              · have yb56 : (w36_705 (d36_2) : Int) = (-1 : Int) := (zI_eq (a := w36_705 (d36_2)) (b := -1) (by omega) (by omega) (by omega) (by omega)).mp b56
                refine lv_iinc (v := zI (d36_2 + 1)) (lv' := [(2, .int (zI (d36_2 + 1))), (0, .ref h0), (1, .int (zI (R1 + P1))), (3, .int (zI (d27_3))), (4, .int (zI (d27_4)))]) hx hb dX0_sweep_88 hl (k := 2) rfl (zI_add (d36_2) (1)) (by decide) rfl (fun ls hl => ?_)
                refine lv_goto (tgt := 36) hx hb dX0_sweep_91 (by decide) ?_
                exact ih36 (d36_2 + 1) e36_0_1 w36_705 w36_706 w36_707 w36_708 ls H _ (by omega) (by omega) jw36_705 jw36_706 jw36_707 jw36_708 (by obtain ⟨f, g, h1⟩ := jW; exact ⟨f, g, SWS.rskip h1 (by omega)⟩) (by omega) (lv_sub hl [1, 2, 0, 3, 4] rfl) hP hD hS
              · have yb56 : ¬ (w36_705 (d36_2) : Int) = (-1 : Int) := fun q => b56 ((zI_eq (a := w36_705 (d36_2)) (b := -1) (by omega) (by omega) (by omega) (by omega)).mpr q)
                refine lv_aload_n hx hb dX0_sweep_59 rfl (lv_at hl 0 rfl) ?_
                refine lv_aload_n hx hb dX0_sweep_60 rfl (lv_at hl 0 rfl) ?_
                refine va_get (D := (dC, dI)) (ci := 0) (v := .ref q_705) (C := RX0) (T := TX0) (N := 19) hx hb hts mem_X0_sweepL_0 hown hK hP 0 rfl rfl 5 (by decide) (ow (k := 7) rfl) (fun _ h9 => h9) rfl dX0_sweep_61 ?_
                refine lv_iload_n hx hb dX0_sweep_64 rfl (lv_at hl 2 rfl) ?_
                refine va_iald hx hb hK hP 2 1 rfl rfl (zI_in (a := d36_2) (n := 2000) (by omega) (by omega) (by decide)) dX0_sweep_65 ?_
                refine lv_topi (fun z ez => ?_)
                obtain rfl : z = zI (w36_705 (d36_2)) := ez.trans (zI_ld (w36_705) (by omega) (by omega))
                have k7 := jw36_705 (d36_2)
                refine lv_aload_n hx hb dX0_sweep_66 rfl (lv_at hl 0 rfl) ?_
                refine va_get (D := (dC, dI)) (ci := 0) (v := .ref q_706) (C := RX0) (T := TX0) (N := 19) hx hb hts mem_X0_sweepL_0 hown hK hP 0 rfl rfl 6 (by decide) (ow (k := 8) rfl) (fun _ h9 => h9) rfl dX0_sweep_67 ?_
                refine lv_iload_n hx hb dX0_sweep_70 rfl (lv_at hl 2 rfl) ?_
                refine va_iald hx hb hK hP 3 2 rfl rfl (zI_in (a := d36_2) (n := 2000) (by omega) (by omega) (by decide)) dX0_sweep_71 ?_
                refine lv_topi (fun z ez => ?_)
                obtain rfl : z = zI (w36_706 (d36_2)) := ez.trans (zI_ld (w36_706) (by omega) (by omega))
                have k8 := jw36_706 (d36_2)
                refine lv_aload_n hx hb dX0_sweep_72 rfl (lv_at hl 0 rfl) ?_
                refine va_get (D := (dC, dI)) (ci := 0) (v := .ref q_707) (C := RX0) (T := TX0) (N := 19) hx hb hts mem_X0_sweepL_0 hown hK hP 0 rfl rfl 7 (by decide) (ow (k := 9) rfl) (fun _ h9 => h9) rfl dX0_sweep_73 ?_
                refine lv_iload_n hx hb dX0_sweep_76 rfl (lv_at hl 2 rfl) ?_
                refine va_lald hx hb hK hP 4 3 rfl rfl (zI_in (a := d36_2) (n := 2000) (by omega) (by omega) (by decide)) dX0_sweep_77 ?_
                refine lv_topl (fun z ez => ?_)
                obtain rfl : z = lI (w36_707 (d36_2)) := ez.trans (lI_ld (w36_707) (by omega) (by omega))
                have k9 := jw36_707 (d36_2)
                refine lv_aload_n hx hb dX0_sweep_78 rfl (lv_at hl 0 rfl) ?_
                refine va_get (D := (dC, dI)) (ci := 0) (v := .ref q_708) (C := RX0) (T := TX0) (N := 19) hx hb hts mem_X0_sweepL_0 hown hK hP 0 rfl rfl 8 (by decide) (ow (k := 10) rfl) (fun _ h9 => h9) rfl dX0_sweep_79 ?_
                refine lv_iload_n hx hb dX0_sweep_82 rfl (lv_at hl 2 rfl) ?_
                refine va_lald hx hb hK hP 5 4 rfl rfl (zI_in (a := d36_2) (n := 2000) (by omega) (by omega) (by decide)) dX0_sweep_83 ?_
                refine lv_topl (fun z ez => ?_)
                obtain rfl : z = lI (w36_708 (d36_2)) := ez.trans (lI_ld (w36_708) (by omega) (by omega))
                have k10 := jw36_708 (d36_2)
                have hPc := hP.sub (ws' := [(h0, .inr (0, [.int (zI (B1)), .int (zI (e36_0_1)), .int (zI (e27_0_2)), v_3, .ref q_704, .ref q_705, .ref q_706, .ref q_707, .ref q_708, v_9, v_10, v_11, v_12, v_13, v_14, .ref q_715, .ref q_716, .ref q_717, v_18])), (q_705, .inl (cA_705, 2000, .inl (fun j : Nat => zI (w36_705 (j : Int))))), (q_706, .inl (cA_706, 2000, .inl (fun j : Nat => zI (w36_706 (j : Int))))), (q_707, .inl (cA_707, 2000, .inr (.inl (fun j : Nat => lI (w36_707 (j : Int)))))), (q_708, .inl (cA_708, 2000, .inr (.inl (fun j : Nat => lI (w36_708 (j : Int))))))]) [0, 2, 3, 4, 5] rfl
                have hDc := hD.sub (ws' := [(h0, .inr (0, [.int (zI (B1)), .int (zI (e36_0_1)), .int (zI (e27_0_2)), v_3, .ref q_704, .ref q_705, .ref q_706, .ref q_707, .ref q_708, v_9, v_10, v_11, v_12, v_13, v_14, .ref q_715, .ref q_716, .ref q_717, v_18])), (q_705, .inl (cA_705, 2000, .inl (fun j : Nat => zI (w36_705 (j : Int))))), (q_706, .inl (cA_706, 2000, .inl (fun j : Nat => zI (w36_706 (j : Int))))), (q_707, .inl (cA_707, 2000, .inr (.inl (fun j : Nat => lI (w36_707 (j : Int)))))), (q_708, .inl (cA_708, 2000, .inr (.inl (fun j : Nat => lI (w36_708 (j : Int))))))]) [0, 2, 3, 4, 5] (by decide) rfl
                have hKc := hK.sub (tys' := [(cA_705, .int), (cA_706, .int), (cA_707, .long), (cA_708, .long)]) [1, 2, 3, 4] rfl
                have hFc := va_free (wc := [(h0, .inr (0, [.int (zI (B1)), .int (zI (e36_0_1)), .int (zI (e27_0_2)), v_3, .ref q_704, .ref q_705, .ref q_706, .ref q_707, .ref q_708, v_9, v_10, v_11, v_12, v_13, v_14, .ref q_715, .ref q_716, .ref q_717, v_18])), (q_705, .inl (cA_705, 2000, .inl (fun j : Nat => zI (w36_705 (j : Int))))), (q_706, .inl (cA_706, 2000, .inl (fun j : Nat => zI (w36_706 (j : Int))))), (q_707, .inl (cA_707, 2000, .inr (.inl (fun j : Nat => lI (w36_707 (j : Int)))))), (q_708, .inl (cA_708, 2000, .inr (.inl (fun j : Nat => lI (w36_708 (j : Int))))))]) hD hS hA [0, 2, 3, 4, 5] rfl
                refine va_calli (va_runV (As := [.int (zI (w36_705 (d36_2))), .int (zI (w36_706 (d36_2))), .long (lI (w36_707 (d36_2))), .long (lI (w36_708 (d36_2)))]) (rest := []) ⟨hx, hb, hml, hown, hts⟩ (c_X0_addRowL l dC dI h0 (.int (zI (B1))) e36_0_1 (.int (zI (e27_0_2))) v_3 (.ref q_704) q_705 cA_705 w36_705 q_706 cA_706 w36_706 q_707 cA_707 w36_707 q_708 cA_708 w36_708 v_9 v_10 v_11 v_12 v_13 v_14 (.ref q_715) (.ref q_716) (.ref q_717) v_18 (w36_706 (d36_2)) (w36_707 (d36_2)) (w36_708 (d36_2)) (w36_705 (d36_2)) (by omega) jw36_705 jw36_706 jw36_707 jw36_708 (by omega) (by omega) (by omega) (by omega) (by omega) H.size) (cwV 4 hts g_X0_sweepL_X0_addRowL rfl rfl rfl (by decide +kernel) ⟨(Nat.le_of_ble_eq_true rfl), (Nat.le_of_ble_eq_true rfl)⟩) ⟨fun a U g mk q => by obtain ⟨q0, q1, qP, qK, qD⟩ := q; exact ⟨q0, q1, qP, va_K.moved (u := U) (U := U.calling g mk a) (Vm.Alike.refl U.vm) qK, qD⟩, va_recv hKc hPc (ci := 0) (q0 := 0) rfl rfl, fun U hU hW => ⟨rfl, by rw [hU], by rw [hU]; exact hPc, va_K.moved hW.alike hKc, hDc.weaken (fun _ _ _ _ => trivial)⟩⟩ rfl rfl hl.1 rfl (lv_room (Nat.le_of_ble_eq_true rfl)) dX0_sweep_84 ⟨(Nat.le_of_ble_eq_true rfl), (Nat.le_of_ble_eq_true rfl)⟩) hS (fun q _ h => hFc q h) hFc (fun r_2006 z_2007 t H1 locs ht hvm hw hB hz1 hk1 hS => ?_)
                obtain ⟨z0_2008, a1_2009, a2_2010, a3_2011, a4_2012, hxt_2012, hP1, hK1, hD1⟩ := hB
                rw [ht] at hP1
                have hK1 := va_K.moved hvm.symm hK1
                obtain ⟨hP, hD⟩ := va_join (wr := [(q_704, .inl (cA_704, 301, .inl (fun j : Nat => zI (w27_704 (j : Int))))), (q_715, .inl (cA_715, 301, .inl (fun j : Nat => zI (w27_715 (j : Int))))), (q_716, .inl (cA_716, 1000, .inl (fun j : Nat => zI (w27_716 (j : Int))))), (q_717, .inl (cA_717, 1000, .inl (fun j : Nat => zI (w27_717 (j : Int)))))]) (w1 := [(h0, .inr (0, [.int (zI (B1)), .int (zI (z0_2008)), .int (zI (e27_0_2)), v_3, .ref q_704, .ref q_705, .ref q_706, .ref q_707, .ref q_708, v_9, v_10, v_11, v_12, v_13, v_14, .ref q_715, .ref q_716, .ref q_717, v_18])), (q_705, .inl (cA_705, 2000, .inl (fun j : Nat => zI (a1_2009 (j : Int))))), (q_706, .inl (cA_706, 2000, .inl (fun j : Nat => zI (a2_2010 (j : Int))))), (q_707, .inl (cA_707, 2000, .inr (.inl (fun j : Nat => lI (a3_2011 (j : Int)))))), (q_708, .inl (cA_708, 2000, .inr (.inl (fun j : Nat => lI (a4_2012 (j : Int))))))]) hP hD [0, 2, 3, 4, 5] [1, 6, 7, 8] rfl rfl (by decide) (by decide) hk1 hFc hP1 hD1
                have hK := (hK.sub (tys' := [(cA_704, .int), (cA_715, .int), (cA_716, .int), (cA_717, .int)]) [0, 5, 6, 7] rfl).app hK1
                generalize H1 = H at hP hS ⊢
                have hP : va_P (dC, dI) vwP [(q_704, .inl (cA_704, 301, .inl (fun j : Nat => zI (w27_704 (j : Int))))), (q_715, .inl (cA_715, 301, .inl (fun j : Nat => zI (w27_715 (j : Int))))), (q_716, .inl (cA_716, 1000, .inl (fun j : Nat => zI (w27_716 (j : Int))))), (q_717, .inl (cA_717, 1000, .inl (fun j : Nat => zI (w27_717 (j : Int))))), (h0, .inr (0, [.int (zI (B1)), .int (zI (z0_2008)), .int (zI (e27_0_2)), v_3, .ref q_704, .ref q_705, .ref q_706, .ref q_707, .ref q_708, v_9, v_10, v_11, v_12, v_13, v_14, .ref q_715, .ref q_716, .ref q_717, v_18])), (q_705, .inl (cA_705, 2000, .inl (fun j : Nat => zI (a1_2009 (j : Int))))), (q_706, .inl (cA_706, 2000, .inl (fun j : Nat => zI (a2_2010 (j : Int))))), (q_707, .inl (cA_707, 2000, .inr (.inl (fun j : Nat => lI (a3_2011 (j : Int)))))), (q_708, .inl (cA_708, 2000, .inr (.inl (fun j : Nat => lI (a4_2012 (j : Int))))))] H := hP
                have hD : va_D A [(q_704, .inl (cA_704, 301, .inl (fun j : Nat => zI (w27_704 (j : Int))))), (q_715, .inl (cA_715, 301, .inl (fun j : Nat => zI (w27_715 (j : Int))))), (q_716, .inl (cA_716, 1000, .inl (fun j : Nat => zI (w27_716 (j : Int))))), (q_717, .inl (cA_717, 1000, .inl (fun j : Nat => zI (w27_717 (j : Int))))), (h0, .inr (0, [.int (zI (B1)), .int (zI (z0_2008)), .int (zI (e27_0_2)), v_3, .ref q_704, .ref q_705, .ref q_706, .ref q_707, .ref q_708, v_9, v_10, v_11, v_12, v_13, v_14, .ref q_715, .ref q_716, .ref q_717, v_18])), (q_705, .inl (cA_705, 2000, .inl (fun j : Nat => zI (a1_2009 (j : Int))))), (q_706, .inl (cA_706, 2000, .inl (fun j : Nat => zI (a2_2010 (j : Int))))), (q_707, .inl (cA_707, 2000, .inr (.inl (fun j : Nat => lI (a3_2011 (j : Int)))))), (q_708, .inl (cA_708, 2000, .inr (.inl (fun j : Nat => lI (a4_2012 (j : Int))))))] := hD
                have hK : va_K (dC, dI) vwP [(cA_704, .int), (cA_715, .int), (cA_716, .int), (cA_717, .int), (cA_705, .int), (cA_706, .int), (cA_707, .long), (cA_708, .long)] s := hK
                refine W.widen (k := 0) (n := 0) (Nat.le_of_ble_eq_true rfl) (Nat.le_of_ble_eq_true rfl) ?_
                obtain ⟨rfl, hzz_2007⟩ := hw
                obtain ⟨rk_2013, rk_2014, rk_2015, rk_2016, rk_2017, hu_2017⟩ := hxt_2012
                refine lv_pop hx hb dX0_sweep_87 rfl ?_
                refine lv_iinc (v := zI (d36_2 + 1)) (lv' := [(2, .int (zI (d36_2 + 1))), (0, .ref h0), (1, .int (zI (R1 + P1))), (3, .int (zI (d27_3))), (4, .int (zI (d27_4)))]) hx hb dX0_sweep_88 hl (k := 2) rfl (zI_add (d36_2) (1)) (by decide) rfl (fun ls hl => ?_)
                refine lv_goto (tgt := 36) hx hb dX0_sweep_91 (by decide) ?_
                have hP := hP.sub (ws' := [(h0, .inr (0, [.int (zI (B1)), .int (zI (z0_2008)), .int (zI (e27_0_2)), v_3, .ref q_704, .ref q_705, .ref q_706, .ref q_707, .ref q_708, v_9, v_10, v_11, v_12, v_13, v_14, .ref q_715, .ref q_716, .ref q_717, v_18])), (q_704, .inl (cA_704, 301, .inl (fun j : Nat => zI (w27_704 (j : Int))))), (q_705, .inl (cA_705, 2000, .inl (fun j : Nat => zI (a1_2009 (j : Int))))), (q_706, .inl (cA_706, 2000, .inl (fun j : Nat => zI (a2_2010 (j : Int))))), (q_707, .inl (cA_707, 2000, .inr (.inl (fun j : Nat => lI (a3_2011 (j : Int)))))), (q_708, .inl (cA_708, 2000, .inr (.inl (fun j : Nat => lI (a4_2012 (j : Int)))))), (q_715, .inl (cA_715, 301, .inl (fun j : Nat => zI (w27_715 (j : Int))))), (q_716, .inl (cA_716, 1000, .inl (fun j : Nat => zI (w27_716 (j : Int))))), (q_717, .inl (cA_717, 1000, .inl (fun j : Nat => zI (w27_717 (j : Int)))))]) [4, 0, 5, 6, 7, 8, 1, 2, 3] rfl
                have hD := hD.sub (ws' := [(h0, .inr (0, [.int (zI (B1)), .int (zI (z0_2008)), .int (zI (e27_0_2)), v_3, .ref q_704, .ref q_705, .ref q_706, .ref q_707, .ref q_708, v_9, v_10, v_11, v_12, v_13, v_14, .ref q_715, .ref q_716, .ref q_717, v_18])), (q_704, .inl (cA_704, 301, .inl (fun j : Nat => zI (w27_704 (j : Int))))), (q_705, .inl (cA_705, 2000, .inl (fun j : Nat => zI (a1_2009 (j : Int))))), (q_706, .inl (cA_706, 2000, .inl (fun j : Nat => zI (a2_2010 (j : Int))))), (q_707, .inl (cA_707, 2000, .inr (.inl (fun j : Nat => lI (a3_2011 (j : Int)))))), (q_708, .inl (cA_708, 2000, .inr (.inl (fun j : Nat => lI (a4_2012 (j : Int)))))), (q_715, .inl (cA_715, 301, .inl (fun j : Nat => zI (w27_715 (j : Int))))), (q_716, .inl (cA_716, 1000, .inl (fun j : Nat => zI (w27_716 (j : Int))))), (q_717, .inl (cA_717, 1000, .inl (fun j : Nat => zI (w27_717 (j : Int)))))]) [4, 0, 5, 6, 7, 8, 1, 2, 3] (by decide) rfl
                exact ih36 (d36_2 + 1) z0_2008 a1_2009 a2_2010 a3_2011 a4_2012 ls H _ (by omega) (by omega) rk_2014 rk_2015 rk_2016 rk_2017 (by obtain ⟨f, g, h1⟩ := jW; obtain ⟨u1, u2, u3, u4, u5⟩ := hu_2017; rw [u1, u2, u3, u4, u5]; exact ⟨_, g, SWS.radd h1 (by omega) (fun x h2 h3 => by have q9 := hX_MR.le' h2 (show x ≤ d27_4 by omega) (by omega); omega)⟩) (by omega) (lv_sub hl [1, 2, 0, 3, 4] rfl) hP hD hS
        exact key36 (((w27_704 (d27_4 + 1)) - (d27_2) : Int).toNat + 1) d27_2 e27_0_1 w27_705 w27_706 w27_707 w27_708 ls H _ (by omega) (by omega) jw27_705 jw27_706 jw27_707 jw27_708 jW (by omega) (lv_sub hl [0, 1, 2, 3, 4] rfl) hP hD hS
  exact key27 (((B1) - (0) : Int).toNat + 1) 0 0 0 0 0 a_4 a_5 a_6 a_7 a_8 a_15 a_16 a_17 ls H _ (by omega) (by omega) (by omega) (by omega) (by omega) hR_a_4 hR_a_5 hR_a_6 hR_a_7 hR_a_8 hR_a_15 hR_a_16 hR_a_17 ⟨_, _, SWS.init hX_MR.z hX_MF.z⟩ (by omega) (lv_sub hl [4, 3, 2, 1, 0] rfl) hP hD hS
