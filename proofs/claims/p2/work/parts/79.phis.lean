theorem dX8_addPhi_0 : decode cX8_addPhi 0 = .ok (.aload_n 0, 1) := by decide +kernel
theorem dX8_addPhi_1 : decode cX8_addPhi 1 = .ok (.getfield 136, 3) := by decide +kernel
theorem dX8_addPhi_4 : decode cX8_addPhi 4 = .ok (.aload_n 0, 1) := by decide +kernel
theorem dX8_addPhi_5 : decode cX8_addPhi 5 = .ok (.getfield 133, 3) := by decide +kernel
theorem dX8_addPhi_8 : decode cX8_addPhi 8 = .ok (.iload_n 2, 1) := by decide +kernel
theorem dX8_addPhi_9 : decode cX8_addPhi 9 = .ok (.iastore, 1) := by decide +kernel
theorem dX8_addPhi_10 : decode cX8_addPhi 10 = .ok (.aload_n 0, 1) := by decide +kernel
theorem dX8_addPhi_11 : decode cX8_addPhi 11 = .ok (.getfield 139, 3) := by decide +kernel
theorem dX8_addPhi_14 : decode cX8_addPhi 14 = .ok (.aload_n 0, 1) := by decide +kernel
theorem dX8_addPhi_15 : decode cX8_addPhi 15 = .ok (.getfield 133, 3) := by decide +kernel
theorem dX8_addPhi_18 : decode cX8_addPhi 18 = .ok (.aload_n 0, 1) := by decide +kernel
theorem dX8_addPhi_19 : decode cX8_addPhi 19 = .ok (.getfield 142, 3) := by decide +kernel
theorem dX8_addPhi_22 : decode cX8_addPhi 22 = .ok (.iastore, 1) := by decide +kernel
theorem dX8_addPhi_23 : decode cX8_addPhi 23 = .ok (.aload_n 0, 1) := by decide +kernel
theorem dX8_addPhi_24 : decode cX8_addPhi 24 = .ok (.dup, 1) := by decide +kernel
theorem dX8_addPhi_25 : decode cX8_addPhi 25 = .ok (.getfield 133, 3) := by decide +kernel
theorem dX8_addPhi_28 : decode cX8_addPhi 28 = .ok (.iconst 1, 1) := by decide +kernel
theorem dX8_addPhi_29 : decode cX8_addPhi 29 = .ok (.iadd, 1) := by decide +kernel
theorem dX8_addPhi_30 : decode cX8_addPhi 30 = .ok (.putfield 133, 3) := by decide +kernel
theorem dX8_addPhi_33 : decode cX8_addPhi 33 = .ok (.iconst 0, 1) := by decide +kernel
theorem dX8_addPhi_34 : decode cX8_addPhi 34 = .ok (.istore_n 3, 1) := by decide +kernel
theorem dX8_addPhi_35 : decode cX8_addPhi 35 = .ok (.iload_n 3, 1) := by decide +kernel
theorem dX8_addPhi_36 : decode cX8_addPhi 36 = .ok (.aload_n 0, 1) := by decide +kernel
theorem dX8_addPhi_37 : decode cX8_addPhi 37 = .ok (.iload_n 1, 1) := by decide +kernel
theorem dX8_addPhi_38 : decode cX8_addPhi 38 = .ok (.invokevirtual 59, 3) := by decide +kernel
theorem dX8_addPhi_41 : decode cX8_addPhi 41 = .ok (.if_icmp .ge 34, 3) := by decide +kernel
theorem dX8_addPhi_75 : decode cX8_addPhi 75 = .ok (.return_, 1) := by decide +kernel
theorem dX8_addPhi_44 : decode cX8_addPhi 44 = .ok (.aload_n 0, 1) := by decide +kernel
theorem dX8_addPhi_45 : decode cX8_addPhi 45 = .ok (.getfield 145, 3) := by decide +kernel
theorem dX8_addPhi_48 : decode cX8_addPhi 48 = .ok (.aload_n 0, 1) := by decide +kernel
theorem dX8_addPhi_49 : decode cX8_addPhi 49 = .ok (.getfield 142, 3) := by decide +kernel
theorem dX8_addPhi_52 : decode cX8_addPhi 52 = .ok (.ldc2_w 148, 3) := by decide +kernel
theorem dX8_addPhi_55 : decode cX8_addPhi 55 = .ok (.iload_n 2, 1) := by decide +kernel
theorem dX8_addPhi_56 : decode cX8_addPhi 56 = .ok (.i2l, 1) := by decide +kernel
theorem dX8_addPhi_57 : decode cX8_addPhi 57 = .ok (.ladd, 1) := by decide +kernel
theorem dX8_addPhi_58 : decode cX8_addPhi 58 = .ok (.lastore, 1) := by decide +kernel
theorem dX8_addPhi_59 : decode cX8_addPhi 59 = .ok (.aload_n 0, 1) := by decide +kernel
theorem dX8_addPhi_60 : decode cX8_addPhi 60 = .ok (.dup, 1) := by decide +kernel
theorem dX8_addPhi_61 : decode cX8_addPhi 61 = .ok (.getfield 142, 3) := by decide +kernel
theorem dX8_addPhi_64 : decode cX8_addPhi 64 = .ok (.iconst 1, 1) := by decide +kernel
theorem dX8_addPhi_65 : decode cX8_addPhi 65 = .ok (.iadd, 1) := by decide +kernel
theorem dX8_addPhi_66 : decode cX8_addPhi 66 = .ok (.putfield 142, 3) := by decide +kernel
theorem dX8_addPhi_69 : decode cX8_addPhi 69 = .ok (.iinc 3 1, 3) := by decide +kernel
theorem dX8_addPhi_72 : decode cX8_addPhi 72 = .ok (.goto (-37), 3) := by decide +kernel
def o_X8_addPhi : List Cond := [.fieldLink RX8 136 "SsaForge$Code" "phiTarget" "[I", .fieldLink RX8 133 "SsaForge$Code" "phis" "I", .fieldLink RX8 139 "SsaForge$Code" "argStart" "[I", .fieldLink RX8 142 "SsaForge$Code" "argCount" "I", .methodLink RX8 59 yX0_predCount, .instanceMethod yX0_predCount, .selects RX0 yX0_predCount yX0_predCount, .initialized RX0, .fieldLink RX8 145 "SsaForge$Code" "args" "[J", .constantLong RX8 148 (4294967296)]
def v_X8_addPhi : List Cond := .code yX8_addPhi cX8_addPhi 4 none :: (o_X8_addPhi ++ (wsX00 ++ (v_X0_predCount ++ [])))
theorem mow_X8_addPhi : ∀ w ∈ o_X8_addPhi, w ∈ v_X8_addPhi := fun _ h => List.mem_cons_of_mem _ (List.mem_append_left _ h)
theorem mem_X8_addPhi_0 : ∀ w ∈ wsX00, w ∈ v_X8_addPhi := fun _ h => List.mem_cons_of_mem _ (List.mem_append_right _ (List.mem_append_left _ h))
theorem mem_X8_addPhi_1 : ∀ w ∈ v_X0_predCount, w ∈ v_X8_addPhi := fun _ h => List.mem_cons_of_mem _ (List.mem_append_right _ (List.mem_append_right _ (List.mem_append_left _ h)))
set_option maxRecDepth 20000 in
theorem gw_X8_addPhi : v_X8_addPhi.all goodWord = true := by decide +kernel
set_option maxRecDepth 20000 in
theorem g_X8_addPhi_X0_predCount : GoodIn v_X8_addPhi (wsV RX8 59 RX0 yX0_predCount v_X0_predCount) := goodIn_app (goodIn_sub (fun w h => mow_X8_addPhi w (by revert w h; decide +kernel)) (by decide +kernel)) (goodIn_sub mem_X8_addPhi_1 gw_X0_predCount)
set_option maxHeartbeats 4000000 in
set_option maxRecDepth 100000 in
theorem c_X8_addPhi (l : Launch) (dC : Nat → ClassId) (dI : Nat → Nat → Nat) (hc : Nat) (v_0 : Value) (v_1 : Value) (P1 : Int) (C1 : Int) (v_4 : Value) (v_5 : Value) (v_6 : Value) (v_7 : Value) (v_8 : Value) (v_9 : Value) (v_10 : Value) (v_11 : Value) (v_12 : Value) (q_713 : Nat) (cA_713 : ClassId) (a_13 : Int → Int) (v_14 : Value) (v_15 : Value) (q_716 : Nat) (cA_716 : ClassId) (a_16 : Int → Int) (q_717 : Nat) (cA_717 : ClassId) (a_17 : Int → Int) (q_718 : Nat) (cA_718 : ClassId) (na1 : Nat) (a_18 : Int → Int) (b : Int) (rg : Int) (hNP1 : 0 ≤ P1 ∧ P1 ≤ 1000) (hNC1 : 0 ≤ C1 ∧ C1 ≤ 60000) (hR_a_13 : ∀ j : Int, 0 ≤ a_13 j ∧ a_13 j ≤ 600) (hR_a_16 : ∀ j : Int, -1 ≤ a_16 j ∧ a_16 j ≤ 1023) (hR_a_17 : ∀ j : Int, 0 ≤ a_17 j ∧ a_17 j ≤ 60000) (hNna1 : na1 ≤ 60000) (hR_a_18 : ∀ j : Int, ((-2147483648 ≤ a_18 j ∧ a_18 j ≤ 4294968319) ∨ a_18 j = 1099511627776)) (hNb : 0 ≤ b ∧ b < 300) (hNr : 0 ≤ rg ∧ rg ≤ 1023) (hNp : P1 < 1000 ∧ 0 ≤ a_13 (b + 1) - a_13 b ∧ C1 + (a_13 (b + 1) - a_13 b) ≤ na1) (sz : Nat) : Met l yX8_addPhi v_X8_addPhi ({ frames := 1, cells := 0, slots := 0, locals := 21 }) (va_Pc [.ref hc, .int (zI (b)), .int (zI (rg))] (fun U => U.heap.size = sz ∧ va_P (dC, dI) vwP [(hc, .inr (0, [v_0, v_1, .int (zI (P1)), .int (zI (C1)), v_4, v_5, v_6, v_7, v_8, v_9, v_10, v_11, v_12, .ref q_713, v_14, v_15, .ref q_716, .ref q_717, .ref q_718])), (q_713, .inl (cA_713, 301, .inl (fun j : Nat => zI (a_13 (j : Int))))), (q_716, .inl (cA_716, 1000, .inl (fun j : Nat => zI (a_16 (j : Int))))), (q_717, .inl (cA_717, 1000, .inl (fun j : Nat => zI (a_17 (j : Int))))), (q_718, .inl (cA_718, na1, .inr (.inl (fun j : Nat => lI (a_18 (j : Int))))))] U.heap ∧ va_K (dC, dI) vwP [(cA_713, .int), (cA_716, .int), (cA_717, .int), (cA_718, .long)] U ∧ va_D (fun _ => True) [(hc, .inr (0, [v_0, v_1, .int (zI (P1)), .int (zI (C1)), v_4, v_5, v_6, v_7, v_8, v_9, v_10, v_11, v_12, .ref q_713, v_14, v_15, .ref q_716, .ref q_717, .ref q_718])), (q_713, .inl (cA_713, 301, .inl (fun j : Nat => zI (a_13 (j : Int))))), (q_716, .inl (cA_716, 1000, .inl (fun j : Nat => zI (a_16 (j : Int))))), (q_717, .inl (cA_717, 1000, .inl (fun j : Nat => zI (a_17 (j : Int))))), (q_718, .inl (cA_718, na1, .inr (.inl (fun j : Nat => lI (a_18 (j : Int))))))])) (va_Qv (fun _ : Unit => True) (fun (_ : Unit) (t : State) => ∃ (z0_9 : Int) (z1_9 : Int) (a2_9 : Int → Int) (a3_9 : Int → Int) (a4_9 : Int → Int), ((0 ≤ z0_9 ∧ z0_9 ≤ 1000) ∧ (0 ≤ z1_9 ∧ z1_9 ≤ 60000) ∧ (∀ j : Int, -1 ≤ a2_9 j ∧ a2_9 j ≤ 1023) ∧ (∀ j : Int, 0 ≤ a3_9 j ∧ a3_9 j ≤ 60000) ∧ (∀ j : Int, ((-2147483648 ≤ a4_9 j ∧ a4_9 j ≤ 4294968319) ∨ a4_9 j = 1099511627776)) ∧ (a2_9 = zup a_16 P1 rg ∧ a3_9 = zup a_17 P1 C1 ∧ z0_9 = P1 + 1 ∧ z1_9 = C1 + (a_13 (b + 1) - a_13 b))) ∧ va_P (dC, dI) vwP [(hc, .inr (0, [v_0, v_1, .int (zI (z0_9)), .int (zI (z1_9)), v_4, v_5, v_6, v_7, v_8, v_9, v_10, v_11, v_12, .ref q_713, v_14, v_15, .ref q_716, .ref q_717, .ref q_718])), (q_713, .inl (cA_713, 301, .inl (fun j : Nat => zI (a_13 (j : Int))))), (q_716, .inl (cA_716, 1000, .inl (fun j : Nat => zI (a2_9 (j : Int))))), (q_717, .inl (cA_717, 1000, .inl (fun j : Nat => zI (a3_9 (j : Int))))), (q_718, .inl (cA_718, na1, .inr (.inl (fun j : Nat => lI (a4_9 (j : Int))))))] t.heap ∧ va_K (dC, dI) vwP [(cA_713, .int), (cA_716, .int), (cA_717, .int), (cA_718, .long)] t ∧ va_D (va_A [(hc, .inr (0, [v_0, v_1, .int (zI (P1)), .int (zI (C1)), v_4, v_5, v_6, v_7, v_8, v_9, v_10, v_11, v_12, .ref q_713, v_14, v_15, .ref q_716, .ref q_717, .ref q_718])), (q_713, .inl (cA_713, 301, .inl (fun j : Nat => zI (a_13 (j : Int))))), (q_716, .inl (cA_716, 1000, .inl (fun j : Nat => zI (a_16 (j : Int))))), (q_717, .inl (cA_717, 1000, .inl (fun j : Nat => zI (a_17 (j : Int))))), (q_718, .inl (cA_718, na1, .inr (.inl (fun j : Nat => lI (a_18 (j : Int))))))] sz) [(hc, .inr (0, [v_0, v_1, .int (zI (z0_9)), .int (zI (z1_9)), v_4, v_5, v_6, v_7, v_8, v_9, v_10, v_11, v_12, .ref q_713, v_14, v_15, .ref q_716, .ref q_717, .ref q_718])), (q_713, .inl (cA_713, 301, .inl (fun j : Nat => zI (a_13 (j : Int))))), (q_716, .inl (cA_716, 1000, .inl (fun j : Nat => zI (a2_9 (j : Int))))), (q_717, .inl (cA_717, 1000, .inl (fun j : Nat => zI (a3_9 (j : Int))))), (q_718, .inl (cA_718, na1, .inr (.inl (fun j : Nat => lI (a4_9 (j : Int))))))]) (va_A [(hc, .inr (0, [v_0, v_1, .int (zI (P1)), .int (zI (C1)), v_4, v_5, v_6, v_7, v_8, v_9, v_10, v_11, v_12, .ref q_713, v_14, v_15, .ref q_716, .ref q_717, .ref q_718])), (q_713, .inl (cA_713, 301, .inl (fun j : Nat => zI (a_13 (j : Int))))), (q_716, .inl (cA_716, 1000, .inl (fun j : Nat => zI (a_16 (j : Int))))), (q_717, .inl (cA_717, 1000, .inl (fun j : Nat => zI (a_17 (j : Int))))), (q_718, .inl (cA_718, na1, .inr (.inl (fun j : Nat => lI (a_18 (j : Int))))))] sz)) 0 0 (va_A [(hc, .inr (0, [v_0, v_1, .int (zI (P1)), .int (zI (C1)), v_4, v_5, v_6, v_7, v_8, v_9, v_10, v_11, v_12, .ref q_713, v_14, v_15, .ref q_716, .ref q_717, .ref q_718])), (q_713, .inl (cA_713, 301, .inl (fun j : Nat => zI (a_13 (j : Int))))), (q_716, .inl (cA_716, 1000, .inl (fun j : Nat => zI (a_16 (j : Int))))), (q_717, .inl (cA_717, 1000, .inl (fun j : Nat => zI (a_17 (j : Int))))), (q_718, .inl (cA_718, na1, .inr (.inl (fun j : Nat => lI (a_18 (j : Int))))))] sz) := by
  refine Met.ofW (cc := cX8_addPhi) (maxL := 4) (ret := none) (by decide) rfl ?_
  intro p e s m args below meth c s₁ B hml hv
  obtain ⟨rfl, hsz, hP, hK, hD0⟩ := hv
  have hx := B.exec
  have hb := B.bytes
  have hr := B.returns
  have hts := atoms_spec (ws := v_X8_addPhi) B.pre
  have hown : s.vm.findClass RX8 = some m.cls := findClass_of_methodNamed B.named
  have hlocks := B.notSynchronized
  have ow : ∀ {k : Nat} {w : Cond}, o_X8_addPhi[k]? = some w → w.before ([.ref hc, .int (zI (b)), .int (zI (rg))] : List Value).toArray s = true := fun h => hts _ (mow_X8_addPhi _ (List.mem_of_getElem? h))
  subst hsz
  have hD := hD0.self (sz := s.heap.size)
  generalize hAe : va_A [(hc, .inr (0, [v_0, v_1, .int (zI (P1)), .int (zI (C1)), v_4, v_5, v_6, v_7, v_8, v_9, v_10, v_11, v_12, .ref q_713, v_14, v_15, .ref q_716, .ref q_717, .ref q_718])), (q_713, .inl (cA_713, 301, .inl (fun j : Nat => zI (a_13 (j : Int))))), (q_716, .inl (cA_716, 1000, .inl (fun j : Nat => zI (a_16 (j : Int))))), (q_717, .inl (cA_717, 1000, .inl (fun j : Nat => zI (a_17 (j : Int))))), (q_718, .inl (cA_718, na1, .inr (.inl (fun j : Nat => lI (a_18 (j : Int))))))] s.heap.size = A at hD ⊢
  have hA : ∀ q : Nat, s.heap.size ≤ q → A q := fun q h => by rw [← hAe]; exact Or.inr h
  have hS : va_S A s.heap s.heap [] := va_S.rf
  have hP : va_P (dC, dI) vwP [(hc, .inr (0, [v_0, v_1, .int (zI (P1)), .int (zI (C1)), v_4, v_5, v_6, v_7, v_8, v_9, v_10, v_11, v_12, .ref q_713, v_14, v_15, .ref q_716, .ref q_717, .ref q_718])), (q_713, .inl (cA_713, 301, .inl (fun j : Nat => zI (a_13 (j : Int))))), (q_716, .inl (cA_716, 1000, .inl (fun j : Nat => zI (a_16 (j : Int))))), (q_717, .inl (cA_717, 1000, .inl (fun j : Nat => zI (a_17 (j : Int))))), (q_718, .inl (cA_718, na1, .inr (.inl (fun j : Nat => lI (a_18 (j : Int))))))] s.heap := hP
  have hl := lv_entry ([.ref hc, .int (zI (b)), .int (zI (rg))]) (n := 4) (Nat.le_of_ble_eq_true rfl)
  rw [lg_entry_eq]
  generalize (lg_sl ([.ref hc, .int (zI (b)), .int (zI (rg))]) ++ List.replicate (4 - (lg_sl ([.ref hc, .int (zI (b)), .int (zI (rg))])).length) Slot.unset).toArray = ls at hl ⊢
  have hl : lv_has ls 4 [(0, .ref hc), (1, .int (zI (b))), (2, .int (zI (rg)))] := hl
  obtain ⟨H, hH⟩ : ∃ H, H = s.heap := ⟨_, rfl⟩
  rw [← hH] at hP
  have hS : va_S A s.heap H [] := by rw [hH]; exact hS
  rw [← hH]
  refine zW_cap (fun Q hQ => ?_)
  refine lv_aload_n hx hb dX8_addPhi_0 rfl (lv_at hl 0 rfl) ?_
  refine va_get (D := (dC, dI)) (ci := 0) (v := .ref q_716) (C := RX0) (T := TX0) (N := 19) hx hb hts mem_X8_addPhi_0 hown hK hP 0 rfl rfl 16 (by decide) (ow (k := 0) rfl) (fun _ h9 => h9) rfl dX8_addPhi_1 ?_
  refine lv_aload_n hx hb dX8_addPhi_4 rfl (lv_at hl 0 rfl) ?_
  refine va_get (D := (dC, dI)) (ci := 0) (v := .int (zI (P1))) (C := RX0) (T := TX0) (N := 19) hx hb hts mem_X8_addPhi_0 hown hK hP 0 rfl rfl 2 (by decide) (ow (k := 1) rfl) (fun _ h9 => h9) rfl dX8_addPhi_5 ?_
  refine lv_iload_n hx hb dX8_addPhi_8 rfl (lv_at hl 2 rfl) ?_
  refine va_iast (i := zI (P1)) hx hb hK hP hD hS 2 1 rfl rfl (zI_in (a := P1) (n := 1000) (by omega) (by omega) (by decide)) dX8_addPhi_9 (fun H locs hP hD hS => ?_)
  have eQ : upd (fun j : Nat => zI (a_16 (j : Int))) (zI (P1)).toNatClampNeg (zI (rg)) = (fun j : Nat => zI (zup a_16 (P1) (rg) (j : Int))) := zI_st a_16 (e := P1) (v := rg) (by omega) (by omega)
  rw [eQ] at hP hD
  clear eQ
  have ra_2001 : ∀ j : Int, -1 ≤ zup a_16 (P1) (rg) j ∧ zup a_16 (P1) (rg) j ≤ 1023 := zup_P (P := fun x9 => -1 ≤ x9 ∧ x9 ≤ 1023) hR_a_16 (show -1 ≤ (rg) ∧ (rg) ≤ 1023 by omega)
  obtain ⟨a_2001, ea_2001⟩ : ∃ a9 : Int → Int, a9 = zup a_16 (P1) (rg) := ⟨_, rfl⟩
  rw [← ea_2001] at hP hD ra_2001
  have hP : va_P (dC, dI) vwP [(hc, .inr (0, [v_0, v_1, .int (zI (P1)), .int (zI (C1)), v_4, v_5, v_6, v_7, v_8, v_9, v_10, v_11, v_12, .ref q_713, v_14, v_15, .ref q_716, .ref q_717, .ref q_718])), (q_713, .inl (cA_713, 301, .inl (fun j : Nat => zI (a_13 (j : Int))))), (q_716, .inl (cA_716, 1000, .inl (fun j : Nat => zI (a_2001 (j : Int))))), (q_717, .inl (cA_717, 1000, .inl (fun j : Nat => zI (a_17 (j : Int))))), (q_718, .inl (cA_718, na1, .inr (.inl (fun j : Nat => lI (a_18 (j : Int))))))] H := hP
  have hD : va_D A [(hc, .inr (0, [v_0, v_1, .int (zI (P1)), .int (zI (C1)), v_4, v_5, v_6, v_7, v_8, v_9, v_10, v_11, v_12, .ref q_713, v_14, v_15, .ref q_716, .ref q_717, .ref q_718])), (q_713, .inl (cA_713, 301, .inl (fun j : Nat => zI (a_13 (j : Int))))), (q_716, .inl (cA_716, 1000, .inl (fun j : Nat => zI (a_2001 (j : Int))))), (q_717, .inl (cA_717, 1000, .inl (fun j : Nat => zI (a_17 (j : Int))))), (q_718, .inl (cA_718, na1, .inr (.inl (fun j : Nat => lI (a_18 (j : Int))))))] := hD
  refine lv_aload_n hx hb dX8_addPhi_10 rfl (lv_at hl 0 rfl) ?_
  refine va_get (D := (dC, dI)) (ci := 0) (v := .ref q_717) (C := RX0) (T := TX0) (N := 19) hx hb hts mem_X8_addPhi_0 hown hK hP 0 rfl rfl 17 (by decide) (ow (k := 2) rfl) (fun _ h9 => h9) rfl dX8_addPhi_11 ?_
  refine lv_aload_n hx hb dX8_addPhi_14 rfl (lv_at hl 0 rfl) ?_
  refine va_get (D := (dC, dI)) (ci := 0) (v := .int (zI (P1))) (C := RX0) (T := TX0) (N := 19) hx hb hts mem_X8_addPhi_0 hown hK hP 0 rfl rfl 2 (by decide) (ow (k := 1) rfl) (fun _ h9 => h9) rfl dX8_addPhi_15 ?_
  refine lv_aload_n hx hb dX8_addPhi_18 rfl (lv_at hl 0 rfl) ?_
  refine va_get (D := (dC, dI)) (ci := 0) (v := .int (zI (C1))) (C := RX0) (T := TX0) (N := 19) hx hb hts mem_X8_addPhi_0 hown hK hP 0 rfl rfl 3 (by decide) (ow (k := 3) rfl) (fun _ h9 => h9) rfl dX8_addPhi_19 ?_
  refine va_iast (i := zI (P1)) hx hb hK hP hD hS 3 2 rfl rfl (zI_in (a := P1) (n := 1000) (by omega) (by omega) (by decide)) dX8_addPhi_22 (fun H locs hP hD hS => ?_)
  have eQ : upd (fun j : Nat => zI (a_17 (j : Int))) (zI (P1)).toNatClampNeg (zI (C1)) = (fun j : Nat => zI (zup a_17 (P1) (C1) (j : Int))) := zI_st a_17 (e := P1) (v := C1) (by omega) (by omega)
  rw [eQ] at hP hD
  clear eQ
  have ra_2002 : ∀ j : Int, 0 ≤ zup a_17 (P1) (C1) j ∧ zup a_17 (P1) (C1) j ≤ 60000 := zup_P (P := fun x9 => 0 ≤ x9 ∧ x9 ≤ 60000) hR_a_17 (show 0 ≤ (C1) ∧ (C1) ≤ 60000 by omega)
  obtain ⟨a_2002, ea_2002⟩ : ∃ a9 : Int → Int, a9 = zup a_17 (P1) (C1) := ⟨_, rfl⟩
  rw [← ea_2002] at hP hD ra_2002
  have hP : va_P (dC, dI) vwP [(hc, .inr (0, [v_0, v_1, .int (zI (P1)), .int (zI (C1)), v_4, v_5, v_6, v_7, v_8, v_9, v_10, v_11, v_12, .ref q_713, v_14, v_15, .ref q_716, .ref q_717, .ref q_718])), (q_713, .inl (cA_713, 301, .inl (fun j : Nat => zI (a_13 (j : Int))))), (q_716, .inl (cA_716, 1000, .inl (fun j : Nat => zI (a_2001 (j : Int))))), (q_717, .inl (cA_717, 1000, .inl (fun j : Nat => zI (a_2002 (j : Int))))), (q_718, .inl (cA_718, na1, .inr (.inl (fun j : Nat => lI (a_18 (j : Int))))))] H := hP
  have hD : va_D A [(hc, .inr (0, [v_0, v_1, .int (zI (P1)), .int (zI (C1)), v_4, v_5, v_6, v_7, v_8, v_9, v_10, v_11, v_12, .ref q_713, v_14, v_15, .ref q_716, .ref q_717, .ref q_718])), (q_713, .inl (cA_713, 301, .inl (fun j : Nat => zI (a_13 (j : Int))))), (q_716, .inl (cA_716, 1000, .inl (fun j : Nat => zI (a_2001 (j : Int))))), (q_717, .inl (cA_717, 1000, .inl (fun j : Nat => zI (a_2002 (j : Int))))), (q_718, .inl (cA_718, na1, .inr (.inl (fun j : Nat => lI (a_18 (j : Int))))))] := hD
  refine lv_aload_n hx hb dX8_addPhi_23 rfl (lv_at hl 0 rfl) ?_
  refine lv_dup hx hb dX8_addPhi_24 rfl ?_
  refine va_get (D := (dC, dI)) (ci := 0) (v := .int (zI (P1))) (C := RX0) (T := TX0) (N := 19) hx hb hts mem_X8_addPhi_0 hown hK hP 0 rfl rfl 2 (by decide) (ow (k := 1) rfl) (fun _ h9 => h9) rfl dX8_addPhi_25 ?_
  refine lv_iconst (v := 1) hx hb dX8_addPhi_28 (by decide) ?_
  refine lv_iadd hx hb dX8_addPhi_29 ?_
  refine lv_topi (fun z ez => ?_)
  obtain rfl : z = zI (P1 + 1) := ez.trans (zI_add (P1) (1))
  refine va_put (D := (dC, dI)) (ci := 0) (v := .int (zI (P1 + 1))) (ty := .int) (C := RX0) (T := TX0) (N := 19) hx hb hts mem_X8_addPhi_0 tyX0 tyX0_ok nmX0 hown hK hP hD hS 0 rfl rfl 2 (by decide) (ow (k := 1) rfl) (fun _ h9 => h9) rfl (by decide +kernel) rfl rfl (Nat.le_of_ble_eq_true rfl) dX8_addPhi_30 (fun H locs hP hD hS => ?_)
  have hP : va_P (dC, dI) vwP [(hc, .inr (0, [v_0, v_1, .int (zI (P1 + 1)), .int (zI (C1)), v_4, v_5, v_6, v_7, v_8, v_9, v_10, v_11, v_12, .ref q_713, v_14, v_15, .ref q_716, .ref q_717, .ref q_718])), (q_713, .inl (cA_713, 301, .inl (fun j : Nat => zI (a_13 (j : Int))))), (q_716, .inl (cA_716, 1000, .inl (fun j : Nat => zI (a_2001 (j : Int))))), (q_717, .inl (cA_717, 1000, .inl (fun j : Nat => zI (a_2002 (j : Int))))), (q_718, .inl (cA_718, na1, .inr (.inl (fun j : Nat => lI (a_18 (j : Int))))))] H := hP
  have hD : va_D A [(hc, .inr (0, [v_0, v_1, .int (zI (P1 + 1)), .int (zI (C1)), v_4, v_5, v_6, v_7, v_8, v_9, v_10, v_11, v_12, .ref q_713, v_14, v_15, .ref q_716, .ref q_717, .ref q_718])), (q_713, .inl (cA_713, 301, .inl (fun j : Nat => zI (a_13 (j : Int))))), (q_716, .inl (cA_716, 1000, .inl (fun j : Nat => zI (a_2001 (j : Int))))), (q_717, .inl (cA_717, 1000, .inl (fun j : Nat => zI (a_2002 (j : Int))))), (q_718, .inl (cA_718, na1, .inr (.inl (fun j : Nat => lI (a_18 (j : Int))))))] := hD
  obtain ⟨z_2003, ez_2003⟩ : ∃ z9 : Int, z9 = P1 + 1 := ⟨_, rfl⟩
  rw [← ez_2003] at hP hD
  have hP : va_P (dC, dI) vwP [(hc, .inr (0, [v_0, v_1, .int (zI (z_2003)), .int (zI (C1)), v_4, v_5, v_6, v_7, v_8, v_9, v_10, v_11, v_12, .ref q_713, v_14, v_15, .ref q_716, .ref q_717, .ref q_718])), (q_713, .inl (cA_713, 301, .inl (fun j : Nat => zI (a_13 (j : Int))))), (q_716, .inl (cA_716, 1000, .inl (fun j : Nat => zI (a_2001 (j : Int))))), (q_717, .inl (cA_717, 1000, .inl (fun j : Nat => zI (a_2002 (j : Int))))), (q_718, .inl (cA_718, na1, .inr (.inl (fun j : Nat => lI (a_18 (j : Int))))))] H := hP
  have hD : va_D A [(hc, .inr (0, [v_0, v_1, .int (zI (z_2003)), .int (zI (C1)), v_4, v_5, v_6, v_7, v_8, v_9, v_10, v_11, v_12, .ref q_713, v_14, v_15, .ref q_716, .ref q_717, .ref q_718])), (q_713, .inl (cA_713, 301, .inl (fun j : Nat => zI (a_13 (j : Int))))), (q_716, .inl (cA_716, 1000, .inl (fun j : Nat => zI (a_2001 (j : Int))))), (q_717, .inl (cA_717, 1000, .inl (fun j : Nat => zI (a_2002 (j : Int))))), (q_718, .inl (cA_718, na1, .inr (.inl (fun j : Nat => lI (a_18 (j : Int))))))] := hD
  refine lv_iconst (v := 0) hx hb dX8_addPhi_33 (by decide) ?_
  refine lv_istore_n (lv' := [(3, .int 0), (0, .ref hc), (1, .int (zI (b))), (2, .int (zI (rg)))]) hx hb dX8_addPhi_34 rfl hl (by decide) rfl (fun ls hl => ?_)
  have key35 : ∀ n35 : Nat, ∀ (d35_3 : Int) (e35_0_3 : Int) (w35_718 : Int → Int) (ls : Array Slot) (H : Heap) (locs : List Loc), (0 ≤ d35_3 ∧ d35_3 ≤ a_13 (b + 1) - a_13 b) → (0 ≤ e35_0_3 ∧ e35_0_3 ≤ 60000) → (∀ j : Int, ((-2147483648 ≤ w35_718 j ∧ w35_718 j ≤ 4294968319) ∨ w35_718 j = 1099511627776)) → (e35_0_3 = C1 + d35_3) → (((a_13 (b + 1) - a_13 (b)) - (d35_3) : Int).toNat) < n35 → lv_has ls 4 [(0, .ref hc), (1, .int (zI (b))), (2, .int (zI (rg))), (3, .int (zI (d35_3)))] → va_P (dC, dI) vwP [(hc, .inr (0, [v_0, v_1, .int (zI (z_2003)), .int (zI (e35_0_3)), v_4, v_5, v_6, v_7, v_8, v_9, v_10, v_11, v_12, .ref q_713, v_14, v_15, .ref q_716, .ref q_717, .ref q_718])), (q_713, .inl (cA_713, 301, .inl (fun j : Nat => zI (a_13 (j : Int))))), (q_716, .inl (cA_716, 1000, .inl (fun j : Nat => zI (a_2001 (j : Int))))), (q_717, .inl (cA_717, 1000, .inl (fun j : Nat => zI (a_2002 (j : Int))))), (q_718, .inl (cA_718, na1, .inr (.inl (fun j : Nat => lI (w35_718 (j : Int))))))] H → va_D A [(hc, .inr (0, [v_0, v_1, .int (zI (z_2003)), .int (zI (e35_0_3)), v_4, v_5, v_6, v_7, v_8, v_9, v_10, v_11, v_12, .ref q_713, v_14, v_15, .ref q_716, .ref q_717, .ref q_718])), (q_713, .inl (cA_713, 301, .inl (fun j : Nat => zI (a_13 (j : Int))))), (q_716, .inl (cA_716, 1000, .inl (fun j : Nat => zI (a_2001 (j : Int))))), (q_717, .inl (cA_717, 1000, .inl (fun j : Nat => zI (a_2002 (j : Int))))), (q_718, .inl (cA_718, na1, .inr (.inl (fun j : Nat => lI (w35_718 (j : Int))))))] → va_S A s.heap H locs → W p l e (headSpec v_X8_addPhi ({ frames := 1, cells := 0, slots := 0, locals := 21 })).room s m ([.ref hc, .int (zI (b)), .int (zI (rg))] : List Value).toArray below meth c H locs 0 0 Q (F0 m 35 ls []) := by
    intro n35
    induction n35 with
    | zero => intro d35_3 e35_0_3 w35_718 ls H locs jd35_3 je35_0_3 jw35_718 jc hm35; exact absurd hm35 (by omega)
    | succ n35 ih35 =>
      intro d35_3 e35_0_3 w35_718 ls H locs jd35_3 je35_0_3 jw35_718 jc hm35 hl hP hD hS
      refine lv_iload_n hx hb dX8_addPhi_35 rfl (lv_at hl 3 rfl) ?_
      refine lv_aload_n hx hb dX8_addPhi_36 rfl (lv_at hl 0 rfl) ?_
      refine lv_iload_n hx hb dX8_addPhi_37 rfl (lv_at hl 1 rfl) ?_
      have hPc := hP.sub (ws' := [(hc, .inr (0, [v_0, v_1, .int (zI (z_2003)), .int (zI (e35_0_3)), v_4, v_5, v_6, v_7, v_8, v_9, v_10, v_11, v_12, .ref q_713, v_14, v_15, .ref q_716, .ref q_717, .ref q_718])), (q_713, .inl (cA_713, 301, .inl (fun j : Nat => zI (a_13 (j : Int)))))]) [0, 1] rfl
      have hDc := hD.sub (ws' := [(hc, .inr (0, [v_0, v_1, .int (zI (z_2003)), .int (zI (e35_0_3)), v_4, v_5, v_6, v_7, v_8, v_9, v_10, v_11, v_12, .ref q_713, v_14, v_15, .ref q_716, .ref q_717, .ref q_718])), (q_713, .inl (cA_713, 301, .inl (fun j : Nat => zI (a_13 (j : Int)))))]) [0, 1] (by decide) rfl
      have hKc := hK.sub (tys' := [(cA_713, .int)]) [0] rfl
      have hFc := va_free (wc := [(hc, .inr (0, [v_0, v_1, .int (zI (z_2003)), .int (zI (e35_0_3)), v_4, v_5, v_6, v_7, v_8, v_9, v_10, v_11, v_12, .ref q_713, v_14, v_15, .ref q_716, .ref q_717, .ref q_718])), (q_713, .inl (cA_713, 301, .inl (fun j : Nat => zI (a_13 (j : Int)))))]) hD hS hA [0, 1] rfl
      refine va_calli (va_runV (As := [.int (zI (b))]) (rest := [.int (zI (d35_3))]) ⟨hx, hb, hml, hown, hts⟩ (c_X0_predCount l dC dI hc v_0 v_1 (.int (zI (z_2003))) (.int (zI (e35_0_3))) v_4 v_5 v_6 v_7 v_8 v_9 v_10 v_11 v_12 q_713 cA_713 a_13 v_14 v_15 (.ref q_716) (.ref q_717) (.ref q_718) b hR_a_13 (by omega) H.size) (cwV 1 hts g_X8_addPhi_X0_predCount rfl rfl rfl (by decide +kernel) ⟨(Nat.le_of_ble_eq_true rfl), (Nat.le_of_ble_eq_true rfl)⟩) ⟨fun a U g mk q => by obtain ⟨q0, q1, qP, qK, qD⟩ := q; exact ⟨q0, q1, qP, va_K.moved (u := U) (U := U.calling g mk a) (Vm.Alike.refl U.vm) qK, qD⟩, va_recv hKc hPc (ci := 0) (q0 := 0) rfl rfl, fun U hU hW => ⟨rfl, by rw [hU], by rw [hU]; exact hPc, va_K.moved hW.alike hKc, hDc.weaken (fun _ _ _ _ => trivial)⟩⟩ rfl rfl hl.1 rfl (lv_room (Nat.le_of_ble_eq_true rfl)) dX8_addPhi_38 ⟨(Nat.le_of_ble_eq_true rfl), (Nat.le_of_ble_eq_true rfl)⟩) hS (fun q _ h => hFc q h) hFc (fun r_2004 u t H1 locs ht hvm hw hB hz1 hk1 hS => ?_)
      obtain ⟨hP1, hK1, hD1⟩ := hB
      rw [ht] at hP1
      have hK1 := va_K.moved hvm.symm hK1
      obtain ⟨hP, hD⟩ := va_join (wr := [(q_716, .inl (cA_716, 1000, .inl (fun j : Nat => zI (a_2001 (j : Int))))), (q_717, .inl (cA_717, 1000, .inl (fun j : Nat => zI (a_2002 (j : Int))))), (q_718, .inl (cA_718, na1, .inr (.inl (fun j : Nat => lI (w35_718 (j : Int))))))]) (w1 := [(hc, .inr (0, [v_0, v_1, .int (zI (z_2003)), .int (zI (e35_0_3)), v_4, v_5, v_6, v_7, v_8, v_9, v_10, v_11, v_12, .ref q_713, v_14, v_15, .ref q_716, .ref q_717, .ref q_718])), (q_713, .inl (cA_713, 301, .inl (fun j : Nat => zI (a_13 (j : Int)))))]) hP hD [0, 1] [2, 3, 4] rfl rfl (by decide) (by decide) hk1 hFc hP1 hD1
      have hK := (hK.sub (tys' := [(cA_716, .int), (cA_717, .int), (cA_718, .long)]) [1, 2, 3] rfl).app hK1
      generalize H1 = H at hP hS ⊢
      have hP : va_P (dC, dI) vwP [(q_716, .inl (cA_716, 1000, .inl (fun j : Nat => zI (a_2001 (j : Int))))), (q_717, .inl (cA_717, 1000, .inl (fun j : Nat => zI (a_2002 (j : Int))))), (q_718, .inl (cA_718, na1, .inr (.inl (fun j : Nat => lI (w35_718 (j : Int)))))), (hc, .inr (0, [v_0, v_1, .int (zI (z_2003)), .int (zI (e35_0_3)), v_4, v_5, v_6, v_7, v_8, v_9, v_10, v_11, v_12, .ref q_713, v_14, v_15, .ref q_716, .ref q_717, .ref q_718])), (q_713, .inl (cA_713, 301, .inl (fun j : Nat => zI (a_13 (j : Int)))))] H := hP
      have hD : va_D A [(q_716, .inl (cA_716, 1000, .inl (fun j : Nat => zI (a_2001 (j : Int))))), (q_717, .inl (cA_717, 1000, .inl (fun j : Nat => zI (a_2002 (j : Int))))), (q_718, .inl (cA_718, na1, .inr (.inl (fun j : Nat => lI (w35_718 (j : Int)))))), (hc, .inr (0, [v_0, v_1, .int (zI (z_2003)), .int (zI (e35_0_3)), v_4, v_5, v_6, v_7, v_8, v_9, v_10, v_11, v_12, .ref q_713, v_14, v_15, .ref q_716, .ref q_717, .ref q_718])), (q_713, .inl (cA_713, 301, .inl (fun j : Nat => zI (a_13 (j : Int)))))] := hD
      have hK : va_K (dC, dI) vwP [(cA_716, .int), (cA_717, .int), (cA_718, .long), (cA_713, .int)] s := hK
      refine W.widen (k := 0) (n := 0) (Nat.le_of_ble_eq_true rfl) (Nat.le_of_ble_eq_true rfl) ?_
      obtain rfl : r_2004 = (zI (a_13 (b + 1) - a_13 (b))) := hw
      have k1 := hR_a_13 (b + 1)
      have k2 := hR_a_13 (b)
      refine lv_icmp_ge (tgt := 75) hx hb dX8_addPhi_41 (by decide) (fun b41 => ?_) (fun b41 => ?_)
      · have yb41 : (a_13 (b + 1) - a_13 (b) : Int) ≤ (d35_3 : Int) := (zI_le (a := a_13 (b + 1) - a_13 (b)) (b := d35_3) (by omega) (by omega) (by omega) (by omega)).mp b41
        subst hQ
        have hP := hP.sub (ws' := [(hc, .inr (0, [v_0, v_1, .int (zI (z_2003)), .int (zI (e35_0_3)), v_4, v_5, v_6, v_7, v_8, v_9, v_10, v_11, v_12, .ref q_713, v_14, v_15, .ref q_716, .ref q_717, .ref q_718])), (q_713, .inl (cA_713, 301, .inl (fun j : Nat => zI (a_13 (j : Int))))), (q_716, .inl (cA_716, 1000, .inl (fun j : Nat => zI (a_2001 (j : Int))))), (q_717, .inl (cA_717, 1000, .inl (fun j : Nat => zI (a_2002 (j : Int))))), (q_718, .inl (cA_718, na1, .inr (.inl (fun j : Nat => lI (w35_718 (j : Int))))))]) [3, 4, 0, 1, 2] rfl
        have hD := hD.sub (ws' := [(hc, .inr (0, [v_0, v_1, .int (zI (z_2003)), .int (zI (e35_0_3)), v_4, v_5, v_6, v_7, v_8, v_9, v_10, v_11, v_12, .ref q_713, v_14, v_15, .ref q_716, .ref q_717, .ref q_718])), (q_713, .inl (cA_713, 301, .inl (fun j : Nat => zI (a_13 (j : Int))))), (q_716, .inl (cA_716, 1000, .inl (fun j : Nat => zI (a_2001 (j : Int))))), (q_717, .inl (cA_717, 1000, .inl (fun j : Nat => zI (a_2002 (j : Int))))), (q_718, .inl (cA_718, na1, .inr (.inl (fun j : Nat => lI (w35_718 (j : Int))))))]) [3, 4, 0, 1, 2] (by decide) rfl
        have hK := hK.sub (tys' := [(cA_713, .int), (cA_716, .int), (cA_717, .int), (cA_718, .long)]) [3, 0, 1, 2] rfl
        refine W.widen (k := 0) (n := 0) (Nat.le_of_ble_eq_true rfl) (Nat.le_of_ble_eq_true rfl) ?_
        exact W.vret hx hb hr (fun t ht hW => ⟨⟨(), rfl, trivial, z_2003, e35_0_3, a_2001, a_2002, w35_718, ⟨(by omega), (by omega), ra_2001, ra_2002, jw35_718, ⟨ea_2001, ea_2002, by omega, by omega⟩⟩, by rw [ht]; exact hP, va_K.moved hW.alike hK, hD⟩, hS.F ht⟩) hS.2.2 dX8_addPhi_75
      · have yb41 : ¬ (a_13 (b + 1) - a_13 (b) : Int) ≤ (d35_3 : Int) := fun q => b41 ((zI_le (a := a_13 (b + 1) - a_13 (b)) (b := d35_3) (by omega) (by omega) (by omega) (by omega)).mpr q)
        refine lv_aload_n hx hb dX8_addPhi_44 rfl (lv_at hl 0 rfl) ?_
        refine va_get (D := (dC, dI)) (ci := 0) (v := .ref q_718) (C := RX0) (T := TX0) (N := 19) hx hb hts mem_X8_addPhi_0 hown hK hP 3 rfl rfl 18 (by decide) (ow (k := 8) rfl) (fun _ h9 => h9) rfl dX8_addPhi_45 ?_
        refine lv_aload_n hx hb dX8_addPhi_48 rfl (lv_at hl 0 rfl) ?_
        refine va_get (D := (dC, dI)) (ci := 0) (v := .int (zI (e35_0_3))) (C := RX0) (T := TX0) (N := 19) hx hb hts mem_X8_addPhi_0 hown hK hP 3 rfl rfl 3 (by decide) (ow (k := 3) rfl) (fun _ h9 => h9) rfl dX8_addPhi_49 ?_
        refine lv_ldc2 (v := 4294967296) hx hb hown (ow (k := 9) rfl) dX8_addPhi_52 ?_
        refine lv_topl (fun z ez => ?_)
        obtain rfl : z = lI (4294967296) := ez
        refine lv_iload_n hx hb dX8_addPhi_55 rfl (lv_at hl 2 rfl) ?_
        refine lv_i2l (v := lI (rg)) hx hb dX8_addPhi_56 (zI_l (a := rg) (by omega) (by omega)) ?_
        refine lv_ladd hx hb dX8_addPhi_57 ?_
        refine lv_topl (fun z ez => ?_)
        obtain rfl : z = lI (4294967296 + rg) := ez.trans (lI_add (4294967296) (rg))
        refine va_last (i := zI (e35_0_3)) hx hb hK hP hD hS 2 2 rfl rfl (zI_in (a := e35_0_3) (n := na1) (by omega) (by omega) (by omega)) dX8_addPhi_58 (fun H locs hP hD hS => ?_)
        have eQ : vp_updL (fun j : Nat => lI (w35_718 (j : Int))) (zI (e35_0_3)).toNatClampNeg (lI (4294967296 + rg)) = (fun j : Nat => lI (zup w35_718 (e35_0_3) (4294967296 + rg) (j : Int))) := lI_st w35_718 (e := e35_0_3) (v := 4294967296 + rg) (by omega) (by omega)
        rw [eQ] at hP hD
        clear eQ
        have ra_2005 : ∀ j : Int, ((-2147483648 ≤ zup w35_718 (e35_0_3) (4294967296 + rg) j ∧ zup w35_718 (e35_0_3) (4294967296 + rg) j ≤ 4294968319) ∨ zup w35_718 (e35_0_3) (4294967296 + rg) j = 1099511627776) := zup_P (P := fun x9 => ((-2147483648 ≤ x9 ∧ x9 ≤ 4294968319) ∨ x9 = 1099511627776)) jw35_718 (show ((-2147483648 ≤ (4294967296 + rg) ∧ (4294967296 + rg) ≤ 4294968319) ∨ (4294967296 + rg) = 1099511627776) by omega)
        generalize zup w35_718 (e35_0_3) (4294967296 + rg) = a_2005 at hP hD ra_2005
        have hP : va_P (dC, dI) vwP [(q_716, .inl (cA_716, 1000, .inl (fun j : Nat => zI (a_2001 (j : Int))))), (q_717, .inl (cA_717, 1000, .inl (fun j : Nat => zI (a_2002 (j : Int))))), (q_718, .inl (cA_718, na1, .inr (.inl (fun j : Nat => lI (a_2005 (j : Int)))))), (hc, .inr (0, [v_0, v_1, .int (zI (z_2003)), .int (zI (e35_0_3)), v_4, v_5, v_6, v_7, v_8, v_9, v_10, v_11, v_12, .ref q_713, v_14, v_15, .ref q_716, .ref q_717, .ref q_718])), (q_713, .inl (cA_713, 301, .inl (fun j : Nat => zI (a_13 (j : Int)))))] H := hP
        have hD : va_D A [(q_716, .inl (cA_716, 1000, .inl (fun j : Nat => zI (a_2001 (j : Int))))), (q_717, .inl (cA_717, 1000, .inl (fun j : Nat => zI (a_2002 (j : Int))))), (q_718, .inl (cA_718, na1, .inr (.inl (fun j : Nat => lI (a_2005 (j : Int)))))), (hc, .inr (0, [v_0, v_1, .int (zI (z_2003)), .int (zI (e35_0_3)), v_4, v_5, v_6, v_7, v_8, v_9, v_10, v_11, v_12, .ref q_713, v_14, v_15, .ref q_716, .ref q_717, .ref q_718])), (q_713, .inl (cA_713, 301, .inl (fun j : Nat => zI (a_13 (j : Int)))))] := hD
        refine lv_aload_n hx hb dX8_addPhi_59 rfl (lv_at hl 0 rfl) ?_
        refine lv_dup hx hb dX8_addPhi_60 rfl ?_
        refine va_get (D := (dC, dI)) (ci := 0) (v := .int (zI (e35_0_3))) (C := RX0) (T := TX0) (N := 19) hx hb hts mem_X8_addPhi_0 hown hK hP 3 rfl rfl 3 (by decide) (ow (k := 3) rfl) (fun _ h9 => h9) rfl dX8_addPhi_61 ?_
        refine lv_iconst (v := 1) hx hb dX8_addPhi_64 (by decide) ?_
        refine lv_iadd hx hb dX8_addPhi_65 ?_
        refine lv_topi (fun z ez => ?_)
        obtain rfl : z = zI (e35_0_3 + 1) := ez.trans (zI_add (e35_0_3) (1))
        refine va_put (D := (dC, dI)) (ci := 0) (v := .int (zI (e35_0_3 + 1))) (ty := .int) (C := RX0) (T := TX0) (N := 19) hx hb hts mem_X8_addPhi_0 tyX0 tyX0_ok nmX0 hown hK hP hD hS 3 rfl rfl 3 (by decide) (ow (k := 3) rfl) (fun _ h9 => h9) rfl (by decide +kernel) rfl rfl (Nat.le_of_ble_eq_true rfl) dX8_addPhi_66 (fun H locs hP hD hS => ?_)
        have hP : va_P (dC, dI) vwP [(q_716, .inl (cA_716, 1000, .inl (fun j : Nat => zI (a_2001 (j : Int))))), (q_717, .inl (cA_717, 1000, .inl (fun j : Nat => zI (a_2002 (j : Int))))), (q_718, .inl (cA_718, na1, .inr (.inl (fun j : Nat => lI (a_2005 (j : Int)))))), (hc, .inr (0, [v_0, v_1, .int (zI (z_2003)), .int (zI (e35_0_3 + 1)), v_4, v_5, v_6, v_7, v_8, v_9, v_10, v_11, v_12, .ref q_713, v_14, v_15, .ref q_716, .ref q_717, .ref q_718])), (q_713, .inl (cA_713, 301, .inl (fun j : Nat => zI (a_13 (j : Int)))))] H := hP
        have hD : va_D A [(q_716, .inl (cA_716, 1000, .inl (fun j : Nat => zI (a_2001 (j : Int))))), (q_717, .inl (cA_717, 1000, .inl (fun j : Nat => zI (a_2002 (j : Int))))), (q_718, .inl (cA_718, na1, .inr (.inl (fun j : Nat => lI (a_2005 (j : Int)))))), (hc, .inr (0, [v_0, v_1, .int (zI (z_2003)), .int (zI (e35_0_3 + 1)), v_4, v_5, v_6, v_7, v_8, v_9, v_10, v_11, v_12, .ref q_713, v_14, v_15, .ref q_716, .ref q_717, .ref q_718])), (q_713, .inl (cA_713, 301, .inl (fun j : Nat => zI (a_13 (j : Int)))))] := hD
        obtain ⟨z_2006, ez_2006⟩ : ∃ z9 : Int, z9 = e35_0_3 + 1 := ⟨_, rfl⟩
        rw [← ez_2006] at hP hD
        have hP : va_P (dC, dI) vwP [(q_716, .inl (cA_716, 1000, .inl (fun j : Nat => zI (a_2001 (j : Int))))), (q_717, .inl (cA_717, 1000, .inl (fun j : Nat => zI (a_2002 (j : Int))))), (q_718, .inl (cA_718, na1, .inr (.inl (fun j : Nat => lI (a_2005 (j : Int)))))), (hc, .inr (0, [v_0, v_1, .int (zI (z_2003)), .int (zI (z_2006)), v_4, v_5, v_6, v_7, v_8, v_9, v_10, v_11, v_12, .ref q_713, v_14, v_15, .ref q_716, .ref q_717, .ref q_718])), (q_713, .inl (cA_713, 301, .inl (fun j : Nat => zI (a_13 (j : Int)))))] H := hP
        have hD : va_D A [(q_716, .inl (cA_716, 1000, .inl (fun j : Nat => zI (a_2001 (j : Int))))), (q_717, .inl (cA_717, 1000, .inl (fun j : Nat => zI (a_2002 (j : Int))))), (q_718, .inl (cA_718, na1, .inr (.inl (fun j : Nat => lI (a_2005 (j : Int)))))), (hc, .inr (0, [v_0, v_1, .int (zI (z_2003)), .int (zI (z_2006)), v_4, v_5, v_6, v_7, v_8, v_9, v_10, v_11, v_12, .ref q_713, v_14, v_15, .ref q_716, .ref q_717, .ref q_718])), (q_713, .inl (cA_713, 301, .inl (fun j : Nat => zI (a_13 (j : Int)))))] := hD
        refine lv_iinc (v := zI (d35_3 + 1)) (lv' := [(3, .int (zI (d35_3 + 1))), (0, .ref hc), (1, .int (zI (b))), (2, .int (zI (rg)))]) hx hb dX8_addPhi_69 hl (k := 3) rfl (zI_add (d35_3) (1)) (by decide) rfl (fun ls hl => ?_)
        refine lv_goto (tgt := 35) hx hb dX8_addPhi_72 (by decide) ?_
        have hP := hP.sub (ws' := [(hc, .inr (0, [v_0, v_1, .int (zI (z_2003)), .int (zI (z_2006)), v_4, v_5, v_6, v_7, v_8, v_9, v_10, v_11, v_12, .ref q_713, v_14, v_15, .ref q_716, .ref q_717, .ref q_718])), (q_713, .inl (cA_713, 301, .inl (fun j : Nat => zI (a_13 (j : Int))))), (q_716, .inl (cA_716, 1000, .inl (fun j : Nat => zI (a_2001 (j : Int))))), (q_717, .inl (cA_717, 1000, .inl (fun j : Nat => zI (a_2002 (j : Int))))), (q_718, .inl (cA_718, na1, .inr (.inl (fun j : Nat => lI (a_2005 (j : Int))))))]) [3, 4, 0, 1, 2] rfl
        have hD := hD.sub (ws' := [(hc, .inr (0, [v_0, v_1, .int (zI (z_2003)), .int (zI (z_2006)), v_4, v_5, v_6, v_7, v_8, v_9, v_10, v_11, v_12, .ref q_713, v_14, v_15, .ref q_716, .ref q_717, .ref q_718])), (q_713, .inl (cA_713, 301, .inl (fun j : Nat => zI (a_13 (j : Int))))), (q_716, .inl (cA_716, 1000, .inl (fun j : Nat => zI (a_2001 (j : Int))))), (q_717, .inl (cA_717, 1000, .inl (fun j : Nat => zI (a_2002 (j : Int))))), (q_718, .inl (cA_718, na1, .inr (.inl (fun j : Nat => lI (a_2005 (j : Int))))))]) [3, 4, 0, 1, 2] (by decide) rfl
        exact ih35 (d35_3 + 1) z_2006 a_2005 ls H _ (by omega) (by omega) ra_2005 (by omega) (by omega) (lv_sub hl [1, 2, 3, 0] rfl) hP hD hS
  exact key35 (((a_13 (b + 1) - a_13 (b)) - (0) : Int).toNat + 1) 0 C1 a_18 ls H _ (by omega) (by omega) hR_a_18 (by omega) (by omega) (lv_sub hl [1, 2, 3, 0] rfl) hP hD hS
theorem dX8_addPhis_0 : decode cX8_addPhis 0 = .ok (.iconst 0, 1) := by decide +kernel
theorem dX8_addPhis_1 : decode cX8_addPhis 1 = .ok (.istore_n 3, 1) := by decide +kernel
theorem dX8_addPhis_2 : decode cX8_addPhis 2 = .ok (.iload_n 3, 1) := by decide +kernel
theorem dX8_addPhis_3 : decode cX8_addPhis 3 = .ok (.aload_n 1, 1) := by decide +kernel
theorem dX8_addPhis_4 : decode cX8_addPhis 4 = .ok (.getfield 54, 3) := by decide +kernel
theorem dX8_addPhis_7 : decode cX8_addPhis 7 = .ok (.if_icmp .ge 97, 3) := by decide +kernel
theorem dX8_addPhis_104 : decode cX8_addPhis 104 = .ok (.return_, 1) := by decide +kernel
theorem dX8_addPhis_10 : decode cX8_addPhis 10 = .ok (.iconst 0, 1) := by decide +kernel
theorem dX8_addPhis_11 : decode cX8_addPhis 11 = .ok (.istore 4, 2) := by decide +kernel
theorem dX8_addPhis_13 : decode cX8_addPhis 13 = .ok (.iload 4, 2) := by decide +kernel
theorem dX8_addPhis_15 : decode cX8_addPhis 15 = .ok (.iload_n 2, 1) := by decide +kernel
theorem dX8_addPhis_16 : decode cX8_addPhis 16 = .ok (.if_icmp .ge 70, 3) := by decide +kernel
theorem dX8_addPhis_86 : decode cX8_addPhis 86 = .ok (.aload_n 1, 1) := by decide +kernel
theorem dX8_addPhis_87 : decode cX8_addPhis 87 = .ok (.getfield 130, 3) := by decide +kernel
theorem dX8_addPhis_90 : decode cX8_addPhis 90 = .ok (.iload_n 3, 1) := by decide +kernel
theorem dX8_addPhis_91 : decode cX8_addPhis 91 = .ok (.iconst 1, 1) := by decide +kernel
theorem dX8_addPhis_92 : decode cX8_addPhis 92 = .ok (.iadd, 1) := by decide +kernel
theorem dX8_addPhis_93 : decode cX8_addPhis 93 = .ok (.aload_n 1, 1) := by decide +kernel
theorem dX8_addPhis_94 : decode cX8_addPhis 94 = .ok (.getfield 133, 3) := by decide +kernel
theorem dX8_addPhis_97 : decode cX8_addPhis 97 = .ok (.iastore, 1) := by decide +kernel
theorem dX8_addPhis_98 : decode cX8_addPhis 98 = .ok (.iinc 3 1, 3) := by decide +kernel
theorem dX8_addPhis_101 : decode cX8_addPhis 101 = .ok (.goto (-99), 3) := by decide +kernel
theorem dX8_addPhis_19 : decode cX8_addPhis 19 = .ok (.aload_n 0, 1) := by decide +kernel
theorem dX8_addPhis_20 : decode cX8_addPhis 20 = .ok (.getfield 9, 3) := by decide +kernel
theorem dX8_addPhis_23 : decode cX8_addPhis 23 = .ok (.iload_n 3, 1) := by decide +kernel
theorem dX8_addPhis_24 : decode cX8_addPhis 24 = .ok (.iload_n 2, 1) := by decide +kernel
theorem dX8_addPhis_25 : decode cX8_addPhis 25 = .ok (.imul, 1) := by decide +kernel
theorem dX8_addPhis_26 : decode cX8_addPhis 26 = .ok (.iload 4, 2) := by decide +kernel
theorem dX8_addPhis_28 : decode cX8_addPhis 28 = .ok (.iadd, 1) := by decide +kernel
theorem dX8_addPhis_29 : decode cX8_addPhis 29 = .ok (.laload, 1) := by decide +kernel
theorem dX8_addPhis_30 : decode cX8_addPhis 30 = .ok (.lstore 5, 2) := by decide +kernel
theorem dX8_addPhis_32 : decode cX8_addPhis 32 = .ok (.iconst 0, 1) := by decide +kernel
theorem dX8_addPhis_33 : decode cX8_addPhis 33 = .ok (.istore 7, 2) := by decide +kernel
theorem dX8_addPhis_35 : decode cX8_addPhis 35 = .ok (.lload 5, 2) := by decide +kernel
theorem dX8_addPhis_37 : decode cX8_addPhis 37 = .ok (.lconst 0, 1) := by decide +kernel
theorem dX8_addPhis_38 : decode cX8_addPhis 38 = .ok (.lcmp, 1) := by decide +kernel
theorem dX8_addPhis_39 : decode cX8_addPhis 39 = .ok (.ifCond .eq 41, 3) := by decide +kernel
theorem dX8_addPhis_80 : decode cX8_addPhis 80 = .ok (.iinc 4 1, 3) := by decide +kernel
theorem dX8_addPhis_83 : decode cX8_addPhis 83 = .ok (.goto (-70), 3) := by decide +kernel
theorem dX8_addPhis_42 : decode cX8_addPhis 42 = .ok (.iload 7, 2) := by decide +kernel
theorem dX8_addPhis_44 : decode cX8_addPhis 44 = .ok (.bipush 64, 2) := by decide +kernel
theorem dX8_addPhis_46 : decode cX8_addPhis 46 = .ok (.if_icmp .ge 34, 3) := by decide +kernel
theorem dX8_addPhis_49 : decode cX8_addPhis 49 = .ok (.aload_n 1, 1) := by decide +kernel
theorem dX8_addPhis_50 : decode cX8_addPhis 50 = .ok (.iload_n 3, 1) := by decide +kernel
theorem dX8_addPhis_51 : decode cX8_addPhis 51 = .ok (.bipush 64, 2) := by decide +kernel
theorem dX8_addPhis_53 : decode cX8_addPhis 53 = .ok (.iload 4, 2) := by decide +kernel
theorem dX8_addPhis_55 : decode cX8_addPhis 55 = .ok (.imul, 1) := by decide +kernel
theorem dX8_addPhis_56 : decode cX8_addPhis 56 = .ok (.lload 5, 2) := by decide +kernel
theorem dX8_addPhis_58 : decode cX8_addPhis 58 = .ok (.invokestatic 116, 3) := by decide +kernel
theorem dX8_addPhis_61 : decode cX8_addPhis 61 = .ok (.iadd, 1) := by decide +kernel
theorem dX8_addPhis_62 : decode cX8_addPhis 62 = .ok (.invokestatic 126, 3) := by decide +kernel
theorem dX8_addPhis_65 : decode cX8_addPhis 65 = .ok (.lload 5, 2) := by decide +kernel
theorem dX8_addPhis_67 : decode cX8_addPhis 67 = .ok (.lload 5, 2) := by decide +kernel
theorem dX8_addPhis_69 : decode cX8_addPhis 69 = .ok (.lconst 1, 1) := by decide +kernel
theorem dX8_addPhis_70 : decode cX8_addPhis 70 = .ok (.lsub, 1) := by decide +kernel
theorem dX8_addPhis_71 : decode cX8_addPhis 71 = .ok (.land, 1) := by decide +kernel
theorem dX8_addPhis_72 : decode cX8_addPhis 72 = .ok (.lstore 5, 2) := by decide +kernel
theorem dX8_addPhis_74 : decode cX8_addPhis 74 = .ok (.iinc 7 1, 3) := by decide +kernel
theorem dX8_addPhis_77 : decode cX8_addPhis 77 = .ok (.goto (-42), 3) := by decide +kernel
def o_X8_addPhis : List Cond := [.fieldLink RX8 54 "SsaForge$Code" "blocks" "I", .fieldLink RX8 130 "SsaForge$Code" "phiStart" "[I", .fieldLink RX8 133 "SsaForge$Code" "phis" "I", .fieldLink RX8 9 "SsaForge$SsaMaker" "wanted" "[J", .initialized RX11, .static yX11_lowestBit, .methodLink RX8 126 yX8_addPhi, .static yX8_addPhi, .initialized RX8]
def v_X8_addPhis : List Cond := .code yX8_addPhis cX8_addPhis 8 none :: (o_X8_addPhis ++ (wsX00 ++ (wsX80 ++ (v_X11_lowestBit ++ (v_X8_addPhi ++ [])))))
theorem mow_X8_addPhis : ∀ w ∈ o_X8_addPhis, w ∈ v_X8_addPhis := fun _ h => List.mem_cons_of_mem _ (List.mem_append_left _ h)
theorem mem_X8_addPhis_0 : ∀ w ∈ wsX00, w ∈ v_X8_addPhis := fun _ h => List.mem_cons_of_mem _ (List.mem_append_right _ (List.mem_append_left _ h))
theorem mem_X8_addPhis_1 : ∀ w ∈ wsX80, w ∈ v_X8_addPhis := fun _ h => List.mem_cons_of_mem _ (List.mem_append_right _ (List.mem_append_right _ (List.mem_append_left _ h)))
theorem mem_X8_addPhis_2 : ∀ w ∈ v_X11_lowestBit, w ∈ v_X8_addPhis := fun _ h => List.mem_cons_of_mem _ (List.mem_append_right _ (List.mem_append_right _ (List.mem_append_right _ (List.mem_append_left _ h))))
theorem mem_X8_addPhis_3 : ∀ w ∈ v_X8_addPhi, w ∈ v_X8_addPhis := fun _ h => List.mem_cons_of_mem _ (List.mem_append_right _ (List.mem_append_right _ (List.mem_append_right _ (List.mem_append_right _ (List.mem_append_left _ h)))))
set_option maxRecDepth 20000 in
theorem gw_X8_addPhis : v_X8_addPhis.all goodWord = true := by decide +kernel
set_option maxRecDepth 20000 in
theorem g_X8_addPhis_X8_addPhi : GoodIn v_X8_addPhis (wsS RX8 126 yX8_addPhi v_X8_addPhi) := goodIn_app (goodIn_sub (fun w h => mow_X8_addPhis w (by revert w h; decide +kernel)) (by decide +kernel)) (goodIn_sub mem_X8_addPhis_3 gw_X8_addPhi)
set_option maxHeartbeats 4000000 in
set_option maxRecDepth 100000 in
theorem c_X8_addPhis (l : Launch) (dC : Nat → ClassId) (dI : Nat → Nat → Nat) (h0 : Nat) (q_800 : Nat) (cA_800 : ClassId) (fa8_wanted : Nat → Int64) (v8_1 : Value) (v8_2 : Value) (v8_3 : Value) (v8_4 : Value) (v8_5 : Value) (v8_6 : Value) (v8_7 : Value) (hc : Nat) (B1 : Int) (v_1 : Value) (P1 : Int) (C1 : Int) (v_4 : Value) (v_5 : Value) (v_6 : Value) (v_7 : Value) (v_8 : Value) (v_9 : Value) (v_10 : Value) (v_11 : Value) (v_12 : Value) (q_713 : Nat) (cA_713 : ClassId) (a_13 : Int → Int) (q_714 : Nat) (cA_714 : ClassId) (a_14 : Int → Int) (q_715 : Nat) (cA_715 : ClassId) (a_15 : Int → Int) (q_716 : Nat) (cA_716 : ClassId) (a_16 : Int → Int) (q_717 : Nat) (cA_717 : ClassId) (a_17 : Int → Int) (q_718 : Nat) (cA_718 : ClassId) (na1 : Nat) (a_18 : Int → Int) (nw : Int) (a_9 : Int → Int) (a_11 : Int → Int) (a_12 : Int → Int) (hNB1 : 0 ≤ B1 ∧ B1 ≤ 300) (hNP1 : 0 ≤ P1 ∧ P1 ≤ 1000) (hNC1 : 0 ≤ C1 ∧ C1 ≤ 60000) (hR_a_13 : ∀ j : Int, 0 ≤ a_13 j ∧ a_13 j ≤ 600) (hR_a_14 : ∀ j : Int, 0 ≤ a_14 j ∧ a_14 j ≤ 299) (hR_a_15 : ∀ j : Int, 0 ≤ a_15 j ∧ a_15 j ≤ 1000) (hR_a_16 : ∀ j : Int, -1 ≤ a_16 j ∧ a_16 j ≤ 1023) (hR_a_17 : ∀ j : Int, 0 ≤ a_17 j ∧ a_17 j ≤ 60000) (hNna1 : na1 ≤ 60000) (hR_a_18 : ∀ j : Int, ((-2147483648 ≤ a_18 j ∧ a_18 j ≤ 4294968319) ∨ a_18 j = 1099511627776)) (hNw : 0 ≤ nw ∧ nw ≤ 16) (hNp : P1 = 0 ∧ C1 = 0 ∧ a_15 0 = 0) (hX_L : PL a_9 a_11 a_12 B1 a_13 a_14) (hNt : sg (hwF fa8_wanted nw) B1.toNat ≤ 1000 ∧ sg (fun x => hwF fa8_wanted nw x * (a_13 (x + 1) - a_13 x)) B1.toNat ≤ na1) (sz : Nat) : Met l yX8_addPhis v_X8_addPhis ({ frames := 2, cells := 0, slots := 0, locals := 44 }) (va_Pc [.ref h0, .ref hc, .int (zI (nw))] (fun U => U.heap.size = sz ∧ va_P (dC, dI) vwP [(h0, .inr (8, [.ref q_800, v8_1, v8_2, v8_3, v8_4, v8_5, v8_6, v8_7])), (q_800, .inl (cA_800, 4800, .inr (.inl fa8_wanted))), (hc, .inr (0, [.int (zI (B1)), v_1, .int (zI (P1)), .int (zI (C1)), v_4, v_5, v_6, v_7, v_8, v_9, v_10, v_11, v_12, .ref q_713, .ref q_714, .ref q_715, .ref q_716, .ref q_717, .ref q_718])), (q_713, .inl (cA_713, 301, .inl (fun j : Nat => zI (a_13 (j : Int))))), (q_714, .inl (cA_714, 600, .inl (fun j : Nat => zI (a_14 (j : Int))))), (q_715, .inl (cA_715, 301, .inl (fun j : Nat => zI (a_15 (j : Int))))), (q_716, .inl (cA_716, 1000, .inl (fun j : Nat => zI (a_16 (j : Int))))), (q_717, .inl (cA_717, 1000, .inl (fun j : Nat => zI (a_17 (j : Int))))), (q_718, .inl (cA_718, na1, .inr (.inl (fun j : Nat => lI (a_18 (j : Int))))))] U.heap ∧ va_K (dC, dI) vwP [(cA_800, .long), (cA_713, .int), (cA_714, .int), (cA_715, .int), (cA_716, .int), (cA_717, .int), (cA_718, .long)] U ∧ va_D (fun _ => True) [(h0, .inr (8, [.ref q_800, v8_1, v8_2, v8_3, v8_4, v8_5, v8_6, v8_7])), (q_800, .inl (cA_800, 4800, .inr (.inl fa8_wanted))), (hc, .inr (0, [.int (zI (B1)), v_1, .int (zI (P1)), .int (zI (C1)), v_4, v_5, v_6, v_7, v_8, v_9, v_10, v_11, v_12, .ref q_713, .ref q_714, .ref q_715, .ref q_716, .ref q_717, .ref q_718])), (q_713, .inl (cA_713, 301, .inl (fun j : Nat => zI (a_13 (j : Int))))), (q_714, .inl (cA_714, 600, .inl (fun j : Nat => zI (a_14 (j : Int))))), (q_715, .inl (cA_715, 301, .inl (fun j : Nat => zI (a_15 (j : Int))))), (q_716, .inl (cA_716, 1000, .inl (fun j : Nat => zI (a_16 (j : Int))))), (q_717, .inl (cA_717, 1000, .inl (fun j : Nat => zI (a_17 (j : Int))))), (q_718, .inl (cA_718, na1, .inr (.inl (fun j : Nat => lI (a_18 (j : Int))))))] ∧ va_Nw (.methodLinkNest RX8 116 yX11_lowestBit "SsaForge") U)) (va_Qv (fun _ : Unit => True) (fun (_ : Unit) (t : State) => ∃ (z0_9 : Int) (z1_9 : Int) (a2_9 : Int → Int) (a3_9 : Int → Int) (a4_9 : Int → Int) (a5_9 : Int → Int), ((0 ≤ z0_9 ∧ z0_9 ≤ 1000) ∧ (0 ≤ z1_9 ∧ z1_9 ≤ 60000) ∧ (∀ j : Int, 0 ≤ a2_9 j ∧ a2_9 j ≤ 1000) ∧ (∀ j : Int, -1 ≤ a3_9 j ∧ a3_9 j ≤ 1023) ∧ (∀ j : Int, 0 ≤ a4_9 j ∧ a4_9 j ≤ 60000) ∧ (∀ j : Int, ((-2147483648 ≤ a5_9 j ∧ a5_9 j ≤ 4294968319) ∨ a5_9 j = 1099511627776)) ∧ ((MS B1 z0_9 a2_9 ∧ (∀ i : Int, 0 ≤ i → i < z0_9 → 0 ≤ a3_9 i) ∧ AMF B1 a2_9 a_13 a4_9 ∧ (∀ x i : Int, 0 ≤ x → x < B1 → a2_9 x ≤ i → i < a2_9 (x + 1) → a4_9 i + (a_13 (x + 1) - a_13 x) ≤ z1_9)) ∧ z1_9 ≤ na1 ∧ z0_9 = sg (hwF fa8_wanted nw) B1.toNat)) ∧ va_P (dC, dI) vwP [(h0, .inr (8, [.ref q_800, v8_1, v8_2, v8_3, v8_4, v8_5, v8_6, v8_7])), (q_800, .inl (cA_800, 4800, .inr (.inl fa8_wanted))), (hc, .inr (0, [.int (zI (B1)), v_1, .int (zI (z0_9)), .int (zI (z1_9)), v_4, v_5, v_6, v_7, v_8, v_9, v_10, v_11, v_12, .ref q_713, .ref q_714, .ref q_715, .ref q_716, .ref q_717, .ref q_718])), (q_713, .inl (cA_713, 301, .inl (fun j : Nat => zI (a_13 (j : Int))))), (q_714, .inl (cA_714, 600, .inl (fun j : Nat => zI (a_14 (j : Int))))), (q_715, .inl (cA_715, 301, .inl (fun j : Nat => zI (a2_9 (j : Int))))), (q_716, .inl (cA_716, 1000, .inl (fun j : Nat => zI (a3_9 (j : Int))))), (q_717, .inl (cA_717, 1000, .inl (fun j : Nat => zI (a4_9 (j : Int))))), (q_718, .inl (cA_718, na1, .inr (.inl (fun j : Nat => lI (a5_9 (j : Int))))))] t.heap ∧ va_K (dC, dI) vwP [(cA_800, .long), (cA_713, .int), (cA_714, .int), (cA_715, .int), (cA_716, .int), (cA_717, .int), (cA_718, .long)] t ∧ va_D (va_A [(h0, .inr (8, [.ref q_800, v8_1, v8_2, v8_3, v8_4, v8_5, v8_6, v8_7])), (q_800, .inl (cA_800, 4800, .inr (.inl fa8_wanted))), (hc, .inr (0, [.int (zI (B1)), v_1, .int (zI (P1)), .int (zI (C1)), v_4, v_5, v_6, v_7, v_8, v_9, v_10, v_11, v_12, .ref q_713, .ref q_714, .ref q_715, .ref q_716, .ref q_717, .ref q_718])), (q_713, .inl (cA_713, 301, .inl (fun j : Nat => zI (a_13 (j : Int))))), (q_714, .inl (cA_714, 600, .inl (fun j : Nat => zI (a_14 (j : Int))))), (q_715, .inl (cA_715, 301, .inl (fun j : Nat => zI (a_15 (j : Int))))), (q_716, .inl (cA_716, 1000, .inl (fun j : Nat => zI (a_16 (j : Int))))), (q_717, .inl (cA_717, 1000, .inl (fun j : Nat => zI (a_17 (j : Int))))), (q_718, .inl (cA_718, na1, .inr (.inl (fun j : Nat => lI (a_18 (j : Int))))))] sz) [(h0, .inr (8, [.ref q_800, v8_1, v8_2, v8_3, v8_4, v8_5, v8_6, v8_7])), (q_800, .inl (cA_800, 4800, .inr (.inl fa8_wanted))), (hc, .inr (0, [.int (zI (B1)), v_1, .int (zI (z0_9)), .int (zI (z1_9)), v_4, v_5, v_6, v_7, v_8, v_9, v_10, v_11, v_12, .ref q_713, .ref q_714, .ref q_715, .ref q_716, .ref q_717, .ref q_718])), (q_713, .inl (cA_713, 301, .inl (fun j : Nat => zI (a_13 (j : Int))))), (q_714, .inl (cA_714, 600, .inl (fun j : Nat => zI (a_14 (j : Int))))), (q_715, .inl (cA_715, 301, .inl (fun j : Nat => zI (a2_9 (j : Int))))), (q_716, .inl (cA_716, 1000, .inl (fun j : Nat => zI (a3_9 (j : Int))))), (q_717, .inl (cA_717, 1000, .inl (fun j : Nat => zI (a4_9 (j : Int))))), (q_718, .inl (cA_718, na1, .inr (.inl (fun j : Nat => lI (a5_9 (j : Int))))))]) (va_A [(h0, .inr (8, [.ref q_800, v8_1, v8_2, v8_3, v8_4, v8_5, v8_6, v8_7])), (q_800, .inl (cA_800, 4800, .inr (.inl fa8_wanted))), (hc, .inr (0, [.int (zI (B1)), v_1, .int (zI (P1)), .int (zI (C1)), v_4, v_5, v_6, v_7, v_8, v_9, v_10, v_11, v_12, .ref q_713, .ref q_714, .ref q_715, .ref q_716, .ref q_717, .ref q_718])), (q_713, .inl (cA_713, 301, .inl (fun j : Nat => zI (a_13 (j : Int))))), (q_714, .inl (cA_714, 600, .inl (fun j : Nat => zI (a_14 (j : Int))))), (q_715, .inl (cA_715, 301, .inl (fun j : Nat => zI (a_15 (j : Int))))), (q_716, .inl (cA_716, 1000, .inl (fun j : Nat => zI (a_16 (j : Int))))), (q_717, .inl (cA_717, 1000, .inl (fun j : Nat => zI (a_17 (j : Int))))), (q_718, .inl (cA_718, na1, .inr (.inl (fun j : Nat => lI (a_18 (j : Int))))))] sz)) 0 0 (va_A [(h0, .inr (8, [.ref q_800, v8_1, v8_2, v8_3, v8_4, v8_5, v8_6, v8_7])), (q_800, .inl (cA_800, 4800, .inr (.inl fa8_wanted))), (hc, .inr (0, [.int (zI (B1)), v_1, .int (zI (P1)), .int (zI (C1)), v_4, v_5, v_6, v_7, v_8, v_9, v_10, v_11, v_12, .ref q_713, .ref q_714, .ref q_715, .ref q_716, .ref q_717, .ref q_718])), (q_713, .inl (cA_713, 301, .inl (fun j : Nat => zI (a_13 (j : Int))))), (q_714, .inl (cA_714, 600, .inl (fun j : Nat => zI (a_14 (j : Int))))), (q_715, .inl (cA_715, 301, .inl (fun j : Nat => zI (a_15 (j : Int))))), (q_716, .inl (cA_716, 1000, .inl (fun j : Nat => zI (a_16 (j : Int))))), (q_717, .inl (cA_717, 1000, .inl (fun j : Nat => zI (a_17 (j : Int))))), (q_718, .inl (cA_718, na1, .inr (.inl (fun j : Nat => lI (a_18 (j : Int))))))] sz) := by
  refine Met.ofW (cc := cX8_addPhis) (maxL := 8) (ret := none) (by decide) rfl ?_
  intro p e s m args below meth c s₁ B hml hv
  obtain ⟨rfl, hsz, hP, hK, hD0, hp0⟩ := hv
  have hx := B.exec
  have hb := B.bytes
  have hr := B.returns
  have hts := atoms_spec (ws := v_X8_addPhis) B.pre
  have hown : s.vm.findClass RX8 = some m.cls := findClass_of_methodNamed B.named
  have hlocks := B.notSynchronized
  have ow : ∀ {k : Nat} {w : Cond}, o_X8_addPhis[k]? = some w → w.before ([.ref h0, .ref hc, .int (zI (nw))] : List Value).toArray s = true := fun h => hts _ (mow_X8_addPhis _ (List.mem_of_getElem? h))
  subst hsz
  have hD := hD0.self (sz := s.heap.size)
  generalize hAe : va_A [(h0, .inr (8, [.ref q_800, v8_1, v8_2, v8_3, v8_4, v8_5, v8_6, v8_7])), (q_800, .inl (cA_800, 4800, .inr (.inl fa8_wanted))), (hc, .inr (0, [.int (zI (B1)), v_1, .int (zI (P1)), .int (zI (C1)), v_4, v_5, v_6, v_7, v_8, v_9, v_10, v_11, v_12, .ref q_713, .ref q_714, .ref q_715, .ref q_716, .ref q_717, .ref q_718])), (q_713, .inl (cA_713, 301, .inl (fun j : Nat => zI (a_13 (j : Int))))), (q_714, .inl (cA_714, 600, .inl (fun j : Nat => zI (a_14 (j : Int))))), (q_715, .inl (cA_715, 301, .inl (fun j : Nat => zI (a_15 (j : Int))))), (q_716, .inl (cA_716, 1000, .inl (fun j : Nat => zI (a_16 (j : Int))))), (q_717, .inl (cA_717, 1000, .inl (fun j : Nat => zI (a_17 (j : Int))))), (q_718, .inl (cA_718, na1, .inr (.inl (fun j : Nat => lI (a_18 (j : Int))))))] s.heap.size = A at hD ⊢
  have hA : ∀ q : Nat, s.heap.size ≤ q → A q := fun q h => by rw [← hAe]; exact Or.inr h
  have hS : va_S A s.heap s.heap [] := va_S.rf
  have hP : va_P (dC, dI) vwP [(h0, .inr (8, [.ref q_800, v8_1, v8_2, v8_3, v8_4, v8_5, v8_6, v8_7])), (q_800, .inl (cA_800, 4800, .inr (.inl fa8_wanted))), (hc, .inr (0, [.int (zI (B1)), v_1, .int (zI (P1)), .int (zI (C1)), v_4, v_5, v_6, v_7, v_8, v_9, v_10, v_11, v_12, .ref q_713, .ref q_714, .ref q_715, .ref q_716, .ref q_717, .ref q_718])), (q_713, .inl (cA_713, 301, .inl (fun j : Nat => zI (a_13 (j : Int))))), (q_714, .inl (cA_714, 600, .inl (fun j : Nat => zI (a_14 (j : Int))))), (q_715, .inl (cA_715, 301, .inl (fun j : Nat => zI (a_15 (j : Int))))), (q_716, .inl (cA_716, 1000, .inl (fun j : Nat => zI (a_16 (j : Int))))), (q_717, .inl (cA_717, 1000, .inl (fun j : Nat => zI (a_17 (j : Int))))), (q_718, .inl (cA_718, na1, .inr (.inl (fun j : Nat => lI (a_18 (j : Int))))))] s.heap := hP
  have hl := lv_entry ([.ref h0, .ref hc, .int (zI (nw))]) (n := 8) (Nat.le_of_ble_eq_true rfl)
  rw [lg_entry_eq]
  generalize (lg_sl ([.ref h0, .ref hc, .int (zI (nw))]) ++ List.replicate (8 - (lg_sl ([.ref h0, .ref hc, .int (zI (nw))])).length) Slot.unset).toArray = ls at hl ⊢
  have hl : lv_has ls 8 [(0, .ref h0), (1, .ref hc), (2, .int (zI (nw)))] := hl
  obtain ⟨H, hH⟩ : ∃ H, H = s.heap := ⟨_, rfl⟩
  rw [← hH] at hP
  have hS : va_S A s.heap H [] := by rw [hH]; exact hS
  rw [← hH]
  refine zW_cap (fun Q hQ => ?_)
  refine lv_iconst (v := 0) hx hb dX8_addPhis_0 (by decide) ?_
  refine lv_istore_n (lv' := [(3, .int 0), (0, .ref h0), (1, .ref hc), (2, .int (zI (nw)))]) hx hb dX8_addPhis_1 rfl hl (by decide) rfl (fun ls hl => ?_)
  have key2 : ∀ n2 : Nat, ∀ (d2_3 : Int) (e2_2_2 : Int) (e2_2_3 : Int) (w2_715 : Int → Int) (w2_716 : Int → Int) (w2_717 : Int → Int) (w2_718 : Int → Int) (ls : Array Slot) (H : Heap) (locs : List Loc), (0 ≤ d2_3 ∧ d2_3 ≤ B1) → (0 ≤ e2_2_2 ∧ e2_2_2 ≤ 1000) → (0 ≤ e2_2_3 ∧ e2_2_3 ≤ 60000) → (∀ j : Int, 0 ≤ w2_715 j ∧ w2_715 j ≤ 1000) → (∀ j : Int, -1 ≤ w2_716 j ∧ w2_716 j ≤ 1023) → (∀ j : Int, 0 ≤ w2_717 j ∧ w2_717 j ≤ 60000) → (∀ j : Int, ((-2147483648 ≤ w2_718 j ∧ w2_718 j ≤ 4294968319) ∨ w2_718 j = 1099511627776)) → (AP B1 (hwF fa8_wanted nw) a_13 w2_715 w2_716 w2_717 e2_2_2 e2_2_3 d2_3 (0)) → (((B1) - (d2_3) : Int).toNat) < n2 → lv_has ls 8 [(0, .ref h0), (1, .ref hc), (2, .int (zI (nw))), (3, .int (zI (d2_3)))] → va_P (dC, dI) vwP [(h0, .inr (8, [.ref q_800, v8_1, v8_2, v8_3, v8_4, v8_5, v8_6, v8_7])), (q_800, .inl (cA_800, 4800, .inr (.inl fa8_wanted))), (hc, .inr (0, [.int (zI (B1)), v_1, .int (zI (e2_2_2)), .int (zI (e2_2_3)), v_4, v_5, v_6, v_7, v_8, v_9, v_10, v_11, v_12, .ref q_713, .ref q_714, .ref q_715, .ref q_716, .ref q_717, .ref q_718])), (q_713, .inl (cA_713, 301, .inl (fun j : Nat => zI (a_13 (j : Int))))), (q_714, .inl (cA_714, 600, .inl (fun j : Nat => zI (a_14 (j : Int))))), (q_715, .inl (cA_715, 301, .inl (fun j : Nat => zI (w2_715 (j : Int))))), (q_716, .inl (cA_716, 1000, .inl (fun j : Nat => zI (w2_716 (j : Int))))), (q_717, .inl (cA_717, 1000, .inl (fun j : Nat => zI (w2_717 (j : Int))))), (q_718, .inl (cA_718, na1, .inr (.inl (fun j : Nat => lI (w2_718 (j : Int))))))] H → va_D A [(h0, .inr (8, [.ref q_800, v8_1, v8_2, v8_3, v8_4, v8_5, v8_6, v8_7])), (q_800, .inl (cA_800, 4800, .inr (.inl fa8_wanted))), (hc, .inr (0, [.int (zI (B1)), v_1, .int (zI (e2_2_2)), .int (zI (e2_2_3)), v_4, v_5, v_6, v_7, v_8, v_9, v_10, v_11, v_12, .ref q_713, .ref q_714, .ref q_715, .ref q_716, .ref q_717, .ref q_718])), (q_713, .inl (cA_713, 301, .inl (fun j : Nat => zI (a_13 (j : Int))))), (q_714, .inl (cA_714, 600, .inl (fun j : Nat => zI (a_14 (j : Int))))), (q_715, .inl (cA_715, 301, .inl (fun j : Nat => zI (w2_715 (j : Int))))), (q_716, .inl (cA_716, 1000, .inl (fun j : Nat => zI (w2_716 (j : Int))))), (q_717, .inl (cA_717, 1000, .inl (fun j : Nat => zI (w2_717 (j : Int))))), (q_718, .inl (cA_718, na1, .inr (.inl (fun j : Nat => lI (w2_718 (j : Int))))))] → va_S A s.heap H locs → W p l e (headSpec v_X8_addPhis ({ frames := 2, cells := 0, slots := 0, locals := 44 })).room s m ([.ref h0, .ref hc, .int (zI (nw))] : List Value).toArray below meth c H locs 0 0 Q (F0 m 2 ls []) := by
    intro n2
    induction n2 with
    | zero => intro d2_3 e2_2_2 e2_2_3 w2_715 w2_716 w2_717 w2_718 ls H locs jd2_3 je2_2_2 je2_2_3 jw2_715 jw2_716 jw2_717 jw2_718 jA hm2; exact absurd hm2 (by omega)
    | succ n2 ih2 =>
      intro d2_3 e2_2_2 e2_2_3 w2_715 w2_716 w2_717 w2_718 ls H locs jd2_3 je2_2_2 je2_2_3 jw2_715 jw2_716 jw2_717 jw2_718 jA hm2 hl hP hD hS
      refine lv_iload_n hx hb dX8_addPhis_2 rfl (lv_at hl 3 rfl) ?_
      refine lv_aload_n hx hb dX8_addPhis_3 rfl (lv_at hl 1 rfl) ?_
      refine va_get (D := (dC, dI)) (ci := 0) (v := .int (zI (B1))) (C := RX0) (T := TX0) (N := 19) hx hb hts mem_X8_addPhis_0 hown hK hP 2 rfl rfl 0 (by decide) (ow (k := 0) rfl) (fun _ h9 => h9) rfl dX8_addPhis_4 ?_
      refine lv_icmp_ge (tgt := 104) hx hb dX8_addPhis_7 (by decide) (fun b7 => ?_) (fun b7 => ?_)
      · have yb7 : (B1 : Int) ≤ (d2_3 : Int) := (zI_le (a := B1) (b := d2_3) (by omega) (by omega) (by omega) (by omega)).mp b7
        subst hQ
        refine W.widen (k := 0) (n := 0) (Nat.le_of_ble_eq_true rfl) (Nat.le_of_ble_eq_true rfl) ?_
        exact W.vret hx hb hr (fun t ht hW => ⟨⟨(), rfl, trivial, e2_2_2, e2_2_3, w2_715, w2_716, w2_717, w2_718, ⟨(by omega), (by omega), jw2_715, jw2_716, jw2_717, jw2_718, (by have q9 : d2_3 = B1 := (by omega); have q8 := AP.done (hwF_nn fa8_wanted nw) jA q9 rfl; have q7 := jA.p; have q6 := jA.c; rw [q9] at q7 q6; exact ⟨q8, by omega, by omega⟩)⟩, by rw [ht]; exact hP, va_K.moved hW.alike hK, hD⟩, hS.F ht⟩) hS.2.2 dX8_addPhis_104
      · have yb7 : ¬ (B1 : Int) ≤ (d2_3 : Int) := fun q => b7 ((zI_le (a := B1) (b := d2_3) (by omega) (by omega) (by omega) (by omega)).mpr q)
        refine lv_iconst (v := 0) hx hb dX8_addPhis_10 (by decide) ?_
        refine lv_istore (lv' := [(4, .int 0), (0, .ref h0), (1, .ref hc), (2, .int (zI (nw))), (3, .int (zI (d2_3)))]) hx hb dX8_addPhis_11 hl (by decide) rfl (fun ls hl => ?_)
        have key13 : ∀ n13 : Nat, ∀ (d13_4 : Int) (e13_2_2 : Int) (e13_2_3 : Int) (w13_716 : Int → Int) (w13_717 : Int → Int) (w13_718 : Int → Int) (ls : Array Slot) (H : Heap) (locs : List Loc), (0 ≤ d13_4 ∧ d13_4 ≤ nw) → (0 ≤ e13_2_2 ∧ e13_2_2 ≤ 1000) → (0 ≤ e13_2_3 ∧ e13_2_3 ≤ 60000) → (∀ j : Int, -1 ≤ w13_716 j ∧ w13_716 j ≤ 1023) → (∀ j : Int, 0 ≤ w13_717 j ∧ w13_717 j ≤ 60000) → (∀ j : Int, ((-2147483648 ≤ w13_718 j ∧ w13_718 j ≤ 4294968319) ∨ w13_718 j = 1099511627776)) → (AP B1 (hwF fa8_wanted nw) a_13 w2_715 w13_716 w13_717 e13_2_2 e13_2_3 d2_3 (pcS fa8_wanted (d2_3 * nw) (d13_4).toNat)) → (((nw) - (d13_4) : Int).toNat) < n13 → lv_has ls 8 [(0, .ref h0), (1, .ref hc), (2, .int (zI (nw))), (3, .int (zI (d2_3))), (4, .int (zI (d13_4)))] → va_P (dC, dI) vwP [(h0, .inr (8, [.ref q_800, v8_1, v8_2, v8_3, v8_4, v8_5, v8_6, v8_7])), (q_800, .inl (cA_800, 4800, .inr (.inl fa8_wanted))), (hc, .inr (0, [.int (zI (B1)), v_1, .int (zI (e13_2_2)), .int (zI (e13_2_3)), v_4, v_5, v_6, v_7, v_8, v_9, v_10, v_11, v_12, .ref q_713, .ref q_714, .ref q_715, .ref q_716, .ref q_717, .ref q_718])), (q_713, .inl (cA_713, 301, .inl (fun j : Nat => zI (a_13 (j : Int))))), (q_714, .inl (cA_714, 600, .inl (fun j : Nat => zI (a_14 (j : Int))))), (q_715, .inl (cA_715, 301, .inl (fun j : Nat => zI (w2_715 (j : Int))))), (q_716, .inl (cA_716, 1000, .inl (fun j : Nat => zI (w13_716 (j : Int))))), (q_717, .inl (cA_717, 1000, .inl (fun j : Nat => zI (w13_717 (j : Int))))), (q_718, .inl (cA_718, na1, .inr (.inl (fun j : Nat => lI (w13_718 (j : Int))))))] H → va_D A [(h0, .inr (8, [.ref q_800, v8_1, v8_2, v8_3, v8_4, v8_5, v8_6, v8_7])), (q_800, .inl (cA_800, 4800, .inr (.inl fa8_wanted))), (hc, .inr (0, [.int (zI (B1)), v_1, .int (zI (e13_2_2)), .int (zI (e13_2_3)), v_4, v_5, v_6, v_7, v_8, v_9, v_10, v_11, v_12, .ref q_713, .ref q_714, .ref q_715, .ref q_716, .ref q_717, .ref q_718])), (q_713, .inl (cA_713, 301, .inl (fun j : Nat => zI (a_13 (j : Int))))), (q_714, .inl (cA_714, 600, .inl (fun j : Nat => zI (a_14 (j : Int))))), (q_715, .inl (cA_715, 301, .inl (fun j : Nat => zI (w2_715 (j : Int))))), (q_716, .inl (cA_716, 1000, .inl (fun j : Nat => zI (w13_716 (j : Int))))), (q_717, .inl (cA_717, 1000, .inl (fun j : Nat => zI (w13_717 (j : Int))))), (q_718, .inl (cA_718, na1, .inr (.inl (fun j : Nat => lI (w13_718 (j : Int))))))] → va_S A s.heap H locs → W p l e (headSpec v_X8_addPhis ({ frames := 2, cells := 0, slots := 0, locals := 44 })).room s m ([.ref h0, .ref hc, .int (zI (nw))] : List Value).toArray below meth c H locs 0 0 Q (F0 m 13 ls []) := by
          intro n13
          induction n13 with
          | zero => intro d13_4 e13_2_2 e13_2_3 w13_716 w13_717 w13_718 ls H locs jd13_4 je13_2_2 je13_2_3 jw13_716 jw13_717 jw13_718 jA hm13; exact absurd hm13 (by omega)
          | succ n13 ih13 =>
            intro d13_4 e13_2_2 e13_2_3 w13_716 w13_717 w13_718 ls H locs jd13_4 je13_2_2 je13_2_3 jw13_716 jw13_717 jw13_718 jA hm13 hl hP hD hS
            refine lv_iload hx hb dX8_addPhis_13 (lv_at hl 4 rfl) ?_
            refine lv_iload_n hx hb dX8_addPhis_15 rfl (lv_at hl 2 rfl) ?_
            refine lv_icmp_ge (tgt := 86) hx hb dX8_addPhis_16 (by decide) (fun b16 => ?_) (fun b16 => ?_)
            · have yb16 : (nw : Int) ≤ (d13_4 : Int) := (zI_le (a := nw) (b := d13_4) (by omega) (by omega) (by omega) (by omega)).mp b16
              have hfr := jA.p
              have hmn := sg_mono (hwF_nn fa8_wanted nw) (show (d2_3 + 1).toNat ≤ B1.toNat by omega)
              have hsu := sg_suc (hwF fa8_wanted nw) (i := d2_3) (by omega)
              have hcl : pcS fa8_wanted (d2_3 * nw) (d13_4).toNat = hwF fa8_wanted nw d2_3 := (by rw [show d13_4 = nw by omega]; rfl)
              have hnn := sg_nonneg (d2_3).toNat (hwF_nn fa8_wanted nw)
              have hnb := hwF_nn fa8_wanted nw d2_3
              refine lv_aload_n hx hb dX8_addPhis_86 rfl (lv_at hl 1 rfl) ?_
              refine va_get (D := (dC, dI)) (ci := 0) (v := .ref q_715) (C := RX0) (T := TX0) (N := 19) hx hb hts mem_X8_addPhis_0 hown hK hP 2 rfl rfl 15 (by decide) (ow (k := 1) rfl) (fun _ h9 => h9) rfl dX8_addPhis_87 ?_
              refine lv_iload_n hx hb dX8_addPhis_90 rfl (lv_at hl 3 rfl) ?_
              refine lv_iconst (v := 1) hx hb dX8_addPhis_91 (by decide) ?_
              refine lv_iadd hx hb dX8_addPhis_92 ?_
              refine lv_topi (fun z ez => ?_)
              obtain rfl : z = zI (d2_3 + 1) := ez.trans (zI_add (d2_3) (1))
              refine lv_aload_n hx hb dX8_addPhis_93 rfl (lv_at hl 1 rfl) ?_
              refine va_get (D := (dC, dI)) (ci := 0) (v := .int (zI (e13_2_2))) (C := RX0) (T := TX0) (N := 19) hx hb hts mem_X8_addPhis_0 hown hK hP 2 rfl rfl 2 (by decide) (ow (k := 2) rfl) (fun _ h9 => h9) rfl dX8_addPhis_94 ?_
              refine va_iast (i := zI (d2_3 + 1)) hx hb hK hP hD hS 5 3 rfl rfl (zI_in (a := d2_3 + 1) (n := 301) (by omega) (by omega) (by decide)) dX8_addPhis_97 (fun H locs hP hD hS => ?_)
              have eQ : upd (fun j : Nat => zI (w2_715 (j : Int))) (zI (d2_3 + 1)).toNatClampNeg (zI (e13_2_2)) = (fun j : Nat => zI (zup w2_715 (d2_3 + 1) (e13_2_2) (j : Int))) := zI_st w2_715 (e := d2_3 + 1) (v := e13_2_2) (by omega) (by omega)
              rw [eQ] at hP hD
              clear eQ
              have ra_2001 : ∀ j : Int, 0 ≤ zup w2_715 (d2_3 + 1) (e13_2_2) j ∧ zup w2_715 (d2_3 + 1) (e13_2_2) j ≤ 1000 := zup_P (P := fun x9 => 0 ≤ x9 ∧ x9 ≤ 1000) jw2_715 (show 0 ≤ (e13_2_2) ∧ (e13_2_2) ≤ 1000 by omega)
              obtain ⟨a_2001, ea_2001⟩ : ∃ a9 : Int → Int, a9 = zup w2_715 (d2_3 + 1) (e13_2_2) := ⟨_, rfl⟩
              rw [← ea_2001] at hP hD ra_2001
              have hP : va_P (dC, dI) vwP [(h0, .inr (8, [.ref q_800, v8_1, v8_2, v8_3, v8_4, v8_5, v8_6, v8_7])), (q_800, .inl (cA_800, 4800, .inr (.inl fa8_wanted))), (hc, .inr (0, [.int (zI (B1)), v_1, .int (zI (e13_2_2)), .int (zI (e13_2_3)), v_4, v_5, v_6, v_7, v_8, v_9, v_10, v_11, v_12, .ref q_713, .ref q_714, .ref q_715, .ref q_716, .ref q_717, .ref q_718])), (q_713, .inl (cA_713, 301, .inl (fun j : Nat => zI (a_13 (j : Int))))), (q_714, .inl (cA_714, 600, .inl (fun j : Nat => zI (a_14 (j : Int))))), (q_715, .inl (cA_715, 301, .inl (fun j : Nat => zI (a_2001 (j : Int))))), (q_716, .inl (cA_716, 1000, .inl (fun j : Nat => zI (w13_716 (j : Int))))), (q_717, .inl (cA_717, 1000, .inl (fun j : Nat => zI (w13_717 (j : Int))))), (q_718, .inl (cA_718, na1, .inr (.inl (fun j : Nat => lI (w13_718 (j : Int))))))] H := hP
              have hD : va_D A [(h0, .inr (8, [.ref q_800, v8_1, v8_2, v8_3, v8_4, v8_5, v8_6, v8_7])), (q_800, .inl (cA_800, 4800, .inr (.inl fa8_wanted))), (hc, .inr (0, [.int (zI (B1)), v_1, .int (zI (e13_2_2)), .int (zI (e13_2_3)), v_4, v_5, v_6, v_7, v_8, v_9, v_10, v_11, v_12, .ref q_713, .ref q_714, .ref q_715, .ref q_716, .ref q_717, .ref q_718])), (q_713, .inl (cA_713, 301, .inl (fun j : Nat => zI (a_13 (j : Int))))), (q_714, .inl (cA_714, 600, .inl (fun j : Nat => zI (a_14 (j : Int))))), (q_715, .inl (cA_715, 301, .inl (fun j : Nat => zI (a_2001 (j : Int))))), (q_716, .inl (cA_716, 1000, .inl (fun j : Nat => zI (w13_716 (j : Int))))), (q_717, .inl (cA_717, 1000, .inl (fun j : Nat => zI (w13_717 (j : Int))))), (q_718, .inl (cA_718, na1, .inr (.inl (fun j : Nat => lI (w13_718 (j : Int))))))] := hD
              refine lv_iinc (v := zI (d2_3 + 1)) (lv' := [(3, .int (zI (d2_3 + 1))), (0, .ref h0), (1, .ref hc), (2, .int (zI (nw))), (4, .int (zI (d13_4)))]) hx hb dX8_addPhis_98 hl (k := 3) rfl (zI_add (d2_3) (1)) (by decide) rfl (fun ls hl => ?_)
              refine lv_goto (tgt := 2) hx hb dX8_addPhis_101 (by decide) ?_
              exact ih2 (d2_3 + 1) e13_2_2 e13_2_3 a_2001 w13_716 w13_717 w13_718 ls H _ (by omega) (by omega) (by omega) ra_2001 jw13_716 jw13_717 jw13_718 (by rw [ea_2001]; exact AP.close jA (by rw [show d13_4 = nw by omega]; rfl)) (by omega) (lv_sub hl [1, 2, 3, 0] rfl) hP hD hS
            · have yb16 : ¬ (nw : Int) ≤ (d13_4 : Int) := fun q => b16 ((zI_le (a := nw) (b := d13_4) (by omega) (by omega) (by omega) (by omega)).mpr q)
              refine lv_aload_n hx hb dX8_addPhis_19 rfl (lv_at hl 0 rfl) ?_
              refine va_get (D := (dC, dI)) (ci := 8) (v := .ref q_800) (C := RX8) (T := TX8) (N := 8) hx hb hts mem_X8_addPhis_1 hown hK hP 0 rfl rfl 0 (by decide) (ow (k := 3) rfl) (fun _ h9 => h9) rfl dX8_addPhis_20 ?_
              refine lv_iload_n hx hb dX8_addPhis_23 rfl (lv_at hl 3 rfl) ?_
              refine lv_iload_n hx hb dX8_addPhis_24 rfl (lv_at hl 2 rfl) ?_
              refine lv_imul hx hb dX8_addPhis_25 ?_
              refine lv_topi (fun z ez => ?_)
              obtain rfl : z = zI (d2_3 * nw) := ez.trans (zI_mul (d2_3) (nw))
              have km26 := mulb (a := d2_3) (b := nw) (by omega) (by omega) (by omega)
              refine lv_iload hx hb dX8_addPhis_26 (lv_at hl 4 rfl) ?_
              refine lv_iadd hx hb dX8_addPhis_28 ?_
              refine lv_topi (fun z ez => ?_)
              obtain rfl : z = zI ((d2_3 * nw) + d13_4) := ez.trans (zI_add (d2_3 * nw) (d13_4))
              refine va_lald hx hb hK hP 1 0 rfl rfl (zI_in (a := (d2_3 * nw) + d13_4) (n := 4800) (by omega) (by omega) (by decide)) dX8_addPhis_29 ?_
              refine lv_topl (fun x_2002 ex_2002 => ?_)
              refine lv_lstore (lv' := [(5, .long x_2002), (0, .ref h0), (1, .ref hc), (2, .int (zI (nw))), (3, .int (zI (d2_3))), (4, .int (zI (d13_4)))]) hx hb dX8_addPhis_30 hl (by decide) rfl (fun ls hl => ?_)
              have hst := pcS_step (f := fa8_wanted) (a := d2_3 * nw) (i := d13_4) (x := x_2002) ex_2002 (by omega) (by omega) (by omega)
              refine lv_iconst (v := 0) hx hb dX8_addPhis_32 (by decide) ?_
              refine lv_istore (lv' := [(7, .int 0), (5, .long x_2002), (0, .ref h0), (1, .ref hc), (2, .int (zI (nw))), (3, .int (zI (d2_3))), (4, .int (zI (d13_4)))]) hx hb dX8_addPhis_33 hl (by decide) rfl (fun ls hl => ?_)
              have key35 : ∀ n35 : Nat, ∀ (d35_7 : Int) (d35_5 : Int64) (e35_2_2 : Int) (e35_2_3 : Int) (w35_716 : Int → Int) (w35_717 : Int → Int) (w35_718 : Int → Int) (ls : Array Slot) (H : Heap) (locs : List Loc), (0 ≤ d35_7 ∧ d35_7 ≤ 64) → (0 ≤ e35_2_2 ∧ e35_2_2 ≤ 1000) → (0 ≤ e35_2_3 ∧ e35_2_3 ≤ 60000) → (∀ j : Int, -1 ≤ w35_716 j ∧ w35_716 j ≤ 1023) → (∀ j : Int, 0 ≤ w35_717 j ∧ w35_717 j ≤ 60000) → (∀ j : Int, ((-2147483648 ≤ w35_718 j ∧ w35_718 j ≤ 4294968319) ∨ w35_718 j = 1099511627776)) → (AP B1 (hwF fa8_wanted nw) a_13 w2_715 w35_716 w35_717 e35_2_2 e35_2_3 d2_3 (pcS fa8_wanted (d2_3 * nw) (d13_4 + 1).toNat - pcI d35_5)) → (d35_7 + pcI d35_5 ≤ 64) → ((100 - d35_7 : Int).toNat) < n35 → lv_has ls 8 [(0, .ref h0), (1, .ref hc), (2, .int (zI (nw))), (3, .int (zI (d2_3))), (4, .int (zI (d13_4))), (5, .long d35_5), (7, .int (zI (d35_7)))] → va_P (dC, dI) vwP [(h0, .inr (8, [.ref q_800, v8_1, v8_2, v8_3, v8_4, v8_5, v8_6, v8_7])), (q_800, .inl (cA_800, 4800, .inr (.inl fa8_wanted))), (hc, .inr (0, [.int (zI (B1)), v_1, .int (zI (e35_2_2)), .int (zI (e35_2_3)), v_4, v_5, v_6, v_7, v_8, v_9, v_10, v_11, v_12, .ref q_713, .ref q_714, .ref q_715, .ref q_716, .ref q_717, .ref q_718])), (q_713, .inl (cA_713, 301, .inl (fun j : Nat => zI (a_13 (j : Int))))), (q_714, .inl (cA_714, 600, .inl (fun j : Nat => zI (a_14 (j : Int))))), (q_715, .inl (cA_715, 301, .inl (fun j : Nat => zI (w2_715 (j : Int))))), (q_716, .inl (cA_716, 1000, .inl (fun j : Nat => zI (w35_716 (j : Int))))), (q_717, .inl (cA_717, 1000, .inl (fun j : Nat => zI (w35_717 (j : Int))))), (q_718, .inl (cA_718, na1, .inr (.inl (fun j : Nat => lI (w35_718 (j : Int))))))] H → va_D A [(h0, .inr (8, [.ref q_800, v8_1, v8_2, v8_3, v8_4, v8_5, v8_6, v8_7])), (q_800, .inl (cA_800, 4800, .inr (.inl fa8_wanted))), (hc, .inr (0, [.int (zI (B1)), v_1, .int (zI (e35_2_2)), .int (zI (e35_2_3)), v_4, v_5, v_6, v_7, v_8, v_9, v_10, v_11, v_12, .ref q_713, .ref q_714, .ref q_715, .ref q_716, .ref q_717, .ref q_718])), (q_713, .inl (cA_713, 301, .inl (fun j : Nat => zI (a_13 (j : Int))))), (q_714, .inl (cA_714, 600, .inl (fun j : Nat => zI (a_14 (j : Int))))), (q_715, .inl (cA_715, 301, .inl (fun j : Nat => zI (w2_715 (j : Int))))), (q_716, .inl (cA_716, 1000, .inl (fun j : Nat => zI (w35_716 (j : Int))))), (q_717, .inl (cA_717, 1000, .inl (fun j : Nat => zI (w35_717 (j : Int))))), (q_718, .inl (cA_718, na1, .inr (.inl (fun j : Nat => lI (w35_718 (j : Int))))))] → va_S A s.heap H locs → W p l e (headSpec v_X8_addPhis ({ frames := 2, cells := 0, slots := 0, locals := 44 })).room s m ([.ref h0, .ref hc, .int (zI (nw))] : List Value).toArray below meth c H locs 0 0 Q (F0 m 35 ls []) := by
                intro n35
                induction n35 with
                | zero => intro d35_7 d35_5 e35_2_2 e35_2_3 w35_716 w35_717 w35_718 ls H locs jd35_7 je35_2_2 je35_2_3 jw35_716 jw35_717 jw35_718 jA jn hm35; exact absurd hm35 (by omega)
                | succ n35 ih35 =>
                  intro d35_7 d35_5 e35_2_2 e35_2_3 w35_716 w35_717 w35_718 ls H locs jd35_7 je35_2_2 je35_2_3 jw35_716 jw35_717 jw35_718 jA jn hm35 hl hP hD hS
                  refine lv_lload hx hb dX8_addPhis_35 (lv_at hl 5 rfl) ?_
                  refine lv_lconst (v := lI (0)) hx hb dX8_addPhis_37 (by decide) ?_
                  refine W.lcmp hx hb dX8_addPhis_38 ?_
                  refine lv_topi (fun x_2003 ex_2003 => ?_)
                  refine lv_if_eq (tgt := 80) hx hb dX8_addPhis_39 (by decide) (fun b39 => ?_) (fun b39 => ?_)
                  · have hp0 := pcI_rng d35_5
                    have hz0 : pcI d35_5 = 0 := (by rcases Int.lt_or_le d35_7 64 with q9 | q9; (first | exact pcI_0 (lg_eq0 (by rw [← ex_2003]; exact b39)) | (exfalso; omega)); omega)
                    refine lv_iinc (v := zI (d13_4 + 1)) (lv' := [(4, .int (zI (d13_4 + 1))), (0, .ref h0), (1, .ref hc), (2, .int (zI (nw))), (3, .int (zI (d2_3))), (5, .long d35_5), (7, .int (zI (d35_7)))]) hx hb dX8_addPhis_80 hl (k := 4) rfl (zI_add (d13_4) (1)) (by decide) rfl (fun ls hl => ?_)
                    refine lv_goto (tgt := 13) hx hb dX8_addPhis_83 (by decide) ?_
                    exact ih13 (d13_4 + 1) e35_2_2 e35_2_3 w35_716 w35_717 w35_718 ls H _ (by omega) (by omega) (by omega) jw35_716 jw35_717 jw35_718 (by have q9 := jA; rw [hz0, show pcS fa8_wanted (d2_3 * nw) (d13_4 + 1).toNat - 0 = pcS fa8_wanted (d2_3 * nw) (d13_4 + 1).toNat by omega] at q9; exact q9) (by omega) (lv_sub hl [1, 2, 3, 4, 0] rfl) hP hD hS
                  · have hX_z : ¬ d35_5 = 0 := lg_ne (by rw [← ex_2003]; exact b39)
                    have hpz := pcI_pos hX_z
                    have hmo := hX_L.mono d2_3 (by omega) (by omega)
                    have hle := pcS_le fa8_wanted (d2_3 * nw) (show (d13_4 + 1).toNat ≤ (nw).toNat by omega)
                    have hrm := AP.room (hwF_nn fa8_wanted nw) jA (by omega) (show pcS fa8_wanted (d2_3 * nw) (d13_4 + 1).toNat - pcI d35_5 + 1 ≤ pcS fa8_wanted (d2_3 * nw) (nw).toNat by omega) (fun x h1 h2 => by have q9 := hX_L.mono x h1 h2; omega)
                    refine lv_iload hx hb dX8_addPhis_42 (lv_at hl 6 rfl) ?_
                    refine lv_bipush (v := 64) hx hb dX8_addPhis_44 (by decide) ?_
                    refine lv_icmp_ge (tgt := 80) hx hb dX8_addPhis_46 (by decide) (fun b46 => ?_) (fun b46 => ?_)
                    · have yb46 : (64 : Int) ≤ (d35_7 : Int) := (zI_le (a := 64) (b := d35_7) (by omega) (by omega) (by omega) (by omega)).mp b46
                      have hp0 := pcI_rng d35_5
                      have hz0 : pcI d35_5 = 0 := (by rcases Int.lt_or_le d35_7 64 with q9 | q9; (first | exact pcI_0 (lg_eq0 (by rw [← ex_2003]; exact b39)) | (exfalso; omega)); omega)
                      refine lv_iinc (v := zI (d13_4 + 1)) (lv' := [(4, .int (zI (d13_4 + 1))), (0, .ref h0), (1, .ref hc), (2, .int (zI (nw))), (3, .int (zI (d2_3))), (5, .long d35_5), (7, .int (zI (d35_7)))]) hx hb dX8_addPhis_80 hl (k := 4) rfl (zI_add (d13_4) (1)) (by decide) rfl (fun ls hl => ?_)
                      refine lv_goto (tgt := 13) hx hb dX8_addPhis_83 (by decide) ?_
                      exact ih13 (d13_4 + 1) e35_2_2 e35_2_3 w35_716 w35_717 w35_718 ls H _ (by omega) (by omega) (by omega) jw35_716 jw35_717 jw35_718 (by have q9 := jA; rw [hz0, show pcS fa8_wanted (d2_3 * nw) (d13_4 + 1).toNat - 0 = pcS fa8_wanted (d2_3 * nw) (d13_4 + 1).toNat by omega] at q9; exact q9) (by omega) (lv_sub hl [1, 2, 3, 4, 0] rfl) hP hD hS
                    · have yb46 : ¬ (64 : Int) ≤ (d35_7 : Int) := fun q => b46 ((zI_le (a := 64) (b := d35_7) (by omega) (by omega) (by omega) (by omega)).mpr q)
                      refine lv_aload_n hx hb dX8_addPhis_49 rfl (lv_at hl 1 rfl) ?_
                      refine lv_iload_n hx hb dX8_addPhis_50 rfl (lv_at hl 3 rfl) ?_
                      refine lv_bipush (v := 64) hx hb dX8_addPhis_51 (by decide) ?_
                      refine lv_iload hx hb dX8_addPhis_53 (lv_at hl 4 rfl) ?_
                      refine lv_imul hx hb dX8_addPhis_55 ?_
                      refine lv_topi (fun z ez => ?_)
                      obtain rfl : z = zI (64 * d13_4) := ez.trans (zI_mul (64) (d13_4))
                      refine lv_lload hx hb dX8_addPhis_56 (lv_at hl 5 rfl) ?_
                      have hPc := hP.sub (ws' := []) [] rfl
                      have hDc := hD.sub (ws' := []) [] (by decide) rfl
                      have hKc := hK.sub (tys' := []) [] rfl
                      have hFc := va_free (wc := []) hD hS hA [] rfl
                      refine va_calli (va_runSN (As := [.long d35_5]) (rest := [.int (zI (64 * d13_4)), .int (zI (d2_3)), .ref hc]) ⟨hx, hb, hml, hown, hts⟩ (c_X11_lowestBit l dC dI d35_5 hX_z H.size) ⟨va_cnB 1 hts (goodIn_sub mem_X8_addPhis_2 gw_X11_lowestBit) rfl rfl rfl hp0 (ow (k := 4) rfl) (by decide +kernel) ⟨(Nat.le_of_ble_eq_true rfl), (Nat.le_of_ble_eq_true rfl)⟩, (ow (k := 5) rfl), trivial⟩ ⟨fun a U g mk q => by obtain ⟨q0, q1, qP, qK, qD⟩ := q; exact ⟨q0, q1, qP, va_K.moved (u := U) (U := U.calling g mk a) (Vm.Alike.refl U.vm) qK, qD⟩, fun U hU hW => ⟨rfl, by rw [hU], by rw [hU]; exact hPc, va_K.moved hW.alike hKc, hDc.weaken (fun _ _ _ _ => trivial)⟩⟩ rfl rfl hl.1 rfl (lv_room (Nat.le_of_ble_eq_true rfl)) dX8_addPhis_58 ⟨(Nat.le_of_ble_eq_true rfl), (Nat.le_of_ble_eq_true rfl)⟩) hS (fun q _ h => hFc q h) hFc (fun r_2004 u t H1 locs ht hvm hw hB hz1 hk1 hS => ?_)
                      obtain ⟨hP1, hK1, hD1⟩ := hB
                      rw [ht] at hP1
                      have hK1 := va_K.moved hvm.symm hK1
                      obtain ⟨hP, hD⟩ := va_join (wr := [(h0, .inr (8, [.ref q_800, v8_1, v8_2, v8_3, v8_4, v8_5, v8_6, v8_7])), (q_800, .inl (cA_800, 4800, .inr (.inl fa8_wanted))), (hc, .inr (0, [.int (zI (B1)), v_1, .int (zI (e35_2_2)), .int (zI (e35_2_3)), v_4, v_5, v_6, v_7, v_8, v_9, v_10, v_11, v_12, .ref q_713, .ref q_714, .ref q_715, .ref q_716, .ref q_717, .ref q_718])), (q_713, .inl (cA_713, 301, .inl (fun j : Nat => zI (a_13 (j : Int))))), (q_714, .inl (cA_714, 600, .inl (fun j : Nat => zI (a_14 (j : Int))))), (q_715, .inl (cA_715, 301, .inl (fun j : Nat => zI (w2_715 (j : Int))))), (q_716, .inl (cA_716, 1000, .inl (fun j : Nat => zI (w35_716 (j : Int))))), (q_717, .inl (cA_717, 1000, .inl (fun j : Nat => zI (w35_717 (j : Int))))), (q_718, .inl (cA_718, na1, .inr (.inl (fun j : Nat => lI (w35_718 (j : Int))))))]) (w1 := []) hP hD [] [0, 1, 2, 3, 4, 5, 6, 7, 8] rfl rfl (by decide) (by decide) hk1 hFc hP1 hD1
                      have hK := (hK.sub (tys' := [(cA_800, .long), (cA_713, .int), (cA_714, .int), (cA_715, .int), (cA_716, .int), (cA_717, .int), (cA_718, .long)]) [0, 1, 2, 3, 4, 5, 6] rfl).app hK1
                      generalize H1 = H at hP hS ⊢
                      have hP : va_P (dC, dI) vwP [(h0, .inr (8, [.ref q_800, v8_1, v8_2, v8_3, v8_4, v8_5, v8_6, v8_7])), (q_800, .inl (cA_800, 4800, .inr (.inl fa8_wanted))), (hc, .inr (0, [.int (zI (B1)), v_1, .int (zI (e35_2_2)), .int (zI (e35_2_3)), v_4, v_5, v_6, v_7, v_8, v_9, v_10, v_11, v_12, .ref q_713, .ref q_714, .ref q_715, .ref q_716, .ref q_717, .ref q_718])), (q_713, .inl (cA_713, 301, .inl (fun j : Nat => zI (a_13 (j : Int))))), (q_714, .inl (cA_714, 600, .inl (fun j : Nat => zI (a_14 (j : Int))))), (q_715, .inl (cA_715, 301, .inl (fun j : Nat => zI (w2_715 (j : Int))))), (q_716, .inl (cA_716, 1000, .inl (fun j : Nat => zI (w35_716 (j : Int))))), (q_717, .inl (cA_717, 1000, .inl (fun j : Nat => zI (w35_717 (j : Int))))), (q_718, .inl (cA_718, na1, .inr (.inl (fun j : Nat => lI (w35_718 (j : Int))))))] H := hP
                      have hD : va_D A [(h0, .inr (8, [.ref q_800, v8_1, v8_2, v8_3, v8_4, v8_5, v8_6, v8_7])), (q_800, .inl (cA_800, 4800, .inr (.inl fa8_wanted))), (hc, .inr (0, [.int (zI (B1)), v_1, .int (zI (e35_2_2)), .int (zI (e35_2_3)), v_4, v_5, v_6, v_7, v_8, v_9, v_10, v_11, v_12, .ref q_713, .ref q_714, .ref q_715, .ref q_716, .ref q_717, .ref q_718])), (q_713, .inl (cA_713, 301, .inl (fun j : Nat => zI (a_13 (j : Int))))), (q_714, .inl (cA_714, 600, .inl (fun j : Nat => zI (a_14 (j : Int))))), (q_715, .inl (cA_715, 301, .inl (fun j : Nat => zI (w2_715 (j : Int))))), (q_716, .inl (cA_716, 1000, .inl (fun j : Nat => zI (w35_716 (j : Int))))), (q_717, .inl (cA_717, 1000, .inl (fun j : Nat => zI (w35_717 (j : Int))))), (q_718, .inl (cA_718, na1, .inr (.inl (fun j : Nat => lI (w35_718 (j : Int))))))] := hD
                      have hK : va_K (dC, dI) vwP [(cA_800, .long), (cA_713, .int), (cA_714, .int), (cA_715, .int), (cA_716, .int), (cA_717, .int), (cA_718, .long)] s := hK
                      refine W.widen (k := 0) (n := 0) (Nat.le_of_ble_eq_true rfl) (Nat.le_of_ble_eq_true rfl) ?_
                      have hw_2005 := hw
                      obtain ⟨z_2006, rfl, hzz_2006⟩ := hw_2005
                      refine lv_iadd hx hb dX8_addPhis_61 ?_
                      refine lv_topi (fun z ez => ?_)
                      obtain rfl : z = zI ((64 * d13_4) + z_2006) := ez.trans (zI_add (64 * d13_4) (z_2006))
                      have hPc := hP.sub (ws' := [(hc, .inr (0, [.int (zI (B1)), v_1, .int (zI (e35_2_2)), .int (zI (e35_2_3)), v_4, v_5, v_6, v_7, v_8, v_9, v_10, v_11, v_12, .ref q_713, .ref q_714, .ref q_715, .ref q_716, .ref q_717, .ref q_718])), (q_713, .inl (cA_713, 301, .inl (fun j : Nat => zI (a_13 (j : Int))))), (q_716, .inl (cA_716, 1000, .inl (fun j : Nat => zI (w35_716 (j : Int))))), (q_717, .inl (cA_717, 1000, .inl (fun j : Nat => zI (w35_717 (j : Int))))), (q_718, .inl (cA_718, na1, .inr (.inl (fun j : Nat => lI (w35_718 (j : Int))))))]) [2, 3, 6, 7, 8] rfl
                      have hDc := hD.sub (ws' := [(hc, .inr (0, [.int (zI (B1)), v_1, .int (zI (e35_2_2)), .int (zI (e35_2_3)), v_4, v_5, v_6, v_7, v_8, v_9, v_10, v_11, v_12, .ref q_713, .ref q_714, .ref q_715, .ref q_716, .ref q_717, .ref q_718])), (q_713, .inl (cA_713, 301, .inl (fun j : Nat => zI (a_13 (j : Int))))), (q_716, .inl (cA_716, 1000, .inl (fun j : Nat => zI (w35_716 (j : Int))))), (q_717, .inl (cA_717, 1000, .inl (fun j : Nat => zI (w35_717 (j : Int))))), (q_718, .inl (cA_718, na1, .inr (.inl (fun j : Nat => lI (w35_718 (j : Int))))))]) [2, 3, 6, 7, 8] (by decide) rfl
                      have hKc := hK.sub (tys' := [(cA_713, .int), (cA_716, .int), (cA_717, .int), (cA_718, .long)]) [1, 4, 5, 6] rfl
                      have hFc := va_free (wc := [(hc, .inr (0, [.int (zI (B1)), v_1, .int (zI (e35_2_2)), .int (zI (e35_2_3)), v_4, v_5, v_6, v_7, v_8, v_9, v_10, v_11, v_12, .ref q_713, .ref q_714, .ref q_715, .ref q_716, .ref q_717, .ref q_718])), (q_713, .inl (cA_713, 301, .inl (fun j : Nat => zI (a_13 (j : Int))))), (q_716, .inl (cA_716, 1000, .inl (fun j : Nat => zI (w35_716 (j : Int))))), (q_717, .inl (cA_717, 1000, .inl (fun j : Nat => zI (w35_717 (j : Int))))), (q_718, .inl (cA_718, na1, .inr (.inl (fun j : Nat => lI (w35_718 (j : Int))))))]) hD hS hA [2, 3, 6, 7, 8] rfl
                      refine va_callv (va_runS (As := [.ref hc, .int (zI (d2_3)), .int (zI ((64 * d13_4) + z_2006))]) (rest := []) ⟨hx, hb, hml, hown, hts⟩ (c_X8_addPhi l dC dI hc (.int (zI (B1))) v_1 e35_2_2 e35_2_3 v_4 v_5 v_6 v_7 v_8 v_9 v_10 v_11 v_12 q_713 cA_713 a_13 (.ref q_714) (.ref q_715) q_716 cA_716 w35_716 q_717 cA_717 w35_717 q_718 cA_718 na1 w35_718 d2_3 ((64 * d13_4) + z_2006) (by omega) (by omega) hR_a_13 jw35_716 jw35_717 (by omega) jw35_718 (by omega) (by omega) (by omega) H.size) (cwS 3 hts g_X8_addPhis_X8_addPhi rfl rfl rfl (by decide +kernel) ⟨(Nat.le_of_ble_eq_true rfl), (Nat.le_of_ble_eq_true rfl)⟩) ⟨fun a U g mk q => by obtain ⟨q0, q1, qP, qK, qD⟩ := q; exact ⟨q0, q1, qP, va_K.moved (u := U) (U := U.calling g mk a) (Vm.Alike.refl U.vm) qK, qD⟩, fun U hU hW => ⟨rfl, by rw [hU], by rw [hU]; exact hPc, va_K.moved hW.alike hKc, hDc.weaken (fun _ _ _ _ => trivial)⟩⟩ rfl rfl hl.1 rfl (lv_room (Nat.le_of_ble_eq_true rfl)) dX8_addPhis_62 ⟨(Nat.le_of_ble_eq_true rfl), (Nat.le_of_ble_eq_true rfl)⟩) hS (fun q _ h => hFc q h) hFc (fun  u t H1 locs ht hvm hw hB hz1 hk1 hS => ?_)
                      obtain ⟨z0_2007, z1_2008, a2_2009, a3_2010, a4_2011, hxt_2011, hP1, hK1, hD1⟩ := hB
                      rw [ht] at hP1
                      have hK1 := va_K.moved hvm.symm hK1
                      obtain ⟨hP, hD⟩ := va_join (wr := [(h0, .inr (8, [.ref q_800, v8_1, v8_2, v8_3, v8_4, v8_5, v8_6, v8_7])), (q_800, .inl (cA_800, 4800, .inr (.inl fa8_wanted))), (q_714, .inl (cA_714, 600, .inl (fun j : Nat => zI (a_14 (j : Int))))), (q_715, .inl (cA_715, 301, .inl (fun j : Nat => zI (w2_715 (j : Int)))))]) (w1 := [(hc, .inr (0, [.int (zI (B1)), v_1, .int (zI (z0_2007)), .int (zI (z1_2008)), v_4, v_5, v_6, v_7, v_8, v_9, v_10, v_11, v_12, .ref q_713, .ref q_714, .ref q_715, .ref q_716, .ref q_717, .ref q_718])), (q_713, .inl (cA_713, 301, .inl (fun j : Nat => zI (a_13 (j : Int))))), (q_716, .inl (cA_716, 1000, .inl (fun j : Nat => zI (a2_2009 (j : Int))))), (q_717, .inl (cA_717, 1000, .inl (fun j : Nat => zI (a3_2010 (j : Int))))), (q_718, .inl (cA_718, na1, .inr (.inl (fun j : Nat => lI (a4_2011 (j : Int))))))]) hP hD [2, 3, 6, 7, 8] [0, 1, 4, 5] rfl rfl (by decide) (by decide) hk1 hFc hP1 hD1
                      have hK := (hK.sub (tys' := [(cA_800, .long), (cA_714, .int), (cA_715, .int)]) [0, 2, 3] rfl).app hK1
                      generalize H1 = H at hP hS ⊢
                      have hP : va_P (dC, dI) vwP [(h0, .inr (8, [.ref q_800, v8_1, v8_2, v8_3, v8_4, v8_5, v8_6, v8_7])), (q_800, .inl (cA_800, 4800, .inr (.inl fa8_wanted))), (q_714, .inl (cA_714, 600, .inl (fun j : Nat => zI (a_14 (j : Int))))), (q_715, .inl (cA_715, 301, .inl (fun j : Nat => zI (w2_715 (j : Int))))), (hc, .inr (0, [.int (zI (B1)), v_1, .int (zI (z0_2007)), .int (zI (z1_2008)), v_4, v_5, v_6, v_7, v_8, v_9, v_10, v_11, v_12, .ref q_713, .ref q_714, .ref q_715, .ref q_716, .ref q_717, .ref q_718])), (q_713, .inl (cA_713, 301, .inl (fun j : Nat => zI (a_13 (j : Int))))), (q_716, .inl (cA_716, 1000, .inl (fun j : Nat => zI (a2_2009 (j : Int))))), (q_717, .inl (cA_717, 1000, .inl (fun j : Nat => zI (a3_2010 (j : Int))))), (q_718, .inl (cA_718, na1, .inr (.inl (fun j : Nat => lI (a4_2011 (j : Int))))))] H := hP
                      have hD : va_D A [(h0, .inr (8, [.ref q_800, v8_1, v8_2, v8_3, v8_4, v8_5, v8_6, v8_7])), (q_800, .inl (cA_800, 4800, .inr (.inl fa8_wanted))), (q_714, .inl (cA_714, 600, .inl (fun j : Nat => zI (a_14 (j : Int))))), (q_715, .inl (cA_715, 301, .inl (fun j : Nat => zI (w2_715 (j : Int))))), (hc, .inr (0, [.int (zI (B1)), v_1, .int (zI (z0_2007)), .int (zI (z1_2008)), v_4, v_5, v_6, v_7, v_8, v_9, v_10, v_11, v_12, .ref q_713, .ref q_714, .ref q_715, .ref q_716, .ref q_717, .ref q_718])), (q_713, .inl (cA_713, 301, .inl (fun j : Nat => zI (a_13 (j : Int))))), (q_716, .inl (cA_716, 1000, .inl (fun j : Nat => zI (a2_2009 (j : Int))))), (q_717, .inl (cA_717, 1000, .inl (fun j : Nat => zI (a3_2010 (j : Int))))), (q_718, .inl (cA_718, na1, .inr (.inl (fun j : Nat => lI (a4_2011 (j : Int))))))] := hD
                      have hK : va_K (dC, dI) vwP [(cA_800, .long), (cA_714, .int), (cA_715, .int), (cA_713, .int), (cA_716, .int), (cA_717, .int), (cA_718, .long)] s := hK
                      refine W.widen (k := 0) (n := 0) (Nat.le_of_ble_eq_true rfl) (Nat.le_of_ble_eq_true rfl) ?_
                      obtain ⟨rk_2012, rk_2013, rk_2014, rk_2015, rk_2016, hu_2016⟩ := hxt_2011
                      refine lv_lload hx hb dX8_addPhis_65 (lv_at hl 5 rfl) ?_
                      refine lv_lload hx hb dX8_addPhis_67 (lv_at hl 5 rfl) ?_
                      refine lv_lconst (v := lI (1)) hx hb dX8_addPhis_69 (by decide) ?_
                      refine lv_lsub hx hb dX8_addPhis_70 ?_
                      refine lv_topl (fun x_2017 ex_2017 => ?_)
                      refine lv_land hx hb dX8_addPhis_71 ?_
                      refine lv_topl (fun x_2018 ex_2018 => ?_)
                      refine lv_lstore (lv' := [(5, .long x_2018), (0, .ref h0), (1, .ref hc), (2, .int (zI (nw))), (3, .int (zI (d2_3))), (4, .int (zI (d13_4))), (7, .int (zI (d35_7)))]) hx hb dX8_addPhis_72 hl (by decide) rfl (fun ls hl => ?_)
                      have hrs := pcI_rest hX_z ex_2017 ex_2018
                      refine lv_iinc (v := zI (d35_7 + 1)) (lv' := [(7, .int (zI (d35_7 + 1))), (5, .long x_2018), (0, .ref h0), (1, .ref hc), (2, .int (zI (nw))), (3, .int (zI (d2_3))), (4, .int (zI (d13_4)))]) hx hb dX8_addPhis_74 hl (k := 6) rfl (zI_add (d35_7) (1)) (by decide) rfl (fun ls hl => ?_)
                      refine lv_goto (tgt := 35) hx hb dX8_addPhis_77 (by decide) ?_
                      have hP := hP.sub (ws' := [(h0, .inr (8, [.ref q_800, v8_1, v8_2, v8_3, v8_4, v8_5, v8_6, v8_7])), (q_800, .inl (cA_800, 4800, .inr (.inl fa8_wanted))), (hc, .inr (0, [.int (zI (B1)), v_1, .int (zI (z0_2007)), .int (zI (z1_2008)), v_4, v_5, v_6, v_7, v_8, v_9, v_10, v_11, v_12, .ref q_713, .ref q_714, .ref q_715, .ref q_716, .ref q_717, .ref q_718])), (q_713, .inl (cA_713, 301, .inl (fun j : Nat => zI (a_13 (j : Int))))), (q_714, .inl (cA_714, 600, .inl (fun j : Nat => zI (a_14 (j : Int))))), (q_715, .inl (cA_715, 301, .inl (fun j : Nat => zI (w2_715 (j : Int))))), (q_716, .inl (cA_716, 1000, .inl (fun j : Nat => zI (a2_2009 (j : Int))))), (q_717, .inl (cA_717, 1000, .inl (fun j : Nat => zI (a3_2010 (j : Int))))), (q_718, .inl (cA_718, na1, .inr (.inl (fun j : Nat => lI (a4_2011 (j : Int))))))]) [0, 1, 4, 5, 2, 3, 6, 7, 8] rfl
                      have hD := hD.sub (ws' := [(h0, .inr (8, [.ref q_800, v8_1, v8_2, v8_3, v8_4, v8_5, v8_6, v8_7])), (q_800, .inl (cA_800, 4800, .inr (.inl fa8_wanted))), (hc, .inr (0, [.int (zI (B1)), v_1, .int (zI (z0_2007)), .int (zI (z1_2008)), v_4, v_5, v_6, v_7, v_8, v_9, v_10, v_11, v_12, .ref q_713, .ref q_714, .ref q_715, .ref q_716, .ref q_717, .ref q_718])), (q_713, .inl (cA_713, 301, .inl (fun j : Nat => zI (a_13 (j : Int))))), (q_714, .inl (cA_714, 600, .inl (fun j : Nat => zI (a_14 (j : Int))))), (q_715, .inl (cA_715, 301, .inl (fun j : Nat => zI (w2_715 (j : Int))))), (q_716, .inl (cA_716, 1000, .inl (fun j : Nat => zI (a2_2009 (j : Int))))), (q_717, .inl (cA_717, 1000, .inl (fun j : Nat => zI (a3_2010 (j : Int))))), (q_718, .inl (cA_718, na1, .inr (.inl (fun j : Nat => lI (a4_2011 (j : Int))))))]) [0, 1, 4, 5, 2, 3, 6, 7, 8] (by decide) rfl
                      exact ih35 (d35_7 + 1) x_2018 z0_2007 z1_2008 a2_2009 a3_2010 a4_2011 ls H _ (by omega) (by omega) (by omega) rk_2014 rk_2015 rk_2016 (by rw [hu_2016.1, hu_2016.2.1, hu_2016.2.2.1, hu_2016.2.2.2, show pcS fa8_wanted (d2_3 * nw) (d13_4 + 1).toNat - pcI x_2018 = pcS fa8_wanted (d2_3 * nw) (d13_4 + 1).toNat - pcI d35_5 + 1 by omega]; exact AP.add (hwF_nn fa8_wanted nw) jA (by omega) (by omega) (by omega)) (by omega) (by omega) (lv_sub hl [2, 3, 4, 5, 6, 1, 0] rfl) hP hD hS
              exact key35 ((100 - 0 : Int).toNat + 1) 0 x_2002 e13_2_2 e13_2_3 w13_716 w13_717 w13_718 ls H _ (by omega) (by omega) (by omega) jw13_716 jw13_717 jw13_718 (by rw [show pcS fa8_wanted (d2_3 * nw) (d13_4 + 1).toNat - pcI x_2002 = pcS fa8_wanted (d2_3 * nw) (d13_4).toNat by omega]; exact jA) (by have q9 := pcI_rng x_2002; omega) (by omega) (lv_sub hl [2, 3, 4, 5, 6, 1, 0] rfl) hP hD hS
        exact key13 (((nw) - (0) : Int).toNat + 1) 0 e2_2_2 e2_2_3 w2_716 w2_717 w2_718 ls H _ (by omega) (by omega) (by omega) jw2_716 jw2_717 jw2_718 jA (by omega) (lv_sub hl [1, 2, 3, 4, 0] rfl) hP hD hS
  exact key2 (((B1) - (0) : Int).toNat + 1) 0 P1 C1 a_15 a_16 a_17 a_18 ls H _ (by omega) (by omega) (by omega) hR_a_15 hR_a_16 hR_a_17 hR_a_18 (by rw [hNp.1, hNp.2.1]; exact AP.init hNp.2.2) (by omega) (lv_sub hl [1, 2, 3, 0] rfl) hP hD hS
