theorem dX19_input_0 : decode cX19_input 0 = .ok (.aload_n 0, 1) := by decide +kernel
theorem dX19_input_1 : decode cX19_input 1 = .ok (.iconst 0, 1) := by decide +kernel
theorem dX19_input_2 : decode cX19_input 2 = .ok (.putfield 560, 3) := by decide +kernel
theorem dX19_input_5 : decode cX19_input 5 = .ok (.aload_n 0, 1) := by decide +kernel
theorem dX19_input_6 : decode cX19_input 6 = .ok (.aload_n 0, 1) := by decide +kernel
theorem dX19_input_7 : decode cX19_input 7 = .ok (.getfield 563, 3) := by decide +kernel
theorem dX19_input_10 : decode cX19_input 10 = .ok (.iconst 4, 1) := by decide +kernel
theorem dX19_input_11 : decode cX19_input 11 = .ok (.idiv, 1) := by decide +kernel
theorem dX19_input_12 : decode cX19_input 12 = .ok (.newarray .int, 2) := by decide +kernel
theorem dX19_input_14 : decode cX19_input 14 = .ok (.putfield 483, 3) := by decide +kernel
theorem dX19_input_17 : decode cX19_input 17 = .ok (.iconst 0, 1) := by decide +kernel
theorem dX19_input_18 : decode cX19_input 18 = .ok (.istore_n 1, 1) := by decide +kernel
theorem dX19_input_19 : decode cX19_input 19 = .ok (.iload_n 1, 1) := by decide +kernel
theorem dX19_input_20 : decode cX19_input 20 = .ok (.aload_n 0, 1) := by decide +kernel
theorem dX19_input_21 : decode cX19_input 21 = .ok (.getfield 483, 3) := by decide +kernel
theorem dX19_input_24 : decode cX19_input 24 = .ok (.arraylength, 1) := by decide +kernel
theorem dX19_input_25 : decode cX19_input 25 = .ok (.if_icmp .ge 52, 3) := by decide +kernel
theorem dX19_input_77 : decode cX19_input 77 = .ok (.aload_n 0, 1) := by decide +kernel
theorem dX19_input_78 : decode cX19_input 78 = .ok (.iconst 0, 1) := by decide +kernel
theorem dX19_input_79 : decode cX19_input 79 = .ok (.putfield 563, 3) := by decide +kernel
theorem dX19_input_82 : decode cX19_input 82 = .ok (.aload_n 0, 1) := by decide +kernel
theorem dX19_input_83 : decode cX19_input 83 = .ok (.getfield 483, 3) := by decide +kernel
theorem dX19_input_86 : decode cX19_input 86 = .ok (.arraylength, 1) := by decide +kernel
theorem dX19_input_87 : decode cX19_input 87 = .ok (.ireturn, 1) := by decide +kernel
theorem dX19_input_28 : decode cX19_input 28 = .ok (.iconst 0, 1) := by decide +kernel
theorem dX19_input_29 : decode cX19_input 29 = .ok (.istore_n 2, 1) := by decide +kernel
theorem dX19_input_30 : decode cX19_input 30 = .ok (.iload_n 2, 1) := by decide +kernel
theorem dX19_input_31 : decode cX19_input 31 = .ok (.iconst 4, 1) := by decide +kernel
theorem dX19_input_32 : decode cX19_input 32 = .ok (.if_icmp .ge 39, 3) := by decide +kernel
theorem dX19_input_71 : decode cX19_input 71 = .ok (.iinc 1 1, 3) := by decide +kernel
theorem dX19_input_74 : decode cX19_input 74 = .ok (.goto (-55), 3) := by decide +kernel
theorem dX19_input_35 : decode cX19_input 35 = .ok (.aload_n 0, 1) := by decide +kernel
theorem dX19_input_36 : decode cX19_input 36 = .ok (.getfield 483, 3) := by decide +kernel
theorem dX19_input_39 : decode cX19_input 39 = .ok (.iload_n 1, 1) := by decide +kernel
theorem dX19_input_40 : decode cX19_input 40 = .ok (.aload_n 0, 1) := by decide +kernel
theorem dX19_input_41 : decode cX19_input 41 = .ok (.getfield 483, 3) := by decide +kernel
theorem dX19_input_44 : decode cX19_input 44 = .ok (.iload_n 1, 1) := by decide +kernel
theorem dX19_input_45 : decode cX19_input 45 = .ok (.iaload, 1) := by decide +kernel
theorem dX19_input_46 : decode cX19_input 46 = .ok (.bipush 8, 2) := by decide +kernel
theorem dX19_input_48 : decode cX19_input 48 = .ok (.ishl, 1) := by decide +kernel
theorem dX19_input_49 : decode cX19_input 49 = .ok (.aload_n 0, 1) := by decide +kernel
theorem dX19_input_50 : decode cX19_input 50 = .ok (.getfield 551, 3) := by decide +kernel
theorem dX19_input_53 : decode cX19_input 53 = .ok (.iconst 4, 1) := by decide +kernel
theorem dX19_input_54 : decode cX19_input 54 = .ok (.iload_n 1, 1) := by decide +kernel
theorem dX19_input_55 : decode cX19_input 55 = .ok (.imul, 1) := by decide +kernel
theorem dX19_input_56 : decode cX19_input 56 = .ok (.iload_n 2, 1) := by decide +kernel
theorem dX19_input_57 : decode cX19_input 57 = .ok (.iadd, 1) := by decide +kernel
theorem dX19_input_58 : decode cX19_input 58 = .ok (.baload, 1) := by decide +kernel
theorem dX19_input_59 : decode cX19_input 59 = .ok (.sipush 255, 3) := by decide +kernel
theorem dX19_input_62 : decode cX19_input 62 = .ok (.iand, 1) := by decide +kernel
theorem dX19_input_63 : decode cX19_input 63 = .ok (.ior, 1) := by decide +kernel
theorem dX19_input_64 : decode cX19_input 64 = .ok (.iastore, 1) := by decide +kernel
theorem dX19_input_65 : decode cX19_input 65 = .ok (.iinc 2 1, 3) := by decide +kernel
theorem dX19_input_68 : decode cX19_input 68 = .ok (.goto (-38), 3) := by decide +kernel
def o_X19_inputT : List Cond := [.fieldLink RX19 560 "SsaForgeModel" "thrown" "I", .fieldLink RX19 563 "SsaForgeModel" "size" "I", .arrayClass .int, .fieldLink RX19 483 "SsaForgeModel" "input" "[I", .fieldLink RX19 551 "SsaForgeModel" "tape" "[B"]
def v_X19_inputT : List Cond := .code yX19_input cX19_input 3 (some .int) :: (o_X19_inputT ++ (wsX190 ++ []))
theorem mow_X19_inputT : ∀ w ∈ o_X19_inputT, w ∈ v_X19_inputT := fun _ h => List.mem_cons_of_mem _ (List.mem_append_left _ h)
theorem mem_X19_inputT_0 : ∀ w ∈ wsX190, w ∈ v_X19_inputT := fun _ h => List.mem_cons_of_mem _ (List.mem_append_right _ (List.mem_append_left _ h))
set_option maxRecDepth 20000 in
theorem gw_X19_inputT : v_X19_inputT.all goodWord = true := by decide +kernel
set_option maxHeartbeats 4000000 in
set_option maxRecDepth 100000 in
theorem c_X19_inputT (l : Launch) (dC : Nat → ClassId) (dI : Nat → Nat → Nat) (h0 : Nat) (v19_0 : Value) (v19_1 : Value) (v19_2 : Value) (v19_3 : Value) (v19_4 : Value) (v19_5 : Value) (v19_6 : Value) (v19_7 : Value) (v19_8 : Value) (v19_9 : Value) (v19_10 : Value) (v19_11 : Value) (v19_12 : Value) (v19_13 : Value) (v19_14 : Value) (v19_15 : Value) (v19_16 : Value) (v19_17 : Value) (v19_18 : Value) (v19_19 : Value) (v19_20 : Value) (v19_21 : Value) (v19_22 : Value) (v19_23 : Value) (v19_24 : Value) (v19_25 : Value) (v19_26 : Value) (v19_27 : Value) (v19_28 : Value) (v19_29 : Value) (v19_30 : Value) (v19_31 : Value) (v19_32 : Value) (z19_thrown : Int) (z19_size : Int) (v19_36 : Value) (v19_37 : Value) (v19_38 : Value) (v19_39 : Value) (v19_40 : Value) (q_tp : Nat) (cT : ClassId) (a_tp : Int → Int) (hNz19_thrown : 0 ≤ z19_thrown ∧ z19_thrown ≤ 2) (hNz19_size : 0 ≤ z19_size ∧ z19_size ≤ 8192) (hR_a_tp : ∀ j : Int, -128 ≤ a_tp j ∧ a_tp j ≤ 127) (sz : Nat) : Met l yX19_input v_X19_inputT ({ frames := 0, cells := (1), slots := ((z19_size / 4).toNat), locals := 0 }) (va_Pc [.ref h0] (fun U => U.heap.size = sz ∧ va_P (dC, dI) vwQ [(h0, .inr (16, [v19_0, v19_1, v19_2, v19_3, v19_4, v19_5, v19_6, v19_7, v19_8, v19_9, v19_10, v19_11, v19_12, v19_13, v19_14, v19_15, v19_16, v19_17, v19_18, v19_19, v19_20, v19_21, v19_22, v19_23, v19_24, v19_25, v19_26, v19_27, v19_28, v19_29, v19_30, v19_31, v19_32, .int (zI (z19_thrown)), .ref q_tp, .int (zI (z19_size)), v19_36, v19_37, v19_38, v19_39, v19_40])), (q_tp, .inl (cT, 8192, .inl (fun j : Nat => zI (a_tp (j : Int)))))] U.heap ∧ va_K (dC, dI) vwQ [(cT, .byte)] U ∧ va_D (fun _ => True) [(h0, .inr (16, [v19_0, v19_1, v19_2, v19_3, v19_4, v19_5, v19_6, v19_7, v19_8, v19_9, v19_10, v19_11, v19_12, v19_13, v19_14, v19_15, v19_16, v19_17, v19_18, v19_19, v19_20, v19_21, v19_22, v19_23, v19_24, v19_25, v19_26, v19_27, v19_28, v19_29, v19_30, v19_31, v19_32, .int (zI (z19_thrown)), .ref q_tp, .int (zI (z19_size)), v19_36, v19_37, v19_38, v19_39, v19_40])), (q_tp, .inl (cT, 8192, .inl (fun j : Nat => zI (a_tp (j : Int)))))])) (va_Qi (fun (r : Int32) (zr : Int) => r = zI zr ∧ (0 ≤ zr ∧ zr ≤ 2048)) (fun (zr : Int) (t : State) => ∃ (z0_9 : Int) (z1_9 : Int) (qn0_9 : Nat) (cn0_9 : ClassId) (nn0_9 : Nat) (an0_9 : Int → Int), ((0 ≤ z0_9 ∧ z0_9 ≤ 2) ∧ (0 ≤ z1_9 ∧ z1_9 ≤ 8192) ∧ (∀ j : Int, -2147483648 ≤ an0_9 j ∧ an0_9 j ≤ 2147483647) ∧ (z1_9 = 0 ∧ (nn0_9 : Int) = z19_size / 4 ∧ zr = z19_size / 4)) ∧ va_P (dC, dI) vwQ [(h0, .inr (16, [v19_0, v19_1, v19_2, v19_3, v19_4, v19_5, v19_6, v19_7, v19_8, v19_9, v19_10, v19_11, v19_12, v19_13, v19_14, v19_15, v19_16, v19_17, v19_18, v19_19, v19_20, v19_21, v19_22, v19_23, v19_24, v19_25, v19_26, v19_27, v19_28, v19_29, v19_30, v19_31, v19_32, .int (zI (z0_9)), .ref q_tp, .int (zI (z1_9)), v19_36, v19_37, v19_38, v19_39, .ref qn0_9])), (q_tp, .inl (cT, 8192, .inl (fun j : Nat => zI (a_tp (j : Int))))), (qn0_9, .inl (cn0_9, nn0_9, .inl (fun j : Nat => zI (an0_9 (j : Int)))))] t.heap ∧ va_K (dC, dI) vwQ [(cT, .byte), (cn0_9, .int)] t ∧ va_D (va_A [(h0, .inr (16, [v19_0, v19_1, v19_2, v19_3, v19_4, v19_5, v19_6, v19_7, v19_8, v19_9, v19_10, v19_11, v19_12, v19_13, v19_14, v19_15, v19_16, v19_17, v19_18, v19_19, v19_20, v19_21, v19_22, v19_23, v19_24, v19_25, v19_26, v19_27, v19_28, v19_29, v19_30, v19_31, v19_32, .int (zI (z19_thrown)), .ref q_tp, .int (zI (z19_size)), v19_36, v19_37, v19_38, v19_39, v19_40])), (q_tp, .inl (cT, 8192, .inl (fun j : Nat => zI (a_tp (j : Int)))))] sz) [(h0, .inr (16, [v19_0, v19_1, v19_2, v19_3, v19_4, v19_5, v19_6, v19_7, v19_8, v19_9, v19_10, v19_11, v19_12, v19_13, v19_14, v19_15, v19_16, v19_17, v19_18, v19_19, v19_20, v19_21, v19_22, v19_23, v19_24, v19_25, v19_26, v19_27, v19_28, v19_29, v19_30, v19_31, v19_32, .int (zI (z0_9)), .ref q_tp, .int (zI (z1_9)), v19_36, v19_37, v19_38, v19_39, .ref qn0_9])), (q_tp, .inl (cT, 8192, .inl (fun j : Nat => zI (a_tp (j : Int))))), (qn0_9, .inl (cn0_9, nn0_9, .inl (fun j : Nat => zI (an0_9 (j : Int)))))]) (va_A [(h0, .inr (16, [v19_0, v19_1, v19_2, v19_3, v19_4, v19_5, v19_6, v19_7, v19_8, v19_9, v19_10, v19_11, v19_12, v19_13, v19_14, v19_15, v19_16, v19_17, v19_18, v19_19, v19_20, v19_21, v19_22, v19_23, v19_24, v19_25, v19_26, v19_27, v19_28, v19_29, v19_30, v19_31, v19_32, .int (zI (z19_thrown)), .ref q_tp, .int (zI (z19_size)), v19_36, v19_37, v19_38, v19_39, v19_40])), (q_tp, .inl (cT, 8192, .inl (fun j : Nat => zI (a_tp (j : Int)))))] sz)) (1) ((z19_size / 4).toNat) (va_A [(h0, .inr (16, [v19_0, v19_1, v19_2, v19_3, v19_4, v19_5, v19_6, v19_7, v19_8, v19_9, v19_10, v19_11, v19_12, v19_13, v19_14, v19_15, v19_16, v19_17, v19_18, v19_19, v19_20, v19_21, v19_22, v19_23, v19_24, v19_25, v19_26, v19_27, v19_28, v19_29, v19_30, v19_31, v19_32, .int (zI (z19_thrown)), .ref q_tp, .int (zI (z19_size)), v19_36, v19_37, v19_38, v19_39, v19_40])), (q_tp, .inl (cT, 8192, .inl (fun j : Nat => zI (a_tp (j : Int)))))] sz) := by
  refine Met.ofW (cc := cX19_input) (maxL := 3) (ret := (some .int)) (by decide) rfl ?_
  intro p e s m args below meth c s₁ B hml hv
  obtain ⟨rfl, hsz, hP, hK, hD0⟩ := hv
  have hx := B.exec
  have hb := B.bytes
  have hr := B.returns
  have hts := atoms_spec (ws := v_X19_inputT) B.pre
  have hown : s.vm.findClass RX19 = some m.cls := findClass_of_methodNamed B.named
  have hlocks := B.notSynchronized
  have ow : ∀ {k : Nat} {w : Cond}, o_X19_inputT[k]? = some w → w.before ([.ref h0] : List Value).toArray s = true := fun h => hts _ (mow_X19_inputT _ (List.mem_of_getElem? h))
  subst hsz
  have hD := hD0.self (sz := s.heap.size)
  generalize hAe : va_A [(h0, .inr (16, [v19_0, v19_1, v19_2, v19_3, v19_4, v19_5, v19_6, v19_7, v19_8, v19_9, v19_10, v19_11, v19_12, v19_13, v19_14, v19_15, v19_16, v19_17, v19_18, v19_19, v19_20, v19_21, v19_22, v19_23, v19_24, v19_25, v19_26, v19_27, v19_28, v19_29, v19_30, v19_31, v19_32, .int (zI (z19_thrown)), .ref q_tp, .int (zI (z19_size)), v19_36, v19_37, v19_38, v19_39, v19_40])), (q_tp, .inl (cT, 8192, .inl (fun j : Nat => zI (a_tp (j : Int)))))] s.heap.size = A at hD ⊢
  have hA : ∀ q : Nat, s.heap.size ≤ q → A q := fun q h => by rw [← hAe]; exact Or.inr h
  have hS : va_S A s.heap s.heap [] := va_S.rf
  have hP : va_P (dC, dI) vwQ [(h0, .inr (16, [v19_0, v19_1, v19_2, v19_3, v19_4, v19_5, v19_6, v19_7, v19_8, v19_9, v19_10, v19_11, v19_12, v19_13, v19_14, v19_15, v19_16, v19_17, v19_18, v19_19, v19_20, v19_21, v19_22, v19_23, v19_24, v19_25, v19_26, v19_27, v19_28, v19_29, v19_30, v19_31, v19_32, .int (zI (z19_thrown)), .ref q_tp, .int (zI (z19_size)), v19_36, v19_37, v19_38, v19_39, v19_40])), (q_tp, .inl (cT, 8192, .inl (fun j : Nat => zI (a_tp (j : Int)))))] s.heap := hP
  have hl := lv_entry ([.ref h0]) (n := 3) (Nat.le_of_ble_eq_true rfl)
  rw [lg_entry_eq]
  generalize (lg_sl ([.ref h0]) ++ List.replicate (3 - (lg_sl ([.ref h0])).length) Slot.unset).toArray = ls at hl ⊢
  have hl : lv_has ls 3 [(0, .ref h0)] := hl
  obtain ⟨H, hH⟩ : ∃ H, H = s.heap := ⟨_, rfl⟩
  rw [← hH] at hP
  have hS : va_S A s.heap H [] := by rw [hH]; exact hS
  rw [← hH]
  refine zW_cap (fun Q hQ => ?_)
  refine lv_aload_n hx hb dX19_input_0 rfl (lv_at hl 0 rfl) ?_
  refine lv_iconst (v := 0) hx hb dX19_input_1 (by decide) ?_
  refine va_put (D := (dC, dI)) (ci := 16) (v := .int 0) (ty := .int) (C := RX19) (T := TX19) (N := 41) hx hb hts mem_X19_inputT_0 tyX19 tyX19_ok nmX19 hown hK hP hD hS 0 rfl rfl 33 (by decide) (ow (k := 0) rfl) (fun _ h9 => h9) rfl (by decide +kernel) rfl rfl (by first | exact Nat.le_of_ble_eq_true rfl | exact (show 0 ≤ 1 from (by omega)) | exact (show 0 ≤ (z19_size / 4).toNat from (by omega))) dX19_input_2 (fun H locs hP hD hS => ?_)
  have hP : va_P (dC, dI) vwQ [(h0, .inr (16, [v19_0, v19_1, v19_2, v19_3, v19_4, v19_5, v19_6, v19_7, v19_8, v19_9, v19_10, v19_11, v19_12, v19_13, v19_14, v19_15, v19_16, v19_17, v19_18, v19_19, v19_20, v19_21, v19_22, v19_23, v19_24, v19_25, v19_26, v19_27, v19_28, v19_29, v19_30, v19_31, v19_32, .int 0, .ref q_tp, .int (zI (z19_size)), v19_36, v19_37, v19_38, v19_39, v19_40])), (q_tp, .inl (cT, 8192, .inl (fun j : Nat => zI (a_tp (j : Int)))))] H := hP
  have hD : va_D A [(h0, .inr (16, [v19_0, v19_1, v19_2, v19_3, v19_4, v19_5, v19_6, v19_7, v19_8, v19_9, v19_10, v19_11, v19_12, v19_13, v19_14, v19_15, v19_16, v19_17, v19_18, v19_19, v19_20, v19_21, v19_22, v19_23, v19_24, v19_25, v19_26, v19_27, v19_28, v19_29, v19_30, v19_31, v19_32, .int 0, .ref q_tp, .int (zI (z19_size)), v19_36, v19_37, v19_38, v19_39, v19_40])), (q_tp, .inl (cT, 8192, .inl (fun j : Nat => zI (a_tp (j : Int)))))] := hD
  refine lv_aload_n hx hb dX19_input_5 rfl (lv_at hl 0 rfl) ?_
  refine lv_aload_n hx hb dX19_input_6 rfl (lv_at hl 0 rfl) ?_
  refine va_get (D := (dC, dI)) (ci := 16) (v := .int (zI (z19_size))) (C := RX19) (T := TX19) (N := 41) hx hb hts mem_X19_inputT_0 hown hK hP 0 rfl rfl 35 (by decide) (ow (k := 1) rfl) (fun _ h9 => h9) rfl dX19_input_7 ?_
  refine lv_iconst (v := 4) hx hb dX19_input_10 (by decide) ?_
  refine lv_idiv hx hb dX19_input_11 (by decide) ?_
  refine lv_topi (fun z ez => ?_)
  obtain rfl : z = zI ((z19_size) / 4) := ez.trans (zI_div (a := z19_size) 4 (by omega) (by omega) (by decide) (by decide))
  obtain ⟨nw_3, enw_3⟩ : ∃ n9 : Nat, (n9 : Int) = (z19_size) / 4 := ⟨((z19_size) / 4).toNat, by omega⟩
  refine va_newa (ty := .int) (n := zI ((z19_size) / 4)) (N' := nw_3) (a0 := (nw_3, .inl (fun _ => 0))) hx hb (ow (k := 2) rfl) rfl hK hP hD hS hA (fun _ => rfl) (zI_nn (by omega) (by omega)) (by rw [zI_cl (by omega) (by omega)]; omega) (by show nw_3 * 4 ≤ 536870912; omega) (show 0 + 1 ≤ 1 from (by omega)) (show 0 + nw_3 ≤ (z19_size / 4).toNat from (by omega)) dX19_input_12 (fun q_1 cA_2 H hK hP hD hS => ?_)
  obtain ⟨az_4, eaz_4⟩ : ∃ f9 : Int → Int, f9 = (fun _ => 0) := ⟨_, rfl⟩
  have hP : va_P (dC, dI) vwQ [(h0, .inr (16, [v19_0, v19_1, v19_2, v19_3, v19_4, v19_5, v19_6, v19_7, v19_8, v19_9, v19_10, v19_11, v19_12, v19_13, v19_14, v19_15, v19_16, v19_17, v19_18, v19_19, v19_20, v19_21, v19_22, v19_23, v19_24, v19_25, v19_26, v19_27, v19_28, v19_29, v19_30, v19_31, v19_32, .int 0, .ref q_tp, .int (zI (z19_size)), v19_36, v19_37, v19_38, v19_39, v19_40])), (q_tp, .inl (cT, 8192, .inl (fun j : Nat => zI (a_tp (j : Int))))), (q_1, .inl (cA_2, nw_3, .inl (fun _ => 0)))] H := hP
  have hD : va_D A [(h0, .inr (16, [v19_0, v19_1, v19_2, v19_3, v19_4, v19_5, v19_6, v19_7, v19_8, v19_9, v19_10, v19_11, v19_12, v19_13, v19_14, v19_15, v19_16, v19_17, v19_18, v19_19, v19_20, v19_21, v19_22, v19_23, v19_24, v19_25, v19_26, v19_27, v19_28, v19_29, v19_30, v19_31, v19_32, .int 0, .ref q_tp, .int (zI (z19_size)), v19_36, v19_37, v19_38, v19_39, v19_40])), (q_tp, .inl (cT, 8192, .inl (fun j : Nat => zI (a_tp (j : Int))))), (q_1, .inl (cA_2, nw_3, .inl (fun _ => 0)))] := hD
  rw [show (fun _ : Nat => (0 : Int32)) = (fun j : Nat => zI (az_4 (j : Int))) from (by rw [eaz_4]; rfl)] at hP hD
  have hP : va_P (dC, dI) vwQ [(h0, .inr (16, [v19_0, v19_1, v19_2, v19_3, v19_4, v19_5, v19_6, v19_7, v19_8, v19_9, v19_10, v19_11, v19_12, v19_13, v19_14, v19_15, v19_16, v19_17, v19_18, v19_19, v19_20, v19_21, v19_22, v19_23, v19_24, v19_25, v19_26, v19_27, v19_28, v19_29, v19_30, v19_31, v19_32, .int 0, .ref q_tp, .int (zI (z19_size)), v19_36, v19_37, v19_38, v19_39, v19_40])), (q_tp, .inl (cT, 8192, .inl (fun j : Nat => zI (a_tp (j : Int))))), (q_1, .inl (cA_2, nw_3, .inl (fun j : Nat => zI (az_4 (j : Int)))))] H := hP
  have hD : va_D A [(h0, .inr (16, [v19_0, v19_1, v19_2, v19_3, v19_4, v19_5, v19_6, v19_7, v19_8, v19_9, v19_10, v19_11, v19_12, v19_13, v19_14, v19_15, v19_16, v19_17, v19_18, v19_19, v19_20, v19_21, v19_22, v19_23, v19_24, v19_25, v19_26, v19_27, v19_28, v19_29, v19_30, v19_31, v19_32, .int 0, .ref q_tp, .int (zI (z19_size)), v19_36, v19_37, v19_38, v19_39, v19_40])), (q_tp, .inl (cT, 8192, .inl (fun j : Nat => zI (a_tp (j : Int))))), (q_1, .inl (cA_2, nw_3, .inl (fun j : Nat => zI (az_4 (j : Int)))))] := hD
  have raz_4 : ∀ j : Int, -2147483648 ≤ az_4 j ∧ az_4 j ≤ 2147483647 := (fun j => by rw [eaz_4]; show -2147483648 ≤ (0 : Int) ∧ (0 : Int) ≤ 2147483647; omega)
  have hK : va_K (dC, dI) vwQ [(cT, .byte), (cA_2, .int)] s := hK
  refine va_put (D := (dC, dI)) (ci := 16) (v := .ref q_1) (ty := .array .int) (C := RX19) (T := TX19) (N := 41) hx hb hts mem_X19_inputT_0 tyX19 tyX19_ok nmX19 hown hK hP hD hS 0 rfl rfl 40 (by decide) (ow (k := 3) rfl) (fun _ h9 => h9) rfl (by decide +kernel) rfl rfl (by first | exact Nat.le_of_ble_eq_true rfl | exact (show 1 ≤ 1 from (by omega)) | exact (show (0 + nw_3) ≤ (z19_size / 4).toNat from (by omega))) dX19_input_14 (fun H locs hP hD hS => ?_)
  have hP : va_P (dC, dI) vwQ [(h0, .inr (16, [v19_0, v19_1, v19_2, v19_3, v19_4, v19_5, v19_6, v19_7, v19_8, v19_9, v19_10, v19_11, v19_12, v19_13, v19_14, v19_15, v19_16, v19_17, v19_18, v19_19, v19_20, v19_21, v19_22, v19_23, v19_24, v19_25, v19_26, v19_27, v19_28, v19_29, v19_30, v19_31, v19_32, .int 0, .ref q_tp, .int (zI (z19_size)), v19_36, v19_37, v19_38, v19_39, .ref q_1])), (q_tp, .inl (cT, 8192, .inl (fun j : Nat => zI (a_tp (j : Int))))), (q_1, .inl (cA_2, nw_3, .inl (fun j : Nat => zI (az_4 (j : Int)))))] H := hP
  have hD : va_D A [(h0, .inr (16, [v19_0, v19_1, v19_2, v19_3, v19_4, v19_5, v19_6, v19_7, v19_8, v19_9, v19_10, v19_11, v19_12, v19_13, v19_14, v19_15, v19_16, v19_17, v19_18, v19_19, v19_20, v19_21, v19_22, v19_23, v19_24, v19_25, v19_26, v19_27, v19_28, v19_29, v19_30, v19_31, v19_32, .int 0, .ref q_tp, .int (zI (z19_size)), v19_36, v19_37, v19_38, v19_39, .ref q_1])), (q_tp, .inl (cT, 8192, .inl (fun j : Nat => zI (a_tp (j : Int))))), (q_1, .inl (cA_2, nw_3, .inl (fun j : Nat => zI (az_4 (j : Int)))))] := hD
  refine lv_iconst (v := 0) hx hb dX19_input_17 (by decide) ?_
  refine lv_istore_n (lv' := [(1, .int 0), (0, .ref h0)]) hx hb dX19_input_18 rfl hl (by decide) rfl (fun ls hl => ?_)
  have key19 : ∀ n19 : Nat, ∀ (d19_1 : Int) (w19_1 : Int → Int) (ls : Array Slot) (H : Heap) (locs : List Loc), (0 ≤ d19_1 ∧ d19_1 ≤ 2048) → (∀ j : Int, -2147483648 ≤ w19_1 j ∧ w19_1 j ≤ 2147483647) → ((3000 - d19_1 : Int).toNat) < n19 → lv_has ls 3 [(0, .ref h0), (1, .int (zI (d19_1)))] → va_P (dC, dI) vwQ [(h0, .inr (16, [v19_0, v19_1, v19_2, v19_3, v19_4, v19_5, v19_6, v19_7, v19_8, v19_9, v19_10, v19_11, v19_12, v19_13, v19_14, v19_15, v19_16, v19_17, v19_18, v19_19, v19_20, v19_21, v19_22, v19_23, v19_24, v19_25, v19_26, v19_27, v19_28, v19_29, v19_30, v19_31, v19_32, .int 0, .ref q_tp, .int (zI (z19_size)), v19_36, v19_37, v19_38, v19_39, .ref q_1])), (q_tp, .inl (cT, 8192, .inl (fun j : Nat => zI (a_tp (j : Int))))), (q_1, .inl (cA_2, nw_3, .inl (fun j : Nat => zI (w19_1 (j : Int)))))] H → va_D A [(h0, .inr (16, [v19_0, v19_1, v19_2, v19_3, v19_4, v19_5, v19_6, v19_7, v19_8, v19_9, v19_10, v19_11, v19_12, v19_13, v19_14, v19_15, v19_16, v19_17, v19_18, v19_19, v19_20, v19_21, v19_22, v19_23, v19_24, v19_25, v19_26, v19_27, v19_28, v19_29, v19_30, v19_31, v19_32, .int 0, .ref q_tp, .int (zI (z19_size)), v19_36, v19_37, v19_38, v19_39, .ref q_1])), (q_tp, .inl (cT, 8192, .inl (fun j : Nat => zI (a_tp (j : Int))))), (q_1, .inl (cA_2, nw_3, .inl (fun j : Nat => zI (w19_1 (j : Int)))))] → va_S A s.heap H locs → W p l e (headSpec v_X19_inputT ({ frames := 0, cells := (1), slots := ((z19_size / 4).toNat), locals := 0 })).room s m ([.ref h0] : List Value).toArray below meth c H locs 1 (0 + nw_3) Q (F0 m 19 ls []) := by
    intro n19
    induction n19 with
    | zero => intro d19_1 w19_1 ls H locs jd19_1 jw19_1 hm19; exact absurd hm19 (by omega)
    | succ n19 ih19 =>
      intro d19_1 w19_1 ls H locs jd19_1 jw19_1 hm19 hl hP hD hS
      refine lv_iload_n hx hb dX19_input_19 rfl (lv_at hl 1 rfl) ?_
      refine lv_aload_n hx hb dX19_input_20 rfl (lv_at hl 0 rfl) ?_
      refine va_get (D := (dC, dI)) (ci := 16) (v := .ref q_1) (C := RX19) (T := TX19) (N := 41) hx hb hts mem_X19_inputT_0 hown hK hP 0 rfl rfl 40 (by decide) (ow (k := 3) rfl) (fun _ h9 => h9) rfl dX19_input_21 ?_
      refine va_alen (v := zI ((nw_3 : Int))) hx hb hK hP 2 1 rfl rfl (zI_ofNat nw_3) dX19_input_24 ?_
      refine lv_icmp_ge (tgt := 77) hx hb dX19_input_25 (by decide) (fun b25 => ?_) (fun b25 => ?_)
      · have yb25 : ((nw_3 : Int) : Int) ≤ (d19_1 : Int) := (zI_le (a := (nw_3 : Int)) (b := d19_1) (by omega) (by omega) (by omega) (by omega)).mp b25
        refine lv_aload_n hx hb dX19_input_77 rfl (lv_at hl 0 rfl) ?_
        refine lv_iconst (v := 0) hx hb dX19_input_78 (by decide) ?_
        refine va_put (D := (dC, dI)) (ci := 16) (v := .int 0) (ty := .int) (C := RX19) (T := TX19) (N := 41) hx hb hts mem_X19_inputT_0 tyX19 tyX19_ok nmX19 hown hK hP hD hS 0 rfl rfl 35 (by decide) (ow (k := 1) rfl) (fun _ h9 => h9) rfl (by decide +kernel) rfl rfl (by first | exact Nat.le_of_ble_eq_true rfl | exact (show 1 ≤ 1 from (by omega)) | exact (show (0 + nw_3) ≤ (z19_size / 4).toNat from (by omega))) dX19_input_79 (fun H locs hP hD hS => ?_)
        have hP : va_P (dC, dI) vwQ [(h0, .inr (16, [v19_0, v19_1, v19_2, v19_3, v19_4, v19_5, v19_6, v19_7, v19_8, v19_9, v19_10, v19_11, v19_12, v19_13, v19_14, v19_15, v19_16, v19_17, v19_18, v19_19, v19_20, v19_21, v19_22, v19_23, v19_24, v19_25, v19_26, v19_27, v19_28, v19_29, v19_30, v19_31, v19_32, .int 0, .ref q_tp, .int 0, v19_36, v19_37, v19_38, v19_39, .ref q_1])), (q_tp, .inl (cT, 8192, .inl (fun j : Nat => zI (a_tp (j : Int))))), (q_1, .inl (cA_2, nw_3, .inl (fun j : Nat => zI (w19_1 (j : Int)))))] H := hP
        have hD : va_D A [(h0, .inr (16, [v19_0, v19_1, v19_2, v19_3, v19_4, v19_5, v19_6, v19_7, v19_8, v19_9, v19_10, v19_11, v19_12, v19_13, v19_14, v19_15, v19_16, v19_17, v19_18, v19_19, v19_20, v19_21, v19_22, v19_23, v19_24, v19_25, v19_26, v19_27, v19_28, v19_29, v19_30, v19_31, v19_32, .int 0, .ref q_tp, .int 0, v19_36, v19_37, v19_38, v19_39, .ref q_1])), (q_tp, .inl (cT, 8192, .inl (fun j : Nat => zI (a_tp (j : Int))))), (q_1, .inl (cA_2, nw_3, .inl (fun j : Nat => zI (w19_1 (j : Int)))))] := hD
        refine lv_aload_n hx hb dX19_input_82 rfl (lv_at hl 0 rfl) ?_
        refine va_get (D := (dC, dI)) (ci := 16) (v := .ref q_1) (C := RX19) (T := TX19) (N := 41) hx hb hts mem_X19_inputT_0 hown hK hP 0 rfl rfl 40 (by decide) (ow (k := 3) rfl) (fun _ h9 => h9) rfl dX19_input_83 ?_
        refine va_alen (v := zI ((nw_3 : Int))) hx hb hK hP 2 1 rfl rfl (zI_ofNat nw_3) dX19_input_86 ?_
        subst hQ
        refine W.widen (k := (1)) (n := ((z19_size / 4).toNat)) (by omega) (by omega) ?_
        exact W.iret (v := (zI ((nw_3 : Int)))) hx hb hr (fun t ht hW => ⟨⟨(zI ((nw_3 : Int))), ((nw_3 : Int)), rfl, ⟨rfl, (by omega)⟩, 0, 0, q_1, cA_2, nw_3, w19_1, ⟨(by omega), (by omega), jw19_1, ⟨by omega, by omega, by omega⟩⟩, by rw [ht]; exact hP, va_K.moved hW.alike hK, hD⟩, hS.F ht⟩) hS.2.2 dX19_input_87
      · have yb25 : ¬ ((nw_3 : Int) : Int) ≤ (d19_1 : Int) := fun q => b25 ((zI_le (a := (nw_3 : Int)) (b := d19_1) (by omega) (by omega) (by omega) (by omega)).mpr q)
        refine lv_iconst (v := 0) hx hb dX19_input_28 (by decide) ?_
        refine lv_istore_n (lv' := [(2, .int 0), (0, .ref h0), (1, .int (zI (d19_1)))]) hx hb dX19_input_29 rfl hl (by decide) rfl (fun ls hl => ?_)
        have key30 : ∀ n30 : Nat, ∀ (d30_2 : Int) (w30_1 : Int → Int) (ls : Array Slot) (H : Heap) (locs : List Loc), (0 ≤ d30_2 ∧ d30_2 ≤ 4) → (∀ j : Int, -2147483648 ≤ w30_1 j ∧ w30_1 j ≤ 2147483647) → ((10 - d30_2 : Int).toNat) < n30 → lv_has ls 3 [(0, .ref h0), (1, .int (zI (d19_1))), (2, .int (zI (d30_2)))] → va_P (dC, dI) vwQ [(h0, .inr (16, [v19_0, v19_1, v19_2, v19_3, v19_4, v19_5, v19_6, v19_7, v19_8, v19_9, v19_10, v19_11, v19_12, v19_13, v19_14, v19_15, v19_16, v19_17, v19_18, v19_19, v19_20, v19_21, v19_22, v19_23, v19_24, v19_25, v19_26, v19_27, v19_28, v19_29, v19_30, v19_31, v19_32, .int 0, .ref q_tp, .int (zI (z19_size)), v19_36, v19_37, v19_38, v19_39, .ref q_1])), (q_tp, .inl (cT, 8192, .inl (fun j : Nat => zI (a_tp (j : Int))))), (q_1, .inl (cA_2, nw_3, .inl (fun j : Nat => zI (w30_1 (j : Int)))))] H → va_D A [(h0, .inr (16, [v19_0, v19_1, v19_2, v19_3, v19_4, v19_5, v19_6, v19_7, v19_8, v19_9, v19_10, v19_11, v19_12, v19_13, v19_14, v19_15, v19_16, v19_17, v19_18, v19_19, v19_20, v19_21, v19_22, v19_23, v19_24, v19_25, v19_26, v19_27, v19_28, v19_29, v19_30, v19_31, v19_32, .int 0, .ref q_tp, .int (zI (z19_size)), v19_36, v19_37, v19_38, v19_39, .ref q_1])), (q_tp, .inl (cT, 8192, .inl (fun j : Nat => zI (a_tp (j : Int))))), (q_1, .inl (cA_2, nw_3, .inl (fun j : Nat => zI (w30_1 (j : Int)))))] → va_S A s.heap H locs → W p l e (headSpec v_X19_inputT ({ frames := 0, cells := (1), slots := ((z19_size / 4).toNat), locals := 0 })).room s m ([.ref h0] : List Value).toArray below meth c H locs 1 (0 + nw_3) Q (F0 m 30 ls []) := by
          intro n30
          induction n30 with
          | zero => intro d30_2 w30_1 ls H locs jd30_2 jw30_1 hm30; exact absurd hm30 (by omega)
          | succ n30 ih30 =>
            intro d30_2 w30_1 ls H locs jd30_2 jw30_1 hm30 hl hP hD hS
            refine lv_iload_n hx hb dX19_input_30 rfl (lv_at hl 2 rfl) ?_
            refine lv_iconst (v := 4) hx hb dX19_input_31 (by decide) ?_
            refine lv_icmp_ge (tgt := 71) hx hb dX19_input_32 (by decide) (fun b32 => ?_) (fun b32 => ?_)
            · have yb32 : (4 : Int) ≤ (d30_2 : Int) := (zI_le (a := 4) (b := d30_2) (by omega) (by omega) (by omega) (by omega)).mp b32
              refine lv_iinc (v := zI (d19_1 + 1)) (lv' := [(1, .int (zI (d19_1 + 1))), (0, .ref h0), (2, .int (zI (d30_2)))]) hx hb dX19_input_71 hl (k := 1) rfl (zI_add (d19_1) (1)) (by decide) rfl (fun ls hl => ?_)
              refine lv_goto (tgt := 19) hx hb dX19_input_74 (by decide) ?_
              exact ih19 (d19_1 + 1) w30_1 ls H _ (by omega) jw30_1 (by omega) (lv_sub hl [1, 0] rfl) hP hD hS
            · have yb32 : ¬ (4 : Int) ≤ (d30_2 : Int) := fun q => b32 ((zI_le (a := 4) (b := d30_2) (by omega) (by omega) (by omega) (by omega)).mpr q)
              refine lv_aload_n hx hb dX19_input_35 rfl (lv_at hl 0 rfl) ?_
              refine va_get (D := (dC, dI)) (ci := 16) (v := .ref q_1) (C := RX19) (T := TX19) (N := 41) hx hb hts mem_X19_inputT_0 hown hK hP 0 rfl rfl 40 (by decide) (ow (k := 3) rfl) (fun _ h9 => h9) rfl dX19_input_36 ?_
              refine lv_iload_n hx hb dX19_input_39 rfl (lv_at hl 1 rfl) ?_
              refine lv_aload_n hx hb dX19_input_40 rfl (lv_at hl 0 rfl) ?_
              refine va_get (D := (dC, dI)) (ci := 16) (v := .ref q_1) (C := RX19) (T := TX19) (N := 41) hx hb hts mem_X19_inputT_0 hown hK hP 0 rfl rfl 40 (by decide) (ow (k := 3) rfl) (fun _ h9 => h9) rfl dX19_input_41 ?_
              refine lv_iload_n hx hb dX19_input_44 rfl (lv_at hl 1 rfl) ?_
              refine va_iald hx hb hK hP 2 1 rfl rfl (zI_in (a := d19_1) (n := nw_3) (by omega) (by omega) (by omega)) dX19_input_45 ?_
              refine lv_topi (fun z ez => ?_)
              obtain rfl : z = zI (w30_1 (d19_1)) := ez.trans (zI_ld (w30_1) (by omega) (by omega))
              have k1 := jw30_1 (d19_1)
              refine lv_bipush (v := 8) hx hb dX19_input_46 (by decide) ?_
              refine lv_ishl hx hb dX19_input_48 ?_
              refine lv_topi (fun x_5 _ => ?_)
              refine lv_aload_n hx hb dX19_input_49 rfl (lv_at hl 0 rfl) ?_
              refine va_get (D := (dC, dI)) (ci := 16) (v := .ref q_tp) (C := RX19) (T := TX19) (N := 41) hx hb hts mem_X19_inputT_0 hown hK hP 0 rfl rfl 34 (by decide) (ow (k := 4) rfl) (fun _ h9 => h9) rfl dX19_input_50 ?_
              refine lv_iconst (v := 4) hx hb dX19_input_53 (by decide) ?_
              refine lv_iload_n hx hb dX19_input_54 rfl (lv_at hl 1 rfl) ?_
              refine lv_imul hx hb dX19_input_55 ?_
              refine lv_topi (fun z ez => ?_)
              obtain rfl : z = zI (4 * d19_1) := ez.trans (zI_mul (4) (d19_1))
              refine lv_iload_n hx hb dX19_input_56 rfl (lv_at hl 2 rfl) ?_
              refine lv_iadd hx hb dX19_input_57 ?_
              refine lv_topi (fun z ez => ?_)
              obtain rfl : z = zI ((4 * d19_1) + d30_2) := ez.trans (zI_add (4 * d19_1) (d30_2))
              refine va_bald hx hb hK hP 1 0 rfl rfl (zI_in (a := (4 * d19_1) + d30_2) (n := 8192) (by omega) (by omega) (by decide)) dX19_input_58 ?_
              refine lv_topi (fun z ez => ?_)
              obtain rfl : z = zI (a_tp ((4 * d19_1) + d30_2)) := ez.trans (zI_ld (a_tp) (by omega) (by omega))
              have k2 := hR_a_tp ((4 * d19_1) + d30_2)
              refine lv_sipush (v := 255) hx hb dX19_input_59 (by decide) ?_
              refine lv_iand hx hb dX19_input_62 ?_
              refine lv_topi (fun z9 ez => ?_)
              obtain ⟨z_6, rfl, hzz_6⟩ := zI_and 8 (m := 255) (by decide) (by decide) ez
              refine lv_ior hx hb dX19_input_63 ?_
              refine lv_topi (fun x_7 _ => ?_)
              obtain ⟨ve_8, eve_8, hrve_8⟩ := zI_allR x_7
              rw [eve_8]
              refine va_iast (i := zI (d19_1)) hx hb hK hP hD hS 2 1 rfl rfl (zI_in (a := d19_1) (n := nw_3) (by omega) (by omega) (by omega)) dX19_input_64 (fun H locs hP hD hS => ?_)
              have eQ : upd (fun j : Nat => zI (w30_1 (j : Int))) (zI (d19_1)).toNatClampNeg (zI (ve_8)) = (fun j : Nat => zI (zup w30_1 (d19_1) (ve_8) (j : Int))) := zI_st w30_1 (e := d19_1) (v := ve_8) (by omega) (by omega)
              rw [eQ] at hP hD
              clear eQ
              have ra_9 : ∀ j : Int, -2147483648 ≤ zup w30_1 (d19_1) (ve_8) j ∧ zup w30_1 (d19_1) (ve_8) j ≤ 2147483647 := zup_P (P := fun x9 => -2147483648 ≤ x9 ∧ x9 ≤ 2147483647) jw30_1 (show -2147483648 ≤ (ve_8) ∧ (ve_8) ≤ 2147483647 by omega)
              generalize zup w30_1 (d19_1) (ve_8) = a_9 at hP hD ra_9
              have hP : va_P (dC, dI) vwQ [(h0, .inr (16, [v19_0, v19_1, v19_2, v19_3, v19_4, v19_5, v19_6, v19_7, v19_8, v19_9, v19_10, v19_11, v19_12, v19_13, v19_14, v19_15, v19_16, v19_17, v19_18, v19_19, v19_20, v19_21, v19_22, v19_23, v19_24, v19_25, v19_26, v19_27, v19_28, v19_29, v19_30, v19_31, v19_32, .int 0, .ref q_tp, .int (zI (z19_size)), v19_36, v19_37, v19_38, v19_39, .ref q_1])), (q_tp, .inl (cT, 8192, .inl (fun j : Nat => zI (a_tp (j : Int))))), (q_1, .inl (cA_2, nw_3, .inl (fun j : Nat => zI (a_9 (j : Int)))))] H := hP
              have hD : va_D A [(h0, .inr (16, [v19_0, v19_1, v19_2, v19_3, v19_4, v19_5, v19_6, v19_7, v19_8, v19_9, v19_10, v19_11, v19_12, v19_13, v19_14, v19_15, v19_16, v19_17, v19_18, v19_19, v19_20, v19_21, v19_22, v19_23, v19_24, v19_25, v19_26, v19_27, v19_28, v19_29, v19_30, v19_31, v19_32, .int 0, .ref q_tp, .int (zI (z19_size)), v19_36, v19_37, v19_38, v19_39, .ref q_1])), (q_tp, .inl (cT, 8192, .inl (fun j : Nat => zI (a_tp (j : Int))))), (q_1, .inl (cA_2, nw_3, .inl (fun j : Nat => zI (a_9 (j : Int)))))] := hD
              refine lv_iinc (v := zI (d30_2 + 1)) (lv' := [(2, .int (zI (d30_2 + 1))), (0, .ref h0), (1, .int (zI (d19_1)))]) hx hb dX19_input_65 hl (k := 2) rfl (zI_add (d30_2) (1)) (by decide) rfl (fun ls hl => ?_)
              refine lv_goto (tgt := 30) hx hb dX19_input_68 (by decide) ?_
              exact ih30 (d30_2 + 1) a_9 ls H _ (by omega) ra_9 (by omega) (lv_sub hl [1, 2, 0] rfl) hP hD hS
        exact key30 ((10 - 0 : Int).toNat + 1) 0 w19_1 ls H _ (by omega) jw19_1 (by omega) (lv_sub hl [1, 2, 0] rfl) hP hD hS
  exact key19 ((3000 - 0 : Int).toNat + 1) 0 az_4 ls H _ (by omega) raz_4 (by omega) (lv_sub hl [1, 0] rfl) hP hD hS
