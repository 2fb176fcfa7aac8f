theorem dX19_input_0 : decode cX19_input 0 = .ok (.aload_n 0, 1) := by decide +kernel
theorem dX19_input_1 : decode cX19_input 1 = .ok (.iconst 0, 1) := by decide +kernel
theorem dX19_input_2 : decode cX19_input 2 = .ok (.putfield 560, 3) := by decide +kernel
theorem dX19_input_5 : decode cX19_input 5 = .ok (.aload_n 0, 1) := by decide +kernel
theorem dX19_input_6 : decode cX19_input 6 = .ok (.aload_n 0, 1) := by decide +kernel
theorem dX19_input_7 : decode cX19_input 7 = .ok (.getfield 563, 3) := by decide +kernel
theorem dX19_input_10 : decode cX19_input 10 = .ok (.iconst 4, 1) := by decide +kernel
theorem dX19_input_11 : decode cX19_input 11 = .ok (.idiv, 1) := by decide +kernel
theorem dX19_input_12 : decode cX19_input 12 = .ok (.newarray .int, 2) := by decide +kernel
theorem dX19_input_14 : decode cX19_input 14 = .ok (.putfield 483, 3) := by decide +kernel
theorem dX19_input_17 : decode cX19_input 17 = .ok (.iconst 0, 1) := by decide +kernel
theorem dX19_input_18 : decode cX19_input 18 = .ok (.istore_n 1, 1) := by decide +kernel
theorem dX19_input_19 : decode cX19_input 19 = .ok (.iload_n 1, 1) := by decide +kernel
theorem dX19_input_20 : decode cX19_input 20 = .ok (.aload_n 0, 1) := by decide +kernel
theorem dX19_input_21 : decode cX19_input 21 = .ok (.getfield 483, 3) := by decide +kernel
theorem dX19_input_24 : decode cX19_input 24 = .ok (.arraylength, 1) := by decide +kernel
theorem dX19_input_25 : decode cX19_input 25 = .ok (.if_icmp .ge 52, 3) := by decide +kernel
theorem dX19_input_77 : decode cX19_input 77 = .ok (.aload_n 0, 1) := by decide +kernel
theorem dX19_input_78 : decode cX19_input 78 = .ok (.iconst 0, 1) := by decide +kernel
theorem dX19_input_79 : decode cX19_input 79 = .ok (.putfield 563, 3) := by decide +kernel
theorem dX19_input_82 : decode cX19_input 82 = .ok (.aload_n 0, 1) := by decide +kernel
theorem dX19_input_83 : decode cX19_input 83 = .ok (.getfield 483, 3) := by decide +kernel
theorem dX19_input_86 : decode cX19_input 86 = .ok (.arraylength, 1) := by decide +kernel
theorem dX19_input_87 : decode cX19_input 87 = .ok (.ireturn, 1) := by decide +kernel
def o_X19_input : List Cond := [.fieldLink RX19 560 "SsaForgeModel" "thrown" "I", .fieldLink RX19 563 "SsaForgeModel" "size" "I", .arrayClass .int, .fieldLink RX19 483 "SsaForgeModel" "input" "[I"]
def v_X19_input : List Cond := .code yX19_input cX19_input 3 (some .int) :: (o_X19_input ++ (wsX190 ++ []))
theorem mow_X19_input : ∀ w ∈ o_X19_input, w ∈ v_X19_input := fun _ h => List.mem_cons_of_mem _ (List.mem_append_left _ h)
theorem mem_X19_input_0 : ∀ w ∈ wsX190, w ∈ v_X19_input := fun _ h => List.mem_cons_of_mem _ (List.mem_append_right _ (List.mem_append_left _ h))
set_option maxRecDepth 20000 in
theorem gw_X19_input : v_X19_input.all goodWord = true := by decide +kernel
set_option maxHeartbeats 4000000 in
set_option maxRecDepth 100000 in
theorem c_X19_input (l : Launch) (dC : Nat → ClassId) (dI : Nat → Nat → Nat) (h0 : Nat) (q_1 : Nat) (q_12 : Nat) (q_17 : Nat) (q_22 : Nat) (q_24 : Nat) (q_26 : Nat) (q_28 : Nat) (q_29 : Nat) (q_31 : Nat) (q_33 : Nat) (q_35 : Nat) (q_37 : Nat) (q_39 : Nat) (q_41 : Nat) (q_43 : Nat) (q_45 : Nat) (q_47 : Nat) (q_49 : Nat) (q_51 : Nat) (q_53 : Nat) (q_55 : Nat) (q_57 : Nat) (q_59 : Nat) (q_61 : Nat) (q_63 : Nat) (q_65 : Nat) (q_68 : Nat) (q_70 : Nat) (q_72 : Nat) (sz : Nat) : Met l yX19_input v_X19_input ({ frames := 0, cells := 1, slots := 0, locals := 0 }) (va_Pc [.ref h0] (fun U => U.heap.size = sz ∧ va_P (dC, dI) vwP [(h0, .inr (16, [.ref q_1, .ref q_12, .ref q_17, .ref q_22, .ref q_24, .ref q_26, .ref q_28, .ref q_29, .ref q_31, .ref q_33, .ref q_35, .int 0, .ref q_37, .ref q_39, .ref q_41, .ref q_43, .ref q_45, .ref q_47, .ref q_49, .ref q_51, .ref q_53, .ref q_55, .ref q_57, .int 0, .ref q_59, .ref q_61, .ref q_63, .int (-1), .int 0, .int 0, .int 0, .int 0, .ref q_65, .int 0, .ref q_68, .int 0, .int (-1), .int 0, .int 0, .ref q_70, .ref q_72]))] U.heap ∧ va_K (dC, dI) vwP [] U ∧ va_D (fun _ => True) [(h0, .inr (16, [.ref q_1, .ref q_12, .ref q_17, .ref q_22, .ref q_24, .ref q_26, .ref q_28, .ref q_29, .ref q_31, .ref q_33, .ref q_35, .int 0, .ref q_37, .ref q_39, .ref q_41, .ref q_43, .ref q_45, .ref q_47, .ref q_49, .ref q_51, .ref q_53, .ref q_55, .ref q_57, .int 0, .ref q_59, .ref q_61, .ref q_63, .int (-1), .int 0, .int 0, .int 0, .int 0, .ref q_65, .int 0, .ref q_68, .int 0, .int (-1), .int 0, .int 0, .ref q_70, .ref q_72]))])) (va_Qi (fun (r : Int32) (_ : Unit) => r = 0) (fun (_ : Unit) (t : State) => va_P (dC, dI) vwP [] t.heap ∧ va_K (dC, dI) vwP [] t ∧ va_D (va_A [(h0, .inr (16, [.ref q_1, .ref q_12, .ref q_17, .ref q_22, .ref q_24, .ref q_26, .ref q_28, .ref q_29, .ref q_31, .ref q_33, .ref q_35, .int 0, .ref q_37, .ref q_39, .ref q_41, .ref q_43, .ref q_45, .ref q_47, .ref q_49, .ref q_51, .ref q_53, .ref q_55, .ref q_57, .int 0, .ref q_59, .ref q_61, .ref q_63, .int (-1), .int 0, .int 0, .int 0, .int 0, .ref q_65, .int 0, .ref q_68, .int 0, .int (-1), .int 0, .int 0, .ref q_70, .ref q_72]))] sz) []) (va_A [(h0, .inr (16, [.ref q_1, .ref q_12, .ref q_17, .ref q_22, .ref q_24, .ref q_26, .ref q_28, .ref q_29, .ref q_31, .ref q_33, .ref q_35, .int 0, .ref q_37, .ref q_39, .ref q_41, .ref q_43, .ref q_45, .ref q_47, .ref q_49, .ref q_51, .ref q_53, .ref q_55, .ref q_57, .int 0, .ref q_59, .ref q_61, .ref q_63, .int (-1), .int 0, .int 0, .int 0, .int 0, .ref q_65, .int 0, .ref q_68, .int 0, .int (-1), .int 0, .int 0, .ref q_70, .ref q_72]))] sz)) 1 0 (va_A [(h0, .inr (16, [.ref q_1, .ref q_12, .ref q_17, .ref q_22, .ref q_24, .ref q_26, .ref q_28, .ref q_29, .ref q_31, .ref q_33, .ref q_35, .int 0, .ref q_37, .ref q_39, .ref q_41, .ref q_43, .ref q_45, .ref q_47, .ref q_49, .ref q_51, .ref q_53, .ref q_55, .ref q_57, .int 0, .ref q_59, .ref q_61, .ref q_63, .int (-1), .int 0, .int 0, .int 0, .int 0, .ref q_65, .int 0, .ref q_68, .int 0, .int (-1), .int 0, .int 0, .ref q_70, .ref q_72]))] sz) := by
  refine Met.ofW (cc := cX19_input) (maxL := 3) (ret := (some .int)) (by decide) rfl ?_
  intro p e s m args below meth c s₁ B hml hv
  obtain ⟨rfl, hsz, hP, hK, hD0⟩ := hv
  have hx := B.exec
  have hb := B.bytes
  have hr := B.returns
  have hts := atoms_spec (ws := v_X19_input) B.pre
  have hown : s.vm.findClass RX19 = some m.cls := findClass_of_methodNamed B.named
  have hlocks := B.notSynchronized
  have ow : ∀ {k : Nat} {w : Cond}, o_X19_input[k]? = some w → w.before ([.ref h0] : List Value).toArray s = true := fun h => hts _ (mow_X19_input _ (List.mem_of_getElem? h))
  subst hsz
  have hD := hD0.self (sz := s.heap.size)
  generalize hAe : va_A [(h0, .inr (16, [.ref q_1, .ref q_12, .ref q_17, .ref q_22, .ref q_24, .ref q_26, .ref q_28, .ref q_29, .ref q_31, .ref q_33, .ref q_35, .int 0, .ref q_37, .ref q_39, .ref q_41, .ref q_43, .ref q_45, .ref q_47, .ref q_49, .ref q_51, .ref q_53, .ref q_55, .ref q_57, .int 0, .ref q_59, .ref q_61, .ref q_63, .int (-1), .int 0, .int 0, .int 0, .int 0, .ref q_65, .int 0, .ref q_68, .int 0, .int (-1), .int 0, .int 0, .ref q_70, .ref q_72]))] s.heap.size = A at hD ⊢
  have hA : ∀ q : Nat, s.heap.size ≤ q → A q := fun q h => by rw [← hAe]; exact Or.inr h
  have hS : va_S A s.heap s.heap [] := va_S.rf
  have hP : va_P (dC, dI) vwP [(h0, .inr (16, [.ref q_1, .ref q_12, .ref q_17, .ref q_22, .ref q_24, .ref q_26, .ref q_28, .ref q_29, .ref q_31, .ref q_33, .ref q_35, .int 0, .ref q_37, .ref q_39, .ref q_41, .ref q_43, .ref q_45, .ref q_47, .ref q_49, .ref q_51, .ref q_53, .ref q_55, .ref q_57, .int 0, .ref q_59, .ref q_61, .ref q_63, .int (-1), .int 0, .int 0, .int 0, .int 0, .ref q_65, .int 0, .ref q_68, .int 0, .int (-1), .int 0, .int 0, .ref q_70, .ref q_72]))] s.heap := hP
  have hl := lv_entry ([.ref h0]) (n := 3) (Nat.le_of_ble_eq_true rfl)
  rw [lg_entry_eq]
  generalize (lg_sl ([.ref h0]) ++ List.replicate (3 - (lg_sl ([.ref h0])).length) Slot.unset).toArray = ls at hl ⊢
  have hl : lv_has ls 3 [(0, .ref h0)] := hl
  obtain ⟨H, hH⟩ : ∃ H, H = s.heap := ⟨_, rfl⟩
  rw [← hH] at hP
  have hS : va_S A s.heap H [] := by rw [hH]; exact hS
  rw [← hH]
  refine lv_aload_n hx hb dX19_input_0 rfl (lv_at hl 0 rfl) ?_
  refine lv_iconst (v := 0) hx hb dX19_input_1 (by decide) ?_
  refine va_put (D := (dC, dI)) (ci := 16) (v := .int 0) (ty := .int) (C := RX19) (T := TX19) (N := 41) hx hb hts mem_X19_input_0 tyX19 tyX19_ok nmX19 hown hK hP hD hS 0 rfl rfl 33 (by decide) (ow (k := 0) rfl) (fun _ h9 => h9) rfl (by decide +kernel) rfl rfl (Nat.le_of_ble_eq_true rfl) dX19_input_2 (fun H locs hP hD hS => ?_)
  have hP : va_P (dC, dI) vwP [(h0, .inr (16, [.ref q_1, .ref q_12, .ref q_17, .ref q_22, .ref q_24, .ref q_26, .ref q_28, .ref q_29, .ref q_31, .ref q_33, .ref q_35, .int 0, .ref q_37, .ref q_39, .ref q_41, .ref q_43, .ref q_45, .ref q_47, .ref q_49, .ref q_51, .ref q_53, .ref q_55, .ref q_57, .int 0, .ref q_59, .ref q_61, .ref q_63, .int (-1), .int 0, .int 0, .int 0, .int 0, .ref q_65, .int 0, .ref q_68, .int 0, .int (-1), .int 0, .int 0, .ref q_70, .ref q_72]))] H := hP
  have hD : va_D A [(h0, .inr (16, [.ref q_1, .ref q_12, .ref q_17, .ref q_22, .ref q_24, .ref q_26, .ref q_28, .ref q_29, .ref q_31, .ref q_33, .ref q_35, .int 0, .ref q_37, .ref q_39, .ref q_41, .ref q_43, .ref q_45, .ref q_47, .ref q_49, .ref q_51, .ref q_53, .ref q_55, .ref q_57, .int 0, .ref q_59, .ref q_61, .ref q_63, .int (-1), .int 0, .int 0, .int 0, .int 0, .ref q_65, .int 0, .ref q_68, .int 0, .int (-1), .int 0, .int 0, .ref q_70, .ref q_72]))] := hD
  refine lv_aload_n hx hb dX19_input_5 rfl (lv_at hl 0 rfl) ?_
  refine lv_aload_n hx hb dX19_input_6 rfl (lv_at hl 0 rfl) ?_
  refine va_get (D := (dC, dI)) (ci := 16) (v := .int 0) (C := RX19) (T := TX19) (N := 41) hx hb hts mem_X19_input_0 hown hK hP 0 rfl rfl 35 (by decide) (ow (k := 1) rfl) (fun _ h9 => h9) rfl dX19_input_7 ?_
  refine lv_iconst (v := 4) hx hb dX19_input_10 (by decide) ?_
  refine lv_idiv hx hb dX19_input_11 (by decide) ?_
  refine lv_topi (fun z ez => ?_)
  obtain rfl : z = 0 := by rw [ez]; decide
  refine va_newa (ty := .int) (n := 0) (N' := 0) (a0 := (0, .inl (fun _ => 0))) hx hb (ow (k := 2) rfl) rfl hK hP hD hS hA (fun _ => rfl) (by decide) (by decide) (by decide) (Nat.le_of_ble_eq_true rfl) (Nat.le_of_ble_eq_true rfl) dX19_input_12 (fun q_2001 cA_2002 H hK hP hD hS => ?_)
  have hP : va_P (dC, dI) vwP [(h0, .inr (16, [.ref q_1, .ref q_12, .ref q_17, .ref q_22, .ref q_24, .ref q_26, .ref q_28, .ref q_29, .ref q_31, .ref q_33, .ref q_35, .int 0, .ref q_37, .ref q_39, .ref q_41, .ref q_43, .ref q_45, .ref q_47, .ref q_49, .ref q_51, .ref q_53, .ref q_55, .ref q_57, .int 0, .ref q_59, .ref q_61, .ref q_63, .int (-1), .int 0, .int 0, .int 0, .int 0, .ref q_65, .int 0, .ref q_68, .int 0, .int (-1), .int 0, .int 0, .ref q_70, .ref q_72])), (q_2001, .inl (cA_2002, 0, .inl (fun _ => 0)))] H := hP
  have hD : va_D A [(h0, .inr (16, [.ref q_1, .ref q_12, .ref q_17, .ref q_22, .ref q_24, .ref q_26, .ref q_28, .ref q_29, .ref q_31, .ref q_33, .ref q_35, .int 0, .ref q_37, .ref q_39, .ref q_41, .ref q_43, .ref q_45, .ref q_47, .ref q_49, .ref q_51, .ref q_53, .ref q_55, .ref q_57, .int 0, .ref q_59, .ref q_61, .ref q_63, .int (-1), .int 0, .int 0, .int 0, .int 0, .ref q_65, .int 0, .ref q_68, .int 0, .int (-1), .int 0, .int 0, .ref q_70, .ref q_72])), (q_2001, .inl (cA_2002, 0, .inl (fun _ => 0)))] := hD
  have hK : va_K (dC, dI) vwP [(cA_2002, .int)] s := hK
  refine W.widen (k := 1) (n := 0) (Nat.le_of_ble_eq_true rfl) (Nat.le_of_ble_eq_true rfl) ?_
  refine va_put (D := (dC, dI)) (ci := 16) (v := .ref q_2001) (ty := .array .int) (C := RX19) (T := TX19) (N := 41) hx hb hts mem_X19_input_0 tyX19 tyX19_ok nmX19 hown hK hP hD hS 0 rfl rfl 40 (by decide) (ow (k := 3) rfl) (fun _ h9 => h9) rfl (by decide +kernel) rfl rfl (Nat.le_of_ble_eq_true rfl) dX19_input_14 (fun H locs hP hD hS => ?_)
  have hP : va_P (dC, dI) vwP [(h0, .inr (16, [.ref q_1, .ref q_12, .ref q_17, .ref q_22, .ref q_24, .ref q_26, .ref q_28, .ref q_29, .ref q_31, .ref q_33, .ref q_35, .int 0, .ref q_37, .ref q_39, .ref q_41, .ref q_43, .ref q_45, .ref q_47, .ref q_49, .ref q_51, .ref q_53, .ref q_55, .ref q_57, .int 0, .ref q_59, .ref q_61, .ref q_63, .int (-1), .int 0, .int 0, .int 0, .int 0, .ref q_65, .int 0, .ref q_68, .int 0, .int (-1), .int 0, .int 0, .ref q_70, .ref q_2001])), (q_2001, .inl (cA_2002, 0, .inl (fun _ => 0)))] H := hP
  have hD : va_D A [(h0, .inr (16, [.ref q_1, .ref q_12, .ref q_17, .ref q_22, .ref q_24, .ref q_26, .ref q_28, .ref q_29, .ref q_31, .ref q_33, .ref q_35, .int 0, .ref q_37, .ref q_39, .ref q_41, .ref q_43, .ref q_45, .ref q_47, .ref q_49, .ref q_51, .ref q_53, .ref q_55, .ref q_57, .int 0, .ref q_59, .ref q_61, .ref q_63, .int (-1), .int 0, .int 0, .int 0, .int 0, .ref q_65, .int 0, .ref q_68, .int 0, .int (-1), .int 0, .int 0, .ref q_70, .ref q_2001])), (q_2001, .inl (cA_2002, 0, .inl (fun _ => 0)))] := hD
  refine lv_iconst (v := 0) hx hb dX19_input_17 (by decide) ?_
  refine lv_istore_n (lv' := [(1, .int 0), (0, .ref h0)]) hx hb dX19_input_18 rfl hl (by decide) rfl (fun ls hl => ?_)
  refine lv_iload_n hx hb dX19_input_19 rfl (lv_at hl 0 rfl) ?_
  refine lv_aload_n hx hb dX19_input_20 rfl (lv_at hl 1 rfl) ?_
  refine va_get (D := (dC, dI)) (ci := 16) (v := .ref q_2001) (C := RX19) (T := TX19) (N := 41) hx hb hts mem_X19_input_0 hown hK hP 0 rfl rfl 40 (by decide) (ow (k := 3) rfl) (fun _ h9 => h9) rfl dX19_input_21 ?_
  refine va_alen (v := 0) hx hb hK hP 1 0 rfl rfl (by decide) dX19_input_24 ?_
  refine lv_icmp_ge (tgt := 77) hx hb dX19_input_25 (by decide) (fun _ => ?_) (fun h9 => absurd h9 (by decide))
  refine lv_aload_n hx hb dX19_input_77 rfl (lv_at hl 1 rfl) ?_
  refine lv_iconst (v := 0) hx hb dX19_input_78 (by decide) ?_
  refine va_put (D := (dC, dI)) (ci := 16) (v := .int 0) (ty := .int) (C := RX19) (T := TX19) (N := 41) hx hb hts mem_X19_input_0 tyX19 tyX19_ok nmX19 hown hK hP hD hS 0 rfl rfl 35 (by decide) (ow (k := 1) rfl) (fun _ h9 => h9) rfl (by decide +kernel) rfl rfl (Nat.le_of_ble_eq_true rfl) dX19_input_79 (fun H locs hP hD hS => ?_)
  have hP : va_P (dC, dI) vwP [(h0, .inr (16, [.ref q_1, .ref q_12, .ref q_17, .ref q_22, .ref q_24, .ref q_26, .ref q_28, .ref q_29, .ref q_31, .ref q_33, .ref q_35, .int 0, .ref q_37, .ref q_39, .ref q_41, .ref q_43, .ref q_45, .ref q_47, .ref q_49, .ref q_51, .ref q_53, .ref q_55, .ref q_57, .int 0, .ref q_59, .ref q_61, .ref q_63, .int (-1), .int 0, .int 0, .int 0, .int 0, .ref q_65, .int 0, .ref q_68, .int 0, .int (-1), .int 0, .int 0, .ref q_70, .ref q_2001])), (q_2001, .inl (cA_2002, 0, .inl (fun _ => 0)))] H := hP
  have hD : va_D A [(h0, .inr (16, [.ref q_1, .ref q_12, .ref q_17, .ref q_22, .ref q_24, .ref q_26, .ref q_28, .ref q_29, .ref q_31, .ref q_33, .ref q_35, .int 0, .ref q_37, .ref q_39, .ref q_41, .ref q_43, .ref q_45, .ref q_47, .ref q_49, .ref q_51, .ref q_53, .ref q_55, .ref q_57, .int 0, .ref q_59, .ref q_61, .ref q_63, .int (-1), .int 0, .int 0, .int 0, .int 0, .ref q_65, .int 0, .ref q_68, .int 0, .int (-1), .int 0, .int 0, .ref q_70, .ref q_2001])), (q_2001, .inl (cA_2002, 0, .inl (fun _ => 0)))] := hD
  refine lv_aload_n hx hb dX19_input_82 rfl (lv_at hl 1 rfl) ?_
  refine va_get (D := (dC, dI)) (ci := 16) (v := .ref q_2001) (C := RX19) (T := TX19) (N := 41) hx hb hts mem_X19_input_0 hown hK hP 0 rfl rfl 40 (by decide) (ow (k := 3) rfl) (fun _ h9 => h9) rfl dX19_input_83 ?_
  refine va_alen (v := 0) hx hb hK hP 1 0 rfl rfl (by decide) dX19_input_86 ?_
  have hP := hP.sub (ws' := []) [] rfl
  have hD := hD.sub (ws' := []) [] (by decide) rfl
  have hK := hK.sub (tys' := []) [] rfl
  refine W.widen (k := 1) (n := 0) (Nat.le_of_ble_eq_true rfl) (Nat.le_of_ble_eq_true rfl) ?_
  exact W.iret (v := 0) hx hb hr (fun t ht hW => ⟨⟨0, (), rfl, rfl, by rw [ht]; exact hP, va_K.moved hW.alike hK, hD⟩, hS.F ht⟩) hS.2.2 dX19_input_87
theorem dX16_next_0 : decode cX16_next 0 = .ok (.aload_n 0, 1) := by decide +kernel
theorem dX16_next_1 : decode cX16_next 1 = .ok (.aload_n 0, 1) := by decide +kernel
theorem dX16_next_2 : decode cX16_next 2 = .ok (.getfield 38, 3) := by decide +kernel
theorem dX16_next_5 : decode cX16_next 5 = .ok (.putfield 41, 3) := by decide +kernel
theorem dX16_next_8 : decode cX16_next 8 = .ok (.aload_n 0, 1) := by decide +kernel
theorem dX16_next_9 : decode cX16_next 9 = .ok (.getfield 44, 3) := by decide +kernel
theorem dX16_next_12 : decode cX16_next 12 = .ok (.aload_n 0, 1) := by decide +kernel
theorem dX16_next_13 : decode cX16_next 13 = .ok (.getfield 32, 3) := by decide +kernel
theorem dX16_next_16 : decode cX16_next 16 = .ok (.if_icmp .ge 94, 3) := by decide +kernel
theorem dX16_next_110 : decode cX16_next 110 = .ok (.aload_n 0, 1) := by decide +kernel
theorem dX16_next_111 : decode cX16_next 111 = .ok (.aload_n 0, 1) := by decide +kernel
theorem dX16_next_112 : decode cX16_next 112 = .ok (.getfield 44, 3) := by decide +kernel
theorem dX16_next_115 : decode cX16_next 115 = .ok (.putfield 47, 3) := by decide +kernel
theorem dX16_next_118 : decode cX16_next 118 = .ok (.aload_n 0, 1) := by decide +kernel
theorem dX16_next_119 : decode cX16_next 119 = .ok (.ldc 9, 2) := by decide +kernel
theorem dX16_next_121 : decode cX16_next 121 = .ok (.putfield 11, 3) := by decide +kernel
theorem dX16_next_124 : decode cX16_next 124 = .ok (.aload_n 0, 1) := by decide +kernel
theorem dX16_next_125 : decode cX16_next 125 = .ok (.getfield 44, 3) := by decide +kernel
theorem dX16_next_128 : decode cX16_next 128 = .ok (.aload_n 0, 1) := by decide +kernel
theorem dX16_next_129 : decode cX16_next 129 = .ok (.getfield 32, 3) := by decide +kernel
theorem dX16_next_132 : decode cX16_next 132 = .ok (.if_icmp .ne 9, 3) := by decide +kernel
theorem dX16_next_135 : decode cX16_next 135 = .ok (.aload_n 0, 1) := by decide +kernel
theorem dX16_next_136 : decode cX16_next 136 = .ok (.iconst 0, 1) := by decide +kernel
theorem dX16_next_137 : decode cX16_next 137 = .ok (.putfield 38, 3) := by decide +kernel
theorem dX16_next_140 : decode cX16_next 140 = .ok (.return_, 1) := by decide +kernel
def o_X16_next : List Cond := [.fieldLink RX16 38 "SsaForgeModel$Reader" "kind" "I", .fieldLink RX16 41 "SsaForgeModel$Reader" "before" "I", .fieldLink RX16 44 "SsaForgeModel$Reader" "at" "I", .fieldLink RX16 32 "SsaForgeModel$Reader" "n" "I", .fieldLink RX16 47 "SsaForgeModel$Reader" "place" "I", .fieldLink RX16 11 "SsaForgeModel$Reader" "text" "Ljava/lang/String;"]
def v_X16_next : List Cond := .code yX16_next cX16_next 3 none :: (o_X16_next ++ (wsX160 ++ []))
theorem mow_X16_next : ∀ w ∈ o_X16_next, w ∈ v_X16_next := fun _ h => List.mem_cons_of_mem _ (List.mem_append_left _ h)
theorem mem_X16_next_0 : ∀ w ∈ wsX160, w ∈ v_X16_next := fun _ h => List.mem_cons_of_mem _ (List.mem_append_right _ (List.mem_append_left _ h))
set_option maxRecDepth 20000 in
theorem gw_X16_next : v_X16_next.all goodWord = true := by decide +kernel
set_option maxHeartbeats 4000000 in
set_option maxRecDepth 100000 in
theorem c_X16_next (l : Launch) (dC : Nat → ClassId) (dI : Nat → Nat → Nat) (h0 : Nat) (q_801 : Nat) (q_803 : Nat) (q_804 : Nat) (sz : Nat) (sa_RX16_9 : Nat) : Met l yX16_next v_X16_next ({ frames := 0, cells := 0, slots := 0, locals := 0 }) (va_Pc [.ref h0] (fun U => U.heap.size = sz ∧ va_P (dC, dI) vwP [(h0, .inr (14, [.ref q_801, .int 0, .int 0, .int 0, .int 0, .int 0, .int 0, .ref sa_RX16_9, .int (-1), .int 0, .int 0, .ref q_803, .ref q_804, .int 0]))] U.heap ∧ va_K (dC, dI) vwP [] U ∧ va_D (fun _ => True) [(h0, .inr (14, [.ref q_801, .int 0, .int 0, .int 0, .int 0, .int 0, .int 0, .ref sa_RX16_9, .int (-1), .int 0, .int 0, .ref q_803, .ref q_804, .int 0]))] ∧ vk_R RX16 9 "" sa_RX16_9 U)) (va_Qv (fun _ : Unit => True) (fun (_ : Unit) (t : State) => va_P (dC, dI) vwP [(h0, .inr (14, [.ref q_801, .int 0, .int 0, .int 0, .int 0, .int 0, .int 0, .ref sa_RX16_9, .int (-1), .int 0, .int 0, .ref q_803, .ref q_804, .int 0]))] t.heap ∧ va_K (dC, dI) vwP [] t ∧ va_D (va_A [(h0, .inr (14, [.ref q_801, .int 0, .int 0, .int 0, .int 0, .int 0, .int 0, .ref sa_RX16_9, .int (-1), .int 0, .int 0, .ref q_803, .ref q_804, .int 0]))] sz) [(h0, .inr (14, [.ref q_801, .int 0, .int 0, .int 0, .int 0, .int 0, .int 0, .ref sa_RX16_9, .int (-1), .int 0, .int 0, .ref q_803, .ref q_804, .int 0]))]) (va_A [(h0, .inr (14, [.ref q_801, .int 0, .int 0, .int 0, .int 0, .int 0, .int 0, .ref sa_RX16_9, .int (-1), .int 0, .int 0, .ref q_803, .ref q_804, .int 0]))] sz)) 0 0 (va_A [(h0, .inr (14, [.ref q_801, .int 0, .int 0, .int 0, .int 0, .int 0, .int 0, .ref sa_RX16_9, .int (-1), .int 0, .int 0, .ref q_803, .ref q_804, .int 0]))] sz) := by
  refine Met.ofW (cc := cX16_next) (maxL := 3) (ret := none) (by decide) rfl ?_
  intro p e s m args below meth c s₁ B hml hv
  obtain ⟨rfl, hsz, hP, hK, hD0, hp0⟩ := hv
  have hx := B.exec
  have hb := B.bytes
  have hr := B.returns
  have hts := atoms_spec (ws := v_X16_next) B.pre
  have hown : s.vm.findClass RX16 = some m.cls := findClass_of_methodNamed B.named
  have hlocks := B.notSynchronized
  have ow : ∀ {k : Nat} {w : Cond}, o_X16_next[k]? = some w → w.before ([.ref h0] : List Value).toArray s = true := fun h => hts _ (mow_X16_next _ (List.mem_of_getElem? h))
  subst hsz
  have hD := hD0.self (sz := s.heap.size)
  generalize hAe : va_A [(h0, .inr (14, [.ref q_801, .int 0, .int 0, .int 0, .int 0, .int 0, .int 0, .ref sa_RX16_9, .int (-1), .int 0, .int 0, .ref q_803, .ref q_804, .int 0]))] s.heap.size = A at hD ⊢
  have hA : ∀ q : Nat, s.heap.size ≤ q → A q := fun q h => by rw [← hAe]; exact Or.inr h
  have hS : va_S A s.heap s.heap [] := va_S.rf
  have hP : va_P (dC, dI) vwP [(h0, .inr (14, [.ref q_801, .int 0, .int 0, .int 0, .int 0, .int 0, .int 0, .ref sa_RX16_9, .int (-1), .int 0, .int 0, .ref q_803, .ref q_804, .int 0]))] s.heap := hP
  have hl := lv_entry ([.ref h0]) (n := 3) (Nat.le_of_ble_eq_true rfl)
  rw [lg_entry_eq]
  generalize (lg_sl ([.ref h0]) ++ List.replicate (3 - (lg_sl ([.ref h0])).length) Slot.unset).toArray = ls at hl ⊢
  have hl : lv_has ls 3 [(0, .ref h0)] := hl
  obtain ⟨H, hH⟩ : ∃ H, H = s.heap := ⟨_, rfl⟩
  rw [← hH] at hP
  have hS : va_S A s.heap H [] := by rw [hH]; exact hS
  rw [← hH]
  refine lv_aload_n hx hb dX16_next_0 rfl (lv_at hl 0 rfl) ?_
  refine lv_aload_n hx hb dX16_next_1 rfl (lv_at hl 0 rfl) ?_
  refine va_get (D := (dC, dI)) (ci := 14) (v := .int 0) (C := RX16) (T := TX16) (N := 14) hx hb hts mem_X16_next_0 hown hK hP 0 rfl rfl 3 (by decide) (ow (k := 0) rfl) (fun _ h9 => h9) rfl dX16_next_2 ?_
  refine va_put (D := (dC, dI)) (ci := 14) (v := .int 0) (ty := .int) (C := RX16) (T := TX16) (N := 14) hx hb hts mem_X16_next_0 tyX16 tyX16_ok nmX16 hown hK hP hD hS 0 rfl rfl 6 (by decide) (ow (k := 1) rfl) (fun _ h9 => h9) rfl (by decide +kernel) rfl rfl (Nat.le_of_ble_eq_true rfl) dX16_next_5 (fun H locs hP hD hS => ?_)
  have hP : va_P (dC, dI) vwP [(h0, .inr (14, [.ref q_801, .int 0, .int 0, .int 0, .int 0, .int 0, .int 0, .ref sa_RX16_9, .int (-1), .int 0, .int 0, .ref q_803, .ref q_804, .int 0]))] H := hP
  have hD : va_D A [(h0, .inr (14, [.ref q_801, .int 0, .int 0, .int 0, .int 0, .int 0, .int 0, .ref sa_RX16_9, .int (-1), .int 0, .int 0, .ref q_803, .ref q_804, .int 0]))] := hD
  refine lv_aload_n hx hb dX16_next_8 rfl (lv_at hl 0 rfl) ?_
  refine va_get (D := (dC, dI)) (ci := 14) (v := .int 0) (C := RX16) (T := TX16) (N := 14) hx hb hts mem_X16_next_0 hown hK hP 0 rfl rfl 2 (by decide) (ow (k := 2) rfl) (fun _ h9 => h9) rfl dX16_next_9 ?_
  refine lv_aload_n hx hb dX16_next_12 rfl (lv_at hl 0 rfl) ?_
  refine va_get (D := (dC, dI)) (ci := 14) (v := .int 0) (C := RX16) (T := TX16) (N := 14) hx hb hts mem_X16_next_0 hown hK hP 0 rfl rfl 1 (by decide) (ow (k := 3) rfl) (fun _ h9 => h9) rfl dX16_next_13 ?_
  refine lv_icmp_ge (tgt := 110) hx hb dX16_next_16 (by decide) (fun _ => ?_) (fun h9 => absurd h9 (by decide))
  refine lv_aload_n hx hb dX16_next_110 rfl (lv_at hl 0 rfl) ?_
  refine lv_aload_n hx hb dX16_next_111 rfl (lv_at hl 0 rfl) ?_
  refine va_get (D := (dC, dI)) (ci := 14) (v := .int 0) (C := RX16) (T := TX16) (N := 14) hx hb hts mem_X16_next_0 hown hK hP 0 rfl rfl 2 (by decide) (ow (k := 2) rfl) (fun _ h9 => h9) rfl dX16_next_112 ?_
  refine va_put (D := (dC, dI)) (ci := 14) (v := .int 0) (ty := .int) (C := RX16) (T := TX16) (N := 14) hx hb hts mem_X16_next_0 tyX16 tyX16_ok nmX16 hown hK hP hD hS 0 rfl rfl 4 (by decide) (ow (k := 4) rfl) (fun _ h9 => h9) rfl (by decide +kernel) rfl rfl (Nat.le_of_ble_eq_true rfl) dX16_next_115 (fun H locs hP hD hS => ?_)
  have hP : va_P (dC, dI) vwP [(h0, .inr (14, [.ref q_801, .int 0, .int 0, .int 0, .int 0, .int 0, .int 0, .ref sa_RX16_9, .int (-1), .int 0, .int 0, .ref q_803, .ref q_804, .int 0]))] H := hP
  have hD : va_D A [(h0, .inr (14, [.ref q_801, .int 0, .int 0, .int 0, .int 0, .int 0, .int 0, .ref sa_RX16_9, .int (-1), .int 0, .int 0, .ref q_803, .ref q_804, .int 0]))] := hD
  refine lv_aload_n hx hb dX16_next_118 rfl (lv_at hl 0 rfl) ?_
  refine va_ldcS hx hb hown hp0 dX16_next_119 ?_
  refine va_put (D := (dC, dI)) (ci := 14) (v := .ref sa_RX16_9) (ty := .object "java/lang/String") (C := RX16) (T := TX16) (N := 14) hx hb hts mem_X16_next_0 tyX16 tyX16_ok nmX16 hown hK hP hD hS 0 rfl rfl 7 (by decide) (ow (k := 5) rfl) (fun _ h9 => h9) rfl (by decide +kernel) rfl rfl (Nat.le_of_ble_eq_true rfl) dX16_next_121 (fun H locs hP hD hS => ?_)
  have hP : va_P (dC, dI) vwP [(h0, .inr (14, [.ref q_801, .int 0, .int 0, .int 0, .int 0, .int 0, .int 0, .ref sa_RX16_9, .int (-1), .int 0, .int 0, .ref q_803, .ref q_804, .int 0]))] H := hP
  have hD : va_D A [(h0, .inr (14, [.ref q_801, .int 0, .int 0, .int 0, .int 0, .int 0, .int 0, .ref sa_RX16_9, .int (-1), .int 0, .int 0, .ref q_803, .ref q_804, .int 0]))] := hD
  refine lv_aload_n hx hb dX16_next_124 rfl (lv_at hl 0 rfl) ?_
  refine va_get (D := (dC, dI)) (ci := 14) (v := .int 0) (C := RX16) (T := TX16) (N := 14) hx hb hts mem_X16_next_0 hown hK hP 0 rfl rfl 2 (by decide) (ow (k := 2) rfl) (fun _ h9 => h9) rfl dX16_next_125 ?_
  refine lv_aload_n hx hb dX16_next_128 rfl (lv_at hl 0 rfl) ?_
  refine va_get (D := (dC, dI)) (ci := 14) (v := .int 0) (C := RX16) (T := TX16) (N := 14) hx hb hts mem_X16_next_0 hown hK hP 0 rfl rfl 1 (by decide) (ow (k := 3) rfl) (fun _ h9 => h9) rfl dX16_next_129 ?_
  refine lv_icmp_ne (tgt := 141) hx hb dX16_next_132 (by decide) (fun h9 => absurd h9 (by decide)) (fun _ => ?_)
  refine lv_aload_n hx hb dX16_next_135 rfl (lv_at hl 0 rfl) ?_
  refine lv_iconst (v := 0) hx hb dX16_next_136 (by decide) ?_
  refine va_put (D := (dC, dI)) (ci := 14) (v := .int 0) (ty := .int) (C := RX16) (T := TX16) (N := 14) hx hb hts mem_X16_next_0 tyX16 tyX16_ok nmX16 hown hK hP hD hS 0 rfl rfl 3 (by decide) (ow (k := 0) rfl) (fun _ h9 => h9) rfl (by decide +kernel) rfl rfl (Nat.le_of_ble_eq_true rfl) dX16_next_137 (fun H locs hP hD hS => ?_)
  have hP : va_P (dC, dI) vwP [(h0, .inr (14, [.ref q_801, .int 0, .int 0, .int 0, .int 0, .int 0, .int 0, .ref sa_RX16_9, .int (-1), .int 0, .int 0, .ref q_803, .ref q_804, .int 0]))] H := hP
  have hD : va_D A [(h0, .inr (14, [.ref q_801, .int 0, .int 0, .int 0, .int 0, .int 0, .int 0, .ref sa_RX16_9, .int (-1), .int 0, .int 0, .ref q_803, .ref q_804, .int 0]))] := hD
  refine W.widen (k := 0) (n := 0) (Nat.le_of_ble_eq_true rfl) (Nat.le_of_ble_eq_true rfl) ?_
  exact W.vret hx hb hr (fun t ht hW => ⟨⟨(), rfl, trivial, by rw [ht]; exact hP, va_K.moved hW.alike hK, hD⟩, hS.F ht⟩) hS.2.2 dX16_next_140
theorem dX16_init_0 : decode cX16_init 0 = .ok (.aload_n 0, 1) := by decide +kernel
theorem dX16_init_1 : decode cX16_init 1 = .ok (.invokespecial 3, 3) := by decide +kernel
theorem dX16_init_4 : decode cX16_init 4 = .ok (.aload_n 0, 1) := by decide +kernel
theorem dX16_init_5 : decode cX16_init 5 = .ok (.ldc 9, 2) := by decide +kernel
theorem dX16_init_7 : decode cX16_init 7 = .ok (.putfield 11, 3) := by decide +kernel
theorem dX16_init_10 : decode cX16_init 10 = .ok (.aload_n 0, 1) := by decide +kernel
theorem dX16_init_11 : decode cX16_init 11 = .ok (.iconst (-1), 1) := by decide +kernel
theorem dX16_init_12 : decode cX16_init 12 = .ok (.putfield 17, 3) := by decide +kernel
theorem dX16_init_15 : decode cX16_init 15 = .ok (.aload_n 0, 1) := by decide +kernel
theorem dX16_init_16 : decode cX16_init 16 = .ok (.bipush 16, 2) := by decide +kernel
theorem dX16_init_18 : decode cX16_init 18 = .ok (.newarray .int, 2) := by decide +kernel
theorem dX16_init_20 : decode cX16_init 20 = .ok (.putfield 21, 3) := by decide +kernel
theorem dX16_init_23 : decode cX16_init 23 = .ok (.aload_n 0, 1) := by decide +kernel
theorem dX16_init_24 : decode cX16_init 24 = .ok (.bipush 16, 2) := by decide +kernel
theorem dX16_init_26 : decode cX16_init 26 = .ok (.newarray .int, 2) := by decide +kernel
theorem dX16_init_28 : decode cX16_init 28 = .ok (.putfield 25, 3) := by decide +kernel
theorem dX16_init_31 : decode cX16_init 31 = .ok (.aload_n 0, 1) := by decide +kernel
theorem dX16_init_32 : decode cX16_init 32 = .ok (.aload_n 1, 1) := by decide +kernel
theorem dX16_init_33 : decode cX16_init 33 = .ok (.putfield 28, 3) := by decide +kernel
theorem dX16_init_36 : decode cX16_init 36 = .ok (.aload_n 0, 1) := by decide +kernel
theorem dX16_init_37 : decode cX16_init 37 = .ok (.iload_n 2, 1) := by decide +kernel
theorem dX16_init_38 : decode cX16_init 38 = .ok (.putfield 32, 3) := by decide +kernel
theorem dX16_init_41 : decode cX16_init 41 = .ok (.aload_n 0, 1) := by decide +kernel
theorem dX16_init_42 : decode cX16_init 42 = .ok (.invokevirtual 35, 3) := by decide +kernel
theorem dX16_init_45 : decode cX16_init 45 = .ok (.return_, 1) := by decide +kernel
def o_X16_init : List Cond := [.methodLink RX16 3 objectInit, .instanceMethod objectInit, .code objectInit ⟨#[0xb1]⟩ 1 none, .fieldLink RX16 11 "SsaForgeModel$Reader" "text" "Ljava/lang/String;", .fieldLink RX16 17 "SsaForgeModel$Reader" "rulePlace" "I", .arrayClass .int, .fieldLink RX16 21 "SsaForgeModel$Reader" "goalPlaces" "[I", .fieldLink RX16 25 "SsaForgeModel$Reader" "goals" "[I", .fieldLink RX16 28 "SsaForgeModel$Reader" "t" "[B", .fieldLink RX16 32 "SsaForgeModel$Reader" "n" "I", .methodLink RX16 35 yX16_next, .instanceMethod yX16_next, .selects RX16 yX16_next yX16_next, .initialized RX16]
def v_X16_init : List Cond := .code yX16_init cX16_init 3 none :: (o_X16_init ++ (wsX160 ++ (v_X16_next ++ [])))
theorem mow_X16_init : ∀ w ∈ o_X16_init, w ∈ v_X16_init := fun _ h => List.mem_cons_of_mem _ (List.mem_append_left _ h)
theorem mem_X16_init_0 : ∀ w ∈ wsX160, w ∈ v_X16_init := fun _ h => List.mem_cons_of_mem _ (List.mem_append_right _ (List.mem_append_left _ h))
theorem mem_X16_init_1 : ∀ w ∈ v_X16_next, w ∈ v_X16_init := fun _ h => List.mem_cons_of_mem _ (List.mem_append_right _ (List.mem_append_right _ (List.mem_append_left _ h)))
set_option maxRecDepth 20000 in
theorem gw_X16_init : v_X16_init.all goodWord = true := by decide +kernel
set_option maxRecDepth 20000 in
theorem g_X16_init_X16_next : GoodIn v_X16_init (wsV RX16 35 RX16 yX16_next v_X16_next) := goodIn_app (goodIn_sub (fun w h => mow_X16_init w (by revert w h; decide +kernel)) (by decide +kernel)) (goodIn_sub mem_X16_init_1 gw_X16_next)
set_option maxHeartbeats 4000000 in
set_option maxRecDepth 100000 in
theorem c_X16_init (l : Launch) (dC : Nat → ClassId) (dI : Nat → Nat → Nat) (h0 : Nat) (q_801 : Nat) (sz : Nat) (sa_RX16_9 : Nat) : Met l yX16_init v_X16_init ({ frames := 1, cells := 2, slots := 32, locals := 22 }) (va_Pc [.ref h0, .ref q_801, .int 0] (fun U => U.heap.size = sz ∧ va_P (dC, dI) vwP [(h0, .inr (14, [.null, .int 0, .int 0, .int 0, .int 0, .int 0, .int 0, .null, .int 0, .int 0, .int 0, .null, .null, .int 0]))] U.heap ∧ va_K (dC, dI) vwP [] U ∧ va_D (fun _ => True) [(h0, .inr (14, [.null, .int 0, .int 0, .int 0, .int 0, .int 0, .int 0, .null, .int 0, .int 0, .int 0, .null, .null, .int 0]))] ∧ vk_R RX16 9 "" sa_RX16_9 U)) (va_Qv (fun _ : Unit => True) (fun (_ : Unit) (t : State) => ∃ (q_2001 : Nat) (q_2003 : Nat), va_P (dC, dI) vwP [(h0, .inr (14, [.ref q_801, .int 0, .int 0, .int 0, .int 0, .int 0, .int 0, .ref sa_RX16_9, .int (-1), .int 0, .int 0, .ref q_2001, .ref q_2003, .int 0]))] t.heap ∧ va_K (dC, dI) vwP [] t ∧ va_D (va_A [(h0, .inr (14, [.null, .int 0, .int 0, .int 0, .int 0, .int 0, .int 0, .null, .int 0, .int 0, .int 0, .null, .null, .int 0]))] sz) [(h0, .inr (14, [.ref q_801, .int 0, .int 0, .int 0, .int 0, .int 0, .int 0, .ref sa_RX16_9, .int (-1), .int 0, .int 0, .ref q_2001, .ref q_2003, .int 0]))]) (va_A [(h0, .inr (14, [.null, .int 0, .int 0, .int 0, .int 0, .int 0, .int 0, .null, .int 0, .int 0, .int 0, .null, .null, .int 0]))] sz)) 2 32 (va_A [(h0, .inr (14, [.null, .int 0, .int 0, .int 0, .int 0, .int 0, .int 0, .null, .int 0, .int 0, .int 0, .null, .null, .int 0]))] sz) := by
  refine Met.ofW (cc := cX16_init) (maxL := 3) (ret := none) (by decide) rfl ?_
  intro p e s m args below meth c s₁ B hml hv
  obtain ⟨rfl, hsz, hP, hK, hD0, hp0⟩ := hv
  have hx := B.exec
  have hb := B.bytes
  have hr := B.returns
  have hts := atoms_spec (ws := v_X16_init) B.pre
  have hown : s.vm.findClass RX16 = some m.cls := findClass_of_methodNamed B.named
  have hlocks := B.notSynchronized
  have ow : ∀ {k : Nat} {w : Cond}, o_X16_init[k]? = some w → w.before ([.ref h0, .ref q_801, .int 0] : List Value).toArray s = true := fun h => hts _ (mow_X16_init _ (List.mem_of_getElem? h))
  have hin : meth.name = "<init>" := (name_of_methodNamed B.named B.method).1
  subst hsz
  have hD := hD0.self (sz := s.heap.size)
  generalize hAe : va_A [(h0, .inr (14, [.null, .int 0, .int 0, .int 0, .int 0, .int 0, .int 0, .null, .int 0, .int 0, .int 0, .null, .null, .int 0]))] s.heap.size = A at hD ⊢
  have hA : ∀ q : Nat, s.heap.size ≤ q → A q := fun q h => by rw [← hAe]; exact Or.inr h
  have hS : va_S A s.heap s.heap [] := va_S.rf
  have hP : va_P (dC, dI) vwP [(h0, .inr (14, [.null, .int 0, .int 0, .int 0, .int 0, .int 0, .int 0, .null, .int 0, .int 0, .int 0, .null, .null, .int 0]))] s.heap := hP
  have hl := lv_entry ([.ref h0, .ref q_801, .int 0]) (n := 3) (Nat.le_of_ble_eq_true rfl)
  rw [lg_entry_eq]
  generalize (lg_sl ([.ref h0, .ref q_801, .int 0]) ++ List.replicate (3 - (lg_sl ([.ref h0, .ref q_801, .int 0])).length) Slot.unset).toArray = ls at hl ⊢
  have hl : lv_has ls 3 [(0, .ref h0), (1, .ref q_801), (2, .int 0)] := hl
  obtain ⟨H, hH⟩ : ∃ H, H = s.heap := ⟨_, rfl⟩
  rw [← hH] at hP
  have hS : va_S A s.heap H [] := by rw [hH]; exact hS
  rw [← hH]
  refine lv_aload_n hx hb dX16_init_0 rfl (lv_at hl 0 rfl) ?_
  refine W.objInit hx hb hown (ow (k := 0) rfl) (ow (k := 1) rfl) (ow (k := 2) rfl) rfl (by rw [hml]; exact hl.1) rfl dX16_init_1 (Nat.le_of_ble_eq_true rfl) (Nat.le_of_ble_eq_true rfl) ?_
  refine W.eq (g2 := F0 m 4 ls []) rfl ?_
  refine lv_aload_n hx hb dX16_init_4 rfl (lv_at hl 0 rfl) ?_
  refine va_ldcS hx hb hown hp0 dX16_init_5 ?_
  refine va_put (D := (dC, dI)) (ci := 14) (v := .ref sa_RX16_9) (ty := .object "java/lang/String") (C := RX16) (T := TX16) (N := 14) hx hb hts mem_X16_init_0 tyX16 tyX16_ok nmX16 hown hK hP hD hS 0 rfl rfl 7 (by decide) (ow (k := 3) rfl) (fun _ h9 => h9) rfl (by decide +kernel) rfl rfl (Nat.le_of_ble_eq_true rfl) dX16_init_7 (fun H locs hP hD hS => ?_)
  have hP : va_P (dC, dI) vwP [(h0, .inr (14, [.null, .int 0, .int 0, .int 0, .int 0, .int 0, .int 0, .ref sa_RX16_9, .int 0, .int 0, .int 0, .null, .null, .int 0]))] H := hP
  have hD : va_D A [(h0, .inr (14, [.null, .int 0, .int 0, .int 0, .int 0, .int 0, .int 0, .ref sa_RX16_9, .int 0, .int 0, .int 0, .null, .null, .int 0]))] := hD
  refine lv_aload_n hx hb dX16_init_10 rfl (lv_at hl 0 rfl) ?_
  refine lv_iconst (v := (-1)) hx hb dX16_init_11 (by decide) ?_
  refine va_put (D := (dC, dI)) (ci := 14) (v := .int (-1)) (ty := .int) (C := RX16) (T := TX16) (N := 14) hx hb hts mem_X16_init_0 tyX16 tyX16_ok nmX16 hown hK hP hD hS 0 rfl rfl 8 (by decide) (ow (k := 4) rfl) (fun _ h9 => h9) rfl (by decide +kernel) rfl rfl (Nat.le_of_ble_eq_true rfl) dX16_init_12 (fun H locs hP hD hS => ?_)
  have hP : va_P (dC, dI) vwP [(h0, .inr (14, [.null, .int 0, .int 0, .int 0, .int 0, .int 0, .int 0, .ref sa_RX16_9, .int (-1), .int 0, .int 0, .null, .null, .int 0]))] H := hP
  have hD : va_D A [(h0, .inr (14, [.null, .int 0, .int 0, .int 0, .int 0, .int 0, .int 0, .ref sa_RX16_9, .int (-1), .int 0, .int 0, .null, .null, .int 0]))] := hD
  refine lv_aload_n hx hb dX16_init_15 rfl (lv_at hl 0 rfl) ?_
  refine lv_bipush (v := 16) hx hb dX16_init_16 (by decide) ?_
  refine va_newa (ty := .int) (n := 16) (N' := 16) (a0 := (16, .inl (fun _ => 0))) hx hb (ow (k := 5) rfl) rfl hK hP hD hS hA (fun _ => rfl) (by decide) (by decide) (by decide) (Nat.le_of_ble_eq_true rfl) (Nat.le_of_ble_eq_true rfl) dX16_init_18 (fun q_2001 cA_2002 H hK hP hD hS => ?_)
  have hP : va_P (dC, dI) vwP [(h0, .inr (14, [.null, .int 0, .int 0, .int 0, .int 0, .int 0, .int 0, .ref sa_RX16_9, .int (-1), .int 0, .int 0, .null, .null, .int 0])), (q_2001, .inl (cA_2002, 16, .inl (fun _ => 0)))] H := hP
  have hD : va_D A [(h0, .inr (14, [.null, .int 0, .int 0, .int 0, .int 0, .int 0, .int 0, .ref sa_RX16_9, .int (-1), .int 0, .int 0, .null, .null, .int 0])), (q_2001, .inl (cA_2002, 16, .inl (fun _ => 0)))] := hD
  have hK : va_K (dC, dI) vwP [(cA_2002, .int)] s := hK
  refine W.widen (k := 1) (n := 16) (Nat.le_of_ble_eq_true rfl) (Nat.le_of_ble_eq_true rfl) ?_
  refine va_put (D := (dC, dI)) (ci := 14) (v := .ref q_2001) (ty := .array .int) (C := RX16) (T := TX16) (N := 14) hx hb hts mem_X16_init_0 tyX16 tyX16_ok nmX16 hown hK hP hD hS 0 rfl rfl 11 (by decide) (ow (k := 6) rfl) (fun _ h9 => h9) rfl (by decide +kernel) rfl rfl (Nat.le_of_ble_eq_true rfl) dX16_init_20 (fun H locs hP hD hS => ?_)
  have hP : va_P (dC, dI) vwP [(h0, .inr (14, [.null, .int 0, .int 0, .int 0, .int 0, .int 0, .int 0, .ref sa_RX16_9, .int (-1), .int 0, .int 0, .ref q_2001, .null, .int 0])), (q_2001, .inl (cA_2002, 16, .inl (fun _ => 0)))] H := hP
  have hD : va_D A [(h0, .inr (14, [.null, .int 0, .int 0, .int 0, .int 0, .int 0, .int 0, .ref sa_RX16_9, .int (-1), .int 0, .int 0, .ref q_2001, .null, .int 0])), (q_2001, .inl (cA_2002, 16, .inl (fun _ => 0)))] := hD
  refine lv_aload_n hx hb dX16_init_23 rfl (lv_at hl 0 rfl) ?_
  refine lv_bipush (v := 16) hx hb dX16_init_24 (by decide) ?_
  refine va_newa (ty := .int) (n := 16) (N' := 16) (a0 := (16, .inl (fun _ => 0))) hx hb (ow (k := 5) rfl) rfl hK hP hD hS hA (fun _ => rfl) (by decide) (by decide) (by decide) (Nat.le_of_ble_eq_true rfl) (Nat.le_of_ble_eq_true rfl) dX16_init_26 (fun q_2003 cA_2004 H hK hP hD hS => ?_)
  have hP : va_P (dC, dI) vwP [(h0, .inr (14, [.null, .int 0, .int 0, .int 0, .int 0, .int 0, .int 0, .ref sa_RX16_9, .int (-1), .int 0, .int 0, .ref q_2001, .null, .int 0])), (q_2001, .inl (cA_2002, 16, .inl (fun _ => 0))), (q_2003, .inl (cA_2004, 16, .inl (fun _ => 0)))] H := hP
  have hD : va_D A [(h0, .inr (14, [.null, .int 0, .int 0, .int 0, .int 0, .int 0, .int 0, .ref sa_RX16_9, .int (-1), .int 0, .int 0, .ref q_2001, .null, .int 0])), (q_2001, .inl (cA_2002, 16, .inl (fun _ => 0))), (q_2003, .inl (cA_2004, 16, .inl (fun _ => 0)))] := hD
  have hK : va_K (dC, dI) vwP [(cA_2002, .int), (cA_2004, .int)] s := hK
  refine W.widen (k := 2) (n := 32) (Nat.le_of_ble_eq_true rfl) (Nat.le_of_ble_eq_true rfl) ?_
  refine va_put (D := (dC, dI)) (ci := 14) (v := .ref q_2003) (ty := .array .int) (C := RX16) (T := TX16) (N := 14) hx hb hts mem_X16_init_0 tyX16 tyX16_ok nmX16 hown hK hP hD hS 0 rfl rfl 12 (by decide) (ow (k := 7) rfl) (fun _ h9 => h9) rfl (by decide +kernel) rfl rfl (Nat.le_of_ble_eq_true rfl) dX16_init_28 (fun H locs hP hD hS => ?_)
  have hP : va_P (dC, dI) vwP [(h0, .inr (14, [.null, .int 0, .int 0, .int 0, .int 0, .int 0, .int 0, .ref sa_RX16_9, .int (-1), .int 0, .int 0, .ref q_2001, .ref q_2003, .int 0])), (q_2001, .inl (cA_2002, 16, .inl (fun _ => 0))), (q_2003, .inl (cA_2004, 16, .inl (fun _ => 0)))] H := hP
  have hD : va_D A [(h0, .inr (14, [.null, .int 0, .int 0, .int 0, .int 0, .int 0, .int 0, .ref sa_RX16_9, .int (-1), .int 0, .int 0, .ref q_2001, .ref q_2003, .int 0])), (q_2001, .inl (cA_2002, 16, .inl (fun _ => 0))), (q_2003, .inl (cA_2004, 16, .inl (fun _ => 0)))] := hD
  refine lv_aload_n hx hb dX16_init_31 rfl (lv_at hl 0 rfl) ?_
  refine lv_aload_n hx hb dX16_init_32 rfl (lv_at hl 1 rfl) ?_
  refine va_putF (D := (dC, dI)) (ci := 14) (v := .ref q_801) (ty := .array .byte) (C := RX16) (T := TX16) (N := 14) hx hb hts mem_X16_init_0 tyX16 tyX16_ok nmX16 hown hK hP hD hS 0 rfl rfl 0 (by decide) (ow (k := 8) rfl) (fun _ h9 => h9) rfl hin rfl (by decide +kernel) rfl rfl (Nat.le_of_ble_eq_true rfl) dX16_init_33 (fun H locs hP hD hS => ?_)
  have hP : va_P (dC, dI) vwP [(h0, .inr (14, [.ref q_801, .int 0, .int 0, .int 0, .int 0, .int 0, .int 0, .ref sa_RX16_9, .int (-1), .int 0, .int 0, .ref q_2001, .ref q_2003, .int 0])), (q_2001, .inl (cA_2002, 16, .inl (fun _ => 0))), (q_2003, .inl (cA_2004, 16, .inl (fun _ => 0)))] H := hP
  have hD : va_D A [(h0, .inr (14, [.ref q_801, .int 0, .int 0, .int 0, .int 0, .int 0, .int 0, .ref sa_RX16_9, .int (-1), .int 0, .int 0, .ref q_2001, .ref q_2003, .int 0])), (q_2001, .inl (cA_2002, 16, .inl (fun _ => 0))), (q_2003, .inl (cA_2004, 16, .inl (fun _ => 0)))] := hD
  refine lv_aload_n hx hb dX16_init_36 rfl (lv_at hl 0 rfl) ?_
  refine lv_iload_n hx hb dX16_init_37 rfl (lv_at hl 2 rfl) ?_
  refine va_putF (D := (dC, dI)) (ci := 14) (v := .int 0) (ty := .int) (C := RX16) (T := TX16) (N := 14) hx hb hts mem_X16_init_0 tyX16 tyX16_ok nmX16 hown hK hP hD hS 0 rfl rfl 1 (by decide) (ow (k := 9) rfl) (fun _ h9 => h9) rfl hin rfl (by decide +kernel) rfl rfl (Nat.le_of_ble_eq_true rfl) dX16_init_38 (fun H locs hP hD hS => ?_)
  have hP : va_P (dC, dI) vwP [(h0, .inr (14, [.ref q_801, .int 0, .int 0, .int 0, .int 0, .int 0, .int 0, .ref sa_RX16_9, .int (-1), .int 0, .int 0, .ref q_2001, .ref q_2003, .int 0])), (q_2001, .inl (cA_2002, 16, .inl (fun _ => 0))), (q_2003, .inl (cA_2004, 16, .inl (fun _ => 0)))] H := hP
  have hD : va_D A [(h0, .inr (14, [.ref q_801, .int 0, .int 0, .int 0, .int 0, .int 0, .int 0, .ref sa_RX16_9, .int (-1), .int 0, .int 0, .ref q_2001, .ref q_2003, .int 0])), (q_2001, .inl (cA_2002, 16, .inl (fun _ => 0))), (q_2003, .inl (cA_2004, 16, .inl (fun _ => 0)))] := hD
  refine lv_aload_n hx hb dX16_init_41 rfl (lv_at hl 0 rfl) ?_
  have hPc := hP.sub (ws' := [(h0, .inr (14, [.ref q_801, .int 0, .int 0, .int 0, .int 0, .int 0, .int 0, .ref sa_RX16_9, .int (-1), .int 0, .int 0, .ref q_2001, .ref q_2003, .int 0]))]) [0] rfl
  have hDc := hD.sub (ws' := [(h0, .inr (14, [.ref q_801, .int 0, .int 0, .int 0, .int 0, .int 0, .int 0, .ref sa_RX16_9, .int (-1), .int 0, .int 0, .ref q_2001, .ref q_2003, .int 0]))]) [0] (by decide) rfl
  have hKc := hK.sub (tys' := []) [] rfl
  have hFc := va_free (wc := [(h0, .inr (14, [.ref q_801, .int 0, .int 0, .int 0, .int 0, .int 0, .int 0, .ref sa_RX16_9, .int (-1), .int 0, .int 0, .ref q_2001, .ref q_2003, .int 0]))]) hD hS hA [0] rfl
  refine va_callv (va_runV (As := []) (rest := []) ⟨hx, hb, hml, hown, hts⟩ (c_X16_next l dC dI h0 q_801 q_2001 q_2003 H.size sa_RX16_9) (cwV 0 hts g_X16_init_X16_next rfl rfl rfl (by decide +kernel) ⟨(Nat.le_of_ble_eq_true rfl), (Nat.le_of_ble_eq_true rfl)⟩) ⟨fun a U g mk q => by obtain ⟨q0, q1, qP, qK, qD, e0⟩ := q; exact ⟨q0, q1, qP, va_K.moved (u := U) (U := U.calling g mk a) (Vm.Alike.refl U.vm) qK, qD, vk_R.same (u := U) (U := U.calling g mk a) rfl e0⟩, va_recv hKc hPc (ci := 14) (q0 := 0) rfl rfl, fun U hU hW => ⟨rfl, by rw [hU], by rw [hU]; exact hPc, va_K.moved hW.alike hKc, hDc.weaken (fun _ _ _ _ => trivial), vk_R.warm hW hp0⟩⟩ rfl rfl hl.1 rfl (lv_room (Nat.le_of_ble_eq_true rfl)) dX16_init_42 ⟨(Nat.le_of_ble_eq_true rfl), (Nat.le_of_ble_eq_true rfl)⟩) hS (fun q _ h => hFc q h) hFc (fun  u t H1 locs ht hvm hw hB hz1 hk1 hS => ?_)
  obtain ⟨hP1, hK1, hD1⟩ := hB
  rw [ht] at hP1
  have hK1 := va_K.moved hvm.symm hK1
  obtain ⟨hP, hD⟩ := va_join (wr := [(q_2001, .inl (cA_2002, 16, .inl (fun _ => 0))), (q_2003, .inl (cA_2004, 16, .inl (fun _ => 0)))]) (w1 := [(h0, .inr (14, [.ref q_801, .int 0, .int 0, .int 0, .int 0, .int 0, .int 0, .ref sa_RX16_9, .int (-1), .int 0, .int 0, .ref q_2001, .ref q_2003, .int 0]))]) hP hD [0] [1, 2] rfl rfl (by decide) (by decide) hk1 hFc hP1 hD1
  have hK := (hK.sub (tys' := [(cA_2002, .int), (cA_2004, .int)]) [0, 1] rfl).app hK1
  generalize H1 = H at hP hS ⊢
  have hP : va_P (dC, dI) vwP [(q_2001, .inl (cA_2002, 16, .inl (fun _ => 0))), (q_2003, .inl (cA_2004, 16, .inl (fun _ => 0))), (h0, .inr (14, [.ref q_801, .int 0, .int 0, .int 0, .int 0, .int 0, .int 0, .ref sa_RX16_9, .int (-1), .int 0, .int 0, .ref q_2001, .ref q_2003, .int 0]))] H := hP
  have hD : va_D A [(q_2001, .inl (cA_2002, 16, .inl (fun _ => 0))), (q_2003, .inl (cA_2004, 16, .inl (fun _ => 0))), (h0, .inr (14, [.ref q_801, .int 0, .int 0, .int 0, .int 0, .int 0, .int 0, .ref sa_RX16_9, .int (-1), .int 0, .int 0, .ref q_2001, .ref q_2003, .int 0]))] := hD
  have hK : va_K (dC, dI) vwP [(cA_2002, .int), (cA_2004, .int)] s := hK
  refine W.widen (k := 2) (n := 32) (Nat.le_of_ble_eq_true rfl) (Nat.le_of_ble_eq_true rfl) ?_
  have hP := hP.sub (ws' := [(h0, .inr (14, [.ref q_801, .int 0, .int 0, .int 0, .int 0, .int 0, .int 0, .ref sa_RX16_9, .int (-1), .int 0, .int 0, .ref q_2001, .ref q_2003, .int 0]))]) [2] rfl
  have hD := hD.sub (ws' := [(h0, .inr (14, [.ref q_801, .int 0, .int 0, .int 0, .int 0, .int 0, .int 0, .ref sa_RX16_9, .int (-1), .int 0, .int 0, .ref q_2001, .ref q_2003, .int 0]))]) [2] (by decide) rfl
  have hK := hK.sub (tys' := []) [] rfl
  refine W.widen (k := 2) (n := 32) (Nat.le_of_ble_eq_true rfl) (Nat.le_of_ble_eq_true rfl) ?_
  exact W.vret hx hb hr (fun t ht hW => ⟨⟨(), rfl, trivial, q_2001, q_2003, by rw [ht]; exact hP, va_K.moved hW.alike hK, hD⟩, hS.F ht⟩) hS.2.2 dX16_init_45
theorem dX13_begin_0 : decode cX13_begin 0 = .ok (.aload_n 0, 1) := by decide +kernel
theorem dX13_begin_1 : decode cX13_begin 1 = .ok (.iconst 0, 1) := by decide +kernel
theorem dX13_begin_2 : decode cX13_begin 2 = .ok (.putfield 25, 3) := by decide +kernel
theorem dX13_begin_5 : decode cX13_begin 5 = .ok (.aload_n 0, 1) := by decide +kernel
theorem dX13_begin_6 : decode cX13_begin 6 = .ok (.iconst 0, 1) := by decide +kernel
theorem dX13_begin_7 : decode cX13_begin 7 = .ok (.putfield 29, 3) := by decide +kernel
theorem dX13_begin_10 : decode cX13_begin 10 = .ok (.aload_n 0, 1) := by decide +kernel
theorem dX13_begin_11 : decode cX13_begin 11 = .ok (.getfield 22, 3) := by decide +kernel
theorem dX13_begin_14 : decode cX13_begin 14 = .ok (.invokevirtual 32, 3) := by decide +kernel
theorem dX13_begin_17 : decode cX13_begin 17 = .ok (.aload_n 0, 1) := by decide +kernel
theorem dX13_begin_18 : decode cX13_begin 18 = .ok (.iconst 0, 1) := by decide +kernel
theorem dX13_begin_19 : decode cX13_begin 19 = .ok (.putfield 35, 3) := by decide +kernel
theorem dX13_begin_22 : decode cX13_begin 22 = .ok (.return_, 1) := by decide +kernel
def o_X13_begin : List Cond := [.fieldLink RX13 25 "SsaForgeModel$Code" "rowN" "I", .fieldLink RX13 29 "SsaForgeModel$Code" "phiN" "I", .fieldLink RX13 22 "SsaForgeModel$Code" "all" "Ljava/util/ArrayList;", .methodLink RX13 32 yJx4a65c_clear_da8c8, .instanceMethod yJx4a65c_clear_da8c8, .selects RJx4a65c yJx4a65c_clear_da8c8 yJx4a65c_clear_da8c8, .initialized RJx4a65c, .fieldLink RX13 35 "SsaForgeModel$Code" "made" "I"]
def v_X13_begin : List Cond := .code yX13_begin cX13_begin 1 none :: (o_X13_begin ++ (wsX130 ++ (v_AL_clear ++ [])))
theorem mow_X13_begin : ∀ w ∈ o_X13_begin, w ∈ v_X13_begin := fun _ h => List.mem_cons_of_mem _ (List.mem_append_left _ h)
theorem mem_X13_begin_0 : ∀ w ∈ wsX130, w ∈ v_X13_begin := fun _ h => List.mem_cons_of_mem _ (List.mem_append_right _ (List.mem_append_left _ h))
theorem mem_X13_begin_1 : ∀ w ∈ v_AL_clear, w ∈ v_X13_begin := fun _ h => List.mem_cons_of_mem _ (List.mem_append_right _ (List.mem_append_right _ (List.mem_append_left _ h)))
set_option maxRecDepth 20000 in
theorem gw_X13_begin : v_X13_begin.all goodWord = true := by decide +kernel
set_option maxRecDepth 20000 in
theorem g_X13_begin_AL_clear : GoodIn v_X13_begin (wsV RX13 32 RJx4a65c yJx4a65c_clear_da8c8 v_AL_clear) := goodIn_app (goodIn_sub (fun w h => mow_X13_begin w (by revert w h; decide +kernel)) (by decide +kernel)) (goodIn_sub mem_X13_begin_1 gw_AL_clear)
set_option maxHeartbeats 4000000 in
set_option maxRecDepth 100000 in
theorem c_X13_begin (l : Launch) (dC : Nat → ClassId) (dI : Nat → Nat → Nat) (q_17 : Nat) (q_18 : Nat) (q_19 : Nat) (q_20 : Nat) (q_21 : Nat) (sx_ed : Nat) (sz : Nat) : Met l yX13_begin v_X13_begin ({ frames := 1, cells := 0, slots := 0, locals := 23 }) (va_Pc [.ref q_17] (fun U => U.heap.size = sz ∧ va_P (dC, dI) vwP [(q_17, .inr (12, [.ref q_18, .ref q_19, .ref q_20, .int 0, .int 0, .ref q_21, .int 0])), (q_21, .inr (18, [.int 0, .ref sx_ed, .int 0]))] U.heap ∧ va_K (dC, dI) vwP [] U ∧ va_D (fun _ => True) [(q_17, .inr (12, [.ref q_18, .ref q_19, .ref q_20, .int 0, .int 0, .ref q_21, .int 0])), (q_21, .inr (18, [.int 0, .ref sx_ed, .int 0]))])) (va_Qv (fun _ : Unit => True) (fun (_ : Unit) (t : State) => va_P (dC, dI) vwP [(q_17, .inr (12, [.ref q_18, .ref q_19, .ref q_20, .int 0, .int 0, .ref q_21, .int 0])), (q_21, .inr (18, [.int 1, .ref sx_ed, .int 0]))] t.heap ∧ va_K (dC, dI) vwP [] t ∧ va_D (va_A [(q_17, .inr (12, [.ref q_18, .ref q_19, .ref q_20, .int 0, .int 0, .ref q_21, .int 0])), (q_21, .inr (18, [.int 0, .ref sx_ed, .int 0]))] sz) [(q_17, .inr (12, [.ref q_18, .ref q_19, .ref q_20, .int 0, .int 0, .ref q_21, .int 0])), (q_21, .inr (18, [.int 1, .ref sx_ed, .int 0]))]) (va_A [(q_17, .inr (12, [.ref q_18, .ref q_19, .ref q_20, .int 0, .int 0, .ref q_21, .int 0])), (q_21, .inr (18, [.int 0, .ref sx_ed, .int 0]))] sz)) 0 0 (va_A [(q_17, .inr (12, [.ref q_18, .ref q_19, .ref q_20, .int 0, .int 0, .ref q_21, .int 0])), (q_21, .inr (18, [.int 0, .ref sx_ed, .int 0]))] sz) := by
  refine Met.ofW (cc := cX13_begin) (maxL := 1) (ret := none) (by decide) rfl ?_
  intro p e s m args below meth c s₁ B hml hv
  obtain ⟨rfl, hsz, hP, hK, hD0⟩ := hv
  have hx := B.exec
  have hb := B.bytes
  have hr := B.returns
  have hts := atoms_spec (ws := v_X13_begin) B.pre
  have hown : s.vm.findClass RX13 = some m.cls := findClass_of_methodNamed B.named
  have hlocks := B.notSynchronized
  have ow : ∀ {k : Nat} {w : Cond}, o_X13_begin[k]? = some w → w.before ([.ref q_17] : List Value).toArray s = true := fun h => hts _ (mow_X13_begin _ (List.mem_of_getElem? h))
  subst hsz
  have hD := hD0.self (sz := s.heap.size)
  generalize hAe : va_A [(q_17, .inr (12, [.ref q_18, .ref q_19, .ref q_20, .int 0, .int 0, .ref q_21, .int 0])), (q_21, .inr (18, [.int 0, .ref sx_ed, .int 0]))] s.heap.size = A at hD ⊢
  have hA : ∀ q : Nat, s.heap.size ≤ q → A q := fun q h => by rw [← hAe]; exact Or.inr h
  have hS : va_S A s.heap s.heap [] := va_S.rf
  have hP : va_P (dC, dI) vwP [(q_17, .inr (12, [.ref q_18, .ref q_19, .ref q_20, .int 0, .int 0, .ref q_21, .int 0])), (q_21, .inr (18, [.int 0, .ref sx_ed, .int 0]))] s.heap := hP
  have hl := lv_entry ([.ref q_17]) (n := 1) (Nat.le_of_ble_eq_true rfl)
  rw [lg_entry_eq]
  generalize (lg_sl ([.ref q_17]) ++ List.replicate (1 - (lg_sl ([.ref q_17])).length) Slot.unset).toArray = ls at hl ⊢
  have hl : lv_has ls 1 [(0, .ref q_17)] := hl
  obtain ⟨H, hH⟩ : ∃ H, H = s.heap := ⟨_, rfl⟩
  rw [← hH] at hP
  have hS : va_S A s.heap H [] := by rw [hH]; exact hS
  rw [← hH]
  refine lv_aload_n hx hb dX13_begin_0 rfl (lv_at hl 0 rfl) ?_
  refine lv_iconst (v := 0) hx hb dX13_begin_1 (by decide) ?_
  refine va_put (D := (dC, dI)) (ci := 12) (v := .int 0) (ty := .int) (C := RX13) (T := TX13) (N := 7) hx hb hts mem_X13_begin_0 tyX13 tyX13_ok nmX13 hown hK hP hD hS 0 rfl rfl 3 (by decide) (ow (k := 0) rfl) (fun _ h9 => h9) rfl (by decide +kernel) rfl rfl (Nat.le_of_ble_eq_true rfl) dX13_begin_2 (fun H locs hP hD hS => ?_)
  have hP : va_P (dC, dI) vwP [(q_17, .inr (12, [.ref q_18, .ref q_19, .ref q_20, .int 0, .int 0, .ref q_21, .int 0])), (q_21, .inr (18, [.int 0, .ref sx_ed, .int 0]))] H := hP
  have hD : va_D A [(q_17, .inr (12, [.ref q_18, .ref q_19, .ref q_20, .int 0, .int 0, .ref q_21, .int 0])), (q_21, .inr (18, [.int 0, .ref sx_ed, .int 0]))] := hD
  refine lv_aload_n hx hb dX13_begin_5 rfl (lv_at hl 0 rfl) ?_
  refine lv_iconst (v := 0) hx hb dX13_begin_6 (by decide) ?_
  refine va_put (D := (dC, dI)) (ci := 12) (v := .int 0) (ty := .int) (C := RX13) (T := TX13) (N := 7) hx hb hts mem_X13_begin_0 tyX13 tyX13_ok nmX13 hown hK hP hD hS 0 rfl rfl 4 (by decide) (ow (k := 1) rfl) (fun _ h9 => h9) rfl (by decide +kernel) rfl rfl (Nat.le_of_ble_eq_true rfl) dX13_begin_7 (fun H locs hP hD hS => ?_)
  have hP : va_P (dC, dI) vwP [(q_17, .inr (12, [.ref q_18, .ref q_19, .ref q_20, .int 0, .int 0, .ref q_21, .int 0])), (q_21, .inr (18, [.int 0, .ref sx_ed, .int 0]))] H := hP
  have hD : va_D A [(q_17, .inr (12, [.ref q_18, .ref q_19, .ref q_20, .int 0, .int 0, .ref q_21, .int 0])), (q_21, .inr (18, [.int 0, .ref sx_ed, .int 0]))] := hD
  refine lv_aload_n hx hb dX13_begin_10 rfl (lv_at hl 0 rfl) ?_
  refine va_get (D := (dC, dI)) (ci := 12) (v := .ref q_21) (C := RX13) (T := TX13) (N := 7) hx hb hts mem_X13_begin_0 hown hK hP 0 rfl rfl 5 (by decide) (ow (k := 2) rfl) (fun _ h9 => h9) rfl dX13_begin_11 ?_
  have hPc := hP.sub (ws' := [(q_21, .inr (18, [.int 0, .ref sx_ed, .int 0]))]) [1] rfl
  have hDc := hD.sub (ws' := [(q_21, .inr (18, [.int 0, .ref sx_ed, .int 0]))]) [1] (by decide) rfl
  have hKc := hK.sub (tys' := []) [] rfl
  have hFc := va_free (wc := [(q_21, .inr (18, [.int 0, .ref sx_ed, .int 0]))]) hD hS hA [1] rfl
  refine va_callv (va_runV (As := []) (rest := []) ⟨hx, hb, hml, hown, hts⟩ (c_AL_clear l dC dI q_21 sx_ed H.size) (cwV 0 hts g_X13_begin_AL_clear rfl rfl rfl (by decide +kernel) ⟨(Nat.le_of_ble_eq_true rfl), (Nat.le_of_ble_eq_true rfl)⟩) ⟨fun a U g mk q => by obtain ⟨q0, q1, qP, qK, qD⟩ := q; exact ⟨q0, q1, qP, va_K.moved (u := U) (U := U.calling g mk a) (Vm.Alike.refl U.vm) qK, qD⟩, va_recv hKc hPc (ci := 18) (q0 := 0) rfl rfl, fun U hU hW => ⟨rfl, by rw [hU], by rw [hU]; exact hPc, va_K.moved hW.alike hKc, hDc.weaken (fun _ _ _ _ => trivial)⟩⟩ rfl rfl hl.1 rfl (lv_room (Nat.le_of_ble_eq_true rfl)) dX13_begin_14 ⟨(Nat.le_of_ble_eq_true rfl), (Nat.le_of_ble_eq_true rfl)⟩) hS (fun q _ h => hFc q h) hFc (fun  u t H1 locs ht hvm hw hB hz1 hk1 hS => ?_)
  obtain ⟨hP1, hK1, hD1⟩ := hB
  rw [ht] at hP1
  have hK1 := va_K.moved hvm.symm hK1
  obtain ⟨hP, hD⟩ := va_join (wr := [(q_17, .inr (12, [.ref q_18, .ref q_19, .ref q_20, .int 0, .int 0, .ref q_21, .int 0]))]) (w1 := [(q_21, .inr (18, [.int 1, .ref sx_ed, .int 0]))]) hP hD [1] [0] rfl rfl (by decide) (by decide) hk1 hFc hP1 hD1
  have hK := (hK.sub (tys' := []) [] rfl).app hK1
  generalize H1 = H at hP hS ⊢
  have hP : va_P (dC, dI) vwP [(q_17, .inr (12, [.ref q_18, .ref q_19, .ref q_20, .int 0, .int 0, .ref q_21, .int 0])), (q_21, .inr (18, [.int 1, .ref sx_ed, .int 0]))] H := hP
  have hD : va_D A [(q_17, .inr (12, [.ref q_18, .ref q_19, .ref q_20, .int 0, .int 0, .ref q_21, .int 0])), (q_21, .inr (18, [.int 1, .ref sx_ed, .int 0]))] := hD
  have hK : va_K (dC, dI) vwP [] s := hK
  refine W.widen (k := 0) (n := 0) (Nat.le_of_ble_eq_true rfl) (Nat.le_of_ble_eq_true rfl) ?_
  refine lv_aload_n hx hb dX13_begin_17 rfl (lv_at hl 0 rfl) ?_
  refine lv_iconst (v := 0) hx hb dX13_begin_18 (by decide) ?_
  refine va_put (D := (dC, dI)) (ci := 12) (v := .int 0) (ty := .int) (C := RX13) (T := TX13) (N := 7) hx hb hts mem_X13_begin_0 tyX13 tyX13_ok nmX13 hown hK hP hD hS 0 rfl rfl 6 (by decide) (ow (k := 7) rfl) (fun _ h9 => h9) rfl (by decide +kernel) rfl rfl (Nat.le_of_ble_eq_true rfl) dX13_begin_19 (fun H locs hP hD hS => ?_)
  have hP : va_P (dC, dI) vwP [(q_17, .inr (12, [.ref q_18, .ref q_19, .ref q_20, .int 0, .int 0, .ref q_21, .int 0])), (q_21, .inr (18, [.int 1, .ref sx_ed, .int 0]))] H := hP
  have hD : va_D A [(q_17, .inr (12, [.ref q_18, .ref q_19, .ref q_20, .int 0, .int 0, .ref q_21, .int 0])), (q_21, .inr (18, [.int 1, .ref sx_ed, .int 0]))] := hD
  refine W.widen (k := 0) (n := 0) (Nat.le_of_ble_eq_true rfl) (Nat.le_of_ble_eq_true rfl) ?_
  exact W.vret hx hb hr (fun t ht hW => ⟨⟨(), rfl, trivial, by rw [ht]; exact hP, va_K.moved hW.alike hK, hD⟩, hS.F ht⟩) hS.2.2 dX13_begin_22
theorem dX16_no_0 : decode cX16_no 0 = .ok (.new 124, 3) := by decide +kernel
theorem dX16_no_3 : decode cX16_no 3 = .ok (.dup, 1) := by decide +kernel
theorem dX16_no_4 : decode cX16_no 4 = .ok (.aload_n 0, 1) := by decide +kernel
theorem dX16_no_5 : decode cX16_no 5 = .ok (.getfield 47, 3) := by decide +kernel
theorem dX16_no_8 : decode cX16_no 8 = .ok (.invokespecial 126, 3) := by decide +kernel
theorem dX16_no_11 : decode cX16_no 11 = .ok (.areturn, 1) := by decide +kernel
def o_X16_no : List Cond := [.classLink RX16 124 RX18, .instantiable RX18 7, .initialized RX18, .fieldLink RX16 47 "SsaForgeModel$Reader" "place" "I", .methodLink RX16 126 yX18_init, .instanceMethod yX18_init]
def v_X16_no : List Cond := .code yX16_no cX16_no 1 (some (.object "SsaForgeModel$Wrong")) :: (o_X16_no ++ (wsX180 ++ (wsX160 ++ (v_X18_init ++ []))))
theorem mow_X16_no : ∀ w ∈ o_X16_no, w ∈ v_X16_no := fun _ h => List.mem_cons_of_mem _ (List.mem_append_left _ h)
theorem mem_X16_no_0 : ∀ w ∈ wsX180, w ∈ v_X16_no := fun _ h => List.mem_cons_of_mem _ (List.mem_append_right _ (List.mem_append_left _ h))
theorem mem_X16_no_1 : ∀ w ∈ wsX160, w ∈ v_X16_no := fun _ h => List.mem_cons_of_mem _ (List.mem_append_right _ (List.mem_append_right _ (List.mem_append_left _ h)))
theorem mem_X16_no_2 : ∀ w ∈ v_X18_init, w ∈ v_X16_no := fun _ h => List.mem_cons_of_mem _ (List.mem_append_right _ (List.mem_append_right _ (List.mem_append_right _ (List.mem_append_left _ h))))
set_option maxRecDepth 20000 in
theorem gw_X16_no : v_X16_no.all goodWord = true := by decide +kernel
set_option maxHeartbeats 4000000 in
set_option maxRecDepth 100000 in
theorem c_X16_no (l : Launch) (dC : Nat → ClassId) (dI : Nat → Nat → Nat) (h0 : Nat) (q_801 : Nat) (q_803 : Nat) (q_804 : Nat) (sa_RX16_9 : Nat) (sz : Nat) : Met l yX16_no v_X16_no ({ frames := 5, cells := 1, slots := 7, locals := 105 }) (va_Pc [.ref h0] (fun U => U.heap.size = sz ∧ va_P (dC, dI) vwP [(h0, .inr (14, [.ref q_801, .int 0, .int 0, .int 0, .int 0, .int 0, .int 0, .ref sa_RX16_9, .int (-1), .int 0, .int 0, .ref q_803, .ref q_804, .int 0]))] U.heap ∧ va_K (dC, dI) vwP [] U ∧ va_D (fun _ => True) [(h0, .inr (14, [.ref q_801, .int 0, .int 0, .int 0, .int 0, .int 0, .int 0, .ref sa_RX16_9, .int (-1), .int 0, .int 0, .ref q_803, .ref q_804, .int 0]))] ∧ vx_Zq Bundle.tN "UNASSIGNED_STACK" Bundle.steD (va_A [(h0, .inr (14, [.ref q_801, .int 0, .int 0, .int 0, .int 0, .int 0, .int 0, .ref sa_RX16_9, .int (-1), .int 0, .int 0, .ref q_803, .ref q_804, .int 0]))] sz) U U.heap ∧ vx_Zq Bundle.tN "SUPPRESSED_SENTINEL" Bundle.listD (va_A [(h0, .inr (14, [.ref q_801, .int 0, .int 0, .int 0, .int 0, .int 0, .int 0, .ref sa_RX16_9, .int (-1), .int 0, .int 0, .ref q_803, .ref q_804, .int 0]))] sz) U U.heap)) (va_Qr (fun _ : Unit => True) (fun (_ : Unit) (q_2001 : Nat) (t : State) => va_P (dC, dI) vwP [(h0, .inr (14, [.ref q_801, .int 0, .int 0, .int 0, .int 0, .int 0, .int 0, .ref sa_RX16_9, .int (-1), .int 0, .int 0, .ref q_803, .ref q_804, .int 0])), (q_2001, .inr (15, [.null, .null, .null, .null, .null, .int 0, .int 0]))] t.heap ∧ va_K (dC, dI) vwP [] t ∧ va_D (va_A [(h0, .inr (14, [.ref q_801, .int 0, .int 0, .int 0, .int 0, .int 0, .int 0, .ref sa_RX16_9, .int (-1), .int 0, .int 0, .ref q_803, .ref q_804, .int 0]))] sz) [(h0, .inr (14, [.ref q_801, .int 0, .int 0, .int 0, .int 0, .int 0, .int 0, .ref sa_RX16_9, .int (-1), .int 0, .int 0, .ref q_803, .ref q_804, .int 0])), (q_2001, .inr (15, [.null, .null, .null, .null, .null, .int 0, .int 0]))]) (va_A [(h0, .inr (14, [.ref q_801, .int 0, .int 0, .int 0, .int 0, .int 0, .int 0, .ref sa_RX16_9, .int (-1), .int 0, .int 0, .ref q_803, .ref q_804, .int 0]))] sz)) 1 7 (va_A [(h0, .inr (14, [.ref q_801, .int 0, .int 0, .int 0, .int 0, .int 0, .int 0, .ref sa_RX16_9, .int (-1), .int 0, .int 0, .ref q_803, .ref q_804, .int 0]))] sz) := by
  refine Met.ofW (cc := cX16_no) (maxL := 1) (ret := (some (.object "SsaForgeModel$Wrong"))) (by decide) rfl ?_
  intro p e s m args below meth c s₁ B hml hv
  obtain ⟨rfl, hsz, hP, hK, hD0, hp0, hp1⟩ := hv
  have hx := B.exec
  have hb := B.bytes
  have hr := B.returns
  have hts := atoms_spec (ws := v_X16_no) B.pre
  have hown : s.vm.findClass RX16 = some m.cls := findClass_of_methodNamed B.named
  have hlocks := B.notSynchronized
  have ow : ∀ {k : Nat} {w : Cond}, o_X16_no[k]? = some w → w.before ([.ref h0] : List Value).toArray s = true := fun h => hts _ (mow_X16_no _ (List.mem_of_getElem? h))
  subst hsz
  have hD := hD0.self (sz := s.heap.size)
  generalize hAe : va_A [(h0, .inr (14, [.ref q_801, .int 0, .int 0, .int 0, .int 0, .int 0, .int 0, .ref sa_RX16_9, .int (-1), .int 0, .int 0, .ref q_803, .ref q_804, .int 0]))] s.heap.size = A at hD hp0 hp1 ⊢
  have hA : ∀ q : Nat, s.heap.size ≤ q → A q := fun q h => by rw [← hAe]; exact Or.inr h
  have hS : va_S A s.heap s.heap [] := va_S.rf
  have hP : va_P (dC, dI) vwP [(h0, .inr (14, [.ref q_801, .int 0, .int 0, .int 0, .int 0, .int 0, .int 0, .ref sa_RX16_9, .int (-1), .int 0, .int 0, .ref q_803, .ref q_804, .int 0]))] s.heap := hP
  have hl := lv_entry ([.ref h0]) (n := 1) (Nat.le_of_ble_eq_true rfl)
  rw [lg_entry_eq]
  generalize (lg_sl ([.ref h0]) ++ List.replicate (1 - (lg_sl ([.ref h0])).length) Slot.unset).toArray = ls at hl ⊢
  have hl : lv_has ls 1 [(0, .ref h0)] := hl
  obtain ⟨H, hH⟩ : ∃ H, H = s.heap := ⟨_, rfl⟩
  rw [← hH] at hP
  have hS : va_S A s.heap H [] := by rw [hH]; exact hS
  rw [← hH]
  refine va_new (ci := 15) (fs := [.null, .null, .null, .null, .null, .int 0, .int 0]) (C := RX18) (T := TX18) (N := 7) hx hb hts mem_X16_no_0 tyX18 tyX18_ok hown (ow (k := 0) rfl) (ow (k := 1) rfl) (ow (k := 2) rfl) hK hP hD hS hA rfl (df_X18) (Nat.le_of_ble_eq_true rfl) (Nat.le_of_ble_eq_true rfl) dX16_no_0 (fun q_2001 H hP hD hS => ?_)
  have hP : va_P (dC, dI) vwP [(h0, .inr (14, [.ref q_801, .int 0, .int 0, .int 0, .int 0, .int 0, .int 0, .ref sa_RX16_9, .int (-1), .int 0, .int 0, .ref q_803, .ref q_804, .int 0])), (q_2001, .inr (15, [.null, .null, .null, .null, .null, .int 0, .int 0]))] H := hP
  have hD : va_D A [(h0, .inr (14, [.ref q_801, .int 0, .int 0, .int 0, .int 0, .int 0, .int 0, .ref sa_RX16_9, .int (-1), .int 0, .int 0, .ref q_803, .ref q_804, .int 0])), (q_2001, .inr (15, [.null, .null, .null, .null, .null, .int 0, .int 0]))] := hD
  refine W.widen (k := 1) (n := 7) (Nat.le_of_ble_eq_true rfl) (Nat.le_of_ble_eq_true rfl) ?_
  refine lv_dup hx hb dX16_no_3 rfl ?_
  refine lv_aload_n hx hb dX16_no_4 rfl (lv_at hl 0 rfl) ?_
  refine va_get (D := (dC, dI)) (ci := 14) (v := .int 0) (C := RX16) (T := TX16) (N := 14) hx hb hts mem_X16_no_1 hown hK hP 0 rfl rfl 4 (by decide) (ow (k := 3) rfl) (fun _ h9 => h9) rfl dX16_no_5 ?_
  have hPc := hP.sub (ws' := [(q_2001, .inr (15, [.null, .null, .null, .null, .null, .int 0, .int 0]))]) [1] rfl
  have hDc := hD.sub (ws' := [(q_2001, .inr (15, [.null, .null, .null, .null, .null, .int 0, .int 0]))]) [1] (by decide) rfl
  have hKc := hK.sub (tys' := []) [] rfl
  have hFc := va_free (wc := [(q_2001, .inr (15, [.null, .null, .null, .null, .null, .int 0, .int 0]))]) hD hS hA [1] rfl
  refine va_callv (va_runI (As := [.int 0]) (rest := [.ref q_2001]) ⟨hx, hb, hml, hown, hts⟩ (c_X18_init l dC dI q_2001 H.size) (cwI 1 hts (goodIn_sub mem_X16_no_2 gw_X18_init) rfl rfl rfl (ow (k := 2) rfl) (ow (k := 4) rfl) (ow (k := 5) rfl) rfl (by decide +kernel) ⟨(Nat.le_of_ble_eq_true rfl), (Nat.le_of_ble_eq_true rfl)⟩) ⟨fun a U g mk q => by obtain ⟨q0, q1, qP, qK, qD, e0, e1⟩ := q; exact ⟨q0, q1, qP, va_K.moved (u := U) (U := U.calling g mk a) (Vm.Alike.refl U.vm) qK, qD, vx_Zq.moved (u := U) (U := U.calling g mk a) (Vm.Alike.refl U.vm) e0, vx_Zq.moved (u := U) (U := U.calling g mk a) (Vm.Alike.refl U.vm) e1⟩, fun U hU hW => ⟨rfl, by rw [hU], by rw [hU]; exact hPc, va_K.moved hW.alike hKc, hDc.weaken (fun _ _ _ _ => trivial), by rw [hU]; exact vx_Zq.narrow (vx_Zq.moved hW.alike (vx_Zq.kept hp0 hS.2.1)) hFc, by rw [hU]; exact vx_Zq.narrow (vx_Zq.moved hW.alike (vx_Zq.kept hp1 hS.2.1)) hFc⟩⟩ rfl rfl hl.1 rfl (lv_room (Nat.le_of_ble_eq_true rfl)) dX16_no_8 ⟨(Nat.le_of_ble_eq_true rfl), (Nat.le_of_ble_eq_true rfl)⟩) hS (fun q _ h => hFc q h) hFc (fun  u t H1 locs ht hvm hw hB hz1 hk1 hS => ?_)
  obtain ⟨hP1, hK1, hD1⟩ := hB
  rw [ht] at hP1
  have hK1 := va_K.moved hvm.symm hK1
  obtain ⟨hP, hD⟩ := va_join (wr := [(h0, .inr (14, [.ref q_801, .int 0, .int 0, .int 0, .int 0, .int 0, .int 0, .ref sa_RX16_9, .int (-1), .int 0, .int 0, .ref q_803, .ref q_804, .int 0]))]) (w1 := [(q_2001, .inr (15, [.null, .null, .null, .null, .null, .int 0, .int 0]))]) hP hD [1] [0] rfl rfl (by decide) (by decide) hk1 hFc hP1 hD1
  have hK := (hK.sub (tys' := []) [] rfl).app hK1
  generalize H1 = H at hP hS ⊢
  have hP : va_P (dC, dI) vwP [(h0, .inr (14, [.ref q_801, .int 0, .int 0, .int 0, .int 0, .int 0, .int 0, .ref sa_RX16_9, .int (-1), .int 0, .int 0, .ref q_803, .ref q_804, .int 0])), (q_2001, .inr (15, [.null, .null, .null, .null, .null, .int 0, .int 0]))] H := hP
  have hD : va_D A [(h0, .inr (14, [.ref q_801, .int 0, .int 0, .int 0, .int 0, .int 0, .int 0, .ref sa_RX16_9, .int (-1), .int 0, .int 0, .ref q_803, .ref q_804, .int 0])), (q_2001, .inr (15, [.null, .null, .null, .null, .null, .int 0, .int 0]))] := hD
  have hK : va_K (dC, dI) vwP [] s := hK
  refine W.widen (k := 1) (n := 7) (Nat.le_of_ble_eq_true rfl) (Nat.le_of_ble_eq_true rfl) ?_
  refine W.widen (k := 1) (n := 7) (Nat.le_of_ble_eq_true rfl) (Nat.le_of_ble_eq_true rfl) ?_
  exact W.aret (v := .ref q_2001) hx hb hr (Or.inl ⟨_, rfl⟩) (Or.inr ⟨_, rfl⟩) (fun t ht hW => ⟨⟨(), q_2001, rfl, trivial, by rw [ht]; exact hP, va_K.moved hW.alike hK, hD⟩, hS.F ht⟩) hS.2.2 dX16_no_11
theorem dX16_want__0 : decode cX16_want_ 0 = .ok (.aload_n 0, 1) := by decide +kernel
theorem dX16_want__1 : decode cX16_want_ 1 = .ok (.getfield 38, 3) := by decide +kernel
theorem dX16_want__4 : decode cX16_want_ 4 = .ok (.iload_n 1, 1) := by decide +kernel
theorem dX16_want__5 : decode cX16_want_ 5 = .ok (.if_icmp .eq 8, 3) := by decide +kernel
theorem dX16_want__8 : decode cX16_want_ 8 = .ok (.aload_n 0, 1) := by decide +kernel
theorem dX16_want__9 : decode cX16_want_ 9 = .ok (.invokevirtual 136, 3) := by decide +kernel
theorem dX16_want__12 : decode cX16_want_ 12 = .ok (.athrow, 1) := by decide +kernel
def o_X16_want : List Cond := [.fieldLink RX16 38 "SsaForgeModel$Reader" "kind" "I", .methodLink RX16 136 yX16_no, .instanceMethod yX16_no, .selects RX16 yX16_no yX16_no, .initialized RX16]
def v_X16_want : List Cond := .code yX16_want_ cX16_want_ 3 (some .int) :: (o_X16_want ++ (wsX160 ++ (v_X16_no ++ [])))
theorem mow_X16_want : ∀ w ∈ o_X16_want, w ∈ v_X16_want := fun _ h => List.mem_cons_of_mem _ (List.mem_append_left _ h)
theorem mem_X16_want_0 : ∀ w ∈ wsX160, w ∈ v_X16_want := fun _ h => List.mem_cons_of_mem _ (List.mem_append_right _ (List.mem_append_left _ h))
theorem mem_X16_want_1 : ∀ w ∈ v_X16_no, w ∈ v_X16_want := fun _ h => List.mem_cons_of_mem _ (List.mem_append_right _ (List.mem_append_right _ (List.mem_append_left _ h)))
set_option maxRecDepth 20000 in
theorem gw_X16_want : v_X16_want.all goodWord = true := by decide +kernel
set_option maxRecDepth 20000 in
theorem g_X16_want_X16_no : GoodIn v_X16_want (wsV RX16 136 RX16 yX16_no v_X16_no) := goodIn_app (goodIn_sub (fun w h => mow_X16_want w (by revert w h; decide +kernel)) (by decide +kernel)) (goodIn_sub mem_X16_want_1 gw_X16_no)
set_option maxHeartbeats 4000000 in
set_option maxRecDepth 100000 in
theorem c_X16_want (l : Launch) (dC : Nat → ClassId) (dI : Nat → Nat → Nat) (h0 : Nat) (q_801 : Nat) (q_803 : Nat) (q_804 : Nat) (sa_RX16_9 : Nat) (sz : Nat) : vx_Met l yX16_want_ v_X16_want ({ frames := 6, cells := 1, slots := 7, locals := 125 }) (va_Pc [.ref h0, .int 3] (fun U => U.heap.size = sz ∧ va_P (dC, dI) vwP [(h0, .inr (14, [.ref q_801, .int 0, .int 0, .int 0, .int 0, .int 0, .int 0, .ref sa_RX16_9, .int (-1), .int 0, .int 0, .ref q_803, .ref q_804, .int 0]))] U.heap ∧ va_K (dC, dI) vwP [] U ∧ va_D (fun _ => True) [(h0, .inr (14, [.ref q_801, .int 0, .int 0, .int 0, .int 0, .int 0, .int 0, .ref sa_RX16_9, .int (-1), .int 0, .int 0, .ref q_803, .ref q_804, .int 0]))] ∧ vx_Zq Bundle.tN "UNASSIGNED_STACK" Bundle.steD (va_A [(h0, .inr (14, [.ref q_801, .int 0, .int 0, .int 0, .int 0, .int 0, .int 0, .ref sa_RX16_9, .int (-1), .int 0, .int 0, .ref q_803, .ref q_804, .int 0]))] sz) U U.heap ∧ vx_Zq Bundle.tN "SUPPRESSED_SENTINEL" Bundle.listD (va_A [(h0, .inr (14, [.ref q_801, .int 0, .int 0, .int 0, .int 0, .int 0, .int 0, .ref sa_RX16_9, .int (-1), .int 0, .int 0, .ref q_803, .ref q_804, .int 0]))] sz) U U.heap)) (va_Qi (fun (_ : Int32) (_ : Unit) => False) (fun (_ : Unit) (t : State) => va_P (dC, dI) vwP [] t.heap ∧ va_K (dC, dI) vwP [] t ∧ va_D (va_A [(h0, .inr (14, [.ref q_801, .int 0, .int 0, .int 0, .int 0, .int 0, .int 0, .ref sa_RX16_9, .int (-1), .int 0, .int 0, .ref q_803, .ref q_804, .int 0]))] sz) []) (va_A [(h0, .inr (14, [.ref q_801, .int 0, .int 0, .int 0, .int 0, .int 0, .int 0, .ref sa_RX16_9, .int (-1), .int 0, .int 0, .ref q_803, .ref q_804, .int 0]))] sz)) (vx_X (fun _ : Unit => True) (fun E (q9 : Addr) (_ : Unit) (t9 : State) => (E = RX18 ∧ va_P (dC, dI) vwP [(q9, .inr (15, [.null, .null, .null, .null, .null, .int 0, .int 0]))] t9.heap ∧ va_D (va_A [(h0, .inr (14, [.ref q_801, .int 0, .int 0, .int 0, .int 0, .int 0, .int 0, .ref sa_RX16_9, .int (-1), .int 0, .int 0, .ref q_803, .ref q_804, .int 0]))] sz) [(q9, .inr (15, [.null, .null, .null, .null, .null, .int 0, .int 0]))])) (va_A [(h0, .inr (14, [.ref q_801, .int 0, .int 0, .int 0, .int 0, .int 0, .int 0, .ref sa_RX16_9, .int (-1), .int 0, .int 0, .ref q_803, .ref q_804, .int 0]))] sz)) 1 7 (va_A [(h0, .inr (14, [.ref q_801, .int 0, .int 0, .int 0, .int 0, .int 0, .int 0, .ref sa_RX16_9, .int (-1), .int 0, .int 0, .ref q_803, .ref q_804, .int 0]))] sz) := by
  refine vx_ofW (cc := cX16_want_) (maxL := 3) (ret := (some .int)) (by decide) rfl ?_
  intro p e s m args below meth c s₁ B hml hnt hv
  obtain ⟨rfl, hsz, hP, hK, hD0, hp0, hp1⟩ := hv
  have hx := B.exec
  have hb := B.bytes
  have hr := B.returns
  have hts := atoms_spec (ws := v_X16_want) B.pre
  have hown : s.vm.findClass RX16 = some m.cls := findClass_of_methodNamed B.named
  have hlocks := B.notSynchronized
  have ow : ∀ {k : Nat} {w : Cond}, o_X16_want[k]? = some w → w.before ([.ref h0, .int 3] : List Value).toArray s = true := fun h => hts _ (mow_X16_want _ (List.mem_of_getElem? h))
  subst hsz
  have hD := hD0.self (sz := s.heap.size)
  generalize hAe : va_A [(h0, .inr (14, [.ref q_801, .int 0, .int 0, .int 0, .int 0, .int 0, .int 0, .ref sa_RX16_9, .int (-1), .int 0, .int 0, .ref q_803, .ref q_804, .int 0]))] s.heap.size = A at hD hp0 hp1 ⊢
  have hA : ∀ q : Nat, s.heap.size ≤ q → A q := fun q h => by rw [← hAe]; exact Or.inr h
  have hS : va_S A s.heap s.heap [] := va_S.rf
  have hP : va_P (dC, dI) vwP [(h0, .inr (14, [.ref q_801, .int 0, .int 0, .int 0, .int 0, .int 0, .int 0, .ref sa_RX16_9, .int (-1), .int 0, .int 0, .ref q_803, .ref q_804, .int 0]))] s.heap := hP
  have hl := lv_entry ([.ref h0, .int 3]) (n := 3) (Nat.le_of_ble_eq_true rfl)
  rw [lg_entry_eq]
  generalize (lg_sl ([.ref h0, .int 3]) ++ List.replicate (3 - (lg_sl ([.ref h0, .int 3])).length) Slot.unset).toArray = ls at hl ⊢
  have hl : lv_has ls 3 [(0, .ref h0), (1, .int 3)] := hl
  obtain ⟨H, hH⟩ : ∃ H, H = s.heap := ⟨_, rfl⟩
  rw [← hH] at hP
  have hS : va_S A s.heap H [] := by rw [hH]; exact hS
  rw [← hH]
  refine lv_aload_n hx hb dX16_want__0 rfl (lv_at hl 0 rfl) ?_
  refine va_get (D := (dC, dI)) (ci := 14) (v := .int 0) (C := RX16) (T := TX16) (N := 14) hx hb hts mem_X16_want_0 hown hK hP 0 rfl rfl 3 (by decide) (ow (k := 0) rfl) (fun _ h9 => h9) rfl dX16_want__1 ?_
  refine lv_iload_n hx hb dX16_want__4 rfl (lv_at hl 1 rfl) ?_
  refine lv_icmp_eq (tgt := 13) hx hb dX16_want__5 (by decide) (fun h9 => absurd h9 (by decide)) (fun _ => ?_)
  refine lv_aload_n hx hb dX16_want__8 rfl (lv_at hl 0 rfl) ?_
  have hPc := hP.sub (ws' := [(h0, .inr (14, [.ref q_801, .int 0, .int 0, .int 0, .int 0, .int 0, .int 0, .ref sa_RX16_9, .int (-1), .int 0, .int 0, .ref q_803, .ref q_804, .int 0]))]) [0] rfl
  have hDc := hD.sub (ws' := [(h0, .inr (14, [.ref q_801, .int 0, .int 0, .int 0, .int 0, .int 0, .int 0, .ref sa_RX16_9, .int (-1), .int 0, .int 0, .ref q_803, .ref q_804, .int 0]))]) [0] (by decide) rfl
  have hKc := hK.sub (tys' := []) [] rfl
  have hFc := va_free (wc := [(h0, .inr (14, [.ref q_801, .int 0, .int 0, .int 0, .int 0, .int 0, .int 0, .ref sa_RX16_9, .int (-1), .int 0, .int 0, .ref q_803, .ref q_804, .int 0]))]) hD hS hA [0] rfl
  refine va_callr (va_runV (As := []) (rest := []) ⟨hx, hb, hml, hown, hts⟩ (c_X16_no l dC dI h0 q_801 q_803 q_804 sa_RX16_9 H.size) (cwV 0 hts g_X16_want_X16_no rfl rfl rfl (by decide +kernel) ⟨(Nat.le_of_ble_eq_true rfl), (Nat.le_of_ble_eq_true rfl)⟩) ⟨fun a U g mk q => by obtain ⟨q0, q1, qP, qK, qD, e0, e1⟩ := q; exact ⟨q0, q1, qP, va_K.moved (u := U) (U := U.calling g mk a) (Vm.Alike.refl U.vm) qK, qD, vx_Zq.moved (u := U) (U := U.calling g mk a) (Vm.Alike.refl U.vm) e0, vx_Zq.moved (u := U) (U := U.calling g mk a) (Vm.Alike.refl U.vm) e1⟩, va_recv hKc hPc (ci := 14) (q0 := 0) rfl rfl, fun U hU hW => ⟨rfl, by rw [hU], by rw [hU]; exact hPc, va_K.moved hW.alike hKc, hDc.weaken (fun _ _ _ _ => trivial), by rw [hU]; exact vx_Zq.narrow (vx_Zq.moved hW.alike (vx_Zq.kept hp0 hS.2.1)) hFc, by rw [hU]; exact vx_Zq.narrow (vx_Zq.moved hW.alike (vx_Zq.kept hp1 hS.2.1)) hFc⟩⟩ rfl rfl hl.1 rfl (lv_room (Nat.le_of_ble_eq_true rfl)) dX16_want__9 ⟨(Nat.le_of_ble_eq_true rfl), (Nat.le_of_ble_eq_true rfl)⟩) hS (fun q _ h => hFc q h) hFc (fun u q_2001 t H1 locs ht hvm hw hB hz1 hk1 hS => ?_)
  obtain ⟨hP1, hK1, hD1⟩ := hB
  rw [ht] at hP1
  have hK1 := va_K.moved hvm.symm hK1
  obtain ⟨hP, hD⟩ := va_join (wr := []) (w1 := [(h0, .inr (14, [.ref q_801, .int 0, .int 0, .int 0, .int 0, .int 0, .int 0, .ref sa_RX16_9, .int (-1), .int 0, .int 0, .ref q_803, .ref q_804, .int 0])), (q_2001, .inr (15, [.null, .null, .null, .null, .null, .int 0, .int 0]))]) hP hD [0] [] rfl rfl (by decide) (by decide) hk1 hFc hP1 hD1
  have hK := (hK.sub (tys' := []) [] rfl).app hK1
  generalize H1 = H at hP hS ⊢
  have hP : va_P (dC, dI) vwP [(h0, .inr (14, [.ref q_801, .int 0, .int 0, .int 0, .int 0, .int 0, .int 0, .ref sa_RX16_9, .int (-1), .int 0, .int 0, .ref q_803, .ref q_804, .int 0])), (q_2001, .inr (15, [.null, .null, .null, .null, .null, .int 0, .int 0]))] H := hP
  have hD : va_D A [(h0, .inr (14, [.ref q_801, .int 0, .int 0, .int 0, .int 0, .int 0, .int 0, .ref sa_RX16_9, .int (-1), .int 0, .int 0, .ref q_803, .ref q_804, .int 0])), (q_2001, .inr (15, [.null, .null, .null, .null, .null, .int 0, .int 0]))] := hD
  have hK : va_K (dC, dI) vwP [] s := hK
  refine W.widen (k := 1) (n := 7) (Nat.le_of_ble_eq_true rfl) (Nat.le_of_ble_eq_true rfl) ?_
  obtain ⟨ce9, h91, h92, h93⟩ := vy_cell (C := RX18) (T := TX18) (N := 7) hK hP (k := 1) rfl rfl
  have hP := hP.sub (ws' := [(q_2001, .inr (15, [.null, .null, .null, .null, .null, .int 0, .int 0]))]) [1] rfl
  have hD := hD.sub (ws' := [(q_2001, .inr (15, [.null, .null, .null, .null, .null, .int 0, .int 0]))]) [1] (by decide) rfl
  exact vy_athrow hx hb (fun x9 h9 => (hnt x9 h9).elim) hlocks h91 h92 h93 (fun t ht hvm => ⟨(), trivial, ⟨rfl, by rw [ht]; exact hP, hD⟩, hS.F ht⟩) hS.2.2 (Nat.le_of_ble_eq_true rfl) (Nat.le_of_ble_eq_true rfl) dX16_want__12
theorem dX16_block_0 : decode cX16_block 0 = .ok (.aload_n 0, 1) := by decide +kernel
theorem dX16_block_1 : decode cX16_block 1 = .ok (.getfield 47, 3) := by decide +kernel
theorem dX16_block_4 : decode cX16_block 4 = .ok (.istore_n 2, 1) := by decide +kernel
theorem dX16_block_5 : decode cX16_block 5 = .ok (.aload_n 0, 1) := by decide +kernel
theorem dX16_block_6 : decode cX16_block 6 = .ok (.iconst 3, 1) := by decide +kernel
theorem dX16_block_7 : decode cX16_block 7 = .ok (.invokevirtual 152, 3) := by decide +kernel
def o_X16_block : List Cond := [.fieldLink RX16 47 "SsaForgeModel$Reader" "place" "I", .methodLink RX16 152 yX16_want_, .instanceMethod yX16_want_, .selects RX16 yX16_want_ yX16_want_, .initialized RX16]
def v_X16_block : List Cond := .code yX16_block cX16_block 6 none :: (o_X16_block ++ (wsX160 ++ (v_X16_want ++ [])))
theorem mow_X16_block : ∀ w ∈ o_X16_block, w ∈ v_X16_block := fun _ h => List.mem_cons_of_mem _ (List.mem_append_left _ h)
theorem mem_X16_block_0 : ∀ w ∈ wsX160, w ∈ v_X16_block := fun _ h => List.mem_cons_of_mem _ (List.mem_append_right _ (List.mem_append_left _ h))
theorem mem_X16_block_1 : ∀ w ∈ v_X16_want, w ∈ v_X16_block := fun _ h => List.mem_cons_of_mem _ (List.mem_append_right _ (List.mem_append_right _ (List.mem_append_left _ h)))
set_option maxRecDepth 20000 in
theorem gw_X16_block : v_X16_block.all goodWord = true := by decide +kernel
set_option maxRecDepth 20000 in
theorem g_X16_block_X16_want : GoodIn v_X16_block (wsV RX16 152 RX16 yX16_want_ v_X16_want) := goodIn_app (goodIn_sub (fun w h => mow_X16_block w (by revert w h; decide +kernel)) (by decide +kernel)) (goodIn_sub mem_X16_block_1 gw_X16_want)
set_option maxHeartbeats 4000000 in
set_option maxRecDepth 100000 in
theorem c_X16_block (l : Launch) (dC : Nat → ClassId) (dI : Nat → Nat → Nat) (h0 : Nat) (q_801 : Nat) (q_803 : Nat) (q_804 : Nat) (sa_RX16_9 : Nat) (q_805 : Nat) (sz : Nat) : vx_Met l yX16_block v_X16_block ({ frames := 7, cells := 1, slots := 7, locals := 147 }) (va_Pc [.ref h0, .ref q_805] (fun U => U.heap.size = sz ∧ va_P (dC, dI) vwP [(h0, .inr (14, [.ref q_801, .int 0, .int 0, .int 0, .int 0, .int 0, .int 0, .ref sa_RX16_9, .int (-1), .int 0, .int 0, .ref q_803, .ref q_804, .int 0]))] U.heap ∧ va_K (dC, dI) vwP [] U ∧ va_D (fun _ => True) [(h0, .inr (14, [.ref q_801, .int 0, .int 0, .int 0, .int 0, .int 0, .int 0, .ref sa_RX16_9, .int (-1), .int 0, .int 0, .ref q_803, .ref q_804, .int 0]))] ∧ vx_Zq Bundle.tN "UNASSIGNED_STACK" Bundle.steD (va_A [(h0, .inr (14, [.ref q_801, .int 0, .int 0, .int 0, .int 0, .int 0, .int 0, .ref sa_RX16_9, .int (-1), .int 0, .int 0, .ref q_803, .ref q_804, .int 0]))] sz) U U.heap ∧ vx_Zq Bundle.tN "SUPPRESSED_SENTINEL" Bundle.listD (va_A [(h0, .inr (14, [.ref q_801, .int 0, .int 0, .int 0, .int 0, .int 0, .int 0, .ref sa_RX16_9, .int (-1), .int 0, .int 0, .ref q_803, .ref q_804, .int 0]))] sz) U U.heap)) (va_Qv (fun _ : Unit => False) (fun (_ : Unit) (t : State) => va_P (dC, dI) vwP [] t.heap ∧ va_K (dC, dI) vwP [] t ∧ va_D (va_A [(h0, .inr (14, [.ref q_801, .int 0, .int 0, .int 0, .int 0, .int 0, .int 0, .ref sa_RX16_9, .int (-1), .int 0, .int 0, .ref q_803, .ref q_804, .int 0]))] sz) []) (va_A [(h0, .inr (14, [.ref q_801, .int 0, .int 0, .int 0, .int 0, .int 0, .int 0, .ref sa_RX16_9, .int (-1), .int 0, .int 0, .ref q_803, .ref q_804, .int 0]))] sz)) (vx_X (fun _ : Unit => True) (fun E (q9 : Addr) (_ : Unit) (t9 : State) => (E = RX18 ∧ va_P (dC, dI) vwP [(q9, .inr (15, [.null, .null, .null, .null, .null, .int 0, .int 0]))] t9.heap ∧ va_D (va_A [(h0, .inr (14, [.ref q_801, .int 0, .int 0, .int 0, .int 0, .int 0, .int 0, .ref sa_RX16_9, .int (-1), .int 0, .int 0, .ref q_803, .ref q_804, .int 0]))] sz) [(q9, .inr (15, [.null, .null, .null, .null, .null, .int 0, .int 0]))])) (va_A [(h0, .inr (14, [.ref q_801, .int 0, .int 0, .int 0, .int 0, .int 0, .int 0, .ref sa_RX16_9, .int (-1), .int 0, .int 0, .ref q_803, .ref q_804, .int 0]))] sz)) 1 7 (va_A [(h0, .inr (14, [.ref q_801, .int 0, .int 0, .int 0, .int 0, .int 0, .int 0, .ref sa_RX16_9, .int (-1), .int 0, .int 0, .ref q_803, .ref q_804, .int 0]))] sz) := by
  refine vx_ofW (cc := cX16_block) (maxL := 6) (ret := none) (by decide) rfl ?_
  intro p e s m args below meth c s₁ B hml hnt hv
  obtain ⟨rfl, hsz, hP, hK, hD0, hp0, hp1⟩ := hv
  have hx := B.exec
  have hb := B.bytes
  have hr := B.returns
  have hts := atoms_spec (ws := v_X16_block) B.pre
  have hown : s.vm.findClass RX16 = some m.cls := findClass_of_methodNamed B.named
  have hlocks := B.notSynchronized
  have ow : ∀ {k : Nat} {w : Cond}, o_X16_block[k]? = some w → w.before ([.ref h0, .ref q_805] : List Value).toArray s = true := fun h => hts _ (mow_X16_block _ (List.mem_of_getElem? h))
  subst hsz
  have hD := hD0.self (sz := s.heap.size)
  generalize hAe : va_A [(h0, .inr (14, [.ref q_801, .int 0, .int 0, .int 0, .int 0, .int 0, .int 0, .ref sa_RX16_9, .int (-1), .int 0, .int 0, .ref q_803, .ref q_804, .int 0]))] s.heap.size = A at hD hp0 hp1 ⊢
  have hA : ∀ q : Nat, s.heap.size ≤ q → A q := fun q h => by rw [← hAe]; exact Or.inr h
  have hS : va_S A s.heap s.heap [] := va_S.rf
  have hP : va_P (dC, dI) vwP [(h0, .inr (14, [.ref q_801, .int 0, .int 0, .int 0, .int 0, .int 0, .int 0, .ref sa_RX16_9, .int (-1), .int 0, .int 0, .ref q_803, .ref q_804, .int 0]))] s.heap := hP
  have hl := lv_entry ([.ref h0, .ref q_805]) (n := 6) (Nat.le_of_ble_eq_true rfl)
  rw [lg_entry_eq]
  generalize (lg_sl ([.ref h0, .ref q_805]) ++ List.replicate (6 - (lg_sl ([.ref h0, .ref q_805])).length) Slot.unset).toArray = ls at hl ⊢
  have hl : lv_has ls 6 [(0, .ref h0), (1, .ref q_805)] := hl
  obtain ⟨H, hH⟩ : ∃ H, H = s.heap := ⟨_, rfl⟩
  rw [← hH] at hP
  have hS : va_S A s.heap H [] := by rw [hH]; exact hS
  rw [← hH]
  refine lv_aload_n hx hb dX16_block_0 rfl (lv_at hl 0 rfl) ?_
  refine va_get (D := (dC, dI)) (ci := 14) (v := .int 0) (C := RX16) (T := TX16) (N := 14) hx hb hts mem_X16_block_0 hown hK hP 0 rfl rfl 4 (by decide) (ow (k := 0) rfl) (fun _ h9 => h9) rfl dX16_block_1 ?_
  refine lv_istore_n (lv' := [(2, .int 0), (0, .ref h0), (1, .ref q_805)]) hx hb dX16_block_4 rfl hl (by decide) rfl (fun ls hl => ?_)
  refine lv_aload_n hx hb dX16_block_5 rfl (lv_at hl 1 rfl) ?_
  refine lv_iconst (v := 3) hx hb dX16_block_6 (by decide) ?_
  have hPc := hP.sub (ws' := [(h0, .inr (14, [.ref q_801, .int 0, .int 0, .int 0, .int 0, .int 0, .int 0, .ref sa_RX16_9, .int (-1), .int 0, .int 0, .ref q_803, .ref q_804, .int 0]))]) [0] rfl
  have hDc := hD.sub (ws' := [(h0, .inr (14, [.ref q_801, .int 0, .int 0, .int 0, .int 0, .int 0, .int 0, .ref sa_RX16_9, .int (-1), .int 0, .int 0, .ref q_803, .ref q_804, .int 0]))]) [0] (by decide) rfl
  have hKc := hK.sub (tys' := []) [] rfl
  have hFc := va_free (wc := [(h0, .inr (14, [.ref q_801, .int 0, .int 0, .int 0, .int 0, .int 0, .int 0, .ref sa_RX16_9, .int (-1), .int 0, .int 0, .ref q_803, .ref q_804, .int 0]))]) hD hS hA [0] rfl
  refine vx_calli (vx_runV (As := [.int 3]) (rest := []) ⟨hx, hb, hml, hown, hts⟩ (c_X16_want l dC dI h0 q_801 q_803 q_804 sa_RX16_9 H.size) (cwV 1 hts g_X16_block_X16_want rfl rfl rfl (by decide +kernel) ⟨(Nat.le_of_ble_eq_true rfl), (Nat.le_of_ble_eq_true rfl)⟩) ⟨fun a U g mk q => by obtain ⟨q0, q1, qP, qK, qD, e0, e1⟩ := q; exact ⟨q0, q1, qP, va_K.moved (u := U) (U := U.calling g mk a) (Vm.Alike.refl U.vm) qK, qD, vx_Zq.moved (u := U) (U := U.calling g mk a) (Vm.Alike.refl U.vm) e0, vx_Zq.moved (u := U) (U := U.calling g mk a) (Vm.Alike.refl U.vm) e1⟩, va_recv hKc hPc (ci := 14) (q0 := 0) rfl rfl, fun U hU hW => ⟨rfl, by rw [hU], by rw [hU]; exact hPc, va_K.moved hW.alike hKc, hDc.weaken (fun _ _ _ _ => trivial), by rw [hU]; exact vx_Zq.narrow (vx_Zq.moved hW.alike (vx_Zq.kept hp0 hS.2.1)) hFc, by rw [hU]; exact vx_Zq.narrow (vx_Zq.moved hW.alike (vx_Zq.kept hp1 hS.2.1)) hFc⟩⟩ rfl rfl hl.1 rfl (lv_room (Nat.le_of_ble_eq_true rfl)) dX16_block_7 ⟨(Nat.le_of_ble_eq_true rfl), (Nat.le_of_ble_eq_true rfl)⟩) hS (fun q _ h => hFc q h) hFc (fun q _ h => hFc q h) (fun E ce q9 u t H1 locs ht hvm _ hB hz1 hk1 hS hce hcv hcl => ?_) (fun r_2001 u t H1 locs ht hvm hw hB hz1 hk1 hS => ?_)
  · obtain ⟨rfl, hP1, hD1⟩ := hB
    rw [ht] at hP1
    obtain ⟨hP, hD⟩ := va_join (wr := []) (w1 := [(q9, .inr (15, [.null, .null, .null, .null, .null, .int 0, .int 0]))]) hP hD [0] [] rfl rfl (by decide) (by decide) hk1 hFc hP1 hD1
    have hK := hK.sub (tys' := []) [] rfl
    generalize H1 = H at hP hS hce ⊢
    have hP : va_P (dC, dI) vwP [(q9, .inr (15, [.null, .null, .null, .null, .null, .int 0, .int 0]))] H := hP
    have hD : va_D A [(q9, .inr (15, [.null, .null, .null, .null, .null, .int 0, .int 0]))] := hD
    refine vx_widen (k := 1) (n := 7) (Nat.le_of_ble_eq_true rfl) (Nat.le_of_ble_eq_true rfl) ?_
    exact vx_out (fun x9 h9 => (hnt x9 h9).elim) hlocks hce hcv hcl (fun t ht hvm => ⟨(), trivial, ⟨rfl, by rw [ht]; exact hP, hD⟩, hS.F ht⟩) hS.2.2 (Nat.le_of_ble_eq_true rfl) (Nat.le_of_ble_eq_true rfl)
  exact hw.elim
theorem dX16_program_0 : decode cX16_program 0 = .ok (.aload_n 1, 1) := by decide +kernel
theorem dX16_program_1 : decode cX16_program 1 = .ok (.invokevirtual 155, 3) := by decide +kernel
theorem dX16_program_4 : decode cX16_program 4 = .ok (.aload_n 0, 1) := by decide +kernel
theorem dX16_program_5 : decode cX16_program 5 = .ok (.aload_n 1, 1) := by decide +kernel
theorem dX16_program_6 : decode cX16_program 6 = .ok (.invokevirtual 160, 3) := by decide +kernel
def o_X16_program : List Cond := [.methodLink RX16 155 yX13_begin, .instanceMethod yX13_begin, .selects RX13 yX13_begin yX13_begin, .initialized RX13, .methodLink RX16 160 yX16_block, .instanceMethod yX16_block, .selects RX16 yX16_block yX16_block, .initialized RX16]
def v_X16_program : List Cond := .code yX16_program cX16_program 3 none :: (o_X16_program ++ (v_X13_begin ++ (v_X16_block ++ [])))
theorem mow_X16_program : ∀ w ∈ o_X16_program, w ∈ v_X16_program := fun _ h => List.mem_cons_of_mem _ (List.mem_append_left _ h)
theorem mem_X16_program_0 : ∀ w ∈ v_X13_begin, w ∈ v_X16_program := fun _ h => List.mem_cons_of_mem _ (List.mem_append_right _ (List.mem_append_left _ h))
theorem mem_X16_program_1 : ∀ w ∈ v_X16_block, w ∈ v_X16_program := fun _ h => List.mem_cons_of_mem _ (List.mem_append_right _ (List.mem_append_right _ (List.mem_append_left _ h)))
set_option maxRecDepth 20000 in
theorem gw_X16_program : v_X16_program.all goodWord = true := by decide +kernel
set_option maxRecDepth 20000 in
theorem g_X16_program_X13_begin : GoodIn v_X16_program (wsV RX16 155 RX13 yX13_begin v_X13_begin) := goodIn_app (goodIn_sub (fun w h => mow_X16_program w (by revert w h; decide +kernel)) (by decide +kernel)) (goodIn_sub mem_X16_program_0 gw_X13_begin)
set_option maxRecDepth 20000 in
theorem g_X16_program_X16_block : GoodIn v_X16_program (wsV RX16 160 RX16 yX16_block v_X16_block) := goodIn_app (goodIn_sub (fun w h => mow_X16_program w (by revert w h; decide +kernel)) (by decide +kernel)) (goodIn_sub mem_X16_program_1 gw_X16_block)
set_option maxHeartbeats 4000000 in
set_option maxRecDepth 100000 in
theorem c_X16_program (l : Launch) (dC : Nat → ClassId) (dI : Nat → Nat → Nat) (h0 : Nat) (q_801 : Nat) (q_803 : Nat) (q_804 : Nat) (q_17 : Nat) (q_18 : Nat) (q_19 : Nat) (q_20 : Nat) (q_21 : Nat) (sa_RX16_9 : Nat) (sx_ed : Nat) (sz : Nat) : vx_Met l yX16_program v_X16_program ({ frames := 8, cells := 1, slots := 7, locals := 172 }) (va_Pc [.ref h0, .ref q_17] (fun U => U.heap.size = sz ∧ va_P (dC, dI) vwP [(h0, .inr (14, [.ref q_801, .int 0, .int 0, .int 0, .int 0, .int 0, .int 0, .ref sa_RX16_9, .int (-1), .int 0, .int 0, .ref q_803, .ref q_804, .int 0])), (q_17, .inr (12, [.ref q_18, .ref q_19, .ref q_20, .int 0, .int 0, .ref q_21, .int 0])), (q_21, .inr (18, [.int 0, .ref sx_ed, .int 0]))] U.heap ∧ va_K (dC, dI) vwP [] U ∧ va_D (fun _ => True) [(h0, .inr (14, [.ref q_801, .int 0, .int 0, .int 0, .int 0, .int 0, .int 0, .ref sa_RX16_9, .int (-1), .int 0, .int 0, .ref q_803, .ref q_804, .int 0])), (q_17, .inr (12, [.ref q_18, .ref q_19, .ref q_20, .int 0, .int 0, .ref q_21, .int 0])), (q_21, .inr (18, [.int 0, .ref sx_ed, .int 0]))] ∧ vx_Zq Bundle.tN "UNASSIGNED_STACK" Bundle.steD (va_A [(h0, .inr (14, [.ref q_801, .int 0, .int 0, .int 0, .int 0, .int 0, .int 0, .ref sa_RX16_9, .int (-1), .int 0, .int 0, .ref q_803, .ref q_804, .int 0])), (q_17, .inr (12, [.ref q_18, .ref q_19, .ref q_20, .int 0, .int 0, .ref q_21, .int 0])), (q_21, .inr (18, [.int 0, .ref sx_ed, .int 0]))] sz) U U.heap ∧ vx_Zq Bundle.tN "SUPPRESSED_SENTINEL" Bundle.listD (va_A [(h0, .inr (14, [.ref q_801, .int 0, .int 0, .int 0, .int 0, .int 0, .int 0, .ref sa_RX16_9, .int (-1), .int 0, .int 0, .ref q_803, .ref q_804, .int 0])), (q_17, .inr (12, [.ref q_18, .ref q_19, .ref q_20, .int 0, .int 0, .ref q_21, .int 0])), (q_21, .inr (18, [.int 0, .ref sx_ed, .int 0]))] sz) U U.heap)) (va_Qv (fun _ : Unit => False) (fun (_ : Unit) (t : State) => va_P (dC, dI) vwP [] t.heap ∧ va_K (dC, dI) vwP [] t ∧ va_D (va_A [(h0, .inr (14, [.ref q_801, .int 0, .int 0, .int 0, .int 0, .int 0, .int 0, .ref sa_RX16_9, .int (-1), .int 0, .int 0, .ref q_803, .ref q_804, .int 0])), (q_17, .inr (12, [.ref q_18, .ref q_19, .ref q_20, .int 0, .int 0, .ref q_21, .int 0])), (q_21, .inr (18, [.int 0, .ref sx_ed, .int 0]))] sz) []) (va_A [(h0, .inr (14, [.ref q_801, .int 0, .int 0, .int 0, .int 0, .int 0, .int 0, .ref sa_RX16_9, .int (-1), .int 0, .int 0, .ref q_803, .ref q_804, .int 0])), (q_17, .inr (12, [.ref q_18, .ref q_19, .ref q_20, .int 0, .int 0, .ref q_21, .int 0])), (q_21, .inr (18, [.int 0, .ref sx_ed, .int 0]))] sz)) (vx_X (fun _ : Unit => True) (fun E (q9 : Addr) (_ : Unit) (t9 : State) => (E = RX18 ∧ va_P (dC, dI) vwP [(q9, .inr (15, [.null, .null, .null, .null, .null, .int 0, .int 0]))] t9.heap ∧ va_D (va_A [(h0, .inr (14, [.ref q_801, .int 0, .int 0, .int 0, .int 0, .int 0, .int 0, .ref sa_RX16_9, .int (-1), .int 0, .int 0, .ref q_803, .ref q_804, .int 0])), (q_17, .inr (12, [.ref q_18, .ref q_19, .ref q_20, .int 0, .int 0, .ref q_21, .int 0])), (q_21, .inr (18, [.int 0, .ref sx_ed, .int 0]))] sz) [(q9, .inr (15, [.null, .null, .null, .null, .null, .int 0, .int 0]))])) (va_A [(h0, .inr (14, [.ref q_801, .int 0, .int 0, .int 0, .int 0, .int 0, .int 0, .ref sa_RX16_9, .int (-1), .int 0, .int 0, .ref q_803, .ref q_804, .int 0])), (q_17, .inr (12, [.ref q_18, .ref q_19, .ref q_20, .int 0, .int 0, .ref q_21, .int 0])), (q_21, .inr (18, [.int 0, .ref sx_ed, .int 0]))] sz)) 1 7 (va_A [(h0, .inr (14, [.ref q_801, .int 0, .int 0, .int 0, .int 0, .int 0, .int 0, .ref sa_RX16_9, .int (-1), .int 0, .int 0, .ref q_803, .ref q_804, .int 0])), (q_17, .inr (12, [.ref q_18, .ref q_19, .ref q_20, .int 0, .int 0, .ref q_21, .int 0])), (q_21, .inr (18, [.int 0, .ref sx_ed, .int 0]))] sz) := by
  refine vx_ofW (cc := cX16_program) (maxL := 3) (ret := none) (by decide) rfl ?_
  intro p e s m args below meth c s₁ B hml hnt hv
  obtain ⟨rfl, hsz, hP, hK, hD0, hp0, hp1⟩ := hv
  have hx := B.exec
  have hb := B.bytes
  have hr := B.returns
  have hts := atoms_spec (ws := v_X16_program) B.pre
  have hown : s.vm.findClass RX16 = some m.cls := findClass_of_methodNamed B.named
  have hlocks := B.notSynchronized
  have ow : ∀ {k : Nat} {w : Cond}, o_X16_program[k]? = some w → w.before ([.ref h0, .ref q_17] : List Value).toArray s = true := fun h => hts _ (mow_X16_program _ (List.mem_of_getElem? h))
  subst hsz
  have hD := hD0.self (sz := s.heap.size)
  generalize hAe : va_A [(h0, .inr (14, [.ref q_801, .int 0, .int 0, .int 0, .int 0, .int 0, .int 0, .ref sa_RX16_9, .int (-1), .int 0, .int 0, .ref q_803, .ref q_804, .int 0])), (q_17, .inr (12, [.ref q_18, .ref q_19, .ref q_20, .int 0, .int 0, .ref q_21, .int 0])), (q_21, .inr (18, [.int 0, .ref sx_ed, .int 0]))] s.heap.size = A at hD hp0 hp1 ⊢
  have hA : ∀ q : Nat, s.heap.size ≤ q → A q := fun q h => by rw [← hAe]; exact Or.inr h
  have hS : va_S A s.heap s.heap [] := va_S.rf
  have hP : va_P (dC, dI) vwP [(h0, .inr (14, [.ref q_801, .int 0, .int 0, .int 0, .int 0, .int 0, .int 0, .ref sa_RX16_9, .int (-1), .int 0, .int 0, .ref q_803, .ref q_804, .int 0])), (q_17, .inr (12, [.ref q_18, .ref q_19, .ref q_20, .int 0, .int 0, .ref q_21, .int 0])), (q_21, .inr (18, [.int 0, .ref sx_ed, .int 0]))] s.heap := hP
  have hl := lv_entry ([.ref h0, .ref q_17]) (n := 3) (Nat.le_of_ble_eq_true rfl)
  rw [lg_entry_eq]
  generalize (lg_sl ([.ref h0, .ref q_17]) ++ List.replicate (3 - (lg_sl ([.ref h0, .ref q_17])).length) Slot.unset).toArray = ls at hl ⊢
  have hl : lv_has ls 3 [(0, .ref h0), (1, .ref q_17)] := hl
  obtain ⟨H, hH⟩ : ∃ H, H = s.heap := ⟨_, rfl⟩
  rw [← hH] at hP
  have hS : va_S A s.heap H [] := by rw [hH]; exact hS
  rw [← hH]
  refine lv_aload_n hx hb dX16_program_0 rfl (lv_at hl 1 rfl) ?_
  have hPc := hP.sub (ws' := [(q_17, .inr (12, [.ref q_18, .ref q_19, .ref q_20, .int 0, .int 0, .ref q_21, .int 0])), (q_21, .inr (18, [.int 0, .ref sx_ed, .int 0]))]) [1, 2] rfl
  have hDc := hD.sub (ws' := [(q_17, .inr (12, [.ref q_18, .ref q_19, .ref q_20, .int 0, .int 0, .ref q_21, .int 0])), (q_21, .inr (18, [.int 0, .ref sx_ed, .int 0]))]) [1, 2] (by decide) rfl
  have hKc := hK.sub (tys' := []) [] rfl
  have hFc := va_free (wc := [(q_17, .inr (12, [.ref q_18, .ref q_19, .ref q_20, .int 0, .int 0, .ref q_21, .int 0])), (q_21, .inr (18, [.int 0, .ref sx_ed, .int 0]))]) hD hS hA [1, 2] rfl
  refine va_callv (va_runV (As := []) (rest := []) ⟨hx, hb, hml, hown, hts⟩ (c_X13_begin l dC dI q_17 q_18 q_19 q_20 q_21 sx_ed H.size) (cwV 0 hts g_X16_program_X13_begin rfl rfl rfl (by decide +kernel) ⟨(Nat.le_of_ble_eq_true rfl), (Nat.le_of_ble_eq_true rfl)⟩) ⟨fun a U g mk q => by obtain ⟨q0, q1, qP, qK, qD⟩ := q; exact ⟨q0, q1, qP, va_K.moved (u := U) (U := U.calling g mk a) (Vm.Alike.refl U.vm) qK, qD⟩, va_recv hKc hPc (ci := 12) (q0 := 0) rfl rfl, fun U hU hW => ⟨rfl, by rw [hU], by rw [hU]; exact hPc, va_K.moved hW.alike hKc, hDc.weaken (fun _ _ _ _ => trivial)⟩⟩ rfl rfl hl.1 rfl (lv_room (Nat.le_of_ble_eq_true rfl)) dX16_program_1 ⟨(Nat.le_of_ble_eq_true rfl), (Nat.le_of_ble_eq_true rfl)⟩) hS (fun q _ h => hFc q h) hFc (fun  u t H1 locs ht hvm hw hB hz1 hk1 hS => ?_)
  obtain ⟨hP1, hK1, hD1⟩ := hB
  rw [ht] at hP1
  have hK1 := va_K.moved hvm.symm hK1
  obtain ⟨hP, hD⟩ := va_join (wr := [(h0, .inr (14, [.ref q_801, .int 0, .int 0, .int 0, .int 0, .int 0, .int 0, .ref sa_RX16_9, .int (-1), .int 0, .int 0, .ref q_803, .ref q_804, .int 0]))]) (w1 := [(q_17, .inr (12, [.ref q_18, .ref q_19, .ref q_20, .int 0, .int 0, .ref q_21, .int 0])), (q_21, .inr (18, [.int 1, .ref sx_ed, .int 0]))]) hP hD [1, 2] [0] rfl rfl (by decide) (by decide) hk1 hFc hP1 hD1
  have hK := (hK.sub (tys' := []) [] rfl).app hK1
  generalize H1 = H at hP hS ⊢
  have hP : va_P (dC, dI) vwP [(h0, .inr (14, [.ref q_801, .int 0, .int 0, .int 0, .int 0, .int 0, .int 0, .ref sa_RX16_9, .int (-1), .int 0, .int 0, .ref q_803, .ref q_804, .int 0])), (q_17, .inr (12, [.ref q_18, .ref q_19, .ref q_20, .int 0, .int 0, .ref q_21, .int 0])), (q_21, .inr (18, [.int 1, .ref sx_ed, .int 0]))] H := hP
  have hD : va_D A [(h0, .inr (14, [.ref q_801, .int 0, .int 0, .int 0, .int 0, .int 0, .int 0, .ref sa_RX16_9, .int (-1), .int 0, .int 0, .ref q_803, .ref q_804, .int 0])), (q_17, .inr (12, [.ref q_18, .ref q_19, .ref q_20, .int 0, .int 0, .ref q_21, .int 0])), (q_21, .inr (18, [.int 1, .ref sx_ed, .int 0]))] := hD
  have hK : va_K (dC, dI) vwP [] s := hK
  refine W.widen (k := 0) (n := 0) (Nat.le_of_ble_eq_true rfl) (Nat.le_of_ble_eq_true rfl) ?_
  refine lv_aload_n hx hb dX16_program_4 rfl (lv_at hl 0 rfl) ?_
  refine lv_aload_n hx hb dX16_program_5 rfl (lv_at hl 1 rfl) ?_
  have hPc := hP.sub (ws' := [(h0, .inr (14, [.ref q_801, .int 0, .int 0, .int 0, .int 0, .int 0, .int 0, .ref sa_RX16_9, .int (-1), .int 0, .int 0, .ref q_803, .ref q_804, .int 0]))]) [0] rfl
  have hDc := hD.sub (ws' := [(h0, .inr (14, [.ref q_801, .int 0, .int 0, .int 0, .int 0, .int 0, .int 0, .ref sa_RX16_9, .int (-1), .int 0, .int 0, .ref q_803, .ref q_804, .int 0]))]) [0] (by decide) rfl
  have hKc := hK.sub (tys' := []) [] rfl
  have hFc := va_free (wc := [(h0, .inr (14, [.ref q_801, .int 0, .int 0, .int 0, .int 0, .int 0, .int 0, .ref sa_RX16_9, .int (-1), .int 0, .int 0, .ref q_803, .ref q_804, .int 0]))]) hD hS hA [0] rfl
  refine vx_callv (vx_runV (As := [.ref q_17]) (rest := []) ⟨hx, hb, hml, hown, hts⟩ (c_X16_block l dC dI h0 q_801 q_803 q_804 sa_RX16_9 q_17 H.size) (cwV 1 hts g_X16_program_X16_block rfl rfl rfl (by decide +kernel) ⟨(Nat.le_of_ble_eq_true rfl), (Nat.le_of_ble_eq_true rfl)⟩) ⟨fun a U g mk q => by obtain ⟨q0, q1, qP, qK, qD, e0, e1⟩ := q; exact ⟨q0, q1, qP, va_K.moved (u := U) (U := U.calling g mk a) (Vm.Alike.refl U.vm) qK, qD, vx_Zq.moved (u := U) (U := U.calling g mk a) (Vm.Alike.refl U.vm) e0, vx_Zq.moved (u := U) (U := U.calling g mk a) (Vm.Alike.refl U.vm) e1⟩, va_recv hKc hPc (ci := 14) (q0 := 0) rfl rfl, fun U hU hW => ⟨rfl, by rw [hU], by rw [hU]; exact hPc, va_K.moved hW.alike hKc, hDc.weaken (fun _ _ _ _ => trivial), by rw [hU]; exact vx_Zq.narrow (vx_Zq.moved hW.alike (vx_Zq.kept hp0 hS.2.1)) hFc, by rw [hU]; exact vx_Zq.narrow (vx_Zq.moved hW.alike (vx_Zq.kept hp1 hS.2.1)) hFc⟩⟩ rfl rfl hl.1 rfl (lv_room (Nat.le_of_ble_eq_true rfl)) dX16_program_6 ⟨(Nat.le_of_ble_eq_true rfl), (Nat.le_of_ble_eq_true rfl)⟩) hS (fun q _ h => hFc q h) hFc (fun q _ h => hFc q h) (fun E ce q9 u t H1 locs ht hvm _ hB hz1 hk1 hS hce hcv hcl => ?_) (fun  u t H1 locs ht hvm hw hB hz1 hk1 hS => ?_)
  · obtain ⟨rfl, hP1, hD1⟩ := hB
    rw [ht] at hP1
    obtain ⟨hP, hD⟩ := va_join (wr := [(q_17, .inr (12, [.ref q_18, .ref q_19, .ref q_20, .int 0, .int 0, .ref q_21, .int 0])), (q_21, .inr (18, [.int 1, .ref sx_ed, .int 0]))]) (w1 := [(q9, .inr (15, [.null, .null, .null, .null, .null, .int 0, .int 0]))]) hP hD [0] [1, 2] rfl rfl (by decide) (by decide) hk1 hFc hP1 hD1
    have hK := hK.sub (tys' := []) [] rfl
    generalize H1 = H at hP hS hce ⊢
    have hP : va_P (dC, dI) vwP [(q_17, .inr (12, [.ref q_18, .ref q_19, .ref q_20, .int 0, .int 0, .ref q_21, .int 0])), (q_21, .inr (18, [.int 1, .ref sx_ed, .int 0])), (q9, .inr (15, [.null, .null, .null, .null, .null, .int 0, .int 0]))] H := hP
    have hD : va_D A [(q_17, .inr (12, [.ref q_18, .ref q_19, .ref q_20, .int 0, .int 0, .ref q_21, .int 0])), (q_21, .inr (18, [.int 1, .ref sx_ed, .int 0])), (q9, .inr (15, [.null, .null, .null, .null, .null, .int 0, .int 0]))] := hD
    refine vx_widen (k := 1) (n := 7) (Nat.le_of_ble_eq_true rfl) (Nat.le_of_ble_eq_true rfl) ?_
    have hP := hP.sub (ws' := [(q9, .inr (15, [.null, .null, .null, .null, .null, .int 0, .int 0]))]) [2] rfl
    have hD := hD.sub (ws' := [(q9, .inr (15, [.null, .null, .null, .null, .null, .int 0, .int 0]))]) [2] (by decide) rfl
    exact vx_out (fun x9 h9 => (hnt x9 h9).elim) hlocks hce hcv hcl (fun t ht hvm => ⟨(), trivial, ⟨rfl, by rw [ht]; exact hP, hD⟩, hS.F ht⟩) hS.2.2 (Nat.le_of_ble_eq_true rfl) (Nat.le_of_ble_eq_true rfl)
  exact hw.elim
theorem dX19_text_0 : decode cX19_text 0 = .ok (.aload_n 0, 1) := by decide +kernel
theorem dX19_text_1 : decode cX19_text 1 = .ok (.iconst 0, 1) := by decide +kernel
theorem dX19_text_2 : decode cX19_text 2 = .ok (.putfield 560, 3) := by decide +kernel
theorem dX19_text_5 : decode cX19_text 5 = .ok (.iconst (-1), 1) := by decide +kernel
theorem dX19_text_6 : decode cX19_text 6 = .ok (.istore_n 1, 1) := by decide +kernel
theorem dX19_text_7 : decode cX19_text 7 = .ok (.aload_n 0, 1) := by decide +kernel
theorem dX19_text_8 : decode cX19_text 8 = .ok (.iconst 0, 1) := by decide +kernel
theorem dX19_text_9 : decode cX19_text 9 = .ok (.putfield 572, 3) := by decide +kernel
theorem dX19_text_12 : decode cX19_text 12 = .ok (.new 575, 3) := by decide +kernel
theorem dX19_text_15 : decode cX19_text 15 = .ok (.dup, 1) := by decide +kernel
theorem dX19_text_16 : decode cX19_text 16 = .ok (.aload_n 0, 1) := by decide +kernel
theorem dX19_text_17 : decode cX19_text 17 = .ok (.getfield 551, 3) := by decide +kernel
theorem dX19_text_20 : decode cX19_text 20 = .ok (.aload_n 0, 1) := by decide +kernel
theorem dX19_text_21 : decode cX19_text 21 = .ok (.getfield 563, 3) := by decide +kernel
theorem dX19_text_24 : decode cX19_text 24 = .ok (.invokespecial 577, 3) := by decide +kernel
theorem dX19_text_27 : decode cX19_text 27 = .ok (.astore_n 2, 1) := by decide +kernel
theorem dX19_text_28 : decode cX19_text 28 = .ok (.aload_n 2, 1) := by decide +kernel
theorem dX19_text_29 : decode cX19_text 29 = .ok (.aload_n 0, 1) := by decide +kernel
theorem dX19_text_30 : decode cX19_text 30 = .ok (.getfield 545, 3) := by decide +kernel
theorem dX19_text_33 : decode cX19_text 33 = .ok (.invokevirtual 580, 3) := by decide +kernel
theorem dX19_text_60 : decode cX19_text 60 = .ok (.astore_n 2, 1) := by decide +kernel
theorem dX19_text_61 : decode cX19_text 61 = .ok (.aload_n 2, 1) := by decide +kernel
theorem dX19_text_62 : decode cX19_text 62 = .ok (.getfield 591, 3) := by decide +kernel
theorem dX19_text_65 : decode cX19_text 65 = .ok (.istore_n 1, 1) := by decide +kernel
theorem dX19_text_66 : decode cX19_text 66 = .ok (.aload_n 0, 1) := by decide +kernel
theorem dX19_text_67 : decode cX19_text 67 = .ok (.iconst 1, 1) := by decide +kernel
theorem dX19_text_68 : decode cX19_text 68 = .ok (.putfield 572, 3) := by decide +kernel
theorem dX19_text_71 : decode cX19_text 71 = .ok (.aload_n 0, 1) := by decide +kernel
theorem dX19_text_72 : decode cX19_text 72 = .ok (.iconst 0, 1) := by decide +kernel
theorem dX19_text_73 : decode cX19_text 73 = .ok (.putfield 563, 3) := by decide +kernel
theorem dX19_text_76 : decode cX19_text 76 = .ok (.aload_n 0, 1) := by decide +kernel
theorem dX19_text_77 : decode cX19_text 77 = .ok (.iload_n 1, 1) := by decide +kernel
theorem dX19_text_78 : decode cX19_text 78 = .ok (.ifCond .ge 7, 3) := by decide +kernel
theorem dX19_text_85 : decode cX19_text 85 = .ok (.iconst (-1), 1) := by decide +kernel
theorem dX19_text_86 : decode cX19_text 86 = .ok (.putfield 555, 3) := by decide +kernel
theorem dX19_text_89 : decode cX19_text 89 = .ok (.aload_n 0, 1) := by decide +kernel
theorem dX19_text_90 : decode cX19_text 90 = .ok (.getfield 555, 3) := by decide +kernel
theorem dX19_text_93 : decode cX19_text 93 = .ok (.ifCond .ne 7, 3) := by decide +kernel
theorem dX19_text_100 : decode cX19_text 100 = .ok (.iload_n 1, 1) := by decide +kernel
theorem dX19_text_101 : decode cX19_text 101 = .ok (.ireturn, 1) := by decide +kernel
def o_X19_text : List Cond := [.fieldLink RX19 560 "SsaForgeModel" "thrown" "I", .fieldLink RX19 572 "SsaForgeModel" "reason" "I", .classLink RX19 575 RX16, .instantiable RX16 14, .initialized RX16, .fieldLink RX19 551 "SsaForgeModel" "tape" "[B", .fieldLink RX19 563 "SsaForgeModel" "size" "I", .methodLink RX19 577 yX16_init, .instanceMethod yX16_init, .fieldLink RX19 545 "SsaForgeModel" "spare" "LSsaForgeModel$Code;", .methodLink RX19 580 yX16_program, .instanceMethod yX16_program, .selects RX16 yX16_program yX16_program, .classLink RX19 589 "SsaForgeModel$Wrong", .fieldLink RX19 591 "SsaForgeModel$Wrong" "place" "I", .fieldLink RX19 555 "SsaForgeModel" "form" "I"]
def v_X19_text : List Cond := .codeWith yX19_text cX19_text 3 (some .int) [(12, 57, 60, 589)] :: (o_X19_text ++ (wsX190 ++ (wsX160 ++ (v_X16_init ++ (v_X16_program ++ (wsX180 ++ []))))))
theorem mow_X19_text : ∀ w ∈ o_X19_text, w ∈ v_X19_text := fun _ h => List.mem_cons_of_mem _ (List.mem_append_left _ h)
theorem mem_X19_text_0 : ∀ w ∈ wsX190, w ∈ v_X19_text := fun _ h => List.mem_cons_of_mem _ (List.mem_append_right _ (List.mem_append_left _ h))
theorem mem_X19_text_1 : ∀ w ∈ wsX160, w ∈ v_X19_text := fun _ h => List.mem_cons_of_mem _ (List.mem_append_right _ (List.mem_append_right _ (List.mem_append_left _ h)))
theorem mem_X19_text_2 : ∀ w ∈ v_X16_init, w ∈ v_X19_text := fun _ h => List.mem_cons_of_mem _ (List.mem_append_right _ (List.mem_append_right _ (List.mem_append_right _ (List.mem_append_left _ h))))
theorem mem_X19_text_3 : ∀ w ∈ v_X16_program, w ∈ v_X19_text := fun _ h => List.mem_cons_of_mem _ (List.mem_append_right _ (List.mem_append_right _ (List.mem_append_right _ (List.mem_append_right _ (List.mem_append_left _ h)))))
theorem mem_X19_text_4 : ∀ w ∈ wsX180, w ∈ v_X19_text := fun _ h => List.mem_cons_of_mem _ (List.mem_append_right _ (List.mem_append_right _ (List.mem_append_right _ (List.mem_append_right _ (List.mem_append_right _ (List.mem_append_left _ h))))))
set_option maxRecDepth 20000 in
theorem gw_X19_text : v_X19_text.all goodWord = true := by decide +kernel
set_option maxRecDepth 20000 in
theorem g_X19_text_X16_program : GoodIn v_X19_text (wsV RX19 580 RX16 yX16_program v_X16_program) := goodIn_app (goodIn_sub (fun w h => mow_X19_text w (by revert w h; decide +kernel)) (by decide +kernel)) (goodIn_sub mem_X19_text_3 gw_X16_program)
set_option maxHeartbeats 4000000 in
set_option maxRecDepth 100000 in
theorem c_X19_text (l : Launch) (dC : Nat → ClassId) (dI : Nat → Nat → Nat) (h0 : Nat) (q_1 : Nat) (q_12 : Nat) (q_17 : Nat) (q_22 : Nat) (q_24 : Nat) (q_26 : Nat) (q_28 : Nat) (q_29 : Nat) (q_31 : Nat) (q_33 : Nat) (q_35 : Nat) (q_37 : Nat) (q_39 : Nat) (q_41 : Nat) (q_43 : Nat) (q_45 : Nat) (q_47 : Nat) (q_49 : Nat) (q_51 : Nat) (q_53 : Nat) (q_55 : Nat) (q_57 : Nat) (q_59 : Nat) (q_61 : Nat) (q_63 : Nat) (q_65 : Nat) (q_68 : Nat) (q_70 : Nat) (q_72 : Nat) (q_18 : Nat) (q_19 : Nat) (q_20 : Nat) (q_21 : Nat) (sx_ed : Nat) (sz : Nat) (sa_RX16_9 : Nat) : Met l yX19_text v_X19_text ({ frames := 9, cells := 4, slots := 53, locals := 194 }) (va_Pc [.ref h0] (fun U => U.heap.size = sz ∧ va_P (dC, dI) vwP [(h0, .inr (16, [.ref q_1, .ref q_12, .ref q_17, .ref q_22, .ref q_24, .ref q_26, .ref q_28, .ref q_29, .ref q_31, .ref q_33, .ref q_35, .int 0, .ref q_37, .ref q_39, .ref q_41, .ref q_43, .ref q_45, .ref q_47, .ref q_49, .ref q_51, .ref q_53, .ref q_55, .ref q_57, .int 0, .ref q_59, .ref q_61, .ref q_63, .int (-1), .int 0, .int 0, .int 0, .int 0, .ref q_65, .int 0, .ref q_68, .int 0, .int (-1), .int 0, .int 0, .ref q_70, .ref q_72])), (q_17, .inr (12, [.ref q_18, .ref q_19, .ref q_20, .int 0, .int 0, .ref q_21, .int 0])), (q_21, .inr (18, [.int 0, .ref sx_ed, .int 0]))] U.heap ∧ va_K (dC, dI) vwP [] U ∧ va_D (fun _ => True) [(h0, .inr (16, [.ref q_1, .ref q_12, .ref q_17, .ref q_22, .ref q_24, .ref q_26, .ref q_28, .ref q_29, .ref q_31, .ref q_33, .ref q_35, .int 0, .ref q_37, .ref q_39, .ref q_41, .ref q_43, .ref q_45, .ref q_47, .ref q_49, .ref q_51, .ref q_53, .ref q_55, .ref q_57, .int 0, .ref q_59, .ref q_61, .ref q_63, .int (-1), .int 0, .int 0, .int 0, .int 0, .ref q_65, .int 0, .ref q_68, .int 0, .int (-1), .int 0, .int 0, .ref q_70, .ref q_72])), (q_17, .inr (12, [.ref q_18, .ref q_19, .ref q_20, .int 0, .int 0, .ref q_21, .int 0])), (q_21, .inr (18, [.int 0, .ref sx_ed, .int 0]))] ∧ vk_R RX16 9 "" sa_RX16_9 U ∧ vx_Zq Bundle.tN "UNASSIGNED_STACK" Bundle.steD (va_A [(h0, .inr (16, [.ref q_1, .ref q_12, .ref q_17, .ref q_22, .ref q_24, .ref q_26, .ref q_28, .ref q_29, .ref q_31, .ref q_33, .ref q_35, .int 0, .ref q_37, .ref q_39, .ref q_41, .ref q_43, .ref q_45, .ref q_47, .ref q_49, .ref q_51, .ref q_53, .ref q_55, .ref q_57, .int 0, .ref q_59, .ref q_61, .ref q_63, .int (-1), .int 0, .int 0, .int 0, .int 0, .ref q_65, .int 0, .ref q_68, .int 0, .int (-1), .int 0, .int 0, .ref q_70, .ref q_72])), (q_17, .inr (12, [.ref q_18, .ref q_19, .ref q_20, .int 0, .int 0, .ref q_21, .int 0])), (q_21, .inr (18, [.int 0, .ref sx_ed, .int 0]))] sz) U U.heap ∧ vx_Zq Bundle.tN "SUPPRESSED_SENTINEL" Bundle.listD (va_A [(h0, .inr (16, [.ref q_1, .ref q_12, .ref q_17, .ref q_22, .ref q_24, .ref q_26, .ref q_28, .ref q_29, .ref q_31, .ref q_33, .ref q_35, .int 0, .ref q_37, .ref q_39, .ref q_41, .ref q_43, .ref q_45, .ref q_47, .ref q_49, .ref q_51, .ref q_53, .ref q_55, .ref q_57, .int 0, .ref q_59, .ref q_61, .ref q_63, .int (-1), .int 0, .int 0, .int 0, .int 0, .ref q_65, .int 0, .ref q_68, .int 0, .int (-1), .int 0, .int 0, .ref q_70, .ref q_72])), (q_17, .inr (12, [.ref q_18, .ref q_19, .ref q_20, .int 0, .int 0, .ref q_21, .int 0])), (q_21, .inr (18, [.int 0, .ref sx_ed, .int 0]))] sz) U U.heap ∧ va_Nw (.castable "SsaForgeModel$Wrong" "SsaForgeModel$Wrong") U)) (va_Qi (fun (r : Int32) (_ : Unit) => r = 0) (fun (_ : Unit) (t : State) => va_P (dC, dI) vwP [] t.heap ∧ va_K (dC, dI) vwP [] t ∧ va_D (va_A [(h0, .inr (16, [.ref q_1, .ref q_12, .ref q_17, .ref q_22, .ref q_24, .ref q_26, .ref q_28, .ref q_29, .ref q_31, .ref q_33, .ref q_35, .int 0, .ref q_37, .ref q_39, .ref q_41, .ref q_43, .ref q_45, .ref q_47, .ref q_49, .ref q_51, .ref q_53, .ref q_55, .ref q_57, .int 0, .ref q_59, .ref q_61, .ref q_63, .int (-1), .int 0, .int 0, .int 0, .int 0, .ref q_65, .int 0, .ref q_68, .int 0, .int (-1), .int 0, .int 0, .ref q_70, .ref q_72])), (q_17, .inr (12, [.ref q_18, .ref q_19, .ref q_20, .int 0, .int 0, .ref q_21, .int 0])), (q_21, .inr (18, [.int 0, .ref sx_ed, .int 0]))] sz) []) (va_A [(h0, .inr (16, [.ref q_1, .ref q_12, .ref q_17, .ref q_22, .ref q_24, .ref q_26, .ref q_28, .ref q_29, .ref q_31, .ref q_33, .ref q_35, .int 0, .ref q_37, .ref q_39, .ref q_41, .ref q_43, .ref q_45, .ref q_47, .ref q_49, .ref q_51, .ref q_53, .ref q_55, .ref q_57, .int 0, .ref q_59, .ref q_61, .ref q_63, .int (-1), .int 0, .int 0, .int 0, .int 0, .ref q_65, .int 0, .ref q_68, .int 0, .int (-1), .int 0, .int 0, .ref q_70, .ref q_72])), (q_17, .inr (12, [.ref q_18, .ref q_19, .ref q_20, .int 0, .int 0, .ref q_21, .int 0])), (q_21, .inr (18, [.int 0, .ref sx_ed, .int 0]))] sz)) 4 53 (va_A [(h0, .inr (16, [.ref q_1, .ref q_12, .ref q_17, .ref q_22, .ref q_24, .ref q_26, .ref q_28, .ref q_29, .ref q_31, .ref q_33, .ref q_35, .int 0, .ref q_37, .ref q_39, .ref q_41, .ref q_43, .ref q_45, .ref q_47, .ref q_49, .ref q_51, .ref q_53, .ref q_55, .ref q_57, .int 0, .ref q_59, .ref q_61, .ref q_63, .int (-1), .int 0, .int 0, .int 0, .int 0, .ref q_65, .int 0, .ref q_68, .int 0, .int (-1), .int 0, .int 0, .ref q_70, .ref q_72])), (q_17, .inr (12, [.ref q_18, .ref q_19, .ref q_20, .int 0, .int 0, .ref q_21, .int 0])), (q_21, .inr (18, [.int 0, .ref sx_ed, .int 0]))] sz) := by
  refine va_MetW (cc := cX19_text) (maxL := 3) (ret := (some .int)) (by decide) rfl ?_
  intro p e s m args below meth c s₁ B hml hv
  obtain ⟨rfl, hsz, hP, hK, hD0, hp0, hp1, hp2, hp3⟩ := hv
  have hx := B.exec
  have hb := B.bytes
  have hr := B.returns
  have hts := atoms_spec (ws := v_X19_text) B.pre
  have hown : s.vm.findClass RX19 = some m.cls := findClass_of_methodNamed B.named
  have hlocks := B.notSynchronized
  have ow : ∀ {k : Nat} {w : Cond}, o_X19_text[k]? = some w → w.before ([.ref h0] : List Value).toArray s = true := fun h => hts _ (mow_X19_text _ (List.mem_of_getElem? h))
  subst hsz
  have hD := hD0.self (sz := s.heap.size)
  generalize hAe : va_A [(h0, .inr (16, [.ref q_1, .ref q_12, .ref q_17, .ref q_22, .ref q_24, .ref q_26, .ref q_28, .ref q_29, .ref q_31, .ref q_33, .ref q_35, .int 0, .ref q_37, .ref q_39, .ref q_41, .ref q_43, .ref q_45, .ref q_47, .ref q_49, .ref q_51, .ref q_53, .ref q_55, .ref q_57, .int 0, .ref q_59, .ref q_61, .ref q_63, .int (-1), .int 0, .int 0, .int 0, .int 0, .ref q_65, .int 0, .ref q_68, .int 0, .int (-1), .int 0, .int 0, .ref q_70, .ref q_72])), (q_17, .inr (12, [.ref q_18, .ref q_19, .ref q_20, .int 0, .int 0, .ref q_21, .int 0])), (q_21, .inr (18, [.int 0, .ref sx_ed, .int 0]))] s.heap.size = A at hD hp1 hp2 ⊢
  have hA : ∀ q : Nat, s.heap.size ≤ q → A q := fun q h => by rw [← hAe]; exact Or.inr h
  have hS : va_S A s.heap s.heap [] := va_S.rf
  have hP : va_P (dC, dI) vwP [(h0, .inr (16, [.ref q_1, .ref q_12, .ref q_17, .ref q_22, .ref q_24, .ref q_26, .ref q_28, .ref q_29, .ref q_31, .ref q_33, .ref q_35, .int 0, .ref q_37, .ref q_39, .ref q_41, .ref q_43, .ref q_45, .ref q_47, .ref q_49, .ref q_51, .ref q_53, .ref q_55, .ref q_57, .int 0, .ref q_59, .ref q_61, .ref q_63, .int (-1), .int 0, .int 0, .int 0, .int 0, .ref q_65, .int 0, .ref q_68, .int 0, .int (-1), .int 0, .int 0, .ref q_70, .ref q_72])), (q_17, .inr (12, [.ref q_18, .ref q_19, .ref q_20, .int 0, .int 0, .ref q_21, .int 0])), (q_21, .inr (18, [.int 0, .ref sx_ed, .int 0]))] s.heap := hP
  have hl := lv_entry ([.ref h0]) (n := 3) (Nat.le_of_ble_eq_true rfl)
  rw [lg_entry_eq]
  generalize (lg_sl ([.ref h0]) ++ List.replicate (3 - (lg_sl ([.ref h0])).length) Slot.unset).toArray = ls at hl ⊢
  have hl : lv_has ls 3 [(0, .ref h0)] := hl
  obtain ⟨H, hH⟩ : ∃ H, H = s.heap := ⟨_, rfl⟩
  rw [← hH] at hP
  have hS : va_S A s.heap H [] := by rw [hH]; exact hS
  rw [← hH]
  refine lv_aload_n hx hb dX19_text_0 rfl (lv_at hl 0 rfl) ?_
  refine lv_iconst (v := 0) hx hb dX19_text_1 (by decide) ?_
  refine va_put (D := (dC, dI)) (ci := 16) (v := .int 0) (ty := .int) (C := RX19) (T := TX19) (N := 41) hx hb hts mem_X19_text_0 tyX19 tyX19_ok nmX19 hown hK hP hD hS 0 rfl rfl 33 (by decide) (ow (k := 0) rfl) (fun _ h9 => h9) rfl (by decide +kernel) rfl rfl (Nat.le_of_ble_eq_true rfl) dX19_text_2 (fun H locs hP hD hS => ?_)
  have hP : va_P (dC, dI) vwP [(h0, .inr (16, [.ref q_1, .ref q_12, .ref q_17, .ref q_22, .ref q_24, .ref q_26, .ref q_28, .ref q_29, .ref q_31, .ref q_33, .ref q_35, .int 0, .ref q_37, .ref q_39, .ref q_41, .ref q_43, .ref q_45, .ref q_47, .ref q_49, .ref q_51, .ref q_53, .ref q_55, .ref q_57, .int 0, .ref q_59, .ref q_61, .ref q_63, .int (-1), .int 0, .int 0, .int 0, .int 0, .ref q_65, .int 0, .ref q_68, .int 0, .int (-1), .int 0, .int 0, .ref q_70, .ref q_72])), (q_17, .inr (12, [.ref q_18, .ref q_19, .ref q_20, .int 0, .int 0, .ref q_21, .int 0])), (q_21, .inr (18, [.int 0, .ref sx_ed, .int 0]))] H := hP
  have hD : va_D A [(h0, .inr (16, [.ref q_1, .ref q_12, .ref q_17, .ref q_22, .ref q_24, .ref q_26, .ref q_28, .ref q_29, .ref q_31, .ref q_33, .ref q_35, .int 0, .ref q_37, .ref q_39, .ref q_41, .ref q_43, .ref q_45, .ref q_47, .ref q_49, .ref q_51, .ref q_53, .ref q_55, .ref q_57, .int 0, .ref q_59, .ref q_61, .ref q_63, .int (-1), .int 0, .int 0, .int 0, .int 0, .ref q_65, .int 0, .ref q_68, .int 0, .int (-1), .int 0, .int 0, .ref q_70, .ref q_72])), (q_17, .inr (12, [.ref q_18, .ref q_19, .ref q_20, .int 0, .int 0, .ref q_21, .int 0])), (q_21, .inr (18, [.int 0, .ref sx_ed, .int 0]))] := hD
  refine lv_iconst (v := (-1)) hx hb dX19_text_5 (by decide) ?_
  refine lv_istore_n (lv' := [(1, .int (-1)), (0, .ref h0)]) hx hb dX19_text_6 rfl hl (by decide) rfl (fun ls hl => ?_)
  refine lv_aload_n hx hb dX19_text_7 rfl (lv_at hl 1 rfl) ?_
  refine lv_iconst (v := 0) hx hb dX19_text_8 (by decide) ?_
  refine va_put (D := (dC, dI)) (ci := 16) (v := .int 0) (ty := .int) (C := RX19) (T := TX19) (N := 41) hx hb hts mem_X19_text_0 tyX19 tyX19_ok nmX19 hown hK hP hD hS 0 rfl rfl 37 (by decide) (ow (k := 1) rfl) (fun _ h9 => h9) rfl (by decide +kernel) rfl rfl (Nat.le_of_ble_eq_true rfl) dX19_text_9 (fun H locs hP hD hS => ?_)
  have hP : va_P (dC, dI) vwP [(h0, .inr (16, [.ref q_1, .ref q_12, .ref q_17, .ref q_22, .ref q_24, .ref q_26, .ref q_28, .ref q_29, .ref q_31, .ref q_33, .ref q_35, .int 0, .ref q_37, .ref q_39, .ref q_41, .ref q_43, .ref q_45, .ref q_47, .ref q_49, .ref q_51, .ref q_53, .ref q_55, .ref q_57, .int 0, .ref q_59, .ref q_61, .ref q_63, .int (-1), .int 0, .int 0, .int 0, .int 0, .ref q_65, .int 0, .ref q_68, .int 0, .int (-1), .int 0, .int 0, .ref q_70, .ref q_72])), (q_17, .inr (12, [.ref q_18, .ref q_19, .ref q_20, .int 0, .int 0, .ref q_21, .int 0])), (q_21, .inr (18, [.int 0, .ref sx_ed, .int 0]))] H := hP
  have hD : va_D A [(h0, .inr (16, [.ref q_1, .ref q_12, .ref q_17, .ref q_22, .ref q_24, .ref q_26, .ref q_28, .ref q_29, .ref q_31, .ref q_33, .ref q_35, .int 0, .ref q_37, .ref q_39, .ref q_41, .ref q_43, .ref q_45, .ref q_47, .ref q_49, .ref q_51, .ref q_53, .ref q_55, .ref q_57, .int 0, .ref q_59, .ref q_61, .ref q_63, .int (-1), .int 0, .int 0, .int 0, .int 0, .ref q_65, .int 0, .ref q_68, .int 0, .int (-1), .int 0, .int 0, .ref q_70, .ref q_72])), (q_17, .inr (12, [.ref q_18, .ref q_19, .ref q_20, .int 0, .int 0, .ref q_21, .int 0])), (q_21, .inr (18, [.int 0, .ref sx_ed, .int 0]))] := hD
  refine va_new (ci := 14) (fs := [.null, .int 0, .int 0, .int 0, .int 0, .int 0, .int 0, .null, .int 0, .int 0, .int 0, .null, .null, .int 0]) (C := RX16) (T := TX16) (N := 14) hx hb hts mem_X19_text_1 tyX16 tyX16_ok hown (ow (k := 2) rfl) (ow (k := 3) rfl) (ow (k := 4) rfl) hK hP hD hS hA rfl (df_X16) (Nat.le_of_ble_eq_true rfl) (Nat.le_of_ble_eq_true rfl) dX19_text_12 (fun q_2001 H hP hD hS => ?_)
  have hP : va_P (dC, dI) vwP [(h0, .inr (16, [.ref q_1, .ref q_12, .ref q_17, .ref q_22, .ref q_24, .ref q_26, .ref q_28, .ref q_29, .ref q_31, .ref q_33, .ref q_35, .int 0, .ref q_37, .ref q_39, .ref q_41, .ref q_43, .ref q_45, .ref q_47, .ref q_49, .ref q_51, .ref q_53, .ref q_55, .ref q_57, .int 0, .ref q_59, .ref q_61, .ref q_63, .int (-1), .int 0, .int 0, .int 0, .int 0, .ref q_65, .int 0, .ref q_68, .int 0, .int (-1), .int 0, .int 0, .ref q_70, .ref q_72])), (q_17, .inr (12, [.ref q_18, .ref q_19, .ref q_20, .int 0, .int 0, .ref q_21, .int 0])), (q_21, .inr (18, [.int 0, .ref sx_ed, .int 0])), (q_2001, .inr (14, [.null, .int 0, .int 0, .int 0, .int 0, .int 0, .int 0, .null, .int 0, .int 0, .int 0, .null, .null, .int 0]))] H := hP
  have hD : va_D A [(h0, .inr (16, [.ref q_1, .ref q_12, .ref q_17, .ref q_22, .ref q_24, .ref q_26, .ref q_28, .ref q_29, .ref q_31, .ref q_33, .ref q_35, .int 0, .ref q_37, .ref q_39, .ref q_41, .ref q_43, .ref q_45, .ref q_47, .ref q_49, .ref q_51, .ref q_53, .ref q_55, .ref q_57, .int 0, .ref q_59, .ref q_61, .ref q_63, .int (-1), .int 0, .int 0, .int 0, .int 0, .ref q_65, .int 0, .ref q_68, .int 0, .int (-1), .int 0, .int 0, .ref q_70, .ref q_72])), (q_17, .inr (12, [.ref q_18, .ref q_19, .ref q_20, .int 0, .int 0, .ref q_21, .int 0])), (q_21, .inr (18, [.int 0, .ref sx_ed, .int 0])), (q_2001, .inr (14, [.null, .int 0, .int 0, .int 0, .int 0, .int 0, .int 0, .null, .int 0, .int 0, .int 0, .null, .null, .int 0]))] := hD
  refine W.widen (k := 1) (n := 14) (Nat.le_of_ble_eq_true rfl) (Nat.le_of_ble_eq_true rfl) ?_
  refine lv_dup hx hb dX19_text_15 rfl ?_
  refine lv_aload_n hx hb dX19_text_16 rfl (lv_at hl 1 rfl) ?_
  refine va_get (D := (dC, dI)) (ci := 16) (v := .ref q_68) (C := RX19) (T := TX19) (N := 41) hx hb hts mem_X19_text_0 hown hK hP 0 rfl rfl 34 (by decide) (ow (k := 5) rfl) (fun _ h9 => h9) rfl dX19_text_17 ?_
  refine lv_aload_n hx hb dX19_text_20 rfl (lv_at hl 1 rfl) ?_
  refine va_get (D := (dC, dI)) (ci := 16) (v := .int 0) (C := RX19) (T := TX19) (N := 41) hx hb hts mem_X19_text_0 hown hK hP 0 rfl rfl 35 (by decide) (ow (k := 6) rfl) (fun _ h9 => h9) rfl dX19_text_21 ?_
  have hPc := hP.sub (ws' := [(q_2001, .inr (14, [.null, .int 0, .int 0, .int 0, .int 0, .int 0, .int 0, .null, .int 0, .int 0, .int 0, .null, .null, .int 0]))]) [3] rfl
  have hDc := hD.sub (ws' := [(q_2001, .inr (14, [.null, .int 0, .int 0, .int 0, .int 0, .int 0, .int 0, .null, .int 0, .int 0, .int 0, .null, .null, .int 0]))]) [3] (by decide) rfl
  have hKc := hK.sub (tys' := []) [] rfl
  have hFc := va_free (wc := [(q_2001, .inr (14, [.null, .int 0, .int 0, .int 0, .int 0, .int 0, .int 0, .null, .int 0, .int 0, .int 0, .null, .null, .int 0]))]) hD hS hA [3] rfl
  refine va_callv (va_runI (As := [.ref q_68, .int 0]) (rest := [.ref q_2001]) ⟨hx, hb, hml, hown, hts⟩ (c_X16_init l dC dI q_2001 q_68 H.size sa_RX16_9) (cwI 2 hts (goodIn_sub mem_X19_text_2 gw_X16_init) rfl rfl rfl (ow (k := 4) rfl) (ow (k := 7) rfl) (ow (k := 8) rfl) rfl (by decide +kernel) ⟨(Nat.le_of_ble_eq_true rfl), (Nat.le_of_ble_eq_true rfl)⟩) ⟨fun a U g mk q => by obtain ⟨q0, q1, qP, qK, qD, e0⟩ := q; exact ⟨q0, q1, qP, va_K.moved (u := U) (U := U.calling g mk a) (Vm.Alike.refl U.vm) qK, qD, vk_R.same (u := U) (U := U.calling g mk a) rfl e0⟩, fun U hU hW => ⟨rfl, by rw [hU], by rw [hU]; exact hPc, va_K.moved hW.alike hKc, hDc.weaken (fun _ _ _ _ => trivial), vk_R.warm hW hp0⟩⟩ rfl rfl hl.1 rfl (lv_room (Nat.le_of_ble_eq_true rfl)) dX19_text_24 ⟨(Nat.le_of_ble_eq_true rfl), (Nat.le_of_ble_eq_true rfl)⟩) hS (fun q _ h => hFc q h) hFc (fun  u t H1 locs ht hvm hw hB hz1 hk1 hS => ?_)
  obtain ⟨q_2002, q_2003, hP1, hK1, hD1⟩ := hB
  rw [ht] at hP1
  have hK1 := va_K.moved hvm.symm hK1
  obtain ⟨hP, hD⟩ := va_join (wr := [(h0, .inr (16, [.ref q_1, .ref q_12, .ref q_17, .ref q_22, .ref q_24, .ref q_26, .ref q_28, .ref q_29, .ref q_31, .ref q_33, .ref q_35, .int 0, .ref q_37, .ref q_39, .ref q_41, .ref q_43, .ref q_45, .ref q_47, .ref q_49, .ref q_51, .ref q_53, .ref q_55, .ref q_57, .int 0, .ref q_59, .ref q_61, .ref q_63, .int (-1), .int 0, .int 0, .int 0, .int 0, .ref q_65, .int 0, .ref q_68, .int 0, .int (-1), .int 0, .int 0, .ref q_70, .ref q_72])), (q_17, .inr (12, [.ref q_18, .ref q_19, .ref q_20, .int 0, .int 0, .ref q_21, .int 0])), (q_21, .inr (18, [.int 0, .ref sx_ed, .int 0]))]) (w1 := [(q_2001, .inr (14, [.ref q_68, .int 0, .int 0, .int 0, .int 0, .int 0, .int 0, .ref sa_RX16_9, .int (-1), .int 0, .int 0, .ref q_2002, .ref q_2003, .int 0]))]) hP hD [3] [0, 1, 2] rfl rfl (by decide) (by decide) hk1 hFc hP1 hD1
  have hK := (hK.sub (tys' := []) [] rfl).app hK1
  generalize H1 = H at hP hS ⊢
  have hP : va_P (dC, dI) vwP [(h0, .inr (16, [.ref q_1, .ref q_12, .ref q_17, .ref q_22, .ref q_24, .ref q_26, .ref q_28, .ref q_29, .ref q_31, .ref q_33, .ref q_35, .int 0, .ref q_37, .ref q_39, .ref q_41, .ref q_43, .ref q_45, .ref q_47, .ref q_49, .ref q_51, .ref q_53, .ref q_55, .ref q_57, .int 0, .ref q_59, .ref q_61, .ref q_63, .int (-1), .int 0, .int 0, .int 0, .int 0, .ref q_65, .int 0, .ref q_68, .int 0, .int (-1), .int 0, .int 0, .ref q_70, .ref q_72])), (q_17, .inr (12, [.ref q_18, .ref q_19, .ref q_20, .int 0, .int 0, .ref q_21, .int 0])), (q_21, .inr (18, [.int 0, .ref sx_ed, .int 0])), (q_2001, .inr (14, [.ref q_68, .int 0, .int 0, .int 0, .int 0, .int 0, .int 0, .ref sa_RX16_9, .int (-1), .int 0, .int 0, .ref q_2002, .ref q_2003, .int 0]))] H := hP
  have hD : va_D A [(h0, .inr (16, [.ref q_1, .ref q_12, .ref q_17, .ref q_22, .ref q_24, .ref q_26, .ref q_28, .ref q_29, .ref q_31, .ref q_33, .ref q_35, .int 0, .ref q_37, .ref q_39, .ref q_41, .ref q_43, .ref q_45, .ref q_47, .ref q_49, .ref q_51, .ref q_53, .ref q_55, .ref q_57, .int 0, .ref q_59, .ref q_61, .ref q_63, .int (-1), .int 0, .int 0, .int 0, .int 0, .ref q_65, .int 0, .ref q_68, .int 0, .int (-1), .int 0, .int 0, .ref q_70, .ref q_72])), (q_17, .inr (12, [.ref q_18, .ref q_19, .ref q_20, .int 0, .int 0, .ref q_21, .int 0])), (q_21, .inr (18, [.int 0, .ref sx_ed, .int 0])), (q_2001, .inr (14, [.ref q_68, .int 0, .int 0, .int 0, .int 0, .int 0, .int 0, .ref sa_RX16_9, .int (-1), .int 0, .int 0, .ref q_2002, .ref q_2003, .int 0]))] := hD
  have hK : va_K (dC, dI) vwP [] s := hK
  refine W.widen (k := 3) (n := 46) (Nat.le_of_ble_eq_true rfl) (Nat.le_of_ble_eq_true rfl) ?_
  refine lv_astore_n (lv' := [(2, .ref q_2001), (1, .int (-1)), (0, .ref h0)]) hx hb dX19_text_27 rfl hl (by decide) rfl (fun ls hl => ?_)
  refine lv_aload_n hx hb dX19_text_28 rfl (lv_at hl 0 rfl) ?_
  refine lv_aload_n hx hb dX19_text_29 rfl (lv_at hl 2 rfl) ?_
  refine va_get (D := (dC, dI)) (ci := 16) (v := .ref q_17) (C := RX19) (T := TX19) (N := 41) hx hb hts mem_X19_text_0 hown hK hP 0 rfl rfl 2 (by decide) (ow (k := 9) rfl) (fun _ h9 => h9) rfl dX19_text_30 ?_
  have hPc := hP.sub (ws' := [(q_2001, .inr (14, [.ref q_68, .int 0, .int 0, .int 0, .int 0, .int 0, .int 0, .ref sa_RX16_9, .int (-1), .int 0, .int 0, .ref q_2002, .ref q_2003, .int 0])), (q_17, .inr (12, [.ref q_18, .ref q_19, .ref q_20, .int 0, .int 0, .ref q_21, .int 0])), (q_21, .inr (18, [.int 0, .ref sx_ed, .int 0]))]) [3, 1, 2] rfl
  have hDc := hD.sub (ws' := [(q_2001, .inr (14, [.ref q_68, .int 0, .int 0, .int 0, .int 0, .int 0, .int 0, .ref sa_RX16_9, .int (-1), .int 0, .int 0, .ref q_2002, .ref q_2003, .int 0])), (q_17, .inr (12, [.ref q_18, .ref q_19, .ref q_20, .int 0, .int 0, .ref q_21, .int 0])), (q_21, .inr (18, [.int 0, .ref sx_ed, .int 0]))]) [3, 1, 2] (by decide) rfl
  have hKc := hK.sub (tys' := []) [] rfl
  have hFc := va_free (wc := [(q_2001, .inr (14, [.ref q_68, .int 0, .int 0, .int 0, .int 0, .int 0, .int 0, .ref sa_RX16_9, .int (-1), .int 0, .int 0, .ref q_2002, .ref q_2003, .int 0])), (q_17, .inr (12, [.ref q_18, .ref q_19, .ref q_20, .int 0, .int 0, .ref q_21, .int 0])), (q_21, .inr (18, [.int 0, .ref sx_ed, .int 0]))]) hD hS hA [3, 1, 2] rfl
  refine vx_callv (vx_runV (As := [.ref q_17]) (rest := []) ⟨hx, hb, hml, hown, hts⟩ (c_X16_program l dC dI q_2001 q_68 q_2002 q_2003 q_17 q_18 q_19 q_20 q_21 sa_RX16_9 sx_ed H.size) (cwV 1 hts g_X19_text_X16_program rfl rfl rfl (by decide +kernel) ⟨(Nat.le_of_ble_eq_true rfl), (Nat.le_of_ble_eq_true rfl)⟩) ⟨fun a U g mk q => by obtain ⟨q0, q1, qP, qK, qD, e0, e1⟩ := q; exact ⟨q0, q1, qP, va_K.moved (u := U) (U := U.calling g mk a) (Vm.Alike.refl U.vm) qK, qD, vx_Zq.moved (u := U) (U := U.calling g mk a) (Vm.Alike.refl U.vm) e0, vx_Zq.moved (u := U) (U := U.calling g mk a) (Vm.Alike.refl U.vm) e1⟩, va_recv hKc hPc (ci := 14) (q0 := 0) rfl rfl, fun U hU hW => ⟨rfl, by rw [hU], by rw [hU]; exact hPc, va_K.moved hW.alike hKc, hDc.weaken (fun _ _ _ _ => trivial), by rw [hU]; exact vx_Zq.narrow (vx_Zq.moved hW.alike (vx_Zq.kept hp1 hS.2.1)) hFc, by rw [hU]; exact vx_Zq.narrow (vx_Zq.moved hW.alike (vx_Zq.kept hp2 hS.2.1)) hFc⟩⟩ rfl rfl hl.1 rfl (lv_room (Nat.le_of_ble_eq_true rfl)) dX19_text_33 ⟨(Nat.le_of_ble_eq_true rfl), (Nat.le_of_ble_eq_true rfl)⟩) hS (fun q _ h => hFc q h) hFc (fun q _ h => hFc q h) (fun E ce q9 u t H1 locs ht hvm _ hB hz1 hk1 hS hce hcv hcl => ?_) (fun  u t H1 locs ht hvm hw hB hz1 hk1 hS => ?_)
  · obtain ⟨rfl, hP1, hD1⟩ := hB
    rw [ht] at hP1
    obtain ⟨hP, hD⟩ := va_join (wr := [(h0, .inr (16, [.ref q_1, .ref q_12, .ref q_17, .ref q_22, .ref q_24, .ref q_26, .ref q_28, .ref q_29, .ref q_31, .ref q_33, .ref q_35, .int 0, .ref q_37, .ref q_39, .ref q_41, .ref q_43, .ref q_45, .ref q_47, .ref q_49, .ref q_51, .ref q_53, .ref q_55, .ref q_57, .int 0, .ref q_59, .ref q_61, .ref q_63, .int (-1), .int 0, .int 0, .int 0, .int 0, .ref q_65, .int 0, .ref q_68, .int 0, .int (-1), .int 0, .int 0, .ref q_70, .ref q_72]))]) (w1 := [(q9, .inr (15, [.null, .null, .null, .null, .null, .int 0, .int 0]))]) hP hD [3, 1, 2] [0] rfl rfl (by decide) (by decide) hk1 hFc hP1 hD1
    have hK := hK.sub (tys' := []) [] rfl
    generalize H1 = H at hP hS hce ⊢
    have hP : va_P (dC, dI) vwP [(h0, .inr (16, [.ref q_1, .ref q_12, .ref q_17, .ref q_22, .ref q_24, .ref q_26, .ref q_28, .ref q_29, .ref q_31, .ref q_33, .ref q_35, .int 0, .ref q_37, .ref q_39, .ref q_41, .ref q_43, .ref q_45, .ref q_47, .ref q_49, .ref q_51, .ref q_53, .ref q_55, .ref q_57, .int 0, .ref q_59, .ref q_61, .ref q_63, .int (-1), .int 0, .int 0, .int 0, .int 0, .ref q_65, .int 0, .ref q_68, .int 0, .int (-1), .int 0, .int 0, .ref q_70, .ref q_72])), (q9, .inr (15, [.null, .null, .null, .null, .null, .int 0, .int 0]))] H := hP
    have hD : va_D A [(h0, .inr (16, [.ref q_1, .ref q_12, .ref q_17, .ref q_22, .ref q_24, .ref q_26, .ref q_28, .ref q_29, .ref q_31, .ref q_33, .ref q_35, .int 0, .ref q_37, .ref q_39, .ref q_41, .ref q_43, .ref q_45, .ref q_47, .ref q_49, .ref q_51, .ref q_53, .ref q_55, .ref q_57, .int 0, .ref q_59, .ref q_61, .ref q_63, .int (-1), .int 0, .int 0, .int 0, .int 0, .ref q_65, .int 0, .ref q_68, .int 0, .int (-1), .int 0, .int 0, .ref q_70, .ref q_72])), (q9, .inr (15, [.null, .null, .null, .null, .null, .int 0, .int 0]))] := hD
    refine vx_widen (k := 4) (n := 53) (Nat.le_of_ble_eq_true rfl) (Nat.le_of_ble_eq_true rfl) ?_
    refine vx_catch (name := "SsaForgeModel$Wrong") hown [] ⟨12, 57, 60, 589⟩ [] (by rw [vx_table (x := yX19_text) B (hts _ List.mem_cons_self)]; rfl) (fun z hz => nomatch hz) (by decide) (by decide) (ow (k := 13) rfl) (va_Nw.use rfl hp3) hce hcv hcl ?_
    refine lv_astore_n (lv' := [(2, .ref q9), (1, .int (-1)), (0, .ref h0)]) hx hb dX19_text_60 rfl hl (by decide) rfl (fun ls hl => ?_)
    refine lv_aload_n hx hb dX19_text_61 rfl (lv_at hl 0 rfl) ?_
    refine va_get (D := (dC, dI)) (ci := 15) (v := .int 0) (C := RX18) (T := TX18) (N := 7) hx hb hts mem_X19_text_4 hown hK hP 1 rfl rfl 6 (by decide) (ow (k := 14) rfl) (fun _ h9 => h9) rfl dX19_text_62 ?_
    refine lv_istore_n (lv' := [(1, .int 0), (2, .ref q9), (0, .ref h0)]) hx hb dX19_text_65 rfl hl (by decide) rfl (fun ls hl => ?_)
    refine lv_aload_n hx hb dX19_text_66 rfl (lv_at hl 2 rfl) ?_
    refine lv_iconst (v := 1) hx hb dX19_text_67 (by decide) ?_
    refine va_put (D := (dC, dI)) (ci := 16) (v := .int 1) (ty := .int) (C := RX19) (T := TX19) (N := 41) hx hb hts mem_X19_text_0 tyX19 tyX19_ok nmX19 hown hK hP hD hS 0 rfl rfl 37 (by decide) (ow (k := 1) rfl) (fun _ h9 => h9) rfl (by decide +kernel) rfl rfl (Nat.le_of_ble_eq_true rfl) dX19_text_68 (fun H locs hP hD hS => ?_)
    have hP : va_P (dC, dI) vwP [(h0, .inr (16, [.ref q_1, .ref q_12, .ref q_17, .ref q_22, .ref q_24, .ref q_26, .ref q_28, .ref q_29, .ref q_31, .ref q_33, .ref q_35, .int 0, .ref q_37, .ref q_39, .ref q_41, .ref q_43, .ref q_45, .ref q_47, .ref q_49, .ref q_51, .ref q_53, .ref q_55, .ref q_57, .int 0, .ref q_59, .ref q_61, .ref q_63, .int (-1), .int 0, .int 0, .int 0, .int 0, .ref q_65, .int 0, .ref q_68, .int 0, .int (-1), .int 1, .int 0, .ref q_70, .ref q_72])), (q9, .inr (15, [.null, .null, .null, .null, .null, .int 0, .int 0]))] H := hP
    have hD : va_D A [(h0, .inr (16, [.ref q_1, .ref q_12, .ref q_17, .ref q_22, .ref q_24, .ref q_26, .ref q_28, .ref q_29, .ref q_31, .ref q_33, .ref q_35, .int 0, .ref q_37, .ref q_39, .ref q_41, .ref q_43, .ref q_45, .ref q_47, .ref q_49, .ref q_51, .ref q_53, .ref q_55, .ref q_57, .int 0, .ref q_59, .ref q_61, .ref q_63, .int (-1), .int 0, .int 0, .int 0, .int 0, .ref q_65, .int 0, .ref q_68, .int 0, .int (-1), .int 1, .int 0, .ref q_70, .ref q_72])), (q9, .inr (15, [.null, .null, .null, .null, .null, .int 0, .int 0]))] := hD
    refine lv_aload_n hx hb dX19_text_71 rfl (lv_at hl 2 rfl) ?_
    refine lv_iconst (v := 0) hx hb dX19_text_72 (by decide) ?_
    refine va_put (D := (dC, dI)) (ci := 16) (v := .int 0) (ty := .int) (C := RX19) (T := TX19) (N := 41) hx hb hts mem_X19_text_0 tyX19 tyX19_ok nmX19 hown hK hP hD hS 0 rfl rfl 35 (by decide) (ow (k := 6) rfl) (fun _ h9 => h9) rfl (by decide +kernel) rfl rfl (Nat.le_of_ble_eq_true rfl) dX19_text_73 (fun H locs hP hD hS => ?_)
    have hP : va_P (dC, dI) vwP [(h0, .inr (16, [.ref q_1, .ref q_12, .ref q_17, .ref q_22, .ref q_24, .ref q_26, .ref q_28, .ref q_29, .ref q_31, .ref q_33, .ref q_35, .int 0, .ref q_37, .ref q_39, .ref q_41, .ref q_43, .ref q_45, .ref q_47, .ref q_49, .ref q_51, .ref q_53, .ref q_55, .ref q_57, .int 0, .ref q_59, .ref q_61, .ref q_63, .int (-1), .int 0, .int 0, .int 0, .int 0, .ref q_65, .int 0, .ref q_68, .int 0, .int (-1), .int 1, .int 0, .ref q_70, .ref q_72])), (q9, .inr (15, [.null, .null, .null, .null, .null, .int 0, .int 0]))] H := hP
    have hD : va_D A [(h0, .inr (16, [.ref q_1, .ref q_12, .ref q_17, .ref q_22, .ref q_24, .ref q_26, .ref q_28, .ref q_29, .ref q_31, .ref q_33, .ref q_35, .int 0, .ref q_37, .ref q_39, .ref q_41, .ref q_43, .ref q_45, .ref q_47, .ref q_49, .ref q_51, .ref q_53, .ref q_55, .ref q_57, .int 0, .ref q_59, .ref q_61, .ref q_63, .int (-1), .int 0, .int 0, .int 0, .int 0, .ref q_65, .int 0, .ref q_68, .int 0, .int (-1), .int 1, .int 0, .ref q_70, .ref q_72])), (q9, .inr (15, [.null, .null, .null, .null, .null, .int 0, .int 0]))] := hD
    refine lv_aload_n hx hb dX19_text_76 rfl (lv_at hl 2 rfl) ?_
    refine lv_iload_n hx hb dX19_text_77 rfl (lv_at hl 0 rfl) ?_
    refine lv_if_ge (tgt := 85) hx hb dX19_text_78 (by decide) (fun _ => ?_) (fun h9 => absurd h9 (by decide))
    refine lv_iconst (v := (-1)) hx hb dX19_text_85 (by decide) ?_
    refine va_put (D := (dC, dI)) (ci := 16) (v := .int (-1)) (ty := .int) (C := RX19) (T := TX19) (N := 41) hx hb hts mem_X19_text_0 tyX19 tyX19_ok nmX19 hown hK hP hD hS 0 rfl rfl 36 (by decide) (ow (k := 15) rfl) (fun _ h9 => h9) rfl (by decide +kernel) rfl rfl (Nat.le_of_ble_eq_true rfl) dX19_text_86 (fun H locs hP hD hS => ?_)
    have hP : va_P (dC, dI) vwP [(h0, .inr (16, [.ref q_1, .ref q_12, .ref q_17, .ref q_22, .ref q_24, .ref q_26, .ref q_28, .ref q_29, .ref q_31, .ref q_33, .ref q_35, .int 0, .ref q_37, .ref q_39, .ref q_41, .ref q_43, .ref q_45, .ref q_47, .ref q_49, .ref q_51, .ref q_53, .ref q_55, .ref q_57, .int 0, .ref q_59, .ref q_61, .ref q_63, .int (-1), .int 0, .int 0, .int 0, .int 0, .ref q_65, .int 0, .ref q_68, .int 0, .int (-1), .int 1, .int 0, .ref q_70, .ref q_72])), (q9, .inr (15, [.null, .null, .null, .null, .null, .int 0, .int 0]))] H := hP
    have hD : va_D A [(h0, .inr (16, [.ref q_1, .ref q_12, .ref q_17, .ref q_22, .ref q_24, .ref q_26, .ref q_28, .ref q_29, .ref q_31, .ref q_33, .ref q_35, .int 0, .ref q_37, .ref q_39, .ref q_41, .ref q_43, .ref q_45, .ref q_47, .ref q_49, .ref q_51, .ref q_53, .ref q_55, .ref q_57, .int 0, .ref q_59, .ref q_61, .ref q_63, .int (-1), .int 0, .int 0, .int 0, .int 0, .ref q_65, .int 0, .ref q_68, .int 0, .int (-1), .int 1, .int 0, .ref q_70, .ref q_72])), (q9, .inr (15, [.null, .null, .null, .null, .null, .int 0, .int 0]))] := hD
    refine lv_aload_n hx hb dX19_text_89 rfl (lv_at hl 2 rfl) ?_
    refine va_get (D := (dC, dI)) (ci := 16) (v := .int (-1)) (C := RX19) (T := TX19) (N := 41) hx hb hts mem_X19_text_0 hown hK hP 0 rfl rfl 36 (by decide) (ow (k := 15) rfl) (fun _ h9 => h9) rfl dX19_text_90 ?_
    refine lv_if_ne (tgt := 100) hx hb dX19_text_93 (by decide) (fun _ => ?_) (fun h9 => absurd h9 (by decide))
    refine lv_iload_n hx hb dX19_text_100 rfl (lv_at hl 0 rfl) ?_
    have hP := hP.sub (ws' := []) [] rfl
    have hD := hD.sub (ws' := []) [] (by decide) rfl
    refine W.widen (k := 4) (n := 53) (Nat.le_of_ble_eq_true rfl) (Nat.le_of_ble_eq_true rfl) ?_
    exact W.iret (v := 0) hx hb hr (fun t ht hW => ⟨⟨0, (), rfl, rfl, by rw [ht]; exact hP, va_K.moved hW.alike hK, hD⟩, hS.F ht⟩) hS.2.2 dX19_text_101
  exact hw.elim
