theorem dX19_no_0 : decode cX19_no 0 = .ok (.aload_n 0, 1) := by decide +kernel
theorem dX19_no_1 : decode cX19_no 1 = .ok (.iload_n 1, 1) := by decide +kernel
theorem dX19_no_2 : decode cX19_no 2 = .ok (.putfield 560, 3) := by decide +kernel
theorem dX19_no_5 : decode cX19_no 5 = .ok (.iconst 0, 1) := by decide +kernel
theorem dX19_no_6 : decode cX19_no 6 = .ok (.ireturn, 1) := by decide +kernel
def o_X19_no : List Cond := [.fieldLink RX19 560 "SsaForgeModel" "thrown" "I"]
def v_X19_no : List Cond := .code yX19_no cX19_no 2 (some .int) :: (o_X19_no ++ (wsX190 ++ []))
theorem mow_X19_no : ∀ w ∈ o_X19_no, w ∈ v_X19_no := fun _ h => List.mem_cons_of_mem _ (List.mem_append_left _ h)
theorem mem_X19_no_0 : ∀ w ∈ wsX190, w ∈ v_X19_no := fun _ h => List.mem_cons_of_mem _ (List.mem_append_right _ (List.mem_append_left _ h))
set_option maxRecDepth 20000 in
theorem gw_X19_no : v_X19_no.all goodWord = true := by decide +kernel
set_option maxHeartbeats 4000000 in
set_option maxRecDepth 100000 in
theorem c_X19_no (l : Launch) (dC : Nat → ClassId) (dI : Nat → Nat → Nat) (h0 : Nat) (q_1 : Nat) (q_12 : Nat) (q_17 : Nat) (q_22 : Nat) (q_24 : Nat) (q_26 : Nat) (q_28 : Nat) (q_29 : Nat) (q_31 : Nat) (q_33 : Nat) (q_35 : Nat) (q_37 : Nat) (q_39 : Nat) (q_41 : Nat) (q_43 : Nat) (q_45 : Nat) (q_47 : Nat) (q_49 : Nat) (q_51 : Nat) (q_53 : Nat) (q_55 : Nat) (q_57 : Nat) (q_59 : Nat) (q_61 : Nat) (q_63 : Nat) (q_65 : Nat) (q_68 : Nat) (q_70 : Nat) (q_72 : Nat) (p0 : Int32) (sz : Nat) : Met l yX19_no v_X19_no ({ frames := 0, cells := 0, slots := 0, locals := 0 }) (va_Pc [.ref h0, .int p0] (fun U => U.heap.size = sz ∧ va_P (dC, dI) vwP [(h0, .inr (16, [.ref q_1, .ref q_12, .ref q_17, .ref q_22, .ref q_24, .ref q_26, .ref q_28, .ref q_29, .ref q_31, .ref q_33, .ref q_35, .int 0, .ref q_37, .ref q_39, .ref q_41, .ref q_43, .ref q_45, .ref q_47, .ref q_49, .ref q_51, .ref q_53, .ref q_55, .ref q_57, .int 0, .ref q_59, .ref q_61, .ref q_63, .int (-1), .int 0, .int 0, .int 0, .int 0, .ref q_65, .int 0, .ref q_68, .int 0, .int (-1), .int 0, .int 0, .ref q_70, .ref q_72]))] U.heap ∧ va_K (dC, dI) vwP [] U ∧ va_D (fun _ => True) [(h0, .inr (16, [.ref q_1, .ref q_12, .ref q_17, .ref q_22, .ref q_24, .ref q_26, .ref q_28, .ref q_29, .ref q_31, .ref q_33, .ref q_35, .int 0, .ref q_37, .ref q_39, .ref q_41, .ref q_43, .ref q_45, .ref q_47, .ref q_49, .ref q_51, .ref q_53, .ref q_55, .ref q_57, .int 0, .ref q_59, .ref q_61, .ref q_63, .int (-1), .int 0, .int 0, .int 0, .int 0, .ref q_65, .int 0, .ref q_68, .int 0, .int (-1), .int 0, .int 0, .ref q_70, .ref q_72]))])) (va_Qi (fun (r : Int32) (_ : Unit) => r = 0) (fun (_ : Unit) (t : State) => va_P (dC, dI) vwP [(h0, .inr (16, [.ref q_1, .ref q_12, .ref q_17, .ref q_22, .ref q_24, .ref q_26, .ref q_28, .ref q_29, .ref q_31, .ref q_33, .ref q_35, .int 0, .ref q_37, .ref q_39, .ref q_41, .ref q_43, .ref q_45, .ref q_47, .ref q_49, .ref q_51, .ref q_53, .ref q_55, .ref q_57, .int 0, .ref q_59, .ref q_61, .ref q_63, .int (-1), .int 0, .int 0, .int 0, .int 0, .ref q_65, .int p0, .ref q_68, .int 0, .int (-1), .int 0, .int 0, .ref q_70, .ref q_72]))] t.heap ∧ va_K (dC, dI) vwP [] t ∧ va_D (va_A [(h0, .inr (16, [.ref q_1, .ref q_12, .ref q_17, .ref q_22, .ref q_24, .ref q_26, .ref q_28, .ref q_29, .ref q_31, .ref q_33, .ref q_35, .int 0, .ref q_37, .ref q_39, .ref q_41, .ref q_43, .ref q_45, .ref q_47, .ref q_49, .ref q_51, .ref q_53, .ref q_55, .ref q_57, .int 0, .ref q_59, .ref q_61, .ref q_63, .int (-1), .int 0, .int 0, .int 0, .int 0, .ref q_65, .int 0, .ref q_68, .int 0, .int (-1), .int 0, .int 0, .ref q_70, .ref q_72]))] sz) [(h0, .inr (16, [.ref q_1, .ref q_12, .ref q_17, .ref q_22, .ref q_24, .ref q_26, .ref q_28, .ref q_29, .ref q_31, .ref q_33, .ref q_35, .int 0, .ref q_37, .ref q_39, .ref q_41, .ref q_43, .ref q_45, .ref q_47, .ref q_49, .ref q_51, .ref q_53, .ref q_55, .ref q_57, .int 0, .ref q_59, .ref q_61, .ref q_63, .int (-1), .int 0, .int 0, .int 0, .int 0, .ref q_65, .int p0, .ref q_68, .int 0, .int (-1), .int 0, .int 0, .ref q_70, .ref q_72]))]) (va_A [(h0, .inr (16, [.ref q_1, .ref q_12, .ref q_17, .ref q_22, .ref q_24, .ref q_26, .ref q_28, .ref q_29, .ref q_31, .ref q_33, .ref q_35, .int 0, .ref q_37, .ref q_39, .ref q_41, .ref q_43, .ref q_45, .ref q_47, .ref q_49, .ref q_51, .ref q_53, .ref q_55, .ref q_57, .int 0, .ref q_59, .ref q_61, .ref q_63, .int (-1), .int 0, .int 0, .int 0, .int 0, .ref q_65, .int 0, .ref q_68, .int 0, .int (-1), .int 0, .int 0, .ref q_70, .ref q_72]))] sz)) 0 0 (va_A [(h0, .inr (16, [.ref q_1, .ref q_12, .ref q_17, .ref q_22, .ref q_24, .ref q_26, .ref q_28, .ref q_29, .ref q_31, .ref q_33, .ref q_35, .int 0, .ref q_37, .ref q_39, .ref q_41, .ref q_43, .ref q_45, .ref q_47, .ref q_49, .ref q_51, .ref q_53, .ref q_55, .ref q_57, .int 0, .ref q_59, .ref q_61, .ref q_63, .int (-1), .int 0, .int 0, .int 0, .int 0, .ref q_65, .int 0, .ref q_68, .int 0, .int (-1), .int 0, .int 0, .ref q_70, .ref q_72]))] sz) := by
  refine Met.ofW (cc := cX19_no) (maxL := 2) (ret := (some .int)) (by decide) rfl ?_
  intro p e s m args below meth c s₁ B hml hv
  obtain ⟨rfl, hsz, hP, hK, hD0⟩ := hv
  have hx := B.exec
  have hb := B.bytes
  have hr := B.returns
  have hts := atoms_spec (ws := v_X19_no) B.pre
  have hown : s.vm.findClass RX19 = some m.cls := findClass_of_methodNamed B.named
  have hlocks := B.notSynchronized
  have ow : ∀ {k : Nat} {w : Cond}, o_X19_no[k]? = some w → w.before ([.ref h0, .int p0] : List Value).toArray s = true := fun h => hts _ (mow_X19_no _ (List.mem_of_getElem? h))
  subst hsz
  have hD := hD0.self (sz := s.heap.size)
  generalize hAe : va_A [(h0, .inr (16, [.ref q_1, .ref q_12, .ref q_17, .ref q_22, .ref q_24, .ref q_26, .ref q_28, .ref q_29, .ref q_31, .ref q_33, .ref q_35, .int 0, .ref q_37, .ref q_39, .ref q_41, .ref q_43, .ref q_45, .ref q_47, .ref q_49, .ref q_51, .ref q_53, .ref q_55, .ref q_57, .int 0, .ref q_59, .ref q_61, .ref q_63, .int (-1), .int 0, .int 0, .int 0, .int 0, .ref q_65, .int 0, .ref q_68, .int 0, .int (-1), .int 0, .int 0, .ref q_70, .ref q_72]))] s.heap.size = A at hD ⊢
  have hA : ∀ q : Nat, s.heap.size ≤ q → A q := fun q h => by rw [← hAe]; exact Or.inr h
  have hS : va_S A s.heap s.heap [] := va_S.rf
  have hP : va_P (dC, dI) vwP [(h0, .inr (16, [.ref q_1, .ref q_12, .ref q_17, .ref q_22, .ref q_24, .ref q_26, .ref q_28, .ref q_29, .ref q_31, .ref q_33, .ref q_35, .int 0, .ref q_37, .ref q_39, .ref q_41, .ref q_43, .ref q_45, .ref q_47, .ref q_49, .ref q_51, .ref q_53, .ref q_55, .ref q_57, .int 0, .ref q_59, .ref q_61, .ref q_63, .int (-1), .int 0, .int 0, .int 0, .int 0, .ref q_65, .int 0, .ref q_68, .int 0, .int (-1), .int 0, .int 0, .ref q_70, .ref q_72]))] s.heap := hP
  have hl := lv_entry ([.ref h0, .int p0]) (n := 2) (Nat.le_of_ble_eq_true rfl)
  rw [lg_entry_eq]
  generalize (lg_sl ([.ref h0, .int p0]) ++ List.replicate (2 - (lg_sl ([.ref h0, .int p0])).length) Slot.unset).toArray = ls at hl ⊢
  have hl : lv_has ls 2 [(0, .ref h0), (1, .int p0)] := hl
  obtain ⟨H, hH⟩ : ∃ H, H = s.heap := ⟨_, rfl⟩
  rw [← hH] at hP
  have hS : va_S A s.heap H [] := by rw [hH]; exact hS
  rw [← hH]
  refine lv_aload_n hx hb dX19_no_0 rfl (lv_at hl 0 rfl) ?_
  refine lv_iload_n hx hb dX19_no_1 rfl (lv_at hl 1 rfl) ?_
  refine va_put (D := (dC, dI)) (ci := 16) (v := .int p0) (ty := .int) (C := RX19) (T := TX19) (N := 41) hx hb hts mem_X19_no_0 tyX19 tyX19_ok nmX19 hown hK hP hD hS 0 rfl rfl 33 (by decide) (ow (k := 0) rfl) (fun _ h9 => h9) rfl (by decide +kernel) rfl rfl (Nat.le_of_ble_eq_true rfl) dX19_no_2 (fun H locs hP hD hS => ?_)
  have hP : va_P (dC, dI) vwP [(h0, .inr (16, [.ref q_1, .ref q_12, .ref q_17, .ref q_22, .ref q_24, .ref q_26, .ref q_28, .ref q_29, .ref q_31, .ref q_33, .ref q_35, .int 0, .ref q_37, .ref q_39, .ref q_41, .ref q_43, .ref q_45, .ref q_47, .ref q_49, .ref q_51, .ref q_53, .ref q_55, .ref q_57, .int 0, .ref q_59, .ref q_61, .ref q_63, .int (-1), .int 0, .int 0, .int 0, .int 0, .ref q_65, .int p0, .ref q_68, .int 0, .int (-1), .int 0, .int 0, .ref q_70, .ref q_72]))] H := hP
  have hD : va_D A [(h0, .inr (16, [.ref q_1, .ref q_12, .ref q_17, .ref q_22, .ref q_24, .ref q_26, .ref q_28, .ref q_29, .ref q_31, .ref q_33, .ref q_35, .int 0, .ref q_37, .ref q_39, .ref q_41, .ref q_43, .ref q_45, .ref q_47, .ref q_49, .ref q_51, .ref q_53, .ref q_55, .ref q_57, .int 0, .ref q_59, .ref q_61, .ref q_63, .int (-1), .int 0, .int 0, .int 0, .int 0, .ref q_65, .int p0, .ref q_68, .int 0, .int (-1), .int 0, .int 0, .ref q_70, .ref q_72]))] := hD
  refine lv_iconst (v := 0) hx hb dX19_no_5 (by decide) ?_
  refine W.widen (k := 0) (n := 0) (Nat.le_of_ble_eq_true rfl) (Nat.le_of_ble_eq_true rfl) ?_
  exact W.iret (v := 0) hx hb hr (fun t ht hW => ⟨⟨0, (), rfl, rfl, by rw [ht]; exact hP, va_K.moved hW.alike hK, hD⟩, hS.F ht⟩) hS.2.2 dX19_no_6
theorem dX19_word_0 : decode cX19_word 0 = .ok (.iconst 0, 1) := by decide +kernel
theorem dX19_word_1 : decode cX19_word 1 = .ok (.istore_n 3, 1) := by decide +kernel
theorem dX19_word_2 : decode cX19_word 2 = .ok (.iload_n 3, 1) := by decide +kernel
theorem dX19_word_3 : decode cX19_word 3 = .ok (.iconst 4, 1) := by decide +kernel
theorem dX19_word_4 : decode cX19_word 4 = .ok (.if_icmp .ge 27, 3) := by decide +kernel
theorem dX19_word_7 : decode cX19_word 7 = .ok (.aload_n 0, 1) := by decide +kernel
theorem dX19_word_8 : decode cX19_word 8 = .ok (.getfield 551, 3) := by decide +kernel
theorem dX19_word_11 : decode cX19_word 11 = .ok (.iload_n 2, 1) := by decide +kernel
theorem dX19_word_12 : decode cX19_word 12 = .ok (.iload_n 3, 1) := by decide +kernel
theorem dX19_word_13 : decode cX19_word 13 = .ok (.iadd, 1) := by decide +kernel
theorem dX19_word_14 : decode cX19_word 14 = .ok (.iload_n 1, 1) := by decide +kernel
theorem dX19_word_15 : decode cX19_word 15 = .ok (.bipush 24, 2) := by decide +kernel
theorem dX19_word_17 : decode cX19_word 17 = .ok (.bipush 8, 2) := by decide +kernel
theorem dX19_word_19 : decode cX19_word 19 = .ok (.iload_n 3, 1) := by decide +kernel
theorem dX19_word_20 : decode cX19_word 20 = .ok (.imul, 1) := by decide +kernel
theorem dX19_word_21 : decode cX19_word 21 = .ok (.isub, 1) := by decide +kernel
theorem dX19_word_22 : decode cX19_word 22 = .ok (.ishr, 1) := by decide +kernel
theorem dX19_word_23 : decode cX19_word 23 = .ok (.i2b, 1) := by decide +kernel
theorem dX19_word_24 : decode cX19_word 24 = .ok (.bastore, 1) := by decide +kernel
theorem dX19_word_25 : decode cX19_word 25 = .ok (.iinc 3 1, 3) := by decide +kernel
theorem dX19_word_28 : decode cX19_word 28 = .ok (.goto (-26), 3) := by decide +kernel
theorem dX19_word_31 : decode cX19_word 31 = .ok (.return_, 1) := by decide +kernel
def o_X19_word0 : List Cond := [.fieldLink RX19 551 "SsaForgeModel" "tape" "[B"]
def v_X19_word0 : List Cond := .code yX19_word cX19_word 4 none :: (o_X19_word0 ++ (wsX190 ++ []))
theorem mow_X19_word0 : ∀ w ∈ o_X19_word0, w ∈ v_X19_word0 := fun _ h => List.mem_cons_of_mem _ (List.mem_append_left _ h)
theorem mem_X19_word0_0 : ∀ w ∈ wsX190, w ∈ v_X19_word0 := fun _ h => List.mem_cons_of_mem _ (List.mem_append_right _ (List.mem_append_left _ h))
set_option maxRecDepth 20000 in
theorem gw_X19_word0 : v_X19_word0.all goodWord = true := by decide +kernel
set_option maxHeartbeats 4000000 in
set_option maxRecDepth 100000 in
theorem c_X19_word0 (l : Launch) (dC : Nat → ClassId) (dI : Nat → Nat → Nat) (h0 : Nat) (q_1 : Nat) (q_12 : Nat) (q_17 : Nat) (q_22 : Nat) (q_24 : Nat) (q_26 : Nat) (q_28 : Nat) (q_29 : Nat) (q_31 : Nat) (q_33 : Nat) (q_35 : Nat) (q_37 : Nat) (q_39 : Nat) (q_41 : Nat) (q_43 : Nat) (q_45 : Nat) (q_47 : Nat) (q_49 : Nat) (q_51 : Nat) (q_53 : Nat) (q_55 : Nat) (q_57 : Nat) (q_59 : Nat) (q_61 : Nat) (q_63 : Nat) (q_65 : Nat) (q_68 : Nat) (q_70 : Nat) (q_72 : Nat) (cA_69 : ClassId) (f_0 : Nat → Int32) (p0 : Int32) (sz : Nat) : Met l yX19_word v_X19_word0 ({ frames := 0, cells := 0, slots := 0, locals := 0 }) (va_Pc [.ref h0, .int p0, .int 0] (fun U => U.heap.size = sz ∧ va_P (dC, dI) vwP [(h0, .inr (16, [.ref q_1, .ref q_12, .ref q_17, .ref q_22, .ref q_24, .ref q_26, .ref q_28, .ref q_29, .ref q_31, .ref q_33, .ref q_35, .int 0, .ref q_37, .ref q_39, .ref q_41, .ref q_43, .ref q_45, .ref q_47, .ref q_49, .ref q_51, .ref q_53, .ref q_55, .ref q_57, .int 0, .ref q_59, .ref q_61, .ref q_63, .int (-1), .int 0, .int 0, .int 0, .int 0, .ref q_65, .int 0, .ref q_68, .int 0, .int (-1), .int 0, .int 0, .ref q_70, .ref q_72])), (q_68, .inl (cA_69, 8192, .inl f_0))] U.heap ∧ va_K (dC, dI) vwP [(cA_69, .byte)] U ∧ va_D (fun _ => True) [(h0, .inr (16, [.ref q_1, .ref q_12, .ref q_17, .ref q_22, .ref q_24, .ref q_26, .ref q_28, .ref q_29, .ref q_31, .ref q_33, .ref q_35, .int 0, .ref q_37, .ref q_39, .ref q_41, .ref q_43, .ref q_45, .ref q_47, .ref q_49, .ref q_51, .ref q_53, .ref q_55, .ref q_57, .int 0, .ref q_59, .ref q_61, .ref q_63, .int (-1), .int 0, .int 0, .int 0, .int 0, .ref q_65, .int 0, .ref q_68, .int 0, .int (-1), .int 0, .int 0, .ref q_70, .ref q_72])), (q_68, .inl (cA_69, 8192, .inl f_0))])) (va_Qv (fun _ : Unit => True) (fun (_ : Unit) (t : State) => ∃ (g0_9 : Nat → Int32), va_P (dC, dI) vwP [(h0, .inr (16, [.ref q_1, .ref q_12, .ref q_17, .ref q_22, .ref q_24, .ref q_26, .ref q_28, .ref q_29, .ref q_31, .ref q_33, .ref q_35, .int 0, .ref q_37, .ref q_39, .ref q_41, .ref q_43, .ref q_45, .ref q_47, .ref q_49, .ref q_51, .ref q_53, .ref q_55, .ref q_57, .int 0, .ref q_59, .ref q_61, .ref q_63, .int (-1), .int 0, .int 0, .int 0, .int 0, .ref q_65, .int 0, .ref q_68, .int 0, .int (-1), .int 0, .int 0, .ref q_70, .ref q_72])), (q_68, .inl (cA_69, 8192, .inl g0_9))] t.heap ∧ va_K (dC, dI) vwP [(cA_69, .byte)] t ∧ va_D (va_A [(h0, .inr (16, [.ref q_1, .ref q_12, .ref q_17, .ref q_22, .ref q_24, .ref q_26, .ref q_28, .ref q_29, .ref q_31, .ref q_33, .ref q_35, .int 0, .ref q_37, .ref q_39, .ref q_41, .ref q_43, .ref q_45, .ref q_47, .ref q_49, .ref q_51, .ref q_53, .ref q_55, .ref q_57, .int 0, .ref q_59, .ref q_61, .ref q_63, .int (-1), .int 0, .int 0, .int 0, .int 0, .ref q_65, .int 0, .ref q_68, .int 0, .int (-1), .int 0, .int 0, .ref q_70, .ref q_72])), (q_68, .inl (cA_69, 8192, .inl f_0))] sz) [(h0, .inr (16, [.ref q_1, .ref q_12, .ref q_17, .ref q_22, .ref q_24, .ref q_26, .ref q_28, .ref q_29, .ref q_31, .ref q_33, .ref q_35, .int 0, .ref q_37, .ref q_39, .ref q_41, .ref q_43, .ref q_45, .ref q_47, .ref q_49, .ref q_51, .ref q_53, .ref q_55, .ref q_57, .int 0, .ref q_59, .ref q_61, .ref q_63, .int (-1), .int 0, .int 0, .int 0, .int 0, .ref q_65, .int 0, .ref q_68, .int 0, .int (-1), .int 0, .int 0, .ref q_70, .ref q_72])), (q_68, .inl (cA_69, 8192, .inl g0_9))]) (va_A [(h0, .inr (16, [.ref q_1, .ref q_12, .ref q_17, .ref q_22, .ref q_24, .ref q_26, .ref q_28, .ref q_29, .ref q_31, .ref q_33, .ref q_35, .int 0, .ref q_37, .ref q_39, .ref q_41, .ref q_43, .ref q_45, .ref q_47, .ref q_49, .ref q_51, .ref q_53, .ref q_55, .ref q_57, .int 0, .ref q_59, .ref q_61, .ref q_63, .int (-1), .int 0, .int 0, .int 0, .int 0, .ref q_65, .int 0, .ref q_68, .int 0, .int (-1), .int 0, .int 0, .ref q_70, .ref q_72])), (q_68, .inl (cA_69, 8192, .inl f_0))] sz)) 0 0 (va_A [(h0, .inr (16, [.ref q_1, .ref q_12, .ref q_17, .ref q_22, .ref q_24, .ref q_26, .ref q_28, .ref q_29, .ref q_31, .ref q_33, .ref q_35, .int 0, .ref q_37, .ref q_39, .ref q_41, .ref q_43, .ref q_45, .ref q_47, .ref q_49, .ref q_51, .ref q_53, .ref q_55, .ref q_57, .int 0, .ref q_59, .ref q_61, .ref q_63, .int (-1), .int 0, .int 0, .int 0, .int 0, .ref q_65, .int 0, .ref q_68, .int 0, .int (-1), .int 0, .int 0, .ref q_70, .ref q_72])), (q_68, .inl (cA_69, 8192, .inl f_0))] sz) := by
  refine Met.ofW (cc := cX19_word) (maxL := 4) (ret := none) (by decide) rfl ?_
  intro p e s m args below meth c s₁ B hml hv
  obtain ⟨rfl, hsz, hP, hK, hD0⟩ := hv
  have hx := B.exec
  have hb := B.bytes
  have hr := B.returns
  have hts := atoms_spec (ws := v_X19_word0) B.pre
  have hown : s.vm.findClass RX19 = some m.cls := findClass_of_methodNamed B.named
  have hlocks := B.notSynchronized
  have ow : ∀ {k : Nat} {w : Cond}, o_X19_word0[k]? = some w → w.before ([.ref h0, .int p0, .int 0] : List Value).toArray s = true := fun h => hts _ (mow_X19_word0 _ (List.mem_of_getElem? h))
  subst hsz
  have hD := hD0.self (sz := s.heap.size)
  generalize hAe : va_A [(h0, .inr (16, [.ref q_1, .ref q_12, .ref q_17, .ref q_22, .ref q_24, .ref q_26, .ref q_28, .ref q_29, .ref q_31, .ref q_33, .ref q_35, .int 0, .ref q_37, .ref q_39, .ref q_41, .ref q_43, .ref q_45, .ref q_47, .ref q_49, .ref q_51, .ref q_53, .ref q_55, .ref q_57, .int 0, .ref q_59, .ref q_61, .ref q_63, .int (-1), .int 0, .int 0, .int 0, .int 0, .ref q_65, .int 0, .ref q_68, .int 0, .int (-1), .int 0, .int 0, .ref q_70, .ref q_72])), (q_68, .inl (cA_69, 8192, .inl f_0))] s.heap.size = A at hD ⊢
  have hA : ∀ q : Nat, s.heap.size ≤ q → A q := fun q h => by rw [← hAe]; exact Or.inr h
  have hS : va_S A s.heap s.heap [] := va_S.rf
  have hP : va_P (dC, dI) vwP [(h0, .inr (16, [.ref q_1, .ref q_12, .ref q_17, .ref q_22, .ref q_24, .ref q_26, .ref q_28, .ref q_29, .ref q_31, .ref q_33, .ref q_35, .int 0, .ref q_37, .ref q_39, .ref q_41, .ref q_43, .ref q_45, .ref q_47, .ref q_49, .ref q_51, .ref q_53, .ref q_55, .ref q_57, .int 0, .ref q_59, .ref q_61, .ref q_63, .int (-1), .int 0, .int 0, .int 0, .int 0, .ref q_65, .int 0, .ref q_68, .int 0, .int (-1), .int 0, .int 0, .ref q_70, .ref q_72])), (q_68, .inl (cA_69, 8192, .inl f_0))] s.heap := hP
  have hl := lv_entry ([.ref h0, .int p0, .int 0]) (n := 4) (Nat.le_of_ble_eq_true rfl)
  rw [lg_entry_eq]
  generalize (lg_sl ([.ref h0, .int p0, .int 0]) ++ List.replicate (4 - (lg_sl ([.ref h0, .int p0, .int 0])).length) Slot.unset).toArray = ls at hl ⊢
  have hl : lv_has ls 4 [(0, .ref h0), (1, .int p0), (2, .int 0)] := hl
  obtain ⟨H, hH⟩ : ∃ H, H = s.heap := ⟨_, rfl⟩
  rw [← hH] at hP
  have hS : va_S A s.heap H [] := by rw [hH]; exact hS
  rw [← hH]
  refine lv_iconst (v := 0) hx hb dX19_word_0 (by decide) ?_
  refine lv_istore_n (lv' := [(3, .int 0), (0, .ref h0), (1, .int p0), (2, .int 0)]) hx hb dX19_word_1 rfl hl (by decide) rfl (fun ls hl => ?_)
  refine lv_iload_n hx hb dX19_word_2 rfl (lv_at hl 0 rfl) ?_
  refine lv_iconst (v := 4) hx hb dX19_word_3 (by decide) ?_
  refine lv_icmp_ge (tgt := 31) hx hb dX19_word_4 (by decide) (fun h9 => absurd h9 (by decide)) (fun _ => ?_)
  refine lv_aload_n hx hb dX19_word_7 rfl (lv_at hl 1 rfl) ?_
  refine va_get (D := (dC, dI)) (ci := 16) (v := .ref q_68) (C := RX19) (T := TX19) (N := 41) hx hb hts mem_X19_word0_0 hown hK hP 0 rfl rfl 34 (by decide) (ow (k := 0) rfl) (fun _ h9 => h9) rfl dX19_word_8 ?_
  refine lv_iload_n hx hb dX19_word_11 rfl (lv_at hl 3 rfl) ?_
  refine lv_iload_n hx hb dX19_word_12 rfl (lv_at hl 0 rfl) ?_
  refine lv_iadd hx hb dX19_word_13 ?_
  refine lv_topi (fun z ez => ?_)
  obtain rfl : z = 0 := by rw [ez]; decide
  refine lv_iload_n hx hb dX19_word_14 rfl (lv_at hl 2 rfl) ?_
  refine lv_bipush (v := 24) hx hb dX19_word_15 (by decide) ?_
  refine lv_bipush (v := 8) hx hb dX19_word_17 (by decide) ?_
  refine lv_iload_n hx hb dX19_word_19 rfl (lv_at hl 0 rfl) ?_
  refine lv_imul hx hb dX19_word_20 ?_
  refine lv_topi (fun z ez => ?_)
  obtain rfl : z = 0 := by rw [ez]; decide
  refine lv_isub hx hb dX19_word_21 ?_
  refine lv_topi (fun z ez => ?_)
  obtain rfl : z = 24 := by rw [ez]; decide
  refine lv_ishr hx hb dX19_word_22 ?_
  refine lv_i2b hx hb dX19_word_23 rfl ?_
  refine va_bast hx hb hK hP hD hS 1 0 rfl rfl (show vp_in 0 8192 by rw [vp_in_iff]; decide) dX19_word_24 (fun H locs hP hD hS => ?_)
  have hP : va_P (dC, dI) vwP [(h0, .inr (16, [.ref q_1, .ref q_12, .ref q_17, .ref q_22, .ref q_24, .ref q_26, .ref q_28, .ref q_29, .ref q_31, .ref q_33, .ref q_35, .int 0, .ref q_37, .ref q_39, .ref q_41, .ref q_43, .ref q_45, .ref q_47, .ref q_49, .ref q_51, .ref q_53, .ref q_55, .ref q_57, .int 0, .ref q_59, .ref q_61, .ref q_63, .int (-1), .int 0, .int 0, .int 0, .int 0, .ref q_65, .int 0, .ref q_68, .int 0, .int (-1), .int 0, .int 0, .ref q_70, .ref q_72])), (q_68, .inl (cA_69, 8192, .inl (upd f_0 (0 : Int32).toNatClampNeg (vp_nar .byte ((p0 >>> (24 &&& 31)).toInt8.toInt32)))))] H := hP
  have hD : va_D A [(h0, .inr (16, [.ref q_1, .ref q_12, .ref q_17, .ref q_22, .ref q_24, .ref q_26, .ref q_28, .ref q_29, .ref q_31, .ref q_33, .ref q_35, .int 0, .ref q_37, .ref q_39, .ref q_41, .ref q_43, .ref q_45, .ref q_47, .ref q_49, .ref q_51, .ref q_53, .ref q_55, .ref q_57, .int 0, .ref q_59, .ref q_61, .ref q_63, .int (-1), .int 0, .int 0, .int 0, .int 0, .ref q_65, .int 0, .ref q_68, .int 0, .int (-1), .int 0, .int 0, .ref q_70, .ref q_72])), (q_68, .inl (cA_69, 8192, .inl (upd f_0 (0 : Int32).toNatClampNeg (vp_nar .byte ((p0 >>> (24 &&& 31)).toInt8.toInt32)))))] := hD
  generalize (upd f_0 (0 : Int32).toNatClampNeg (vp_nar .byte ((p0 >>> (24 &&& 31)).toInt8.toInt32))) = f_2001 at hP hD
  refine lv_iinc (v := 1) (lv' := [(3, .int 1), (0, .ref h0), (1, .int p0), (2, .int 0)]) hx hb dX19_word_25 hl (k := 0) rfl (by decide) (by decide) rfl (fun ls hl => ?_)
  refine lv_goto (tgt := 2) hx hb dX19_word_28 (by decide) ?_
  refine lv_iload_n hx hb dX19_word_2 rfl (lv_at hl 0 rfl) ?_
  refine lv_iconst (v := 4) hx hb dX19_word_3 (by decide) ?_
  refine lv_icmp_ge (tgt := 31) hx hb dX19_word_4 (by decide) (fun h9 => absurd h9 (by decide)) (fun _ => ?_)
  refine lv_aload_n hx hb dX19_word_7 rfl (lv_at hl 1 rfl) ?_
  refine va_get (D := (dC, dI)) (ci := 16) (v := .ref q_68) (C := RX19) (T := TX19) (N := 41) hx hb hts mem_X19_word0_0 hown hK hP 0 rfl rfl 34 (by decide) (ow (k := 0) rfl) (fun _ h9 => h9) rfl dX19_word_8 ?_
  refine lv_iload_n hx hb dX19_word_11 rfl (lv_at hl 3 rfl) ?_
  refine lv_iload_n hx hb dX19_word_12 rfl (lv_at hl 0 rfl) ?_
  refine lv_iadd hx hb dX19_word_13 ?_
  refine lv_topi (fun z ez => ?_)
  obtain rfl : z = 1 := by rw [ez]; decide
  refine lv_iload_n hx hb dX19_word_14 rfl (lv_at hl 2 rfl) ?_
  refine lv_bipush (v := 24) hx hb dX19_word_15 (by decide) ?_
  refine lv_bipush (v := 8) hx hb dX19_word_17 (by decide) ?_
  refine lv_iload_n hx hb dX19_word_19 rfl (lv_at hl 0 rfl) ?_
  refine lv_imul hx hb dX19_word_20 ?_
  refine lv_topi (fun z ez => ?_)
  obtain rfl : z = 8 := by rw [ez]; decide
  refine lv_isub hx hb dX19_word_21 ?_
  refine lv_topi (fun z ez => ?_)
  obtain rfl : z = 16 := by rw [ez]; decide
  refine lv_ishr hx hb dX19_word_22 ?_
  refine lv_i2b hx hb dX19_word_23 rfl ?_
  refine va_bast hx hb hK hP hD hS 1 0 rfl rfl (show vp_in 1 8192 by rw [vp_in_iff]; decide) dX19_word_24 (fun H locs hP hD hS => ?_)
  have hP : va_P (dC, dI) vwP [(h0, .inr (16, [.ref q_1, .ref q_12, .ref q_17, .ref q_22, .ref q_24, .ref q_26, .ref q_28, .ref q_29, .ref q_31, .ref q_33, .ref q_35, .int 0, .ref q_37, .ref q_39, .ref q_41, .ref q_43, .ref q_45, .ref q_47, .ref q_49, .ref q_51, .ref q_53, .ref q_55, .ref q_57, .int 0, .ref q_59, .ref q_61, .ref q_63, .int (-1), .int 0, .int 0, .int 0, .int 0, .ref q_65, .int 0, .ref q_68, .int 0, .int (-1), .int 0, .int 0, .ref q_70, .ref q_72])), (q_68, .inl (cA_69, 8192, .inl (upd f_2001 (1 : Int32).toNatClampNeg (vp_nar .byte ((p0 >>> (16 &&& 31)).toInt8.toInt32)))))] H := hP
  have hD : va_D A [(h0, .inr (16, [.ref q_1, .ref q_12, .ref q_17, .ref q_22, .ref q_24, .ref q_26, .ref q_28, .ref q_29, .ref q_31, .ref q_33, .ref q_35, .int 0, .ref q_37, .ref q_39, .ref q_41, .ref q_43, .ref q_45, .ref q_47, .ref q_49, .ref q_51, .ref q_53, .ref q_55, .ref q_57, .int 0, .ref q_59, .ref q_61, .ref q_63, .int (-1), .int 0, .int 0, .int 0, .int 0, .ref q_65, .int 0, .ref q_68, .int 0, .int (-1), .int 0, .int 0, .ref q_70, .ref q_72])), (q_68, .inl (cA_69, 8192, .inl (upd f_2001 (1 : Int32).toNatClampNeg (vp_nar .byte ((p0 >>> (16 &&& 31)).toInt8.toInt32)))))] := hD
  generalize (upd f_2001 (1 : Int32).toNatClampNeg (vp_nar .byte ((p0 >>> (16 &&& 31)).toInt8.toInt32))) = f_2002 at hP hD
  refine lv_iinc (v := 2) (lv' := [(3, .int 2), (0, .ref h0), (1, .int p0), (2, .int 0)]) hx hb dX19_word_25 hl (k := 0) rfl (by decide) (by decide) rfl (fun ls hl => ?_)
  refine lv_goto (tgt := 2) hx hb dX19_word_28 (by decide) ?_
  refine lv_iload_n hx hb dX19_word_2 rfl (lv_at hl 0 rfl) ?_
  refine lv_iconst (v := 4) hx hb dX19_word_3 (by decide) ?_
  refine lv_icmp_ge (tgt := 31) hx hb dX19_word_4 (by decide) (fun h9 => absurd h9 (by decide)) (fun _ => ?_)
  refine lv_aload_n hx hb dX19_word_7 rfl (lv_at hl 1 rfl) ?_
  refine va_get (D := (dC, dI)) (ci := 16) (v := .ref q_68) (C := RX19) (T := TX19) (N := 41) hx hb hts mem_X19_word0_0 hown hK hP 0 rfl rfl 34 (by decide) (ow (k := 0) rfl) (fun _ h9 => h9) rfl dX19_word_8 ?_
  refine lv_iload_n hx hb dX19_word_11 rfl (lv_at hl 3 rfl) ?_
  refine lv_iload_n hx hb dX19_word_12 rfl (lv_at hl 0 rfl) ?_
  refine lv_iadd hx hb dX19_word_13 ?_
  refine lv_topi (fun z ez => ?_)
  obtain rfl : z = 2 := by rw [ez]; decide
  refine lv_iload_n hx hb dX19_word_14 rfl (lv_at hl 2 rfl) ?_
  refine lv_bipush (v := 24) hx hb dX19_word_15 (by decide) ?_
  refine lv_bipush (v := 8) hx hb dX19_word_17 (by decide) ?_
  refine lv_iload_n hx hb dX19_word_19 rfl (lv_at hl 0 rfl) ?_
  refine lv_imul hx hb dX19_word_20 ?_
  refine lv_topi (fun z ez => ?_)
  obtain rfl : z = 16 := by rw [ez]; decide
  refine lv_isub hx hb dX19_word_21 ?_
  refine lv_topi (fun z ez => ?_)
  obtain rfl : z = 8 := by rw [ez]; decide
  refine lv_ishr hx hb dX19_word_22 ?_
  refine lv_i2b hx hb dX19_word_23 rfl ?_
  refine va_bast hx hb hK hP hD hS 1 0 rfl rfl (show vp_in 2 8192 by rw [vp_in_iff]; decide) dX19_word_24 (fun H locs hP hD hS => ?_)
  have hP : va_P (dC, dI) vwP [(h0, .inr (16, [.ref q_1, .ref q_12, .ref q_17, .ref q_22, .ref q_24, .ref q_26, .ref q_28, .ref q_29, .ref q_31, .ref q_33, .ref q_35, .int 0, .ref q_37, .ref q_39, .ref q_41, .ref q_43, .ref q_45, .ref q_47, .ref q_49, .ref q_51, .ref q_53, .ref q_55, .ref q_57, .int 0, .ref q_59, .ref q_61, .ref q_63, .int (-1), .int 0, .int 0, .int 0, .int 0, .ref q_65, .int 0, .ref q_68, .int 0, .int (-1), .int 0, .int 0, .ref q_70, .ref q_72])), (q_68, .inl (cA_69, 8192, .inl (upd f_2002 (2 : Int32).toNatClampNeg (vp_nar .byte ((p0 >>> (8 &&& 31)).toInt8.toInt32)))))] H := hP
  have hD : va_D A [(h0, .inr (16, [.ref q_1, .ref q_12, .ref q_17, .ref q_22, .ref q_24, .ref q_26, .ref q_28, .ref q_29, .ref q_31, .ref q_33, .ref q_35, .int 0, .ref q_37, .ref q_39, .ref q_41, .ref q_43, .ref q_45, .ref q_47, .ref q_49, .ref q_51, .ref q_53, .ref q_55, .ref q_57, .int 0, .ref q_59, .ref q_61, .ref q_63, .int (-1), .int 0, .int 0, .int 0, .int 0, .ref q_65, .int 0, .ref q_68, .int 0, .int (-1), .int 0, .int 0, .ref q_70, .ref q_72])), (q_68, .inl (cA_69, 8192, .inl (upd f_2002 (2 : Int32).toNatClampNeg (vp_nar .byte ((p0 >>> (8 &&& 31)).toInt8.toInt32)))))] := hD
  generalize (upd f_2002 (2 : Int32).toNatClampNeg (vp_nar .byte ((p0 >>> (8 &&& 31)).toInt8.toInt32))) = f_2003 at hP hD
  refine lv_iinc (v := 3) (lv' := [(3, .int 3), (0, .ref h0), (1, .int p0), (2, .int 0)]) hx hb dX19_word_25 hl (k := 0) rfl (by decide) (by decide) rfl (fun ls hl => ?_)
  refine lv_goto (tgt := 2) hx hb dX19_word_28 (by decide) ?_
  refine lv_iload_n hx hb dX19_word_2 rfl (lv_at hl 0 rfl) ?_
  refine lv_iconst (v := 4) hx hb dX19_word_3 (by decide) ?_
  refine lv_icmp_ge (tgt := 31) hx hb dX19_word_4 (by decide) (fun h9 => absurd h9 (by decide)) (fun _ => ?_)
  refine lv_aload_n hx hb dX19_word_7 rfl (lv_at hl 1 rfl) ?_
  refine va_get (D := (dC, dI)) (ci := 16) (v := .ref q_68) (C := RX19) (T := TX19) (N := 41) hx hb hts mem_X19_word0_0 hown hK hP 0 rfl rfl 34 (by decide) (ow (k := 0) rfl) (fun _ h9 => h9) rfl dX19_word_8 ?_
  refine lv_iload_n hx hb dX19_word_11 rfl (lv_at hl 3 rfl) ?_
  refine lv_iload_n hx hb dX19_word_12 rfl (lv_at hl 0 rfl) ?_
  refine lv_iadd hx hb dX19_word_13 ?_
  refine lv_topi (fun z ez => ?_)
  obtain rfl : z = 3 := by rw [ez]; decide
  refine lv_iload_n hx hb dX19_word_14 rfl (lv_at hl 2 rfl) ?_
  refine lv_bipush (v := 24) hx hb dX19_word_15 (by decide) ?_
  refine lv_bipush (v := 8) hx hb dX19_word_17 (by decide) ?_
  refine lv_iload_n hx hb dX19_word_19 rfl (lv_at hl 0 rfl) ?_
  refine lv_imul hx hb dX19_word_20 ?_
  refine lv_topi (fun z ez => ?_)
  obtain rfl : z = 24 := by rw [ez]; decide
  refine lv_isub hx hb dX19_word_21 ?_
  refine lv_topi (fun z ez => ?_)
  obtain rfl : z = 0 := by rw [ez]; decide
  refine lv_ishr hx hb dX19_word_22 ?_
  refine lv_i2b hx hb dX19_word_23 rfl ?_
  refine va_bast hx hb hK hP hD hS 1 0 rfl rfl (show vp_in 3 8192 by rw [vp_in_iff]; decide) dX19_word_24 (fun H locs hP hD hS => ?_)
  have hP : va_P (dC, dI) vwP [(h0, .inr (16, [.ref q_1, .ref q_12, .ref q_17, .ref q_22, .ref q_24, .ref q_26, .ref q_28, .ref q_29, .ref q_31, .ref q_33, .ref q_35, .int 0, .ref q_37, .ref q_39, .ref q_41, .ref q_43, .ref q_45, .ref q_47, .ref q_49, .ref q_51, .ref q_53, .ref q_55, .ref q_57, .int 0, .ref q_59, .ref q_61, .ref q_63, .int (-1), .int 0, .int 0, .int 0, .int 0, .ref q_65, .int 0, .ref q_68, .int 0, .int (-1), .int 0, .int 0, .ref q_70, .ref q_72])), (q_68, .inl (cA_69, 8192, .inl (upd f_2003 (3 : Int32).toNatClampNeg (vp_nar .byte ((p0 >>> (0 &&& 31)).toInt8.toInt32)))))] H := hP
  have hD : va_D A [(h0, .inr (16, [.ref q_1, .ref q_12, .ref q_17, .ref q_22, .ref q_24, .ref q_26, .ref q_28, .ref q_29, .ref q_31, .ref q_33, .ref q_35, .int 0, .ref q_37, .ref q_39, .ref q_41, .ref q_43, .ref q_45, .ref q_47, .ref q_49, .ref q_51, .ref q_53, .ref q_55, .ref q_57, .int 0, .ref q_59, .ref q_61, .ref q_63, .int (-1), .int 0, .int 0, .int 0, .int 0, .ref q_65, .int 0, .ref q_68, .int 0, .int (-1), .int 0, .int 0, .ref q_70, .ref q_72])), (q_68, .inl (cA_69, 8192, .inl (upd f_2003 (3 : Int32).toNatClampNeg (vp_nar .byte ((p0 >>> (0 &&& 31)).toInt8.toInt32)))))] := hD
  generalize (upd f_2003 (3 : Int32).toNatClampNeg (vp_nar .byte ((p0 >>> (0 &&& 31)).toInt8.toInt32))) = f_2004 at hP hD
  refine lv_iinc (v := 4) (lv' := [(3, .int 4), (0, .ref h0), (1, .int p0), (2, .int 0)]) hx hb dX19_word_25 hl (k := 0) rfl (by decide) (by decide) rfl (fun ls hl => ?_)
  refine lv_goto (tgt := 2) hx hb dX19_word_28 (by decide) ?_
  refine lv_iload_n hx hb dX19_word_2 rfl (lv_at hl 0 rfl) ?_
  refine lv_iconst (v := 4) hx hb dX19_word_3 (by decide) ?_
  refine lv_icmp_ge (tgt := 31) hx hb dX19_word_4 (by decide) (fun _ => ?_) (fun h9 => absurd h9 (by decide))
  refine W.widen (k := 0) (n := 0) (Nat.le_of_ble_eq_true rfl) (Nat.le_of_ble_eq_true rfl) ?_
  exact W.vret hx hb hr (fun t ht hW => ⟨⟨(), rfl, trivial, f_2004, by rw [ht]; exact hP, va_K.moved hW.alike hK, hD⟩, hS.F ht⟩) hS.2.2 dX19_word_31
def o_X19_word4 : List Cond := [.fieldLink RX19 551 "SsaForgeModel" "tape" "[B"]
def v_X19_word4 : List Cond := .code yX19_word cX19_word 4 none :: (o_X19_word4 ++ (wsX190 ++ []))
theorem mow_X19_word4 : ∀ w ∈ o_X19_word4, w ∈ v_X19_word4 := fun _ h => List.mem_cons_of_mem _ (List.mem_append_left _ h)
theorem mem_X19_word4_0 : ∀ w ∈ wsX190, w ∈ v_X19_word4 := fun _ h => List.mem_cons_of_mem _ (List.mem_append_right _ (List.mem_append_left _ h))
set_option maxRecDepth 20000 in
theorem gw_X19_word4 : v_X19_word4.all goodWord = true := by decide +kernel
set_option maxHeartbeats 4000000 in
set_option maxRecDepth 100000 in
theorem c_X19_word4 (l : Launch) (dC : Nat → ClassId) (dI : Nat → Nat → Nat) (h0 : Nat) (q_1 : Nat) (q_12 : Nat) (q_17 : Nat) (q_22 : Nat) (q_24 : Nat) (q_26 : Nat) (q_28 : Nat) (q_29 : Nat) (q_31 : Nat) (q_33 : Nat) (q_35 : Nat) (q_37 : Nat) (q_39 : Nat) (q_41 : Nat) (q_43 : Nat) (q_45 : Nat) (q_47 : Nat) (q_49 : Nat) (q_51 : Nat) (q_53 : Nat) (q_55 : Nat) (q_57 : Nat) (q_59 : Nat) (q_61 : Nat) (q_63 : Nat) (q_65 : Nat) (q_68 : Nat) (q_70 : Nat) (q_72 : Nat) (cA_69 : ClassId) (f_0 : Nat → Int32) (p0 : Int32) (sz : Nat) : Met l yX19_word v_X19_word4 ({ frames := 0, cells := 0, slots := 0, locals := 0 }) (va_Pc [.ref h0, .int p0, .int 4] (fun U => U.heap.size = sz ∧ va_P (dC, dI) vwP [(h0, .inr (16, [.ref q_1, .ref q_12, .ref q_17, .ref q_22, .ref q_24, .ref q_26, .ref q_28, .ref q_29, .ref q_31, .ref q_33, .ref q_35, .int 0, .ref q_37, .ref q_39, .ref q_41, .ref q_43, .ref q_45, .ref q_47, .ref q_49, .ref q_51, .ref q_53, .ref q_55, .ref q_57, .int 0, .ref q_59, .ref q_61, .ref q_63, .int (-1), .int 0, .int 0, .int 0, .int 0, .ref q_65, .int 0, .ref q_68, .int 0, .int (-1), .int 0, .int 0, .ref q_70, .ref q_72])), (q_68, .inl (cA_69, 8192, .inl f_0))] U.heap ∧ va_K (dC, dI) vwP [(cA_69, .byte)] U ∧ va_D (fun _ => True) [(h0, .inr (16, [.ref q_1, .ref q_12, .ref q_17, .ref q_22, .ref q_24, .ref q_26, .ref q_28, .ref q_29, .ref q_31, .ref q_33, .ref q_35, .int 0, .ref q_37, .ref q_39, .ref q_41, .ref q_43, .ref q_45, .ref q_47, .ref q_49, .ref q_51, .ref q_53, .ref q_55, .ref q_57, .int 0, .ref q_59, .ref q_61, .ref q_63, .int (-1), .int 0, .int 0, .int 0, .int 0, .ref q_65, .int 0, .ref q_68, .int 0, .int (-1), .int 0, .int 0, .ref q_70, .ref q_72])), (q_68, .inl (cA_69, 8192, .inl f_0))])) (va_Qv (fun _ : Unit => True) (fun (_ : Unit) (t : State) => ∃ (g0_9 : Nat → Int32), va_P (dC, dI) vwP [(h0, .inr (16, [.ref q_1, .ref q_12, .ref q_17, .ref q_22, .ref q_24, .ref q_26, .ref q_28, .ref q_29, .ref q_31, .ref q_33, .ref q_35, .int 0, .ref q_37, .ref q_39, .ref q_41, .ref q_43, .ref q_45, .ref q_47, .ref q_49, .ref q_51, .ref q_53, .ref q_55, .ref q_57, .int 0, .ref q_59, .ref q_61, .ref q_63, .int (-1), .int 0, .int 0, .int 0, .int 0, .ref q_65, .int 0, .ref q_68, .int 0, .int (-1), .int 0, .int 0, .ref q_70, .ref q_72])), (q_68, .inl (cA_69, 8192, .inl g0_9))] t.heap ∧ va_K (dC, dI) vwP [(cA_69, .byte)] t ∧ va_D (va_A [(h0, .inr (16, [.ref q_1, .ref q_12, .ref q_17, .ref q_22, .ref q_24, .ref q_26, .ref q_28, .ref q_29, .ref q_31, .ref q_33, .ref q_35, .int 0, .ref q_37, .ref q_39, .ref q_41, .ref q_43, .ref q_45, .ref q_47, .ref q_49, .ref q_51, .ref q_53, .ref q_55, .ref q_57, .int 0, .ref q_59, .ref q_61, .ref q_63, .int (-1), .int 0, .int 0, .int 0, .int 0, .ref q_65, .int 0, .ref q_68, .int 0, .int (-1), .int 0, .int 0, .ref q_70, .ref q_72])), (q_68, .inl (cA_69, 8192, .inl f_0))] sz) [(h0, .inr (16, [.ref q_1, .ref q_12, .ref q_17, .ref q_22, .ref q_24, .ref q_26, .ref q_28, .ref q_29, .ref q_31, .ref q_33, .ref q_35, .int 0, .ref q_37, .ref q_39, .ref q_41, .ref q_43, .ref q_45, .ref q_47, .ref q_49, .ref q_51, .ref q_53, .ref q_55, .ref q_57, .int 0, .ref q_59, .ref q_61, .ref q_63, .int (-1), .int 0, .int 0, .int 0, .int 0, .ref q_65, .int 0, .ref q_68, .int 0, .int (-1), .int 0, .int 0, .ref q_70, .ref q_72])), (q_68, .inl (cA_69, 8192, .inl g0_9))]) (va_A [(h0, .inr (16, [.ref q_1, .ref q_12, .ref q_17, .ref q_22, .ref q_24, .ref q_26, .ref q_28, .ref q_29, .ref q_31, .ref q_33, .ref q_35, .int 0, .ref q_37, .ref q_39, .ref q_41, .ref q_43, .ref q_45, .ref q_47, .ref q_49, .ref q_51, .ref q_53, .ref q_55, .ref q_57, .int 0, .ref q_59, .ref q_61, .ref q_63, .int (-1), .int 0, .int 0, .int 0, .int 0, .ref q_65, .int 0, .ref q_68, .int 0, .int (-1), .int 0, .int 0, .ref q_70, .ref q_72])), (q_68, .inl (cA_69, 8192, .inl f_0))] sz)) 0 0 (va_A [(h0, .inr (16, [.ref q_1, .ref q_12, .ref q_17, .ref q_22, .ref q_24, .ref q_26, .ref q_28, .ref q_29, .ref q_31, .ref q_33, .ref q_35, .int 0, .ref q_37, .ref q_39, .ref q_41, .ref q_43, .ref q_45, .ref q_47, .ref q_49, .ref q_51, .ref q_53, .ref q_55, .ref q_57, .int 0, .ref q_59, .ref q_61, .ref q_63, .int (-1), .int 0, .int 0, .int 0, .int 0, .ref q_65, .int 0, .ref q_68, .int 0, .int (-1), .int 0, .int 0, .ref q_70, .ref q_72])), (q_68, .inl (cA_69, 8192, .inl f_0))] sz) := by
  refine Met.ofW (cc := cX19_word) (maxL := 4) (ret := none) (by decide) rfl ?_
  intro p e s m args below meth c s₁ B hml hv
  obtain ⟨rfl, hsz, hP, hK, hD0⟩ := hv
  have hx := B.exec
  have hb := B.bytes
  have hr := B.returns
  have hts := atoms_spec (ws := v_X19_word4) B.pre
  have hown : s.vm.findClass RX19 = some m.cls := findClass_of_methodNamed B.named
  have hlocks := B.notSynchronized
  have ow : ∀ {k : Nat} {w : Cond}, o_X19_word4[k]? = some w → w.before ([.ref h0, .int p0, .int 4] : List Value).toArray s = true := fun h => hts _ (mow_X19_word4 _ (List.mem_of_getElem? h))
  subst hsz
  have hD := hD0.self (sz := s.heap.size)
  generalize hAe : va_A [(h0, .inr (16, [.ref q_1, .ref q_12, .ref q_17, .ref q_22, .ref q_24, .ref q_26, .ref q_28, .ref q_29, .ref q_31, .ref q_33, .ref q_35, .int 0, .ref q_37, .ref q_39, .ref q_41, .ref q_43, .ref q_45, .ref q_47, .ref q_49, .ref q_51, .ref q_53, .ref q_55, .ref q_57, .int 0, .ref q_59, .ref q_61, .ref q_63, .int (-1), .int 0, .int 0, .int 0, .int 0, .ref q_65, .int 0, .ref q_68, .int 0, .int (-1), .int 0, .int 0, .ref q_70, .ref q_72])), (q_68, .inl (cA_69, 8192, .inl f_0))] s.heap.size = A at hD ⊢
  have hA : ∀ q : Nat, s.heap.size ≤ q → A q := fun q h => by rw [← hAe]; exact Or.inr h
  have hS : va_S A s.heap s.heap [] := va_S.rf
  have hP : va_P (dC, dI) vwP [(h0, .inr (16, [.ref q_1, .ref q_12, .ref q_17, .ref q_22, .ref q_24, .ref q_26, .ref q_28, .ref q_29, .ref q_31, .ref q_33, .ref q_35, .int 0, .ref q_37, .ref q_39, .ref q_41, .ref q_43, .ref q_45, .ref q_47, .ref q_49, .ref q_51, .ref q_53, .ref q_55, .ref q_57, .int 0, .ref q_59, .ref q_61, .ref q_63, .int (-1), .int 0, .int 0, .int 0, .int 0, .ref q_65, .int 0, .ref q_68, .int 0, .int (-1), .int 0, .int 0, .ref q_70, .ref q_72])), (q_68, .inl (cA_69, 8192, .inl f_0))] s.heap := hP
  have hl := lv_entry ([.ref h0, .int p0, .int 4]) (n := 4) (Nat.le_of_ble_eq_true rfl)
  rw [lg_entry_eq]
  generalize (lg_sl ([.ref h0, .int p0, .int 4]) ++ List.replicate (4 - (lg_sl ([.ref h0, .int p0, .int 4])).length) Slot.unset).toArray = ls at hl ⊢
  have hl : lv_has ls 4 [(0, .ref h0), (1, .int p0), (2, .int 4)] := hl
  obtain ⟨H, hH⟩ : ∃ H, H = s.heap := ⟨_, rfl⟩
  rw [← hH] at hP
  have hS : va_S A s.heap H [] := by rw [hH]; exact hS
  rw [← hH]
  refine lv_iconst (v := 0) hx hb dX19_word_0 (by decide) ?_
  refine lv_istore_n (lv' := [(3, .int 0), (0, .ref h0), (1, .int p0), (2, .int 4)]) hx hb dX19_word_1 rfl hl (by decide) rfl (fun ls hl => ?_)
  refine lv_iload_n hx hb dX19_word_2 rfl (lv_at hl 0 rfl) ?_
  refine lv_iconst (v := 4) hx hb dX19_word_3 (by decide) ?_
  refine lv_icmp_ge (tgt := 31) hx hb dX19_word_4 (by decide) (fun h9 => absurd h9 (by decide)) (fun _ => ?_)
  refine lv_aload_n hx hb dX19_word_7 rfl (lv_at hl 1 rfl) ?_
  refine va_get (D := (dC, dI)) (ci := 16) (v := .ref q_68) (C := RX19) (T := TX19) (N := 41) hx hb hts mem_X19_word4_0 hown hK hP 0 rfl rfl 34 (by decide) (ow (k := 0) rfl) (fun _ h9 => h9) rfl dX19_word_8 ?_
  refine lv_iload_n hx hb dX19_word_11 rfl (lv_at hl 3 rfl) ?_
  refine lv_iload_n hx hb dX19_word_12 rfl (lv_at hl 0 rfl) ?_
  refine lv_iadd hx hb dX19_word_13 ?_
  refine lv_topi (fun z ez => ?_)
  obtain rfl : z = 4 := by rw [ez]; decide
  refine lv_iload_n hx hb dX19_word_14 rfl (lv_at hl 2 rfl) ?_
  refine lv_bipush (v := 24) hx hb dX19_word_15 (by decide) ?_
  refine lv_bipush (v := 8) hx hb dX19_word_17 (by decide) ?_
  refine lv_iload_n hx hb dX19_word_19 rfl (lv_at hl 0 rfl) ?_
  refine lv_imul hx hb dX19_word_20 ?_
  refine lv_topi (fun z ez => ?_)
  obtain rfl : z = 0 := by rw [ez]; decide
  refine lv_isub hx hb dX19_word_21 ?_
  refine lv_topi (fun z ez => ?_)
  obtain rfl : z = 24 := by rw [ez]; decide
  refine lv_ishr hx hb dX19_word_22 ?_
  refine lv_i2b hx hb dX19_word_23 rfl ?_
  refine va_bast hx hb hK hP hD hS 1 0 rfl rfl (show vp_in 4 8192 by rw [vp_in_iff]; decide) dX19_word_24 (fun H locs hP hD hS => ?_)
  have hP : va_P (dC, dI) vwP [(h0, .inr (16, [.ref q_1, .ref q_12, .ref q_17, .ref q_22, .ref q_24, .ref q_26, .ref q_28, .ref q_29, .ref q_31, .ref q_33, .ref q_35, .int 0, .ref q_37, .ref q_39, .ref q_41, .ref q_43, .ref q_45, .ref q_47, .ref q_49, .ref q_51, .ref q_53, .ref q_55, .ref q_57, .int 0, .ref q_59, .ref q_61, .ref q_63, .int (-1), .int 0, .int 0, .int 0, .int 0, .ref q_65, .int 0, .ref q_68, .int 0, .int (-1), .int 0, .int 0, .ref q_70, .ref q_72])), (q_68, .inl (cA_69, 8192, .inl (upd f_0 (4 : Int32).toNatClampNeg (vp_nar .byte ((p0 >>> (24 &&& 31)).toInt8.toInt32)))))] H := hP
  have hD : va_D A [(h0, .inr (16, [.ref q_1, .ref q_12, .ref q_17, .ref q_22, .ref q_24, .ref q_26, .ref q_28, .ref q_29, .ref q_31, .ref q_33, .ref q_35, .int 0, .ref q_37, .ref q_39, .ref q_41, .ref q_43, .ref q_45, .ref q_47, .ref q_49, .ref q_51, .ref q_53, .ref q_55, .ref q_57, .int 0, .ref q_59, .ref q_61, .ref q_63, .int (-1), .int 0, .int 0, .int 0, .int 0, .ref q_65, .int 0, .ref q_68, .int 0, .int (-1), .int 0, .int 0, .ref q_70, .ref q_72])), (q_68, .inl (cA_69, 8192, .inl (upd f_0 (4 : Int32).toNatClampNeg (vp_nar .byte ((p0 >>> (24 &&& 31)).toInt8.toInt32)))))] := hD
  generalize (upd f_0 (4 : Int32).toNatClampNeg (vp_nar .byte ((p0 >>> (24 &&& 31)).toInt8.toInt32))) = f_2001 at hP hD
  refine lv_iinc (v := 1) (lv' := [(3, .int 1), (0, .ref h0), (1, .int p0), (2, .int 4)]) hx hb dX19_word_25 hl (k := 0) rfl (by decide) (by decide) rfl (fun ls hl => ?_)
  refine lv_goto (tgt := 2) hx hb dX19_word_28 (by decide) ?_
  refine lv_iload_n hx hb dX19_word_2 rfl (lv_at hl 0 rfl) ?_
  refine lv_iconst (v := 4) hx hb dX19_word_3 (by decide) ?_
  refine lv_icmp_ge (tgt := 31) hx hb dX19_word_4 (by decide) (fun h9 => absurd h9 (by decide)) (fun _ => ?_)
  refine lv_aload_n hx hb dX19_word_7 rfl (lv_at hl 1 rfl) ?_
  refine va_get (D := (dC, dI)) (ci := 16) (v := .ref q_68) (C := RX19) (T := TX19) (N := 41) hx hb hts mem_X19_word4_0 hown hK hP 0 rfl rfl 34 (by decide) (ow (k := 0) rfl) (fun _ h9 => h9) rfl dX19_word_8 ?_
  refine lv_iload_n hx hb dX19_word_11 rfl (lv_at hl 3 rfl) ?_
  refine lv_iload_n hx hb dX19_word_12 rfl (lv_at hl 0 rfl) ?_
  refine lv_iadd hx hb dX19_word_13 ?_
  refine lv_topi (fun z ez => ?_)
  obtain rfl : z = 5 := by rw [ez]; decide
  refine lv_iload_n hx hb dX19_word_14 rfl (lv_at hl 2 rfl) ?_
  refine lv_bipush (v := 24) hx hb dX19_word_15 (by decide) ?_
  refine lv_bipush (v := 8) hx hb dX19_word_17 (by decide) ?_
  refine lv_iload_n hx hb dX19_word_19 rfl (lv_at hl 0 rfl) ?_
  refine lv_imul hx hb dX19_word_20 ?_
  refine lv_topi (fun z ez => ?_)
  obtain rfl : z = 8 := by rw [ez]; decide
  refine lv_isub hx hb dX19_word_21 ?_
  refine lv_topi (fun z ez => ?_)
  obtain rfl : z = 16 := by rw [ez]; decide
  refine lv_ishr hx hb dX19_word_22 ?_
  refine lv_i2b hx hb dX19_word_23 rfl ?_
  refine va_bast hx hb hK hP hD hS 1 0 rfl rfl (show vp_in 5 8192 by rw [vp_in_iff]; decide) dX19_word_24 (fun H locs hP hD hS => ?_)
  have hP : va_P (dC, dI) vwP [(h0, .inr (16, [.ref q_1, .ref q_12, .ref q_17, .ref q_22, .ref q_24, .ref q_26, .ref q_28, .ref q_29, .ref q_31, .ref q_33, .ref q_35, .int 0, .ref q_37, .ref q_39, .ref q_41, .ref q_43, .ref q_45, .ref q_47, .ref q_49, .ref q_51, .ref q_53, .ref q_55, .ref q_57, .int 0, .ref q_59, .ref q_61, .ref q_63, .int (-1), .int 0, .int 0, .int 0, .int 0, .ref q_65, .int 0, .ref q_68, .int 0, .int (-1), .int 0, .int 0, .ref q_70, .ref q_72])), (q_68, .inl (cA_69, 8192, .inl (upd f_2001 (5 : Int32).toNatClampNeg (vp_nar .byte ((p0 >>> (16 &&& 31)).toInt8.toInt32)))))] H := hP
  have hD : va_D A [(h0, .inr (16, [.ref q_1, .ref q_12, .ref q_17, .ref q_22, .ref q_24, .ref q_26, .ref q_28, .ref q_29, .ref q_31, .ref q_33, .ref q_35, .int 0, .ref q_37, .ref q_39, .ref q_41, .ref q_43, .ref q_45, .ref q_47, .ref q_49, .ref q_51, .ref q_53, .ref q_55, .ref q_57, .int 0, .ref q_59, .ref q_61, .ref q_63, .int (-1), .int 0, .int 0, .int 0, .int 0, .ref q_65, .int 0, .ref q_68, .int 0, .int (-1), .int 0, .int 0, .ref q_70, .ref q_72])), (q_68, .inl (cA_69, 8192, .inl (upd f_2001 (5 : Int32).toNatClampNeg (vp_nar .byte ((p0 >>> (16 &&& 31)).toInt8.toInt32)))))] := hD
  generalize (upd f_2001 (5 : Int32).toNatClampNeg (vp_nar .byte ((p0 >>> (16 &&& 31)).toInt8.toInt32))) = f_2002 at hP hD
  refine lv_iinc (v := 2) (lv' := [(3, .int 2), (0, .ref h0), (1, .int p0), (2, .int 4)]) hx hb dX19_word_25 hl (k := 0) rfl (by decide) (by decide) rfl (fun ls hl => ?_)
  refine lv_goto (tgt := 2) hx hb dX19_word_28 (by decide) ?_
  refine lv_iload_n hx hb dX19_word_2 rfl (lv_at hl 0 rfl) ?_
  refine lv_iconst (v := 4) hx hb dX19_word_3 (by decide) ?_
  refine lv_icmp_ge (tgt := 31) hx hb dX19_word_4 (by decide) (fun h9 => absurd h9 (by decide)) (fun _ => ?_)
  refine lv_aload_n hx hb dX19_word_7 rfl (lv_at hl 1 rfl) ?_
  refine va_get (D := (dC, dI)) (ci := 16) (v := .ref q_68) (C := RX19) (T := TX19) (N := 41) hx hb hts mem_X19_word4_0 hown hK hP 0 rfl rfl 34 (by decide) (ow (k := 0) rfl) (fun _ h9 => h9) rfl dX19_word_8 ?_
  refine lv_iload_n hx hb dX19_word_11 rfl (lv_at hl 3 rfl) ?_
  refine lv_iload_n hx hb dX19_word_12 rfl (lv_at hl 0 rfl) ?_
  refine lv_iadd hx hb dX19_word_13 ?_
  refine lv_topi (fun z ez => ?_)
  obtain rfl : z = 6 := by rw [ez]; decide
  refine lv_iload_n hx hb dX19_word_14 rfl (lv_at hl 2 rfl) ?_
  refine lv_bipush (v := 24) hx hb dX19_word_15 (by decide) ?_
  refine lv_bipush (v := 8) hx hb dX19_word_17 (by decide) ?_
  refine lv_iload_n hx hb dX19_word_19 rfl (lv_at hl 0 rfl) ?_
  refine lv_imul hx hb dX19_word_20 ?_
  refine lv_topi (fun z ez => ?_)
  obtain rfl : z = 16 := by rw [ez]; decide
  refine lv_isub hx hb dX19_word_21 ?_
  refine lv_topi (fun z ez => ?_)
  obtain rfl : z = 8 := by rw [ez]; decide
  refine lv_ishr hx hb dX19_word_22 ?_
  refine lv_i2b hx hb dX19_word_23 rfl ?_
  refine va_bast hx hb hK hP hD hS 1 0 rfl rfl (show vp_in 6 8192 by rw [vp_in_iff]; decide) dX19_word_24 (fun H locs hP hD hS => ?_)
  have hP : va_P (dC, dI) vwP [(h0, .inr (16, [.ref q_1, .ref q_12, .ref q_17, .ref q_22, .ref q_24, .ref q_26, .ref q_28, .ref q_29, .ref q_31, .ref q_33, .ref q_35, .int 0, .ref q_37, .ref q_39, .ref q_41, .ref q_43, .ref q_45, .ref q_47, .ref q_49, .ref q_51, .ref q_53, .ref q_55, .ref q_57, .int 0, .ref q_59, .ref q_61, .ref q_63, .int (-1), .int 0, .int 0, .int 0, .int 0, .ref q_65, .int 0, .ref q_68, .int 0, .int (-1), .int 0, .int 0, .ref q_70, .ref q_72])), (q_68, .inl (cA_69, 8192, .inl (upd f_2002 (6 : Int32).toNatClampNeg (vp_nar .byte ((p0 >>> (8 &&& 31)).toInt8.toInt32)))))] H := hP
  have hD : va_D A [(h0, .inr (16, [.ref q_1, .ref q_12, .ref q_17, .ref q_22, .ref q_24, .ref q_26, .ref q_28, .ref q_29, .ref q_31, .ref q_33, .ref q_35, .int 0, .ref q_37, .ref q_39, .ref q_41, .ref q_43, .ref q_45, .ref q_47, .ref q_49, .ref q_51, .ref q_53, .ref q_55, .ref q_57, .int 0, .ref q_59, .ref q_61, .ref q_63, .int (-1), .int 0, .int 0, .int 0, .int 0, .ref q_65, .int 0, .ref q_68, .int 0, .int (-1), .int 0, .int 0, .ref q_70, .ref q_72])), (q_68, .inl (cA_69, 8192, .inl (upd f_2002 (6 : Int32).toNatClampNeg (vp_nar .byte ((p0 >>> (8 &&& 31)).toInt8.toInt32)))))] := hD
  generalize (upd f_2002 (6 : Int32).toNatClampNeg (vp_nar .byte ((p0 >>> (8 &&& 31)).toInt8.toInt32))) = f_2003 at hP hD
  refine lv_iinc (v := 3) (lv' := [(3, .int 3), (0, .ref h0), (1, .int p0), (2, .int 4)]) hx hb dX19_word_25 hl (k := 0) rfl (by decide) (by decide) rfl (fun ls hl => ?_)
  refine lv_goto (tgt := 2) hx hb dX19_word_28 (by decide) ?_
  refine lv_iload_n hx hb dX19_word_2 rfl (lv_at hl 0 rfl) ?_
  refine lv_iconst (v := 4) hx hb dX19_word_3 (by decide) ?_
  refine lv_icmp_ge (tgt := 31) hx hb dX19_word_4 (by decide) (fun h9 => absurd h9 (by decide)) (fun _ => ?_)
  refine lv_aload_n hx hb dX19_word_7 rfl (lv_at hl 1 rfl) ?_
  refine va_get (D := (dC, dI)) (ci := 16) (v := .ref q_68) (C := RX19) (T := TX19) (N := 41) hx hb hts mem_X19_word4_0 hown hK hP 0 rfl rfl 34 (by decide) (ow (k := 0) rfl) (fun _ h9 => h9) rfl dX19_word_8 ?_
  refine lv_iload_n hx hb dX19_word_11 rfl (lv_at hl 3 rfl) ?_
  refine lv_iload_n hx hb dX19_word_12 rfl (lv_at hl 0 rfl) ?_
  refine lv_iadd hx hb dX19_word_13 ?_
  refine lv_topi (fun z ez => ?_)
  obtain rfl : z = 7 := by rw [ez]; decide
  refine lv_iload_n hx hb dX19_word_14 rfl (lv_at hl 2 rfl) ?_
  refine lv_bipush (v := 24) hx hb dX19_word_15 (by decide) ?_
  refine lv_bipush (v := 8) hx hb dX19_word_17 (by decide) ?_
  refine lv_iload_n hx hb dX19_word_19 rfl (lv_at hl 0 rfl) ?_
  refine lv_imul hx hb dX19_word_20 ?_
  refine lv_topi (fun z ez => ?_)
  obtain rfl : z = 24 := by rw [ez]; decide
  refine lv_isub hx hb dX19_word_21 ?_
  refine lv_topi (fun z ez => ?_)
  obtain rfl : z = 0 := by rw [ez]; decide
  refine lv_ishr hx hb dX19_word_22 ?_
  refine lv_i2b hx hb dX19_word_23 rfl ?_
  refine va_bast hx hb hK hP hD hS 1 0 rfl rfl (show vp_in 7 8192 by rw [vp_in_iff]; decide) dX19_word_24 (fun H locs hP hD hS => ?_)
  have hP : va_P (dC, dI) vwP [(h0, .inr (16, [.ref q_1, .ref q_12, .ref q_17, .ref q_22, .ref q_24, .ref q_26, .ref q_28, .ref q_29, .ref q_31, .ref q_33, .ref q_35, .int 0, .ref q_37, .ref q_39, .ref q_41, .ref q_43, .ref q_45, .ref q_47, .ref q_49, .ref q_51, .ref q_53, .ref q_55, .ref q_57, .int 0, .ref q_59, .ref q_61, .ref q_63, .int (-1), .int 0, .int 0, .int 0, .int 0, .ref q_65, .int 0, .ref q_68, .int 0, .int (-1), .int 0, .int 0, .ref q_70, .ref q_72])), (q_68, .inl (cA_69, 8192, .inl (upd f_2003 (7 : Int32).toNatClampNeg (vp_nar .byte ((p0 >>> (0 &&& 31)).toInt8.toInt32)))))] H := hP
  have hD : va_D A [(h0, .inr (16, [.ref q_1, .ref q_12, .ref q_17, .ref q_22, .ref q_24, .ref q_26, .ref q_28, .ref q_29, .ref q_31, .ref q_33, .ref q_35, .int 0, .ref q_37, .ref q_39, .ref q_41, .ref q_43, .ref q_45, .ref q_47, .ref q_49, .ref q_51, .ref q_53, .ref q_55, .ref q_57, .int 0, .ref q_59, .ref q_61, .ref q_63, .int (-1), .int 0, .int 0, .int 0, .int 0, .ref q_65, .int 0, .ref q_68, .int 0, .int (-1), .int 0, .int 0, .ref q_70, .ref q_72])), (q_68, .inl (cA_69, 8192, .inl (upd f_2003 (7 : Int32).toNatClampNeg (vp_nar .byte ((p0 >>> (0 &&& 31)).toInt8.toInt32)))))] := hD
  generalize (upd f_2003 (7 : Int32).toNatClampNeg (vp_nar .byte ((p0 >>> (0 &&& 31)).toInt8.toInt32))) = f_2004 at hP hD
  refine lv_iinc (v := 4) (lv' := [(3, .int 4), (0, .ref h0), (1, .int p0), (2, .int 4)]) hx hb dX19_word_25 hl (k := 0) rfl (by decide) (by decide) rfl (fun ls hl => ?_)
  refine lv_goto (tgt := 2) hx hb dX19_word_28 (by decide) ?_
  refine lv_iload_n hx hb dX19_word_2 rfl (lv_at hl 0 rfl) ?_
  refine lv_iconst (v := 4) hx hb dX19_word_3 (by decide) ?_
  refine lv_icmp_ge (tgt := 31) hx hb dX19_word_4 (by decide) (fun _ => ?_) (fun h9 => absurd h9 (by decide))
  refine W.widen (k := 0) (n := 0) (Nat.le_of_ble_eq_true rfl) (Nat.le_of_ble_eq_true rfl) ?_
  exact W.vret hx hb hr (fun t ht hW => ⟨⟨(), rfl, trivial, f_2004, by rw [ht]; exact hP, va_K.moved hW.alike hK, hD⟩, hS.F ht⟩) hS.2.2 dX19_word_31
def o_X19_word8 : List Cond := [.fieldLink RX19 551 "SsaForgeModel" "tape" "[B"]
def v_X19_word8 : List Cond := .code yX19_word cX19_word 4 none :: (o_X19_word8 ++ (wsX190 ++ []))
theorem mow_X19_word8 : ∀ w ∈ o_X19_word8, w ∈ v_X19_word8 := fun _ h => List.mem_cons_of_mem _ (List.mem_append_left _ h)
theorem mem_X19_word8_0 : ∀ w ∈ wsX190, w ∈ v_X19_word8 := fun _ h => List.mem_cons_of_mem _ (List.mem_append_right _ (List.mem_append_left _ h))
set_option maxRecDepth 20000 in
theorem gw_X19_word8 : v_X19_word8.all goodWord = true := by decide +kernel
set_option maxHeartbeats 4000000 in
set_option maxRecDepth 100000 in
theorem c_X19_word8 (l : Launch) (dC : Nat → ClassId) (dI : Nat → Nat → Nat) (h0 : Nat) (q_1 : Nat) (q_12 : Nat) (q_17 : Nat) (q_22 : Nat) (q_24 : Nat) (q_26 : Nat) (q_28 : Nat) (q_29 : Nat) (q_31 : Nat) (q_33 : Nat) (q_35 : Nat) (q_37 : Nat) (q_39 : Nat) (q_41 : Nat) (q_43 : Nat) (q_45 : Nat) (q_47 : Nat) (q_49 : Nat) (q_51 : Nat) (q_53 : Nat) (q_55 : Nat) (q_57 : Nat) (q_59 : Nat) (q_61 : Nat) (q_63 : Nat) (q_65 : Nat) (q_68 : Nat) (q_70 : Nat) (q_72 : Nat) (cA_69 : ClassId) (f_0 : Nat → Int32) (p0 : Int32) (sz : Nat) : Met l yX19_word v_X19_word8 ({ frames := 0, cells := 0, slots := 0, locals := 0 }) (va_Pc [.ref h0, .int p0, .int 8] (fun U => U.heap.size = sz ∧ va_P (dC, dI) vwP [(h0, .inr (16, [.ref q_1, .ref q_12, .ref q_17, .ref q_22, .ref q_24, .ref q_26, .ref q_28, .ref q_29, .ref q_31, .ref q_33, .ref q_35, .int 0, .ref q_37, .ref q_39, .ref q_41, .ref q_43, .ref q_45, .ref q_47, .ref q_49, .ref q_51, .ref q_53, .ref q_55, .ref q_57, .int 0, .ref q_59, .ref q_61, .ref q_63, .int (-1), .int 0, .int 0, .int 0, .int 0, .ref q_65, .int 0, .ref q_68, .int 0, .int (-1), .int 0, .int 0, .ref q_70, .ref q_72])), (q_68, .inl (cA_69, 8192, .inl f_0))] U.heap ∧ va_K (dC, dI) vwP [(cA_69, .byte)] U ∧ va_D (fun _ => True) [(h0, .inr (16, [.ref q_1, .ref q_12, .ref q_17, .ref q_22, .ref q_24, .ref q_26, .ref q_28, .ref q_29, .ref q_31, .ref q_33, .ref q_35, .int 0, .ref q_37, .ref q_39, .ref q_41, .ref q_43, .ref q_45, .ref q_47, .ref q_49, .ref q_51, .ref q_53, .ref q_55, .ref q_57, .int 0, .ref q_59, .ref q_61, .ref q_63, .int (-1), .int 0, .int 0, .int 0, .int 0, .ref q_65, .int 0, .ref q_68, .int 0, .int (-1), .int 0, .int 0, .ref q_70, .ref q_72])), (q_68, .inl (cA_69, 8192, .inl f_0))])) (va_Qv (fun _ : Unit => True) (fun (_ : Unit) (t : State) => ∃ (g0_9 : Nat → Int32), va_P (dC, dI) vwP [(h0, .inr (16, [.ref q_1, .ref q_12, .ref q_17, .ref q_22, .ref q_24, .ref q_26, .ref q_28, .ref q_29, .ref q_31, .ref q_33, .ref q_35, .int 0, .ref q_37, .ref q_39, .ref q_41, .ref q_43, .ref q_45, .ref q_47, .ref q_49, .ref q_51, .ref q_53, .ref q_55, .ref q_57, .int 0, .ref q_59, .ref q_61, .ref q_63, .int (-1), .int 0, .int 0, .int 0, .int 0, .ref q_65, .int 0, .ref q_68, .int 0, .int (-1), .int 0, .int 0, .ref q_70, .ref q_72])), (q_68, .inl (cA_69, 8192, .inl g0_9))] t.heap ∧ va_K (dC, dI) vwP [(cA_69, .byte)] t ∧ va_D (va_A [(h0, .inr (16, [.ref q_1, .ref q_12, .ref q_17, .ref q_22, .ref q_24, .ref q_26, .ref q_28, .ref q_29, .ref q_31, .ref q_33, .ref q_35, .int 0, .ref q_37, .ref q_39, .ref q_41, .ref q_43, .ref q_45, .ref q_47, .ref q_49, .ref q_51, .ref q_53, .ref q_55, .ref q_57, .int 0, .ref q_59, .ref q_61, .ref q_63, .int (-1), .int 0, .int 0, .int 0, .int 0, .ref q_65, .int 0, .ref q_68, .int 0, .int (-1), .int 0, .int 0, .ref q_70, .ref q_72])), (q_68, .inl (cA_69, 8192, .inl f_0))] sz) [(h0, .inr (16, [.ref q_1, .ref q_12, .ref q_17, .ref q_22, .ref q_24, .ref q_26, .ref q_28, .ref q_29, .ref q_31, .ref q_33, .ref q_35, .int 0, .ref q_37, .ref q_39, .ref q_41, .ref q_43, .ref q_45, .ref q_47, .ref q_49, .ref q_51, .ref q_53, .ref q_55, .ref q_57, .int 0, .ref q_59, .ref q_61, .ref q_63, .int (-1), .int 0, .int 0, .int 0, .int 0, .ref q_65, .int 0, .ref q_68, .int 0, .int (-1), .int 0, .int 0, .ref q_70, .ref q_72])), (q_68, .inl (cA_69, 8192, .inl g0_9))]) (va_A [(h0, .inr (16, [.ref q_1, .ref q_12, .ref q_17, .ref q_22, .ref q_24, .ref q_26, .ref q_28, .ref q_29, .ref q_31, .ref q_33, .ref q_35, .int 0, .ref q_37, .ref q_39, .ref q_41, .ref q_43, .ref q_45, .ref q_47, .ref q_49, .ref q_51, .ref q_53, .ref q_55, .ref q_57, .int 0, .ref q_59, .ref q_61, .ref q_63, .int (-1), .int 0, .int 0, .int 0, .int 0, .ref q_65, .int 0, .ref q_68, .int 0, .int (-1), .int 0, .int 0, .ref q_70, .ref q_72])), (q_68, .inl (cA_69, 8192, .inl f_0))] sz)) 0 0 (va_A [(h0, .inr (16, [.ref q_1, .ref q_12, .ref q_17, .ref q_22, .ref q_24, .ref q_26, .ref q_28, .ref q_29, .ref q_31, .ref q_33, .ref q_35, .int 0, .ref q_37, .ref q_39, .ref q_41, .ref q_43, .ref q_45, .ref q_47, .ref q_49, .ref q_51, .ref q_53, .ref q_55, .ref q_57, .int 0, .ref q_59, .ref q_61, .ref q_63, .int (-1), .int 0, .int 0, .int 0, .int 0, .ref q_65, .int 0, .ref q_68, .int 0, .int (-1), .int 0, .int 0, .ref q_70, .ref q_72])), (q_68, .inl (cA_69, 8192, .inl f_0))] sz) := by
  refine Met.ofW (cc := cX19_word) (maxL := 4) (ret := none) (by decide) rfl ?_
  intro p e s m args below meth c s₁ B hml hv
  obtain ⟨rfl, hsz, hP, hK, hD0⟩ := hv
  have hx := B.exec
  have hb := B.bytes
  have hr := B.returns
  have hts := atoms_spec (ws := v_X19_word8) B.pre
  have hown : s.vm.findClass RX19 = some m.cls := findClass_of_methodNamed B.named
  have hlocks := B.notSynchronized
  have ow : ∀ {k : Nat} {w : Cond}, o_X19_word8[k]? = some w → w.before ([.ref h0, .int p0, .int 8] : List Value).toArray s = true := fun h => hts _ (mow_X19_word8 _ (List.mem_of_getElem? h))
  subst hsz
  have hD := hD0.self (sz := s.heap.size)
  generalize hAe : va_A [(h0, .inr (16, [.ref q_1, .ref q_12, .ref q_17, .ref q_22, .ref q_24, .ref q_26, .ref q_28, .ref q_29, .ref q_31, .ref q_33, .ref q_35, .int 0, .ref q_37, .ref q_39, .ref q_41, .ref q_43, .ref q_45, .ref q_47, .ref q_49, .ref q_51, .ref q_53, .ref q_55, .ref q_57, .int 0, .ref q_59, .ref q_61, .ref q_63, .int (-1), .int 0, .int 0, .int 0, .int 0, .ref q_65, .int 0, .ref q_68, .int 0, .int (-1), .int 0, .int 0, .ref q_70, .ref q_72])), (q_68, .inl (cA_69, 8192, .inl f_0))] s.heap.size = A at hD ⊢
  have hA : ∀ q : Nat, s.heap.size ≤ q → A q := fun q h => by rw [← hAe]; exact Or.inr h
  have hS : va_S A s.heap s.heap [] := va_S.rf
  have hP : va_P (dC, dI) vwP [(h0, .inr (16, [.ref q_1, .ref q_12, .ref q_17, .ref q_22, .ref q_24, .ref q_26, .ref q_28, .ref q_29, .ref q_31, .ref q_33, .ref q_35, .int 0, .ref q_37, .ref q_39, .ref q_41, .ref q_43, .ref q_45, .ref q_47, .ref q_49, .ref q_51, .ref q_53, .ref q_55, .ref q_57, .int 0, .ref q_59, .ref q_61, .ref q_63, .int (-1), .int 0, .int 0, .int 0, .int 0, .ref q_65, .int 0, .ref q_68, .int 0, .int (-1), .int 0, .int 0, .ref q_70, .ref q_72])), (q_68, .inl (cA_69, 8192, .inl f_0))] s.heap := hP
  have hl := lv_entry ([.ref h0, .int p0, .int 8]) (n := 4) (Nat.le_of_ble_eq_true rfl)
  rw [lg_entry_eq]
  generalize (lg_sl ([.ref h0, .int p0, .int 8]) ++ List.replicate (4 - (lg_sl ([.ref h0, .int p0, .int 8])).length) Slot.unset).toArray = ls at hl ⊢
  have hl : lv_has ls 4 [(0, .ref h0), (1, .int p0), (2, .int 8)] := hl
  obtain ⟨H, hH⟩ : ∃ H, H = s.heap := ⟨_, rfl⟩
  rw [← hH] at hP
  have hS : va_S A s.heap H [] := by rw [hH]; exact hS
  rw [← hH]
  refine lv_iconst (v := 0) hx hb dX19_word_0 (by decide) ?_
  refine lv_istore_n (lv' := [(3, .int 0), (0, .ref h0), (1, .int p0), (2, .int 8)]) hx hb dX19_word_1 rfl hl (by decide) rfl (fun ls hl => ?_)
  refine lv_iload_n hx hb dX19_word_2 rfl (lv_at hl 0 rfl) ?_
  refine lv_iconst (v := 4) hx hb dX19_word_3 (by decide) ?_
  refine lv_icmp_ge (tgt := 31) hx hb dX19_word_4 (by decide) (fun h9 => absurd h9 (by decide)) (fun _ => ?_)
  refine lv_aload_n hx hb dX19_word_7 rfl (lv_at hl 1 rfl) ?_
  refine va_get (D := (dC, dI)) (ci := 16) (v := .ref q_68) (C := RX19) (T := TX19) (N := 41) hx hb hts mem_X19_word8_0 hown hK hP 0 rfl rfl 34 (by decide) (ow (k := 0) rfl) (fun _ h9 => h9) rfl dX19_word_8 ?_
  refine lv_iload_n hx hb dX19_word_11 rfl (lv_at hl 3 rfl) ?_
  refine lv_iload_n hx hb dX19_word_12 rfl (lv_at hl 0 rfl) ?_
  refine lv_iadd hx hb dX19_word_13 ?_
  refine lv_topi (fun z ez => ?_)
  obtain rfl : z = 8 := by rw [ez]; decide
  refine lv_iload_n hx hb dX19_word_14 rfl (lv_at hl 2 rfl) ?_
  refine lv_bipush (v := 24) hx hb dX19_word_15 (by decide) ?_
  refine lv_bipush (v := 8) hx hb dX19_word_17 (by decide) ?_
  refine lv_iload_n hx hb dX19_word_19 rfl (lv_at hl 0 rfl) ?_
  refine lv_imul hx hb dX19_word_20 ?_
  refine lv_topi (fun z ez => ?_)
  obtain rfl : z = 0 := by rw [ez]; decide
  refine lv_isub hx hb dX19_word_21 ?_
  refine lv_topi (fun z ez => ?_)
  obtain rfl : z = 24 := by rw [ez]; decide
  refine lv_ishr hx hb dX19_word_22 ?_
  refine lv_i2b hx hb dX19_word_23 rfl ?_
  refine va_bast hx hb hK hP hD hS 1 0 rfl rfl (show vp_in 8 8192 by rw [vp_in_iff]; decide) dX19_word_24 (fun H locs hP hD hS => ?_)
  have hP : va_P (dC, dI) vwP [(h0, .inr (16, [.ref q_1, .ref q_12, .ref q_17, .ref q_22, .ref q_24, .ref q_26, .ref q_28, .ref q_29, .ref q_31, .ref q_33, .ref q_35, .int 0, .ref q_37, .ref q_39, .ref q_41, .ref q_43, .ref q_45, .ref q_47, .ref q_49, .ref q_51, .ref q_53, .ref q_55, .ref q_57, .int 0, .ref q_59, .ref q_61, .ref q_63, .int (-1), .int 0, .int 0, .int 0, .int 0, .ref q_65, .int 0, .ref q_68, .int 0, .int (-1), .int 0, .int 0, .ref q_70, .ref q_72])), (q_68, .inl (cA_69, 8192, .inl (upd f_0 (8 : Int32).toNatClampNeg (vp_nar .byte ((p0 >>> (24 &&& 31)).toInt8.toInt32)))))] H := hP
  have hD : va_D A [(h0, .inr (16, [.ref q_1, .ref q_12, .ref q_17, .ref q_22, .ref q_24, .ref q_26, .ref q_28, .ref q_29, .ref q_31, .ref q_33, .ref q_35, .int 0, .ref q_37, .ref q_39, .ref q_41, .ref q_43, .ref q_45, .ref q_47, .ref q_49, .ref q_51, .ref q_53, .ref q_55, .ref q_57, .int 0, .ref q_59, .ref q_61, .ref q_63, .int (-1), .int 0, .int 0, .int 0, .int 0, .ref q_65, .int 0, .ref q_68, .int 0, .int (-1), .int 0, .int 0, .ref q_70, .ref q_72])), (q_68, .inl (cA_69, 8192, .inl (upd f_0 (8 : Int32).toNatClampNeg (vp_nar .byte ((p0 >>> (24 &&& 31)).toInt8.toInt32)))))] := hD
  generalize (upd f_0 (8 : Int32).toNatClampNeg (vp_nar .byte ((p0 >>> (24 &&& 31)).toInt8.toInt32))) = f_2001 at hP hD
  refine lv_iinc (v := 1) (lv' := [(3, .int 1), (0, .ref h0), (1, .int p0), (2, .int 8)]) hx hb dX19_word_25 hl (k := 0) rfl (by decide) (by decide) rfl (fun ls hl => ?_)
  refine lv_goto (tgt := 2) hx hb dX19_word_28 (by decide) ?_
  refine lv_iload_n hx hb dX19_word_2 rfl (lv_at hl 0 rfl) ?_
  refine lv_iconst (v := 4) hx hb dX19_word_3 (by decide) ?_
  refine lv_icmp_ge (tgt := 31) hx hb dX19_word_4 (by decide) (fun h9 => absurd h9 (by decide)) (fun _ => ?_)
  refine lv_aload_n hx hb dX19_word_7 rfl (lv_at hl 1 rfl) ?_
  refine va_get (D := (dC, dI)) (ci := 16) (v := .ref q_68) (C := RX19) (T := TX19) (N := 41) hx hb hts mem_X19_word8_0 hown hK hP 0 rfl rfl 34 (by decide) (ow (k := 0) rfl) (fun _ h9 => h9) rfl dX19_word_8 ?_
  refine lv_iload_n hx hb dX19_word_11 rfl (lv_at hl 3 rfl) ?_
  refine lv_iload_n hx hb dX19_word_12 rfl (lv_at hl 0 rfl) ?_
  refine lv_iadd hx hb dX19_word_13 ?_
  refine lv_topi (fun z ez => ?_)
  obtain rfl : z = 9 := by rw [ez]; decide
  refine lv_iload_n hx hb dX19_word_14 rfl (lv_at hl 2 rfl) ?_
  refine lv_bipush (v := 24) hx hb dX19_word_15 (by decide) ?_
  refine lv_bipush (v := 8) hx hb dX19_word_17 (by decide) ?_
  refine lv_iload_n hx hb dX19_word_19 rfl (lv_at hl 0 rfl) ?_
  refine lv_imul hx hb dX19_word_20 ?_
  refine lv_topi (fun z ez => ?_)
  obtain rfl : z = 8 := by rw [ez]; decide
  refine lv_isub hx hb dX19_word_21 ?_
  refine lv_topi (fun z ez => ?_)
  obtain rfl : z = 16 := by rw [ez]; decide
  refine lv_ishr hx hb dX19_word_22 ?_
  refine lv_i2b hx hb dX19_word_23 rfl ?_
  refine va_bast hx hb hK hP hD hS 1 0 rfl rfl (show vp_in 9 8192 by rw [vp_in_iff]; decide) dX19_word_24 (fun H locs hP hD hS => ?_)
  have hP : va_P (dC, dI) vwP [(h0, .inr (16, [.ref q_1, .ref q_12, .ref q_17, .ref q_22, .ref q_24, .ref q_26, .ref q_28, .ref q_29, .ref q_31, .ref q_33, .ref q_35, .int 0, .ref q_37, .ref q_39, .ref q_41, .ref q_43, .ref q_45, .ref q_47, .ref q_49, .ref q_51, .ref q_53, .ref q_55, .ref q_57, .int 0, .ref q_59, .ref q_61, .ref q_63, .int (-1), .int 0, .int 0, .int 0, .int 0, .ref q_65, .int 0, .ref q_68, .int 0, .int (-1), .int 0, .int 0, .ref q_70, .ref q_72])), (q_68, .inl (cA_69, 8192, .inl (upd f_2001 (9 : Int32).toNatClampNeg (vp_nar .byte ((p0 >>> (16 &&& 31)).toInt8.toInt32)))))] H := hP
  have hD : va_D A [(h0, .inr (16, [.ref q_1, .ref q_12, .ref q_17, .ref q_22, .ref q_24, .ref q_26, .ref q_28, .ref q_29, .ref q_31, .ref q_33, .ref q_35, .int 0, .ref q_37, .ref q_39, .ref q_41, .ref q_43, .ref q_45, .ref q_47, .ref q_49, .ref q_51, .ref q_53, .ref q_55, .ref q_57, .int 0, .ref q_59, .ref q_61, .ref q_63, .int (-1), .int 0, .int 0, .int 0, .int 0, .ref q_65, .int 0, .ref q_68, .int 0, .int (-1), .int 0, .int 0, .ref q_70, .ref q_72])), (q_68, .inl (cA_69, 8192, .inl (upd f_2001 (9 : Int32).toNatClampNeg (vp_nar .byte ((p0 >>> (16 &&& 31)).toInt8.toInt32)))))] := hD
  generalize (upd f_2001 (9 : Int32).toNatClampNeg (vp_nar .byte ((p0 >>> (16 &&& 31)).toInt8.toInt32))) = f_2002 at hP hD
  refine lv_iinc (v := 2) (lv' := [(3, .int 2), (0, .ref h0), (1, .int p0), (2, .int 8)]) hx hb dX19_word_25 hl (k := 0) rfl (by decide) (by decide) rfl (fun ls hl => ?_)
  refine lv_goto (tgt := 2) hx hb dX19_word_28 (by decide) ?_
  refine lv_iload_n hx hb dX19_word_2 rfl (lv_at hl 0 rfl) ?_
  refine lv_iconst (v := 4) hx hb dX19_word_3 (by decide) ?_
  refine lv_icmp_ge (tgt := 31) hx hb dX19_word_4 (by decide) (fun h9 => absurd h9 (by decide)) (fun _ => ?_)
  refine lv_aload_n hx hb dX19_word_7 rfl (lv_at hl 1 rfl) ?_
  refine va_get (D := (dC, dI)) (ci := 16) (v := .ref q_68) (C := RX19) (T := TX19) (N := 41) hx hb hts mem_X19_word8_0 hown hK hP 0 rfl rfl 34 (by decide) (ow (k := 0) rfl) (fun _ h9 => h9) rfl dX19_word_8 ?_
  refine lv_iload_n hx hb dX19_word_11 rfl (lv_at hl 3 rfl) ?_
  refine lv_iload_n hx hb dX19_word_12 rfl (lv_at hl 0 rfl) ?_
  refine lv_iadd hx hb dX19_word_13 ?_
  refine lv_topi (fun z ez => ?_)
  obtain rfl : z = 10 := by rw [ez]; decide
  refine lv_iload_n hx hb dX19_word_14 rfl (lv_at hl 2 rfl) ?_
  refine lv_bipush (v := 24) hx hb dX19_word_15 (by decide) ?_
  refine lv_bipush (v := 8) hx hb dX19_word_17 (by decide) ?_
  refine lv_iload_n hx hb dX19_word_19 rfl (lv_at hl 0 rfl) ?_
  refine lv_imul hx hb dX19_word_20 ?_
  refine lv_topi (fun z ez => ?_)
  obtain rfl : z = 16 := by rw [ez]; decide
  refine lv_isub hx hb dX19_word_21 ?_
  refine lv_topi (fun z ez => ?_)
  obtain rfl : z = 8 := by rw [ez]; decide
  refine lv_ishr hx hb dX19_word_22 ?_
  refine lv_i2b hx hb dX19_word_23 rfl ?_
  refine va_bast hx hb hK hP hD hS 1 0 rfl rfl (show vp_in 10 8192 by rw [vp_in_iff]; decide) dX19_word_24 (fun H locs hP hD hS => ?_)
  have hP : va_P (dC, dI) vwP [(h0, .inr (16, [.ref q_1, .ref q_12, .ref q_17, .ref q_22, .ref q_24, .ref q_26, .ref q_28, .ref q_29, .ref q_31, .ref q_33, .ref q_35, .int 0, .ref q_37, .ref q_39, .ref q_41, .ref q_43, .ref q_45, .ref q_47, .ref q_49, .ref q_51, .ref q_53, .ref q_55, .ref q_57, .int 0, .ref q_59, .ref q_61, .ref q_63, .int (-1), .int 0, .int 0, .int 0, .int 0, .ref q_65, .int 0, .ref q_68, .int 0, .int (-1), .int 0, .int 0, .ref q_70, .ref q_72])), (q_68, .inl (cA_69, 8192, .inl (upd f_2002 (10 : Int32).toNatClampNeg (vp_nar .byte ((p0 >>> (8 &&& 31)).toInt8.toInt32)))))] H := hP
  have hD : va_D A [(h0, .inr (16, [.ref q_1, .ref q_12, .ref q_17, .ref q_22, .ref q_24, .ref q_26, .ref q_28, .ref q_29, .ref q_31, .ref q_33, .ref q_35, .int 0, .ref q_37, .ref q_39, .ref q_41, .ref q_43, .ref q_45, .ref q_47, .ref q_49, .ref q_51, .ref q_53, .ref q_55, .ref q_57, .int 0, .ref q_59, .ref q_61, .ref q_63, .int (-1), .int 0, .int 0, .int 0, .int 0, .ref q_65, .int 0, .ref q_68, .int 0, .int (-1), .int 0, .int 0, .ref q_70, .ref q_72])), (q_68, .inl (cA_69, 8192, .inl (upd f_2002 (10 : Int32).toNatClampNeg (vp_nar .byte ((p0 >>> (8 &&& 31)).toInt8.toInt32)))))] := hD
  generalize (upd f_2002 (10 : Int32).toNatClampNeg (vp_nar .byte ((p0 >>> (8 &&& 31)).toInt8.toInt32))) = f_2003 at hP hD
  refine lv_iinc (v := 3) (lv' := [(3, .int 3), (0, .ref h0), (1, .int p0), (2, .int 8)]) hx hb dX19_word_25 hl (k := 0) rfl (by decide) (by decide) rfl (fun ls hl => ?_)
  refine lv_goto (tgt := 2) hx hb dX19_word_28 (by decide) ?_
  refine lv_iload_n hx hb dX19_word_2 rfl (lv_at hl 0 rfl) ?_
  refine lv_iconst (v := 4) hx hb dX19_word_3 (by decide) ?_
  refine lv_icmp_ge (tgt := 31) hx hb dX19_word_4 (by decide) (fun h9 => absurd h9 (by decide)) (fun _ => ?_)
  refine lv_aload_n hx hb dX19_word_7 rfl (lv_at hl 1 rfl) ?_
  refine va_get (D := (dC, dI)) (ci := 16) (v := .ref q_68) (C := RX19) (T := TX19) (N := 41) hx hb hts mem_X19_word8_0 hown hK hP 0 rfl rfl 34 (by decide) (ow (k := 0) rfl) (fun _ h9 => h9) rfl dX19_word_8 ?_
  refine lv_iload_n hx hb dX19_word_11 rfl (lv_at hl 3 rfl) ?_
  refine lv_iload_n hx hb dX19_word_12 rfl (lv_at hl 0 rfl) ?_
  refine lv_iadd hx hb dX19_word_13 ?_
  refine lv_topi (fun z ez => ?_)
  obtain rfl : z = 11 := by rw [ez]; decide
  refine lv_iload_n hx hb dX19_word_14 rfl (lv_at hl 2 rfl) ?_
  refine lv_bipush (v := 24) hx hb dX19_word_15 (by decide) ?_
  refine lv_bipush (v := 8) hx hb dX19_word_17 (by decide) ?_
  refine lv_iload_n hx hb dX19_word_19 rfl (lv_at hl 0 rfl) ?_
  refine lv_imul hx hb dX19_word_20 ?_
  refine lv_topi (fun z ez => ?_)
  obtain rfl : z = 24 := by rw [ez]; decide
  refine lv_isub hx hb dX19_word_21 ?_
  refine lv_topi (fun z ez => ?_)
  obtain rfl : z = 0 := by rw [ez]; decide
  refine lv_ishr hx hb dX19_word_22 ?_
  refine lv_i2b hx hb dX19_word_23 rfl ?_
  refine va_bast hx hb hK hP hD hS 1 0 rfl rfl (show vp_in 11 8192 by rw [vp_in_iff]; decide) dX19_word_24 (fun H locs hP hD hS => ?_)
  have hP : va_P (dC, dI) vwP [(h0, .inr (16, [.ref q_1, .ref q_12, .ref q_17, .ref q_22, .ref q_24, .ref q_26, .ref q_28, .ref q_29, .ref q_31, .ref q_33, .ref q_35, .int 0, .ref q_37, .ref q_39, .ref q_41, .ref q_43, .ref q_45, .ref q_47, .ref q_49, .ref q_51, .ref q_53, .ref q_55, .ref q_57, .int 0, .ref q_59, .ref q_61, .ref q_63, .int (-1), .int 0, .int 0, .int 0, .int 0, .ref q_65, .int 0, .ref q_68, .int 0, .int (-1), .int 0, .int 0, .ref q_70, .ref q_72])), (q_68, .inl (cA_69, 8192, .inl (upd f_2003 (11 : Int32).toNatClampNeg (vp_nar .byte ((p0 >>> (0 &&& 31)).toInt8.toInt32)))))] H := hP
  have hD : va_D A [(h0, .inr (16, [.ref q_1, .ref q_12, .ref q_17, .ref q_22, .ref q_24, .ref q_26, .ref q_28, .ref q_29, .ref q_31, .ref q_33, .ref q_35, .int 0, .ref q_37, .ref q_39, .ref q_41, .ref q_43, .ref q_45, .ref q_47, .ref q_49, .ref q_51, .ref q_53, .ref q_55, .ref q_57, .int 0, .ref q_59, .ref q_61, .ref q_63, .int (-1), .int 0, .int 0, .int 0, .int 0, .ref q_65, .int 0, .ref q_68, .int 0, .int (-1), .int 0, .int 0, .ref q_70, .ref q_72])), (q_68, .inl (cA_69, 8192, .inl (upd f_2003 (11 : Int32).toNatClampNeg (vp_nar .byte ((p0 >>> (0 &&& 31)).toInt8.toInt32)))))] := hD
  generalize (upd f_2003 (11 : Int32).toNatClampNeg (vp_nar .byte ((p0 >>> (0 &&& 31)).toInt8.toInt32))) = f_2004 at hP hD
  refine lv_iinc (v := 4) (lv' := [(3, .int 4), (0, .ref h0), (1, .int p0), (2, .int 8)]) hx hb dX19_word_25 hl (k := 0) rfl (by decide) (by decide) rfl (fun ls hl => ?_)
  refine lv_goto (tgt := 2) hx hb dX19_word_28 (by decide) ?_
  refine lv_iload_n hx hb dX19_word_2 rfl (lv_at hl 0 rfl) ?_
  refine lv_iconst (v := 4) hx hb dX19_word_3 (by decide) ?_
  refine lv_icmp_ge (tgt := 31) hx hb dX19_word_4 (by decide) (fun _ => ?_) (fun h9 => absurd h9 (by decide))
  refine W.widen (k := 0) (n := 0) (Nat.le_of_ble_eq_true rfl) (Nat.le_of_ble_eq_true rfl) ?_
  exact W.vret hx hb hr (fun t ht hW => ⟨⟨(), rfl, trivial, f_2004, by rw [ht]; exact hP, va_K.moved hW.alike hK, hD⟩, hS.F ht⟩) hS.2.2 dX19_word_31
def o_X19_word12 : List Cond := [.fieldLink RX19 551 "SsaForgeModel" "tape" "[B"]
def v_X19_word12 : List Cond := .code yX19_word cX19_word 4 none :: (o_X19_word12 ++ (wsX190 ++ []))
theorem mow_X19_word12 : ∀ w ∈ o_X19_word12, w ∈ v_X19_word12 := fun _ h => List.mem_cons_of_mem _ (List.mem_append_left _ h)
theorem mem_X19_word12_0 : ∀ w ∈ wsX190, w ∈ v_X19_word12 := fun _ h => List.mem_cons_of_mem _ (List.mem_append_right _ (List.mem_append_left _ h))
set_option maxRecDepth 20000 in
theorem gw_X19_word12 : v_X19_word12.all goodWord = true := by decide +kernel
set_option maxHeartbeats 4000000 in
set_option maxRecDepth 100000 in
theorem c_X19_word12 (l : Launch) (dC : Nat → ClassId) (dI : Nat → Nat → Nat) (h0 : Nat) (q_1 : Nat) (q_12 : Nat) (q_17 : Nat) (q_22 : Nat) (q_24 : Nat) (q_26 : Nat) (q_28 : Nat) (q_29 : Nat) (q_31 : Nat) (q_33 : Nat) (q_35 : Nat) (q_37 : Nat) (q_39 : Nat) (q_41 : Nat) (q_43 : Nat) (q_45 : Nat) (q_47 : Nat) (q_49 : Nat) (q_51 : Nat) (q_53 : Nat) (q_55 : Nat) (q_57 : Nat) (q_59 : Nat) (q_61 : Nat) (q_63 : Nat) (q_65 : Nat) (q_68 : Nat) (q_70 : Nat) (q_72 : Nat) (cA_69 : ClassId) (f_0 : Nat → Int32) (p0 : Int32) (sz : Nat) : Met l yX19_word v_X19_word12 ({ frames := 0, cells := 0, slots := 0, locals := 0 }) (va_Pc [.ref h0, .int p0, .int 12] (fun U => U.heap.size = sz ∧ va_P (dC, dI) vwP [(h0, .inr (16, [.ref q_1, .ref q_12, .ref q_17, .ref q_22, .ref q_24, .ref q_26, .ref q_28, .ref q_29, .ref q_31, .ref q_33, .ref q_35, .int 0, .ref q_37, .ref q_39, .ref q_41, .ref q_43, .ref q_45, .ref q_47, .ref q_49, .ref q_51, .ref q_53, .ref q_55, .ref q_57, .int 0, .ref q_59, .ref q_61, .ref q_63, .int (-1), .int 0, .int 0, .int 0, .int 0, .ref q_65, .int 0, .ref q_68, .int 0, .int (-1), .int 0, .int 0, .ref q_70, .ref q_72])), (q_68, .inl (cA_69, 8192, .inl f_0))] U.heap ∧ va_K (dC, dI) vwP [(cA_69, .byte)] U ∧ va_D (fun _ => True) [(h0, .inr (16, [.ref q_1, .ref q_12, .ref q_17, .ref q_22, .ref q_24, .ref q_26, .ref q_28, .ref q_29, .ref q_31, .ref q_33, .ref q_35, .int 0, .ref q_37, .ref q_39, .ref q_41, .ref q_43, .ref q_45, .ref q_47, .ref q_49, .ref q_51, .ref q_53, .ref q_55, .ref q_57, .int 0, .ref q_59, .ref q_61, .ref q_63, .int (-1), .int 0, .int 0, .int 0, .int 0, .ref q_65, .int 0, .ref q_68, .int 0, .int (-1), .int 0, .int 0, .ref q_70, .ref q_72])), (q_68, .inl (cA_69, 8192, .inl f_0))])) (va_Qv (fun _ : Unit => True) (fun (_ : Unit) (t : State) => ∃ (g0_9 : Nat → Int32), va_P (dC, dI) vwP [(h0, .inr (16, [.ref q_1, .ref q_12, .ref q_17, .ref q_22, .ref q_24, .ref q_26, .ref q_28, .ref q_29, .ref q_31, .ref q_33, .ref q_35, .int 0, .ref q_37, .ref q_39, .ref q_41, .ref q_43, .ref q_45, .ref q_47, .ref q_49, .ref q_51, .ref q_53, .ref q_55, .ref q_57, .int 0, .ref q_59, .ref q_61, .ref q_63, .int (-1), .int 0, .int 0, .int 0, .int 0, .ref q_65, .int 0, .ref q_68, .int 0, .int (-1), .int 0, .int 0, .ref q_70, .ref q_72])), (q_68, .inl (cA_69, 8192, .inl g0_9))] t.heap ∧ va_K (dC, dI) vwP [(cA_69, .byte)] t ∧ va_D (va_A [(h0, .inr (16, [.ref q_1, .ref q_12, .ref q_17, .ref q_22, .ref q_24, .ref q_26, .ref q_28, .ref q_29, .ref q_31, .ref q_33, .ref q_35, .int 0, .ref q_37, .ref q_39, .ref q_41, .ref q_43, .ref q_45, .ref q_47, .ref q_49, .ref q_51, .ref q_53, .ref q_55, .ref q_57, .int 0, .ref q_59, .ref q_61, .ref q_63, .int (-1), .int 0, .int 0, .int 0, .int 0, .ref q_65, .int 0, .ref q_68, .int 0, .int (-1), .int 0, .int 0, .ref q_70, .ref q_72])), (q_68, .inl (cA_69, 8192, .inl f_0))] sz) [(h0, .inr (16, [.ref q_1, .ref q_12, .ref q_17, .ref q_22, .ref q_24, .ref q_26, .ref q_28, .ref q_29, .ref q_31, .ref q_33, .ref q_35, .int 0, .ref q_37, .ref q_39, .ref q_41, .ref q_43, .ref q_45, .ref q_47, .ref q_49, .ref q_51, .ref q_53, .ref q_55, .ref q_57, .int 0, .ref q_59, .ref q_61, .ref q_63, .int (-1), .int 0, .int 0, .int 0, .int 0, .ref q_65, .int 0, .ref q_68, .int 0, .int (-1), .int 0, .int 0, .ref q_70, .ref q_72])), (q_68, .inl (cA_69, 8192, .inl g0_9))]) (va_A [(h0, .inr (16, [.ref q_1, .ref q_12, .ref q_17, .ref q_22, .ref q_24, .ref q_26, .ref q_28, .ref q_29, .ref q_31, .ref q_33, .ref q_35, .int 0, .ref q_37, .ref q_39, .ref q_41, .ref q_43, .ref q_45, .ref q_47, .ref q_49, .ref q_51, .ref q_53, .ref q_55, .ref q_57, .int 0, .ref q_59, .ref q_61, .ref q_63, .int (-1), .int 0, .int 0, .int 0, .int 0, .ref q_65, .int 0, .ref q_68, .int 0, .int (-1), .int 0, .int 0, .ref q_70, .ref q_72])), (q_68, .inl (cA_69, 8192, .inl f_0))] sz)) 0 0 (va_A [(h0, .inr (16, [.ref q_1, .ref q_12, .ref q_17, .ref q_22, .ref q_24, .ref q_26, .ref q_28, .ref q_29, .ref q_31, .ref q_33, .ref q_35, .int 0, .ref q_37, .ref q_39, .ref q_41, .ref q_43, .ref q_45, .ref q_47, .ref q_49, .ref q_51, .ref q_53, .ref q_55, .ref q_57, .int 0, .ref q_59, .ref q_61, .ref q_63, .int (-1), .int 0, .int 0, .int 0, .int 0, .ref q_65, .int 0, .ref q_68, .int 0, .int (-1), .int 0, .int 0, .ref q_70, .ref q_72])), (q_68, .inl (cA_69, 8192, .inl f_0))] sz) := by
  refine Met.ofW (cc := cX19_word) (maxL := 4) (ret := none) (by decide) rfl ?_
  intro p e s m args below meth c s₁ B hml hv
  obtain ⟨rfl, hsz, hP, hK, hD0⟩ := hv
  have hx := B.exec
  have hb := B.bytes
  have hr := B.returns
  have hts := atoms_spec (ws := v_X19_word12) B.pre
  have hown : s.vm.findClass RX19 = some m.cls := findClass_of_methodNamed B.named
  have hlocks := B.notSynchronized
  have ow : ∀ {k : Nat} {w : Cond}, o_X19_word12[k]? = some w → w.before ([.ref h0, .int p0, .int 12] : List Value).toArray s = true := fun h => hts _ (mow_X19_word12 _ (List.mem_of_getElem? h))
  subst hsz
  have hD := hD0.self (sz := s.heap.size)
  generalize hAe : va_A [(h0, .inr (16, [.ref q_1, .ref q_12, .ref q_17, .ref q_22, .ref q_24, .ref q_26, .ref q_28, .ref q_29, .ref q_31, .ref q_33, .ref q_35, .int 0, .ref q_37, .ref q_39, .ref q_41, .ref q_43, .ref q_45, .ref q_47, .ref q_49, .ref q_51, .ref q_53, .ref q_55, .ref q_57, .int 0, .ref q_59, .ref q_61, .ref q_63, .int (-1), .int 0, .int 0, .int 0, .int 0, .ref q_65, .int 0, .ref q_68, .int 0, .int (-1), .int 0, .int 0, .ref q_70, .ref q_72])), (q_68, .inl (cA_69, 8192, .inl f_0))] s.heap.size = A at hD ⊢
  have hA : ∀ q : Nat, s.heap.size ≤ q → A q := fun q h => by rw [← hAe]; exact Or.inr h
  have hS : va_S A s.heap s.heap [] := va_S.rf
  have hP : va_P (dC, dI) vwP [(h0, .inr (16, [.ref q_1, .ref q_12, .ref q_17, .ref q_22, .ref q_24, .ref q_26, .ref q_28, .ref q_29, .ref q_31, .ref q_33, .ref q_35, .int 0, .ref q_37, .ref q_39, .ref q_41, .ref q_43, .ref q_45, .ref q_47, .ref q_49, .ref q_51, .ref q_53, .ref q_55, .ref q_57, .int 0, .ref q_59, .ref q_61, .ref q_63, .int (-1), .int 0, .int 0, .int 0, .int 0, .ref q_65, .int 0, .ref q_68, .int 0, .int (-1), .int 0, .int 0, .ref q_70, .ref q_72])), (q_68, .inl (cA_69, 8192, .inl f_0))] s.heap := hP
  have hl := lv_entry ([.ref h0, .int p0, .int 12]) (n := 4) (Nat.le_of_ble_eq_true rfl)
  rw [lg_entry_eq]
  generalize (lg_sl ([.ref h0, .int p0, .int 12]) ++ List.replicate (4 - (lg_sl ([.ref h0, .int p0, .int 12])).length) Slot.unset).toArray = ls at hl ⊢
  have hl : lv_has ls 4 [(0, .ref h0), (1, .int p0), (2, .int 12)] := hl
  obtain ⟨H, hH⟩ : ∃ H, H = s.heap := ⟨_, rfl⟩
  rw [← hH] at hP
  have hS : va_S A s.heap H [] := by rw [hH]; exact hS
  rw [← hH]
  refine lv_iconst (v := 0) hx hb dX19_word_0 (by decide) ?_
  refine lv_istore_n (lv' := [(3, .int 0), (0, .ref h0), (1, .int p0), (2, .int 12)]) hx hb dX19_word_1 rfl hl (by decide) rfl (fun ls hl => ?_)
  refine lv_iload_n hx hb dX19_word_2 rfl (lv_at hl 0 rfl) ?_
  refine lv_iconst (v := 4) hx hb dX19_word_3 (by decide) ?_
  refine lv_icmp_ge (tgt := 31) hx hb dX19_word_4 (by decide) (fun h9 => absurd h9 (by decide)) (fun _ => ?_)
  refine lv_aload_n hx hb dX19_word_7 rfl (lv_at hl 1 rfl) ?_
  refine va_get (D := (dC, dI)) (ci := 16) (v := .ref q_68) (C := RX19) (T := TX19) (N := 41) hx hb hts mem_X19_word12_0 hown hK hP 0 rfl rfl 34 (by decide) (ow (k := 0) rfl) (fun _ h9 => h9) rfl dX19_word_8 ?_
  refine lv_iload_n hx hb dX19_word_11 rfl (lv_at hl 3 rfl) ?_
  refine lv_iload_n hx hb dX19_word_12 rfl (lv_at hl 0 rfl) ?_
  refine lv_iadd hx hb dX19_word_13 ?_
  refine lv_topi (fun z ez => ?_)
  obtain rfl : z = 12 := by rw [ez]; decide
  refine lv_iload_n hx hb dX19_word_14 rfl (lv_at hl 2 rfl) ?_
  refine lv_bipush (v := 24) hx hb dX19_word_15 (by decide) ?_
  refine lv_bipush (v := 8) hx hb dX19_word_17 (by decide) ?_
  refine lv_iload_n hx hb dX19_word_19 rfl (lv_at hl 0 rfl) ?_
  refine lv_imul hx hb dX19_word_20 ?_
  refine lv_topi (fun z ez => ?_)
  obtain rfl : z = 0 := by rw [ez]; decide
  refine lv_isub hx hb dX19_word_21 ?_
  refine lv_topi (fun z ez => ?_)
  obtain rfl : z = 24 := by rw [ez]; decide
  refine lv_ishr hx hb dX19_word_22 ?_
  refine lv_i2b hx hb dX19_word_23 rfl ?_
  refine va_bast hx hb hK hP hD hS 1 0 rfl rfl (show vp_in 12 8192 by rw [vp_in_iff]; decide) dX19_word_24 (fun H locs hP hD hS => ?_)
  have hP : va_P (dC, dI) vwP [(h0, .inr (16, [.ref q_1, .ref q_12, .ref q_17, .ref q_22, .ref q_24, .ref q_26, .ref q_28, .ref q_29, .ref q_31, .ref q_33, .ref q_35, .int 0, .ref q_37, .ref q_39, .ref q_41, .ref q_43, .ref q_45, .ref q_47, .ref q_49, .ref q_51, .ref q_53, .ref q_55, .ref q_57, .int 0, .ref q_59, .ref q_61, .ref q_63, .int (-1), .int 0, .int 0, .int 0, .int 0, .ref q_65, .int 0, .ref q_68, .int 0, .int (-1), .int 0, .int 0, .ref q_70, .ref q_72])), (q_68, .inl (cA_69, 8192, .inl (upd f_0 (12 : Int32).toNatClampNeg (vp_nar .byte ((p0 >>> (24 &&& 31)).toInt8.toInt32)))))] H := hP
  have hD : va_D A [(h0, .inr (16, [.ref q_1, .ref q_12, .ref q_17, .ref q_22, .ref q_24, .ref q_26, .ref q_28, .ref q_29, .ref q_31, .ref q_33, .ref q_35, .int 0, .ref q_37, .ref q_39, .ref q_41, .ref q_43, .ref q_45, .ref q_47, .ref q_49, .ref q_51, .ref q_53, .ref q_55, .ref q_57, .int 0, .ref q_59, .ref q_61, .ref q_63, .int (-1), .int 0, .int 0, .int 0, .int 0, .ref q_65, .int 0, .ref q_68, .int 0, .int (-1), .int 0, .int 0, .ref q_70, .ref q_72])), (q_68, .inl (cA_69, 8192, .inl (upd f_0 (12 : Int32).toNatClampNeg (vp_nar .byte ((p0 >>> (24 &&& 31)).toInt8.toInt32)))))] := hD
  generalize (upd f_0 (12 : Int32).toNatClampNeg (vp_nar .byte ((p0 >>> (24 &&& 31)).toInt8.toInt32))) = f_2001 at hP hD
  refine lv_iinc (v := 1) (lv' := [(3, .int 1), (0, .ref h0), (1, .int p0), (2, .int 12)]) hx hb dX19_word_25 hl (k := 0) rfl (by decide) (by decide) rfl (fun ls hl => ?_)
  refine lv_goto (tgt := 2) hx hb dX19_word_28 (by decide) ?_
  refine lv_iload_n hx hb dX19_word_2 rfl (lv_at hl 0 rfl) ?_
  refine lv_iconst (v := 4) hx hb dX19_word_3 (by decide) ?_
  refine lv_icmp_ge (tgt := 31) hx hb dX19_word_4 (by decide) (fun h9 => absurd h9 (by decide)) (fun _ => ?_)
  refine lv_aload_n hx hb dX19_word_7 rfl (lv_at hl 1 rfl) ?_
  refine va_get (D := (dC, dI)) (ci := 16) (v := .ref q_68) (C := RX19) (T := TX19) (N := 41) hx hb hts mem_X19_word12_0 hown hK hP 0 rfl rfl 34 (by decide) (ow (k := 0) rfl) (fun _ h9 => h9) rfl dX19_word_8 ?_
  refine lv_iload_n hx hb dX19_word_11 rfl (lv_at hl 3 rfl) ?_
  refine lv_iload_n hx hb dX19_word_12 rfl (lv_at hl 0 rfl) ?_
  refine lv_iadd hx hb dX19_word_13 ?_
  refine lv_topi (fun z ez => ?_)
  obtain rfl : z = 13 := by rw [ez]; decide
  refine lv_iload_n hx hb dX19_word_14 rfl (lv_at hl 2 rfl) ?_
  refine lv_bipush (v := 24) hx hb dX19_word_15 (by decide) ?_
  refine lv_bipush (v := 8) hx hb dX19_word_17 (by decide) ?_
  refine lv_iload_n hx hb dX19_word_19 rfl (lv_at hl 0 rfl) ?_
  refine lv_imul hx hb dX19_word_20 ?_
  refine lv_topi (fun z ez => ?_)
  obtain rfl : z = 8 := by rw [ez]; decide
  refine lv_isub hx hb dX19_word_21 ?_
  refine lv_topi (fun z ez => ?_)
  obtain rfl : z = 16 := by rw [ez]; decide
  refine lv_ishr hx hb dX19_word_22 ?_
  refine lv_i2b hx hb dX19_word_23 rfl ?_
  refine va_bast hx hb hK hP hD hS 1 0 rfl rfl (show vp_in 13 8192 by rw [vp_in_iff]; decide) dX19_word_24 (fun H locs hP hD hS => ?_)
  have hP : va_P (dC, dI) vwP [(h0, .inr (16, [.ref q_1, .ref q_12, .ref q_17, .ref q_22, .ref q_24, .ref q_26, .ref q_28, .ref q_29, .ref q_31, .ref q_33, .ref q_35, .int 0, .ref q_37, .ref q_39, .ref q_41, .ref q_43, .ref q_45, .ref q_47, .ref q_49, .ref q_51, .ref q_53, .ref q_55, .ref q_57, .int 0, .ref q_59, .ref q_61, .ref q_63, .int (-1), .int 0, .int 0, .int 0, .int 0, .ref q_65, .int 0, .ref q_68, .int 0, .int (-1), .int 0, .int 0, .ref q_70, .ref q_72])), (q_68, .inl (cA_69, 8192, .inl (upd f_2001 (13 : Int32).toNatClampNeg (vp_nar .byte ((p0 >>> (16 &&& 31)).toInt8.toInt32)))))] H := hP
  have hD : va_D A [(h0, .inr (16, [.ref q_1, .ref q_12, .ref q_17, .ref q_22, .ref q_24, .ref q_26, .ref q_28, .ref q_29, .ref q_31, .ref q_33, .ref q_35, .int 0, .ref q_37, .ref q_39, .ref q_41, .ref q_43, .ref q_45, .ref q_47, .ref q_49, .ref q_51, .ref q_53, .ref q_55, .ref q_57, .int 0, .ref q_59, .ref q_61, .ref q_63, .int (-1), .int 0, .int 0, .int 0, .int 0, .ref q_65, .int 0, .ref q_68, .int 0, .int (-1), .int 0, .int 0, .ref q_70, .ref q_72])), (q_68, .inl (cA_69, 8192, .inl (upd f_2001 (13 : Int32).toNatClampNeg (vp_nar .byte ((p0 >>> (16 &&& 31)).toInt8.toInt32)))))] := hD
  generalize (upd f_2001 (13 : Int32).toNatClampNeg (vp_nar .byte ((p0 >>> (16 &&& 31)).toInt8.toInt32))) = f_2002 at hP hD
  refine lv_iinc (v := 2) (lv' := [(3, .int 2), (0, .ref h0), (1, .int p0), (2, .int 12)]) hx hb dX19_word_25 hl (k := 0) rfl (by decide) (by decide) rfl (fun ls hl => ?_)
  refine lv_goto (tgt := 2) hx hb dX19_word_28 (by decide) ?_
  refine lv_iload_n hx hb dX19_word_2 rfl (lv_at hl 0 rfl) ?_
  refine lv_iconst (v := 4) hx hb dX19_word_3 (by decide) ?_
  refine lv_icmp_ge (tgt := 31) hx hb dX19_word_4 (by decide) (fun h9 => absurd h9 (by decide)) (fun _ => ?_)
  refine lv_aload_n hx hb dX19_word_7 rfl (lv_at hl 1 rfl) ?_
  refine va_get (D := (dC, dI)) (ci := 16) (v := .ref q_68) (C := RX19) (T := TX19) (N := 41) hx hb hts mem_X19_word12_0 hown hK hP 0 rfl rfl 34 (by decide) (ow (k := 0) rfl) (fun _ h9 => h9) rfl dX19_word_8 ?_
  refine lv_iload_n hx hb dX19_word_11 rfl (lv_at hl 3 rfl) ?_
  refine lv_iload_n hx hb dX19_word_12 rfl (lv_at hl 0 rfl) ?_
  refine lv_iadd hx hb dX19_word_13 ?_
  refine lv_topi (fun z ez => ?_)
  obtain rfl : z = 14 := by rw [ez]; decide
  refine lv_iload_n hx hb dX19_word_14 rfl (lv_at hl 2 rfl) ?_
  refine lv_bipush (v := 24) hx hb dX19_word_15 (by decide) ?_
  refine lv_bipush (v := 8) hx hb dX19_word_17 (by decide) ?_
  refine lv_iload_n hx hb dX19_word_19 rfl (lv_at hl 0 rfl) ?_
  refine lv_imul hx hb dX19_word_20 ?_
  refine lv_topi (fun z ez => ?_)
  obtain rfl : z = 16 := by rw [ez]; decide
  refine lv_isub hx hb dX19_word_21 ?_
  refine lv_topi (fun z ez => ?_)
  obtain rfl : z = 8 := by rw [ez]; decide
  refine lv_ishr hx hb dX19_word_22 ?_
  refine lv_i2b hx hb dX19_word_23 rfl ?_
  refine va_bast hx hb hK hP hD hS 1 0 rfl rfl (show vp_in 14 8192 by rw [vp_in_iff]; decide) dX19_word_24 (fun H locs hP hD hS => ?_)
  have hP : va_P (dC, dI) vwP [(h0, .inr (16, [.ref q_1, .ref q_12, .ref q_17, .ref q_22, .ref q_24, .ref q_26, .ref q_28, .ref q_29, .ref q_31, .ref q_33, .ref q_35, .int 0, .ref q_37, .ref q_39, .ref q_41, .ref q_43, .ref q_45, .ref q_47, .ref q_49, .ref q_51, .ref q_53, .ref q_55, .ref q_57, .int 0, .ref q_59, .ref q_61, .ref q_63, .int (-1), .int 0, .int 0, .int 0, .int 0, .ref q_65, .int 0, .ref q_68, .int 0, .int (-1), .int 0, .int 0, .ref q_70, .ref q_72])), (q_68, .inl (cA_69, 8192, .inl (upd f_2002 (14 : Int32).toNatClampNeg (vp_nar .byte ((p0 >>> (8 &&& 31)).toInt8.toInt32)))))] H := hP
  have hD : va_D A [(h0, .inr (16, [.ref q_1, .ref q_12, .ref q_17, .ref q_22, .ref q_24, .ref q_26, .ref q_28, .ref q_29, .ref q_31, .ref q_33, .ref q_35, .int 0, .ref q_37, .ref q_39, .ref q_41, .ref q_43, .ref q_45, .ref q_47, .ref q_49, .ref q_51, .ref q_53, .ref q_55, .ref q_57, .int 0, .ref q_59, .ref q_61, .ref q_63, .int (-1), .int 0, .int 0, .int 0, .int 0, .ref q_65, .int 0, .ref q_68, .int 0, .int (-1), .int 0, .int 0, .ref q_70, .ref q_72])), (q_68, .inl (cA_69, 8192, .inl (upd f_2002 (14 : Int32).toNatClampNeg (vp_nar .byte ((p0 >>> (8 &&& 31)).toInt8.toInt32)))))] := hD
  generalize (upd f_2002 (14 : Int32).toNatClampNeg (vp_nar .byte ((p0 >>> (8 &&& 31)).toInt8.toInt32))) = f_2003 at hP hD
  refine lv_iinc (v := 3) (lv' := [(3, .int 3), (0, .ref h0), (1, .int p0), (2, .int 12)]) hx hb dX19_word_25 hl (k := 0) rfl (by decide) (by decide) rfl (fun ls hl => ?_)
  refine lv_goto (tgt := 2) hx hb dX19_word_28 (by decide) ?_
  refine lv_iload_n hx hb dX19_word_2 rfl (lv_at hl 0 rfl) ?_
  refine lv_iconst (v := 4) hx hb dX19_word_3 (by decide) ?_
  refine lv_icmp_ge (tgt := 31) hx hb dX19_word_4 (by decide) (fun h9 => absurd h9 (by decide)) (fun _ => ?_)
  refine lv_aload_n hx hb dX19_word_7 rfl (lv_at hl 1 rfl) ?_
  refine va_get (D := (dC, dI)) (ci := 16) (v := .ref q_68) (C := RX19) (T := TX19) (N := 41) hx hb hts mem_X19_word12_0 hown hK hP 0 rfl rfl 34 (by decide) (ow (k := 0) rfl) (fun _ h9 => h9) rfl dX19_word_8 ?_
  refine lv_iload_n hx hb dX19_word_11 rfl (lv_at hl 3 rfl) ?_
  refine lv_iload_n hx hb dX19_word_12 rfl (lv_at hl 0 rfl) ?_
  refine lv_iadd hx hb dX19_word_13 ?_
  refine lv_topi (fun z ez => ?_)
  obtain rfl : z = 15 := by rw [ez]; decide
  refine lv_iload_n hx hb dX19_word_14 rfl (lv_at hl 2 rfl) ?_
  refine lv_bipush (v := 24) hx hb dX19_word_15 (by decide) ?_
  refine lv_bipush (v := 8) hx hb dX19_word_17 (by decide) ?_
  refine lv_iload_n hx hb dX19_word_19 rfl (lv_at hl 0 rfl) ?_
  refine lv_imul hx hb dX19_word_20 ?_
  refine lv_topi (fun z ez => ?_)
  obtain rfl : z = 24 := by rw [ez]; decide
  refine lv_isub hx hb dX19_word_21 ?_
  refine lv_topi (fun z ez => ?_)
  obtain rfl : z = 0 := by rw [ez]; decide
  refine lv_ishr hx hb dX19_word_22 ?_
  refine lv_i2b hx hb dX19_word_23 rfl ?_
  refine va_bast hx hb hK hP hD hS 1 0 rfl rfl (show vp_in 15 8192 by rw [vp_in_iff]; decide) dX19_word_24 (fun H locs hP hD hS => ?_)
  have hP : va_P (dC, dI) vwP [(h0, .inr (16, [.ref q_1, .ref q_12, .ref q_17, .ref q_22, .ref q_24, .ref q_26, .ref q_28, .ref q_29, .ref q_31, .ref q_33, .ref q_35, .int 0, .ref q_37, .ref q_39, .ref q_41, .ref q_43, .ref q_45, .ref q_47, .ref q_49, .ref q_51, .ref q_53, .ref q_55, .ref q_57, .int 0, .ref q_59, .ref q_61, .ref q_63, .int (-1), .int 0, .int 0, .int 0, .int 0, .ref q_65, .int 0, .ref q_68, .int 0, .int (-1), .int 0, .int 0, .ref q_70, .ref q_72])), (q_68, .inl (cA_69, 8192, .inl (upd f_2003 (15 : Int32).toNatClampNeg (vp_nar .byte ((p0 >>> (0 &&& 31)).toInt8.toInt32)))))] H := hP
  have hD : va_D A [(h0, .inr (16, [.ref q_1, .ref q_12, .ref q_17, .ref q_22, .ref q_24, .ref q_26, .ref q_28, .ref q_29, .ref q_31, .ref q_33, .ref q_35, .int 0, .ref q_37, .ref q_39, .ref q_41, .ref q_43, .ref q_45, .ref q_47, .ref q_49, .ref q_51, .ref q_53, .ref q_55, .ref q_57, .int 0, .ref q_59, .ref q_61, .ref q_63, .int (-1), .int 0, .int 0, .int 0, .int 0, .ref q_65, .int 0, .ref q_68, .int 0, .int (-1), .int 0, .int 0, .ref q_70, .ref q_72])), (q_68, .inl (cA_69, 8192, .inl (upd f_2003 (15 : Int32).toNatClampNeg (vp_nar .byte ((p0 >>> (0 &&& 31)).toInt8.toInt32)))))] := hD
  generalize (upd f_2003 (15 : Int32).toNatClampNeg (vp_nar .byte ((p0 >>> (0 &&& 31)).toInt8.toInt32))) = f_2004 at hP hD
  refine lv_iinc (v := 4) (lv' := [(3, .int 4), (0, .ref h0), (1, .int p0), (2, .int 12)]) hx hb dX19_word_25 hl (k := 0) rfl (by decide) (by decide) rfl (fun ls hl => ?_)
  refine lv_goto (tgt := 2) hx hb dX19_word_28 (by decide) ?_
  refine lv_iload_n hx hb dX19_word_2 rfl (lv_at hl 0 rfl) ?_
  refine lv_iconst (v := 4) hx hb dX19_word_3 (by decide) ?_
  refine lv_icmp_ge (tgt := 31) hx hb dX19_word_4 (by decide) (fun _ => ?_) (fun h9 => absurd h9 (by decide))
  refine W.widen (k := 0) (n := 0) (Nat.le_of_ble_eq_true rfl) (Nat.le_of_ble_eq_true rfl) ?_
  exact W.vret hx hb hr (fun t ht hW => ⟨⟨(), rfl, trivial, f_2004, by rw [ht]; exact hP, va_K.moved hW.alike hK, hD⟩, hS.F ht⟩) hS.2.2 dX19_word_31
def o_X19_word16 : List Cond := [.fieldLink RX19 551 "SsaForgeModel" "tape" "[B"]
def v_X19_word16 : List Cond := .code yX19_word cX19_word 4 none :: (o_X19_word16 ++ (wsX190 ++ []))
theorem mow_X19_word16 : ∀ w ∈ o_X19_word16, w ∈ v_X19_word16 := fun _ h => List.mem_cons_of_mem _ (List.mem_append_left _ h)
theorem mem_X19_word16_0 : ∀ w ∈ wsX190, w ∈ v_X19_word16 := fun _ h => List.mem_cons_of_mem _ (List.mem_append_right _ (List.mem_append_left _ h))
set_option maxRecDepth 20000 in
theorem gw_X19_word16 : v_X19_word16.all goodWord = true := by decide +kernel
set_option maxHeartbeats 4000000 in
set_option maxRecDepth 100000 in
theorem c_X19_word16 (l : Launch) (dC : Nat → ClassId) (dI : Nat → Nat → Nat) (h0 : Nat) (q_1 : Nat) (q_12 : Nat) (q_17 : Nat) (q_22 : Nat) (q_24 : Nat) (q_26 : Nat) (q_28 : Nat) (q_29 : Nat) (q_31 : Nat) (q_33 : Nat) (q_35 : Nat) (q_37 : Nat) (q_39 : Nat) (q_41 : Nat) (q_43 : Nat) (q_45 : Nat) (q_47 : Nat) (q_49 : Nat) (q_51 : Nat) (q_53 : Nat) (q_55 : Nat) (q_57 : Nat) (q_59 : Nat) (q_61 : Nat) (q_63 : Nat) (q_65 : Nat) (q_68 : Nat) (q_70 : Nat) (q_72 : Nat) (cA_69 : ClassId) (f_0 : Nat → Int32) (p0 : Int32) (sz : Nat) : Met l yX19_word v_X19_word16 ({ frames := 0, cells := 0, slots := 0, locals := 0 }) (va_Pc [.ref h0, .int p0, .int 16] (fun U => U.heap.size = sz ∧ va_P (dC, dI) vwP [(h0, .inr (16, [.ref q_1, .ref q_12, .ref q_17, .ref q_22, .ref q_24, .ref q_26, .ref q_28, .ref q_29, .ref q_31, .ref q_33, .ref q_35, .int 0, .ref q_37, .ref q_39, .ref q_41, .ref q_43, .ref q_45, .ref q_47, .ref q_49, .ref q_51, .ref q_53, .ref q_55, .ref q_57, .int 0, .ref q_59, .ref q_61, .ref q_63, .int (-1), .int 0, .int 0, .int 0, .int 0, .ref q_65, .int 0, .ref q_68, .int 0, .int (-1), .int 0, .int 0, .ref q_70, .ref q_72])), (q_68, .inl (cA_69, 8192, .inl f_0))] U.heap ∧ va_K (dC, dI) vwP [(cA_69, .byte)] U ∧ va_D (fun _ => True) [(h0, .inr (16, [.ref q_1, .ref q_12, .ref q_17, .ref q_22, .ref q_24, .ref q_26, .ref q_28, .ref q_29, .ref q_31, .ref q_33, .ref q_35, .int 0, .ref q_37, .ref q_39, .ref q_41, .ref q_43, .ref q_45, .ref q_47, .ref q_49, .ref q_51, .ref q_53, .ref q_55, .ref q_57, .int 0, .ref q_59, .ref q_61, .ref q_63, .int (-1), .int 0, .int 0, .int 0, .int 0, .ref q_65, .int 0, .ref q_68, .int 0, .int (-1), .int 0, .int 0, .ref q_70, .ref q_72])), (q_68, .inl (cA_69, 8192, .inl f_0))])) (va_Qv (fun _ : Unit => True) (fun (_ : Unit) (t : State) => ∃ (g0_9 : Nat → Int32), va_P (dC, dI) vwP [(h0, .inr (16, [.ref q_1, .ref q_12, .ref q_17, .ref q_22, .ref q_24, .ref q_26, .ref q_28, .ref q_29, .ref q_31, .ref q_33, .ref q_35, .int 0, .ref q_37, .ref q_39, .ref q_41, .ref q_43, .ref q_45, .ref q_47, .ref q_49, .ref q_51, .ref q_53, .ref q_55, .ref q_57, .int 0, .ref q_59, .ref q_61, .ref q_63, .int (-1), .int 0, .int 0, .int 0, .int 0, .ref q_65, .int 0, .ref q_68, .int 0, .int (-1), .int 0, .int 0, .ref q_70, .ref q_72])), (q_68, .inl (cA_69, 8192, .inl g0_9))] t.heap ∧ va_K (dC, dI) vwP [(cA_69, .byte)] t ∧ va_D (va_A [(h0, .inr (16, [.ref q_1, .ref q_12, .ref q_17, .ref q_22, .ref q_24, .ref q_26, .ref q_28, .ref q_29, .ref q_31, .ref q_33, .ref q_35, .int 0, .ref q_37, .ref q_39, .ref q_41, .ref q_43, .ref q_45, .ref q_47, .ref q_49, .ref q_51, .ref q_53, .ref q_55, .ref q_57, .int 0, .ref q_59, .ref q_61, .ref q_63, .int (-1), .int 0, .int 0, .int 0, .int 0, .ref q_65, .int 0, .ref q_68, .int 0, .int (-1), .int 0, .int 0, .ref q_70, .ref q_72])), (q_68, .inl (cA_69, 8192, .inl f_0))] sz) [(h0, .inr (16, [.ref q_1, .ref q_12, .ref q_17, .ref q_22, .ref q_24, .ref q_26, .ref q_28, .ref q_29, .ref q_31, .ref q_33, .ref q_35, .int 0, .ref q_37, .ref q_39, .ref q_41, .ref q_43, .ref q_45, .ref q_47, .ref q_49, .ref q_51, .ref q_53, .ref q_55, .ref q_57, .int 0, .ref q_59, .ref q_61, .ref q_63, .int (-1), .int 0, .int 0, .int 0, .int 0, .ref q_65, .int 0, .ref q_68, .int 0, .int (-1), .int 0, .int 0, .ref q_70, .ref q_72])), (q_68, .inl (cA_69, 8192, .inl g0_9))]) (va_A [(h0, .inr (16, [.ref q_1, .ref q_12, .ref q_17, .ref q_22, .ref q_24, .ref q_26, .ref q_28, .ref q_29, .ref q_31, .ref q_33, .ref q_35, .int 0, .ref q_37, .ref q_39, .ref q_41, .ref q_43, .ref q_45, .ref q_47, .ref q_49, .ref q_51, .ref q_53, .ref q_55, .ref q_57, .int 0, .ref q_59, .ref q_61, .ref q_63, .int (-1), .int 0, .int 0, .int 0, .int 0, .ref q_65, .int 0, .ref q_68, .int 0, .int (-1), .int 0, .int 0, .ref q_70, .ref q_72])), (q_68, .inl (cA_69, 8192, .inl f_0))] sz)) 0 0 (va_A [(h0, .inr (16, [.ref q_1, .ref q_12, .ref q_17, .ref q_22, .ref q_24, .ref q_26, .ref q_28, .ref q_29, .ref q_31, .ref q_33, .ref q_35, .int 0, .ref q_37, .ref q_39, .ref q_41, .ref q_43, .ref q_45, .ref q_47, .ref q_49, .ref q_51, .ref q_53, .ref q_55, .ref q_57, .int 0, .ref q_59, .ref q_61, .ref q_63, .int (-1), .int 0, .int 0, .int 0, .int 0, .ref q_65, .int 0, .ref q_68, .int 0, .int (-1), .int 0, .int 0, .ref q_70, .ref q_72])), (q_68, .inl (cA_69, 8192, .inl f_0))] sz) := by
  refine Met.ofW (cc := cX19_word) (maxL := 4) (ret := none) (by decide) rfl ?_
  intro p e s m args below meth c s₁ B hml hv
  obtain ⟨rfl, hsz, hP, hK, hD0⟩ := hv
  have hx := B.exec
  have hb := B.bytes
  have hr := B.returns
  have hts := atoms_spec (ws := v_X19_word16) B.pre
  have hown : s.vm.findClass RX19 = some m.cls := findClass_of_methodNamed B.named
  have hlocks := B.notSynchronized
  have ow : ∀ {k : Nat} {w : Cond}, o_X19_word16[k]? = some w → w.before ([.ref h0, .int p0, .int 16] : List Value).toArray s = true := fun h => hts _ (mow_X19_word16 _ (List.mem_of_getElem? h))
  subst hsz
  have hD := hD0.self (sz := s.heap.size)
  generalize hAe : va_A [(h0, .inr (16, [.ref q_1, .ref q_12, .ref q_17, .ref q_22, .ref q_24, .ref q_26, .ref q_28, .ref q_29, .ref q_31, .ref q_33, .ref q_35, .int 0, .ref q_37, .ref q_39, .ref q_41, .ref q_43, .ref q_45, .ref q_47, .ref q_49, .ref q_51, .ref q_53, .ref q_55, .ref q_57, .int 0, .ref q_59, .ref q_61, .ref q_63, .int (-1), .int 0, .int 0, .int 0, .int 0, .ref q_65, .int 0, .ref q_68, .int 0, .int (-1), .int 0, .int 0, .ref q_70, .ref q_72])), (q_68, .inl (cA_69, 8192, .inl f_0))] s.heap.size = A at hD ⊢
  have hA : ∀ q : Nat, s.heap.size ≤ q → A q := fun q h => by rw [← hAe]; exact Or.inr h
  have hS : va_S A s.heap s.heap [] := va_S.rf
  have hP : va_P (dC, dI) vwP [(h0, .inr (16, [.ref q_1, .ref q_12, .ref q_17, .ref q_22, .ref q_24, .ref q_26, .ref q_28, .ref q_29, .ref q_31, .ref q_33, .ref q_35, .int 0, .ref q_37, .ref q_39, .ref q_41, .ref q_43, .ref q_45, .ref q_47, .ref q_49, .ref q_51, .ref q_53, .ref q_55, .ref q_57, .int 0, .ref q_59, .ref q_61, .ref q_63, .int (-1), .int 0, .int 0, .int 0, .int 0, .ref q_65, .int 0, .ref q_68, .int 0, .int (-1), .int 0, .int 0, .ref q_70, .ref q_72])), (q_68, .inl (cA_69, 8192, .inl f_0))] s.heap := hP
  have hl := lv_entry ([.ref h0, .int p0, .int 16]) (n := 4) (Nat.le_of_ble_eq_true rfl)
  rw [lg_entry_eq]
  generalize (lg_sl ([.ref h0, .int p0, .int 16]) ++ List.replicate (4 - (lg_sl ([.ref h0, .int p0, .int 16])).length) Slot.unset).toArray = ls at hl ⊢
  have hl : lv_has ls 4 [(0, .ref h0), (1, .int p0), (2, .int 16)] := hl
  obtain ⟨H, hH⟩ : ∃ H, H = s.heap := ⟨_, rfl⟩
  rw [← hH] at hP
  have hS : va_S A s.heap H [] := by rw [hH]; exact hS
  rw [← hH]
  refine lv_iconst (v := 0) hx hb dX19_word_0 (by decide) ?_
  refine lv_istore_n (lv' := [(3, .int 0), (0, .ref h0), (1, .int p0), (2, .int 16)]) hx hb dX19_word_1 rfl hl (by decide) rfl (fun ls hl => ?_)
  refine lv_iload_n hx hb dX19_word_2 rfl (lv_at hl 0 rfl) ?_
  refine lv_iconst (v := 4) hx hb dX19_word_3 (by decide) ?_
  refine lv_icmp_ge (tgt := 31) hx hb dX19_word_4 (by decide) (fun h9 => absurd h9 (by decide)) (fun _ => ?_)
  refine lv_aload_n hx hb dX19_word_7 rfl (lv_at hl 1 rfl) ?_
  refine va_get (D := (dC, dI)) (ci := 16) (v := .ref q_68) (C := RX19) (T := TX19) (N := 41) hx hb hts mem_X19_word16_0 hown hK hP 0 rfl rfl 34 (by decide) (ow (k := 0) rfl) (fun _ h9 => h9) rfl dX19_word_8 ?_
  refine lv_iload_n hx hb dX19_word_11 rfl (lv_at hl 3 rfl) ?_
  refine lv_iload_n hx hb dX19_word_12 rfl (lv_at hl 0 rfl) ?_
  refine lv_iadd hx hb dX19_word_13 ?_
  refine lv_topi (fun z ez => ?_)
  obtain rfl : z = 16 := by rw [ez]; decide
  refine lv_iload_n hx hb dX19_word_14 rfl (lv_at hl 2 rfl) ?_
  refine lv_bipush (v := 24) hx hb dX19_word_15 (by decide) ?_
  refine lv_bipush (v := 8) hx hb dX19_word_17 (by decide) ?_
  refine lv_iload_n hx hb dX19_word_19 rfl (lv_at hl 0 rfl) ?_
  refine lv_imul hx hb dX19_word_20 ?_
  refine lv_topi (fun z ez => ?_)
  obtain rfl : z = 0 := by rw [ez]; decide
  refine lv_isub hx hb dX19_word_21 ?_
  refine lv_topi (fun z ez => ?_)
  obtain rfl : z = 24 := by rw [ez]; decide
  refine lv_ishr hx hb dX19_word_22 ?_
  refine lv_i2b hx hb dX19_word_23 rfl ?_
  refine va_bast hx hb hK hP hD hS 1 0 rfl rfl (show vp_in 16 8192 by rw [vp_in_iff]; decide) dX19_word_24 (fun H locs hP hD hS => ?_)
  have hP : va_P (dC, dI) vwP [(h0, .inr (16, [.ref q_1, .ref q_12, .ref q_17, .ref q_22, .ref q_24, .ref q_26, .ref q_28, .ref q_29, .ref q_31, .ref q_33, .ref q_35, .int 0, .ref q_37, .ref q_39, .ref q_41, .ref q_43, .ref q_45, .ref q_47, .ref q_49, .ref q_51, .ref q_53, .ref q_55, .ref q_57, .int 0, .ref q_59, .ref q_61, .ref q_63, .int (-1), .int 0, .int 0, .int 0, .int 0, .ref q_65, .int 0, .ref q_68, .int 0, .int (-1), .int 0, .int 0, .ref q_70, .ref q_72])), (q_68, .inl (cA_69, 8192, .inl (upd f_0 (16 : Int32).toNatClampNeg (vp_nar .byte ((p0 >>> (24 &&& 31)).toInt8.toInt32)))))] H := hP
  have hD : va_D A [(h0, .inr (16, [.ref q_1, .ref q_12, .ref q_17, .ref q_22, .ref q_24, .ref q_26, .ref q_28, .ref q_29, .ref q_31, .ref q_33, .ref q_35, .int 0, .ref q_37, .ref q_39, .ref q_41, .ref q_43, .ref q_45, .ref q_47, .ref q_49, .ref q_51, .ref q_53, .ref q_55, .ref q_57, .int 0, .ref q_59, .ref q_61, .ref q_63, .int (-1), .int 0, .int 0, .int 0, .int 0, .ref q_65, .int 0, .ref q_68, .int 0, .int (-1), .int 0, .int 0, .ref q_70, .ref q_72])), (q_68, .inl (cA_69, 8192, .inl (upd f_0 (16 : Int32).toNatClampNeg (vp_nar .byte ((p0 >>> (24 &&& 31)).toInt8.toInt32)))))] := hD
  generalize (upd f_0 (16 : Int32).toNatClampNeg (vp_nar .byte ((p0 >>> (24 &&& 31)).toInt8.toInt32))) = f_2001 at hP hD
  refine lv_iinc (v := 1) (lv' := [(3, .int 1), (0, .ref h0), (1, .int p0), (2, .int 16)]) hx hb dX19_word_25 hl (k := 0) rfl (by decide) (by decide) rfl (fun ls hl => ?_)
  refine lv_goto (tgt := 2) hx hb dX19_word_28 (by decide) ?_
  refine lv_iload_n hx hb dX19_word_2 rfl (lv_at hl 0 rfl) ?_
  refine lv_iconst (v := 4) hx hb dX19_word_3 (by decide) ?_
  refine lv_icmp_ge (tgt := 31) hx hb dX19_word_4 (by decide) (fun h9 => absurd h9 (by decide)) (fun _ => ?_)
  refine lv_aload_n hx hb dX19_word_7 rfl (lv_at hl 1 rfl) ?_
  refine va_get (D := (dC, dI)) (ci := 16) (v := .ref q_68) (C := RX19) (T := TX19) (N := 41) hx hb hts mem_X19_word16_0 hown hK hP 0 rfl rfl 34 (by decide) (ow (k := 0) rfl) (fun _ h9 => h9) rfl dX19_word_8 ?_
  refine lv_iload_n hx hb dX19_word_11 rfl (lv_at hl 3 rfl) ?_
  refine lv_iload_n hx hb dX19_word_12 rfl (lv_at hl 0 rfl) ?_
  refine lv_iadd hx hb dX19_word_13 ?_
  refine lv_topi (fun z ez => ?_)
  obtain rfl : z = 17 := by rw [ez]; decide
  refine lv_iload_n hx hb dX19_word_14 rfl (lv_at hl 2 rfl) ?_
  refine lv_bipush (v := 24) hx hb dX19_word_15 (by decide) ?_
  refine lv_bipush (v := 8) hx hb dX19_word_17 (by decide) ?_
  refine lv_iload_n hx hb dX19_word_19 rfl (lv_at hl 0 rfl) ?_
  refine lv_imul hx hb dX19_word_20 ?_
  refine lv_topi (fun z ez => ?_)
  obtain rfl : z = 8 := by rw [ez]; decide
  refine lv_isub hx hb dX19_word_21 ?_
  refine lv_topi (fun z ez => ?_)
  obtain rfl : z = 16 := by rw [ez]; decide
  refine lv_ishr hx hb dX19_word_22 ?_
  refine lv_i2b hx hb dX19_word_23 rfl ?_
  refine va_bast hx hb hK hP hD hS 1 0 rfl rfl (show vp_in 17 8192 by rw [vp_in_iff]; decide) dX19_word_24 (fun H locs hP hD hS => ?_)
  have hP : va_P (dC, dI) vwP [(h0, .inr (16, [.ref q_1, .ref q_12, .ref q_17, .ref q_22, .ref q_24, .ref q_26, .ref q_28, .ref q_29, .ref q_31, .ref q_33, .ref q_35, .int 0, .ref q_37, .ref q_39, .ref q_41, .ref q_43, .ref q_45, .ref q_47, .ref q_49, .ref q_51, .ref q_53, .ref q_55, .ref q_57, .int 0, .ref q_59, .ref q_61, .ref q_63, .int (-1), .int 0, .int 0, .int 0, .int 0, .ref q_65, .int 0, .ref q_68, .int 0, .int (-1), .int 0, .int 0, .ref q_70, .ref q_72])), (q_68, .inl (cA_69, 8192, .inl (upd f_2001 (17 : Int32).toNatClampNeg (vp_nar .byte ((p0 >>> (16 &&& 31)).toInt8.toInt32)))))] H := hP
  have hD : va_D A [(h0, .inr (16, [.ref q_1, .ref q_12, .ref q_17, .ref q_22, .ref q_24, .ref q_26, .ref q_28, .ref q_29, .ref q_31, .ref q_33, .ref q_35, .int 0, .ref q_37, .ref q_39, .ref q_41, .ref q_43, .ref q_45, .ref q_47, .ref q_49, .ref q_51, .ref q_53, .ref q_55, .ref q_57, .int 0, .ref q_59, .ref q_61, .ref q_63, .int (-1), .int 0, .int 0, .int 0, .int 0, .ref q_65, .int 0, .ref q_68, .int 0, .int (-1), .int 0, .int 0, .ref q_70, .ref q_72])), (q_68, .inl (cA_69, 8192, .inl (upd f_2001 (17 : Int32).toNatClampNeg (vp_nar .byte ((p0 >>> (16 &&& 31)).toInt8.toInt32)))))] := hD
  generalize (upd f_2001 (17 : Int32).toNatClampNeg (vp_nar .byte ((p0 >>> (16 &&& 31)).toInt8.toInt32))) = f_2002 at hP hD
  refine lv_iinc (v := 2) (lv' := [(3, .int 2), (0, .ref h0), (1, .int p0), (2, .int 16)]) hx hb dX19_word_25 hl (k := 0) rfl (by decide) (by decide) rfl (fun ls hl => ?_)
  refine lv_goto (tgt := 2) hx hb dX19_word_28 (by decide) ?_
  refine lv_iload_n hx hb dX19_word_2 rfl (lv_at hl 0 rfl) ?_
  refine lv_iconst (v := 4) hx hb dX19_word_3 (by decide) ?_
  refine lv_icmp_ge (tgt := 31) hx hb dX19_word_4 (by decide) (fun h9 => absurd h9 (by decide)) (fun _ => ?_)
  refine lv_aload_n hx hb dX19_word_7 rfl (lv_at hl 1 rfl) ?_
  refine va_get (D := (dC, dI)) (ci := 16) (v := .ref q_68) (C := RX19) (T := TX19) (N := 41) hx hb hts mem_X19_word16_0 hown hK hP 0 rfl rfl 34 (by decide) (ow (k := 0) rfl) (fun _ h9 => h9) rfl dX19_word_8 ?_
  refine lv_iload_n hx hb dX19_word_11 rfl (lv_at hl 3 rfl) ?_
  refine lv_iload_n hx hb dX19_word_12 rfl (lv_at hl 0 rfl) ?_
  refine lv_iadd hx hb dX19_word_13 ?_
  refine lv_topi (fun z ez => ?_)
  obtain rfl : z = 18 := by rw [ez]; decide
  refine lv_iload_n hx hb dX19_word_14 rfl (lv_at hl 2 rfl) ?_
  refine lv_bipush (v := 24) hx hb dX19_word_15 (by decide) ?_
  refine lv_bipush (v := 8) hx hb dX19_word_17 (by decide) ?_
  refine lv_iload_n hx hb dX19_word_19 rfl (lv_at hl 0 rfl) ?_
  refine lv_imul hx hb dX19_word_20 ?_
  refine lv_topi (fun z ez => ?_)
  obtain rfl : z = 16 := by rw [ez]; decide
  refine lv_isub hx hb dX19_word_21 ?_
  refine lv_topi (fun z ez => ?_)
  obtain rfl : z = 8 := by rw [ez]; decide
  refine lv_ishr hx hb dX19_word_22 ?_
  refine lv_i2b hx hb dX19_word_23 rfl ?_
  refine va_bast hx hb hK hP hD hS 1 0 rfl rfl (show vp_in 18 8192 by rw [vp_in_iff]; decide) dX19_word_24 (fun H locs hP hD hS => ?_)
  have hP : va_P (dC, dI) vwP [(h0, .inr (16, [.ref q_1, .ref q_12, .ref q_17, .ref q_22, .ref q_24, .ref q_26, .ref q_28, .ref q_29, .ref q_31, .ref q_33, .ref q_35, .int 0, .ref q_37, .ref q_39, .ref q_41, .ref q_43, .ref q_45, .ref q_47, .ref q_49, .ref q_51, .ref q_53, .ref q_55, .ref q_57, .int 0, .ref q_59, .ref q_61, .ref q_63, .int (-1), .int 0, .int 0, .int 0, .int 0, .ref q_65, .int 0, .ref q_68, .int 0, .int (-1), .int 0, .int 0, .ref q_70, .ref q_72])), (q_68, .inl (cA_69, 8192, .inl (upd f_2002 (18 : Int32).toNatClampNeg (vp_nar .byte ((p0 >>> (8 &&& 31)).toInt8.toInt32)))))] H := hP
  have hD : va_D A [(h0, .inr (16, [.ref q_1, .ref q_12, .ref q_17, .ref q_22, .ref q_24, .ref q_26, .ref q_28, .ref q_29, .ref q_31, .ref q_33, .ref q_35, .int 0, .ref q_37, .ref q_39, .ref q_41, .ref q_43, .ref q_45, .ref q_47, .ref q_49, .ref q_51, .ref q_53, .ref q_55, .ref q_57, .int 0, .ref q_59, .ref q_61, .ref q_63, .int (-1), .int 0, .int 0, .int 0, .int 0, .ref q_65, .int 0, .ref q_68, .int 0, .int (-1), .int 0, .int 0, .ref q_70, .ref q_72])), (q_68, .inl (cA_69, 8192, .inl (upd f_2002 (18 : Int32).toNatClampNeg (vp_nar .byte ((p0 >>> (8 &&& 31)).toInt8.toInt32)))))] := hD
  generalize (upd f_2002 (18 : Int32).toNatClampNeg (vp_nar .byte ((p0 >>> (8 &&& 31)).toInt8.toInt32))) = f_2003 at hP hD
  refine lv_iinc (v := 3) (lv' := [(3, .int 3), (0, .ref h0), (1, .int p0), (2, .int 16)]) hx hb dX19_word_25 hl (k := 0) rfl (by decide) (by decide) rfl (fun ls hl => ?_)
  refine lv_goto (tgt := 2) hx hb dX19_word_28 (by decide) ?_
  refine lv_iload_n hx hb dX19_word_2 rfl (lv_at hl 0 rfl) ?_
  refine lv_iconst (v := 4) hx hb dX19_word_3 (by decide) ?_
  refine lv_icmp_ge (tgt := 31) hx hb dX19_word_4 (by decide) (fun h9 => absurd h9 (by decide)) (fun _ => ?_)
  refine lv_aload_n hx hb dX19_word_7 rfl (lv_at hl 1 rfl) ?_
  refine va_get (D := (dC, dI)) (ci := 16) (v := .ref q_68) (C := RX19) (T := TX19) (N := 41) hx hb hts mem_X19_word16_0 hown hK hP 0 rfl rfl 34 (by decide) (ow (k := 0) rfl) (fun _ h9 => h9) rfl dX19_word_8 ?_
  refine lv_iload_n hx hb dX19_word_11 rfl (lv_at hl 3 rfl) ?_
  refine lv_iload_n hx hb dX19_word_12 rfl (lv_at hl 0 rfl) ?_
  refine lv_iadd hx hb dX19_word_13 ?_
  refine lv_topi (fun z ez => ?_)
  obtain rfl : z = 19 := by rw [ez]; decide
  refine lv_iload_n hx hb dX19_word_14 rfl (lv_at hl 2 rfl) ?_
  refine lv_bipush (v := 24) hx hb dX19_word_15 (by decide) ?_
  refine lv_bipush (v := 8) hx hb dX19_word_17 (by decide) ?_
  refine lv_iload_n hx hb dX19_word_19 rfl (lv_at hl 0 rfl) ?_
  refine lv_imul hx hb dX19_word_20 ?_
  refine lv_topi (fun z ez => ?_)
  obtain rfl : z = 24 := by rw [ez]; decide
  refine lv_isub hx hb dX19_word_21 ?_
  refine lv_topi (fun z ez => ?_)
  obtain rfl : z = 0 := by rw [ez]; decide
  refine lv_ishr hx hb dX19_word_22 ?_
  refine lv_i2b hx hb dX19_word_23 rfl ?_
  refine va_bast hx hb hK hP hD hS 1 0 rfl rfl (show vp_in 19 8192 by rw [vp_in_iff]; decide) dX19_word_24 (fun H locs hP hD hS => ?_)
  have hP : va_P (dC, dI) vwP [(h0, .inr (16, [.ref q_1, .ref q_12, .ref q_17, .ref q_22, .ref q_24, .ref q_26, .ref q_28, .ref q_29, .ref q_31, .ref q_33, .ref q_35, .int 0, .ref q_37, .ref q_39, .ref q_41, .ref q_43, .ref q_45, .ref q_47, .ref q_49, .ref q_51, .ref q_53, .ref q_55, .ref q_57, .int 0, .ref q_59, .ref q_61, .ref q_63, .int (-1), .int 0, .int 0, .int 0, .int 0, .ref q_65, .int 0, .ref q_68, .int 0, .int (-1), .int 0, .int 0, .ref q_70, .ref q_72])), (q_68, .inl (cA_69, 8192, .inl (upd f_2003 (19 : Int32).toNatClampNeg (vp_nar .byte ((p0 >>> (0 &&& 31)).toInt8.toInt32)))))] H := hP
  have hD : va_D A [(h0, .inr (16, [.ref q_1, .ref q_12, .ref q_17, .ref q_22, .ref q_24, .ref q_26, .ref q_28, .ref q_29, .ref q_31, .ref q_33, .ref q_35, .int 0, .ref q_37, .ref q_39, .ref q_41, .ref q_43, .ref q_45, .ref q_47, .ref q_49, .ref q_51, .ref q_53, .ref q_55, .ref q_57, .int 0, .ref q_59, .ref q_61, .ref q_63, .int (-1), .int 0, .int 0, .int 0, .int 0, .ref q_65, .int 0, .ref q_68, .int 0, .int (-1), .int 0, .int 0, .ref q_70, .ref q_72])), (q_68, .inl (cA_69, 8192, .inl (upd f_2003 (19 : Int32).toNatClampNeg (vp_nar .byte ((p0 >>> (0 &&& 31)).toInt8.toInt32)))))] := hD
  generalize (upd f_2003 (19 : Int32).toNatClampNeg (vp_nar .byte ((p0 >>> (0 &&& 31)).toInt8.toInt32))) = f_2004 at hP hD
  refine lv_iinc (v := 4) (lv' := [(3, .int 4), (0, .ref h0), (1, .int p0), (2, .int 16)]) hx hb dX19_word_25 hl (k := 0) rfl (by decide) (by decide) rfl (fun ls hl => ?_)
  refine lv_goto (tgt := 2) hx hb dX19_word_28 (by decide) ?_
  refine lv_iload_n hx hb dX19_word_2 rfl (lv_at hl 0 rfl) ?_
  refine lv_iconst (v := 4) hx hb dX19_word_3 (by decide) ?_
  refine lv_icmp_ge (tgt := 31) hx hb dX19_word_4 (by decide) (fun _ => ?_) (fun h9 => absurd h9 (by decide))
  refine W.widen (k := 0) (n := 0) (Nat.le_of_ble_eq_true rfl) (Nat.le_of_ble_eq_true rfl) ?_
  exact W.vret hx hb hr (fun t ht hW => ⟨⟨(), rfl, trivial, f_2004, by rw [ht]; exact hP, va_K.moved hW.alike hK, hD⟩, hS.F ht⟩) hS.2.2 dX19_word_31
theorem dX19_feed_0 : decode cX19_feed 0 = .ok (.aload_n 0, 1) := by decide +kernel
theorem dX19_feed_1 : decode cX19_feed 1 = .ok (.iconst 0, 1) := by decide +kernel
theorem dX19_feed_2 : decode cX19_feed 2 = .ok (.putfield 560, 3) := by decide +kernel
theorem dX19_feed_5 : decode cX19_feed 5 = .ok (.aload_n 0, 1) := by decide +kernel
theorem dX19_feed_6 : decode cX19_feed 6 = .ok (.getfield 563, 3) := by decide +kernel
theorem dX19_feed_9 : decode cX19_feed 9 = .ok (.bipush 20, 2) := by decide +kernel
theorem dX19_feed_11 : decode cX19_feed 11 = .ok (.iadd, 1) := by decide +kernel
theorem dX19_feed_12 : decode cX19_feed 12 = .ok (.sipush 8192, 3) := by decide +kernel
theorem dX19_feed_15 : decode cX19_feed 15 = .ok (.if_icmp .le 9, 3) := by decide +kernel
theorem dX19_feed_24 : decode cX19_feed 24 = .ok (.aload_n 0, 1) := by decide +kernel
theorem dX19_feed_25 : decode cX19_feed 25 = .ok (.iload_n 1, 1) := by decide +kernel
theorem dX19_feed_26 : decode cX19_feed 26 = .ok (.aload_n 0, 1) := by decide +kernel
theorem dX19_feed_27 : decode cX19_feed 27 = .ok (.getfield 563, 3) := by decide +kernel
theorem dX19_feed_30 : decode cX19_feed 30 = .ok (.invokevirtual 568, 3) := by decide +kernel
theorem dX19_feed_33 : decode cX19_feed 33 = .ok (.aload_n 0, 1) := by decide +kernel
theorem dX19_feed_34 : decode cX19_feed 34 = .ok (.iload_n 2, 1) := by decide +kernel
theorem dX19_feed_35 : decode cX19_feed 35 = .ok (.aload_n 0, 1) := by decide +kernel
theorem dX19_feed_36 : decode cX19_feed 36 = .ok (.getfield 563, 3) := by decide +kernel
theorem dX19_feed_39 : decode cX19_feed 39 = .ok (.iconst 4, 1) := by decide +kernel
theorem dX19_feed_40 : decode cX19_feed 40 = .ok (.iadd, 1) := by decide +kernel
theorem dX19_feed_41 : decode cX19_feed 41 = .ok (.invokevirtual 568, 3) := by decide +kernel
theorem dX19_feed_44 : decode cX19_feed 44 = .ok (.aload_n 0, 1) := by decide +kernel
theorem dX19_feed_45 : decode cX19_feed 45 = .ok (.iload_n 3, 1) := by decide +kernel
theorem dX19_feed_46 : decode cX19_feed 46 = .ok (.aload_n 0, 1) := by decide +kernel
theorem dX19_feed_47 : decode cX19_feed 47 = .ok (.getfield 563, 3) := by decide +kernel
theorem dX19_feed_50 : decode cX19_feed 50 = .ok (.bipush 8, 2) := by decide +kernel
theorem dX19_feed_52 : decode cX19_feed 52 = .ok (.iadd, 1) := by decide +kernel
theorem dX19_feed_53 : decode cX19_feed 53 = .ok (.invokevirtual 568, 3) := by decide +kernel
theorem dX19_feed_56 : decode cX19_feed 56 = .ok (.aload_n 0, 1) := by decide +kernel
theorem dX19_feed_57 : decode cX19_feed 57 = .ok (.iload 4, 2) := by decide +kernel
theorem dX19_feed_59 : decode cX19_feed 59 = .ok (.aload_n 0, 1) := by decide +kernel
theorem dX19_feed_60 : decode cX19_feed 60 = .ok (.getfield 563, 3) := by decide +kernel
theorem dX19_feed_63 : decode cX19_feed 63 = .ok (.bipush 12, 2) := by decide +kernel
theorem dX19_feed_65 : decode cX19_feed 65 = .ok (.iadd, 1) := by decide +kernel
theorem dX19_feed_66 : decode cX19_feed 66 = .ok (.invokevirtual 568, 3) := by decide +kernel
theorem dX19_feed_69 : decode cX19_feed 69 = .ok (.aload_n 0, 1) := by decide +kernel
theorem dX19_feed_70 : decode cX19_feed 70 = .ok (.iload 5, 2) := by decide +kernel
theorem dX19_feed_72 : decode cX19_feed 72 = .ok (.aload_n 0, 1) := by decide +kernel
theorem dX19_feed_73 : decode cX19_feed 73 = .ok (.getfield 563, 3) := by decide +kernel
theorem dX19_feed_76 : decode cX19_feed 76 = .ok (.bipush 16, 2) := by decide +kernel
theorem dX19_feed_78 : decode cX19_feed 78 = .ok (.iadd, 1) := by decide +kernel
theorem dX19_feed_79 : decode cX19_feed 79 = .ok (.invokevirtual 568, 3) := by decide +kernel
theorem dX19_feed_82 : decode cX19_feed 82 = .ok (.aload_n 0, 1) := by decide +kernel
theorem dX19_feed_83 : decode cX19_feed 83 = .ok (.dup, 1) := by decide +kernel
theorem dX19_feed_84 : decode cX19_feed 84 = .ok (.getfield 563, 3) := by decide +kernel
theorem dX19_feed_87 : decode cX19_feed 87 = .ok (.bipush 20, 2) := by decide +kernel
theorem dX19_feed_89 : decode cX19_feed 89 = .ok (.iadd, 1) := by decide +kernel
theorem dX19_feed_90 : decode cX19_feed 90 = .ok (.putfield 563, 3) := by decide +kernel
theorem dX19_feed_93 : decode cX19_feed 93 = .ok (.aload_n 0, 1) := by decide +kernel
theorem dX19_feed_94 : decode cX19_feed 94 = .ok (.getfield 563, 3) := by decide +kernel
theorem dX19_feed_97 : decode cX19_feed 97 = .ok (.ireturn, 1) := by decide +kernel
def o_X19_feed : List Cond := [.fieldLink RX19 560 "SsaForgeModel" "thrown" "I", .fieldLink RX19 563 "SsaForgeModel" "size" "I", .methodLink RX19 568 yX19_word, .instanceMethod yX19_word, .selects RX19 yX19_word yX19_word, .initialized RX19]
def v_X19_feed : List Cond := .code yX19_feed cX19_feed 6 (some .int) :: (o_X19_feed ++ (wsX190 ++ (v_X19_word0 ++ (v_X19_word4 ++ (v_X19_word8 ++ (v_X19_word12 ++ (v_X19_word16 ++ [])))))))
theorem mow_X19_feed : ∀ w ∈ o_X19_feed, w ∈ v_X19_feed := fun _ h => List.mem_cons_of_mem _ (List.mem_append_left _ h)
theorem mem_X19_feed_0 : ∀ w ∈ wsX190, w ∈ v_X19_feed := fun _ h => List.mem_cons_of_mem _ (List.mem_append_right _ (List.mem_append_left _ h))
theorem mem_X19_feed_1 : ∀ w ∈ v_X19_word0, w ∈ v_X19_feed := fun _ h => List.mem_cons_of_mem _ (List.mem_append_right _ (List.mem_append_right _ (List.mem_append_left _ h)))
theorem mem_X19_feed_2 : ∀ w ∈ v_X19_word4, w ∈ v_X19_feed := fun _ h => List.mem_cons_of_mem _ (List.mem_append_right _ (List.mem_append_right _ (List.mem_append_right _ (List.mem_append_left _ h))))
theorem mem_X19_feed_3 : ∀ w ∈ v_X19_word8, w ∈ v_X19_feed := fun _ h => List.mem_cons_of_mem _ (List.mem_append_right _ (List.mem_append_right _ (List.mem_append_right _ (List.mem_append_right _ (List.mem_append_left _ h)))))
theorem mem_X19_feed_4 : ∀ w ∈ v_X19_word12, w ∈ v_X19_feed := fun _ h => List.mem_cons_of_mem _ (List.mem_append_right _ (List.mem_append_right _ (List.mem_append_right _ (List.mem_append_right _ (List.mem_append_right _ (List.mem_append_left _ h))))))
theorem mem_X19_feed_5 : ∀ w ∈ v_X19_word16, w ∈ v_X19_feed := fun _ h => List.mem_cons_of_mem _ (List.mem_append_right _ (List.mem_append_right _ (List.mem_append_right _ (List.mem_append_right _ (List.mem_append_right _ (List.mem_append_right _ (List.mem_append_left _ h)))))))
set_option maxRecDepth 20000 in
theorem gw_X19_feed : v_X19_feed.all goodWord = true := by decide +kernel
set_option maxRecDepth 20000 in
theorem g_X19_feed_X19_word0 : GoodIn v_X19_feed (wsV RX19 568 RX19 yX19_word v_X19_word0) := goodIn_app (goodIn_sub (fun w h => mow_X19_feed w (by revert w h; decide +kernel)) (by decide +kernel)) (goodIn_sub mem_X19_feed_1 gw_X19_word0)
set_option maxRecDepth 20000 in
theorem g_X19_feed_X19_word4 : GoodIn v_X19_feed (wsV RX19 568 RX19 yX19_word v_X19_word4) := goodIn_app (goodIn_sub (fun w h => mow_X19_feed w (by revert w h; decide +kernel)) (by decide +kernel)) (goodIn_sub mem_X19_feed_2 gw_X19_word4)
set_option maxRecDepth 20000 in
theorem g_X19_feed_X19_word8 : GoodIn v_X19_feed (wsV RX19 568 RX19 yX19_word v_X19_word8) := goodIn_app (goodIn_sub (fun w h => mow_X19_feed w (by revert w h; decide +kernel)) (by decide +kernel)) (goodIn_sub mem_X19_feed_3 gw_X19_word8)
set_option maxRecDepth 20000 in
theorem g_X19_feed_X19_word12 : GoodIn v_X19_feed (wsV RX19 568 RX19 yX19_word v_X19_word12) := goodIn_app (goodIn_sub (fun w h => mow_X19_feed w (by revert w h; decide +kernel)) (by decide +kernel)) (goodIn_sub mem_X19_feed_4 gw_X19_word12)
set_option maxRecDepth 20000 in
theorem g_X19_feed_X19_word16 : GoodIn v_X19_feed (wsV RX19 568 RX19 yX19_word v_X19_word16) := goodIn_app (goodIn_sub (fun w h => mow_X19_feed w (by revert w h; decide +kernel)) (by decide +kernel)) (goodIn_sub mem_X19_feed_5 gw_X19_word16)
set_option maxHeartbeats 4000000 in
set_option maxRecDepth 100000 in
theorem c_X19_feed (l : Launch) (dC : Nat → ClassId) (dI : Nat → Nat → Nat) (h0 : Nat) (q_1 : Nat) (q_12 : Nat) (q_17 : Nat) (q_22 : Nat) (q_24 : Nat) (q_26 : Nat) (q_28 : Nat) (q_29 : Nat) (q_31 : Nat) (q_33 : Nat) (q_35 : Nat) (q_37 : Nat) (q_39 : Nat) (q_41 : Nat) (q_43 : Nat) (q_45 : Nat) (q_47 : Nat) (q_49 : Nat) (q_51 : Nat) (q_53 : Nat) (q_55 : Nat) (q_57 : Nat) (q_59 : Nat) (q_61 : Nat) (q_63 : Nat) (q_65 : Nat) (q_68 : Nat) (q_70 : Nat) (q_72 : Nat) (cA_69 : ClassId) (p0 : Int32) (p1 : Int32) (p2 : Int32) (p3 : Int32) (p4 : Int32) (sz : Nat) : Met l yX19_feed v_X19_feed ({ frames := 1, cells := 0, slots := 0, locals := 23 }) (va_Pc [.ref h0, .int p0, .int p1, .int p2, .int p3, .int p4] (fun U => U.heap.size = sz ∧ va_P (dC, dI) vwP [(h0, .inr (16, [.ref q_1, .ref q_12, .ref q_17, .ref q_22, .ref q_24, .ref q_26, .ref q_28, .ref q_29, .ref q_31, .ref q_33, .ref q_35, .int 0, .ref q_37, .ref q_39, .ref q_41, .ref q_43, .ref q_45, .ref q_47, .ref q_49, .ref q_51, .ref q_53, .ref q_55, .ref q_57, .int 0, .ref q_59, .ref q_61, .ref q_63, .int (-1), .int 0, .int 0, .int 0, .int 0, .ref q_65, .int 0, .ref q_68, .int 0, .int (-1), .int 0, .int 0, .ref q_70, .ref q_72])), (q_68, .inl (cA_69, 8192, .inl (fun _ => 0)))] U.heap ∧ va_K (dC, dI) vwP [(cA_69, .byte)] U ∧ va_D (fun _ => True) [(h0, .inr (16, [.ref q_1, .ref q_12, .ref q_17, .ref q_22, .ref q_24, .ref q_26, .ref q_28, .ref q_29, .ref q_31, .ref q_33, .ref q_35, .int 0, .ref q_37, .ref q_39, .ref q_41, .ref q_43, .ref q_45, .ref q_47, .ref q_49, .ref q_51, .ref q_53, .ref q_55, .ref q_57, .int 0, .ref q_59, .ref q_61, .ref q_63, .int (-1), .int 0, .int 0, .int 0, .int 0, .ref q_65, .int 0, .ref q_68, .int 0, .int (-1), .int 0, .int 0, .ref q_70, .ref q_72])), (q_68, .inl (cA_69, 8192, .inl (fun _ => 0)))])) (va_Qi (fun (r : Int32) (_ : Unit) => kf_feed = 0 → r = vf_feed) (fun (_ : Unit) (t : State) => ∃ (i_33 : Int32) (i_35 : Int32) (i_36 : Int32) (i_37 : Int32) (q_940 : Nat), (i_33 = kf_feed) ∧ va_P (dC, dI) vwP [(h0, .inr (16, [.ref q_1, .ref q_12, .ref q_17, .ref q_22, .ref q_24, .ref q_26, .ref q_28, .ref q_29, .ref q_31, .ref q_33, .ref q_35, .int 0, .ref q_37, .ref q_39, .ref q_41, .ref q_43, .ref q_45, .ref q_47, .ref q_49, .ref q_51, .ref q_53, .ref q_55, .ref q_57, .int 0, .ref q_59, .ref q_61, .ref q_63, .int (-1), .int 0, .int 0, .int 0, .int 0, .ref q_65, .int i_33, .ref q_68, .int i_35, .int i_36, .int i_37, .int 0, .ref q_70, .ref q_940]))] t.heap ∧ va_K (dC, dI) vwP [] t ∧ va_D (va_A [(h0, .inr (16, [.ref q_1, .ref q_12, .ref q_17, .ref q_22, .ref q_24, .ref q_26, .ref q_28, .ref q_29, .ref q_31, .ref q_33, .ref q_35, .int 0, .ref q_37, .ref q_39, .ref q_41, .ref q_43, .ref q_45, .ref q_47, .ref q_49, .ref q_51, .ref q_53, .ref q_55, .ref q_57, .int 0, .ref q_59, .ref q_61, .ref q_63, .int (-1), .int 0, .int 0, .int 0, .int 0, .ref q_65, .int 0, .ref q_68, .int 0, .int (-1), .int 0, .int 0, .ref q_70, .ref q_72])), (q_68, .inl (cA_69, 8192, .inl (fun _ => 0)))] sz) [(h0, .inr (16, [.ref q_1, .ref q_12, .ref q_17, .ref q_22, .ref q_24, .ref q_26, .ref q_28, .ref q_29, .ref q_31, .ref q_33, .ref q_35, .int 0, .ref q_37, .ref q_39, .ref q_41, .ref q_43, .ref q_45, .ref q_47, .ref q_49, .ref q_51, .ref q_53, .ref q_55, .ref q_57, .int 0, .ref q_59, .ref q_61, .ref q_63, .int (-1), .int 0, .int 0, .int 0, .int 0, .ref q_65, .int i_33, .ref q_68, .int i_35, .int i_36, .int i_37, .int 0, .ref q_70, .ref q_940]))]) (va_A [(h0, .inr (16, [.ref q_1, .ref q_12, .ref q_17, .ref q_22, .ref q_24, .ref q_26, .ref q_28, .ref q_29, .ref q_31, .ref q_33, .ref q_35, .int 0, .ref q_37, .ref q_39, .ref q_41, .ref q_43, .ref q_45, .ref q_47, .ref q_49, .ref q_51, .ref q_53, .ref q_55, .ref q_57, .int 0, .ref q_59, .ref q_61, .ref q_63, .int (-1), .int 0, .int 0, .int 0, .int 0, .ref q_65, .int 0, .ref q_68, .int 0, .int (-1), .int 0, .int 0, .ref q_70, .ref q_72])), (q_68, .inl (cA_69, 8192, .inl (fun _ => 0)))] sz)) 0 0 (va_A [(h0, .inr (16, [.ref q_1, .ref q_12, .ref q_17, .ref q_22, .ref q_24, .ref q_26, .ref q_28, .ref q_29, .ref q_31, .ref q_33, .ref q_35, .int 0, .ref q_37, .ref q_39, .ref q_41, .ref q_43, .ref q_45, .ref q_47, .ref q_49, .ref q_51, .ref q_53, .ref q_55, .ref q_57, .int 0, .ref q_59, .ref q_61, .ref q_63, .int (-1), .int 0, .int 0, .int 0, .int 0, .ref q_65, .int 0, .ref q_68, .int 0, .int (-1), .int 0, .int 0, .ref q_70, .ref q_72])), (q_68, .inl (cA_69, 8192, .inl (fun _ => 0)))] sz) := by
  refine Met.ofW (cc := cX19_feed) (maxL := 6) (ret := (some .int)) (by decide) rfl ?_
  intro p e s m args below meth c s₁ B hml hv
  obtain ⟨rfl, hsz, hP, hK, hD0⟩ := hv
  have hx := B.exec
  have hb := B.bytes
  have hr := B.returns
  have hts := atoms_spec (ws := v_X19_feed) B.pre
  have hown : s.vm.findClass RX19 = some m.cls := findClass_of_methodNamed B.named
  have hlocks := B.notSynchronized
  have ow : ∀ {k : Nat} {w : Cond}, o_X19_feed[k]? = some w → w.before ([.ref h0, .int p0, .int p1, .int p2, .int p3, .int p4] : List Value).toArray s = true := fun h => hts _ (mow_X19_feed _ (List.mem_of_getElem? h))
  subst hsz
  have hD := hD0.self (sz := s.heap.size)
  generalize hAe : va_A [(h0, .inr (16, [.ref q_1, .ref q_12, .ref q_17, .ref q_22, .ref q_24, .ref q_26, .ref q_28, .ref q_29, .ref q_31, .ref q_33, .ref q_35, .int 0, .ref q_37, .ref q_39, .ref q_41, .ref q_43, .ref q_45, .ref q_47, .ref q_49, .ref q_51, .ref q_53, .ref q_55, .ref q_57, .int 0, .ref q_59, .ref q_61, .ref q_63, .int (-1), .int 0, .int 0, .int 0, .int 0, .ref q_65, .int 0, .ref q_68, .int 0, .int (-1), .int 0, .int 0, .ref q_70, .ref q_72])), (q_68, .inl (cA_69, 8192, .inl (fun _ => 0)))] s.heap.size = A at hD ⊢
  have hA : ∀ q : Nat, s.heap.size ≤ q → A q := fun q h => by rw [← hAe]; exact Or.inr h
  have hS : va_S A s.heap s.heap [] := va_S.rf
  have hP : va_P (dC, dI) vwP [(h0, .inr (16, [.ref q_1, .ref q_12, .ref q_17, .ref q_22, .ref q_24, .ref q_26, .ref q_28, .ref q_29, .ref q_31, .ref q_33, .ref q_35, .int 0, .ref q_37, .ref q_39, .ref q_41, .ref q_43, .ref q_45, .ref q_47, .ref q_49, .ref q_51, .ref q_53, .ref q_55, .ref q_57, .int 0, .ref q_59, .ref q_61, .ref q_63, .int (-1), .int 0, .int 0, .int 0, .int 0, .ref q_65, .int 0, .ref q_68, .int 0, .int (-1), .int 0, .int 0, .ref q_70, .ref q_72])), (q_68, .inl (cA_69, 8192, .inl (fun _ => 0)))] s.heap := hP
  have hl := lv_entry ([.ref h0, .int p0, .int p1, .int p2, .int p3, .int p4]) (n := 6) (Nat.le_of_ble_eq_true rfl)
  rw [lg_entry_eq]
  generalize (lg_sl ([.ref h0, .int p0, .int p1, .int p2, .int p3, .int p4]) ++ List.replicate (6 - (lg_sl ([.ref h0, .int p0, .int p1, .int p2, .int p3, .int p4])).length) Slot.unset).toArray = ls at hl ⊢
  have hl : lv_has ls 6 [(0, .ref h0), (1, .int p0), (2, .int p1), (3, .int p2), (4, .int p3), (5, .int p4)] := hl
  obtain ⟨H, hH⟩ : ∃ H, H = s.heap := ⟨_, rfl⟩
  rw [← hH] at hP
  have hS : va_S A s.heap H [] := by rw [hH]; exact hS
  rw [← hH]
  refine lv_aload_n hx hb dX19_feed_0 rfl (lv_at hl 0 rfl) ?_
  refine lv_iconst (v := 0) hx hb dX19_feed_1 (by decide) ?_
  refine va_put (D := (dC, dI)) (ci := 16) (v := .int 0) (ty := .int) (C := RX19) (T := TX19) (N := 41) hx hb hts mem_X19_feed_0 tyX19 tyX19_ok nmX19 hown hK hP hD hS 0 rfl rfl 33 (by decide) (ow (k := 0) rfl) (fun _ h9 => h9) rfl (by decide +kernel) rfl rfl (Nat.le_of_ble_eq_true rfl) dX19_feed_2 (fun H locs hP hD hS => ?_)
  have hP : va_P (dC, dI) vwP [(h0, .inr (16, [.ref q_1, .ref q_12, .ref q_17, .ref q_22, .ref q_24, .ref q_26, .ref q_28, .ref q_29, .ref q_31, .ref q_33, .ref q_35, .int 0, .ref q_37, .ref q_39, .ref q_41, .ref q_43, .ref q_45, .ref q_47, .ref q_49, .ref q_51, .ref q_53, .ref q_55, .ref q_57, .int 0, .ref q_59, .ref q_61, .ref q_63, .int (-1), .int 0, .int 0, .int 0, .int 0, .ref q_65, .int 0, .ref q_68, .int 0, .int (-1), .int 0, .int 0, .ref q_70, .ref q_72])), (q_68, .inl (cA_69, 8192, .inl (fun _ => 0)))] H := hP
  have hD : va_D A [(h0, .inr (16, [.ref q_1, .ref q_12, .ref q_17, .ref q_22, .ref q_24, .ref q_26, .ref q_28, .ref q_29, .ref q_31, .ref q_33, .ref q_35, .int 0, .ref q_37, .ref q_39, .ref q_41, .ref q_43, .ref q_45, .ref q_47, .ref q_49, .ref q_51, .ref q_53, .ref q_55, .ref q_57, .int 0, .ref q_59, .ref q_61, .ref q_63, .int (-1), .int 0, .int 0, .int 0, .int 0, .ref q_65, .int 0, .ref q_68, .int 0, .int (-1), .int 0, .int 0, .ref q_70, .ref q_72])), (q_68, .inl (cA_69, 8192, .inl (fun _ => 0)))] := hD
  refine lv_aload_n hx hb dX19_feed_5 rfl (lv_at hl 0 rfl) ?_
  refine va_get (D := (dC, dI)) (ci := 16) (v := .int 0) (C := RX19) (T := TX19) (N := 41) hx hb hts mem_X19_feed_0 hown hK hP 0 rfl rfl 35 (by decide) (ow (k := 1) rfl) (fun _ h9 => h9) rfl dX19_feed_6 ?_
  refine lv_bipush (v := 20) hx hb dX19_feed_9 (by decide) ?_
  refine lv_iadd hx hb dX19_feed_11 ?_
  refine lv_topi (fun z ez => ?_)
  obtain rfl : z = 20 := by rw [ez]; decide
  refine lv_sipush (v := 8192) hx hb dX19_feed_12 (by decide) ?_
  refine lv_icmp_le (tgt := 24) hx hb dX19_feed_15 (by decide) (fun _ => ?_) (fun h9 => absurd h9 (by decide))
  refine lv_aload_n hx hb dX19_feed_24 rfl (lv_at hl 0 rfl) ?_
  refine lv_iload_n hx hb dX19_feed_25 rfl (lv_at hl 1 rfl) ?_
  refine lv_aload_n hx hb dX19_feed_26 rfl (lv_at hl 0 rfl) ?_
  refine va_get (D := (dC, dI)) (ci := 16) (v := .int 0) (C := RX19) (T := TX19) (N := 41) hx hb hts mem_X19_feed_0 hown hK hP 0 rfl rfl 35 (by decide) (ow (k := 1) rfl) (fun _ h9 => h9) rfl dX19_feed_27 ?_
  have hPc := hP.sub (ws' := [(h0, .inr (16, [.ref q_1, .ref q_12, .ref q_17, .ref q_22, .ref q_24, .ref q_26, .ref q_28, .ref q_29, .ref q_31, .ref q_33, .ref q_35, .int 0, .ref q_37, .ref q_39, .ref q_41, .ref q_43, .ref q_45, .ref q_47, .ref q_49, .ref q_51, .ref q_53, .ref q_55, .ref q_57, .int 0, .ref q_59, .ref q_61, .ref q_63, .int (-1), .int 0, .int 0, .int 0, .int 0, .ref q_65, .int 0, .ref q_68, .int 0, .int (-1), .int 0, .int 0, .ref q_70, .ref q_72])), (q_68, .inl (cA_69, 8192, .inl (fun _ => 0)))]) [0, 1] rfl
  have hDc := hD.sub (ws' := [(h0, .inr (16, [.ref q_1, .ref q_12, .ref q_17, .ref q_22, .ref q_24, .ref q_26, .ref q_28, .ref q_29, .ref q_31, .ref q_33, .ref q_35, .int 0, .ref q_37, .ref q_39, .ref q_41, .ref q_43, .ref q_45, .ref q_47, .ref q_49, .ref q_51, .ref q_53, .ref q_55, .ref q_57, .int 0, .ref q_59, .ref q_61, .ref q_63, .int (-1), .int 0, .int 0, .int 0, .int 0, .ref q_65, .int 0, .ref q_68, .int 0, .int (-1), .int 0, .int 0, .ref q_70, .ref q_72])), (q_68, .inl (cA_69, 8192, .inl (fun _ => 0)))]) [0, 1] (by decide) rfl
  have hKc := hK.sub (tys' := [(cA_69, .byte)]) [0] rfl
  have hFc := va_free (wc := [(h0, .inr (16, [.ref q_1, .ref q_12, .ref q_17, .ref q_22, .ref q_24, .ref q_26, .ref q_28, .ref q_29, .ref q_31, .ref q_33, .ref q_35, .int 0, .ref q_37, .ref q_39, .ref q_41, .ref q_43, .ref q_45, .ref q_47, .ref q_49, .ref q_51, .ref q_53, .ref q_55, .ref q_57, .int 0, .ref q_59, .ref q_61, .ref q_63, .int (-1), .int 0, .int 0, .int 0, .int 0, .ref q_65, .int 0, .ref q_68, .int 0, .int (-1), .int 0, .int 0, .ref q_70, .ref q_72])), (q_68, .inl (cA_69, 8192, .inl (fun _ => 0)))]) hD hS hA [0, 1] rfl
  refine va_callv (va_runV (As := [.int p0, .int 0]) (rest := []) ⟨hx, hb, hml, hown, hts⟩ (c_X19_word0 l dC dI h0 q_1 q_12 q_17 q_22 q_24 q_26 q_28 q_29 q_31 q_33 q_35 q_37 q_39 q_41 q_43 q_45 q_47 q_49 q_51 q_53 q_55 q_57 q_59 q_61 q_63 q_65 q_68 q_70 q_72 cA_69 ((fun _ => 0)) p0 H.size) (cwV 2 hts g_X19_feed_X19_word0 rfl rfl rfl (by decide +kernel) ⟨(Nat.le_of_ble_eq_true rfl), (Nat.le_of_ble_eq_true rfl)⟩) ⟨fun a U g mk q => by obtain ⟨q0, q1, qP, qK, qD⟩ := q; exact ⟨q0, q1, qP, va_K.moved (u := U) (U := U.calling g mk a) (Vm.Alike.refl U.vm) qK, qD⟩, va_recv hKc hPc (ci := 16) (q0 := 0) rfl rfl, fun U hU hW => ⟨rfl, by rw [hU], by rw [hU]; exact hPc, va_K.moved hW.alike hKc, hDc.weaken (fun _ _ _ _ => trivial)⟩⟩ rfl rfl hl.1 rfl (lv_room (Nat.le_of_ble_eq_true rfl)) dX19_feed_30 ⟨(Nat.le_of_ble_eq_true rfl), (Nat.le_of_ble_eq_true rfl)⟩) hS (fun q _ h => hFc q h) hFc (fun  u t H1 locs ht hvm hw hB hz1 hk1 hS => ?_)
  obtain ⟨g0_2001, hP1, hK1, hD1⟩ := hB
  rw [ht] at hP1
  have hK1 := va_K.moved hvm.symm hK1
  obtain ⟨hP, hD⟩ := va_join (wr := []) (w1 := [(h0, .inr (16, [.ref q_1, .ref q_12, .ref q_17, .ref q_22, .ref q_24, .ref q_26, .ref q_28, .ref q_29, .ref q_31, .ref q_33, .ref q_35, .int 0, .ref q_37, .ref q_39, .ref q_41, .ref q_43, .ref q_45, .ref q_47, .ref q_49, .ref q_51, .ref q_53, .ref q_55, .ref q_57, .int 0, .ref q_59, .ref q_61, .ref q_63, .int (-1), .int 0, .int 0, .int 0, .int 0, .ref q_65, .int 0, .ref q_68, .int 0, .int (-1), .int 0, .int 0, .ref q_70, .ref q_72])), (q_68, .inl (cA_69, 8192, .inl g0_2001))]) hP hD [0, 1] [] rfl rfl (by decide) (by decide) hk1 hFc hP1 hD1
  have hK := (hK.sub (tys' := []) [] rfl).app hK1
  generalize H1 = H at hP hS ⊢
  have hP : va_P (dC, dI) vwP [(h0, .inr (16, [.ref q_1, .ref q_12, .ref q_17, .ref q_22, .ref q_24, .ref q_26, .ref q_28, .ref q_29, .ref q_31, .ref q_33, .ref q_35, .int 0, .ref q_37, .ref q_39, .ref q_41, .ref q_43, .ref q_45, .ref q_47, .ref q_49, .ref q_51, .ref q_53, .ref q_55, .ref q_57, .int 0, .ref q_59, .ref q_61, .ref q_63, .int (-1), .int 0, .int 0, .int 0, .int 0, .ref q_65, .int 0, .ref q_68, .int 0, .int (-1), .int 0, .int 0, .ref q_70, .ref q_72])), (q_68, .inl (cA_69, 8192, .inl g0_2001))] H := hP
  have hD : va_D A [(h0, .inr (16, [.ref q_1, .ref q_12, .ref q_17, .ref q_22, .ref q_24, .ref q_26, .ref q_28, .ref q_29, .ref q_31, .ref q_33, .ref q_35, .int 0, .ref q_37, .ref q_39, .ref q_41, .ref q_43, .ref q_45, .ref q_47, .ref q_49, .ref q_51, .ref q_53, .ref q_55, .ref q_57, .int 0, .ref q_59, .ref q_61, .ref q_63, .int (-1), .int 0, .int 0, .int 0, .int 0, .ref q_65, .int 0, .ref q_68, .int 0, .int (-1), .int 0, .int 0, .ref q_70, .ref q_72])), (q_68, .inl (cA_69, 8192, .inl g0_2001))] := hD
  have hK : va_K (dC, dI) vwP [(cA_69, .byte)] s := hK
  refine W.widen (k := 0) (n := 0) (Nat.le_of_ble_eq_true rfl) (Nat.le_of_ble_eq_true rfl) ?_
  refine lv_aload_n hx hb dX19_feed_33 rfl (lv_at hl 0 rfl) ?_
  refine lv_iload_n hx hb dX19_feed_34 rfl (lv_at hl 2 rfl) ?_
  refine lv_aload_n hx hb dX19_feed_35 rfl (lv_at hl 0 rfl) ?_
  refine va_get (D := (dC, dI)) (ci := 16) (v := .int 0) (C := RX19) (T := TX19) (N := 41) hx hb hts mem_X19_feed_0 hown hK hP 0 rfl rfl 35 (by decide) (ow (k := 1) rfl) (fun _ h9 => h9) rfl dX19_feed_36 ?_
  refine lv_iconst (v := 4) hx hb dX19_feed_39 (by decide) ?_
  refine lv_iadd hx hb dX19_feed_40 ?_
  refine lv_topi (fun z ez => ?_)
  obtain rfl : z = 4 := by rw [ez]; decide
  have hPc := hP.sub (ws' := [(h0, .inr (16, [.ref q_1, .ref q_12, .ref q_17, .ref q_22, .ref q_24, .ref q_26, .ref q_28, .ref q_29, .ref q_31, .ref q_33, .ref q_35, .int 0, .ref q_37, .ref q_39, .ref q_41, .ref q_43, .ref q_45, .ref q_47, .ref q_49, .ref q_51, .ref q_53, .ref q_55, .ref q_57, .int 0, .ref q_59, .ref q_61, .ref q_63, .int (-1), .int 0, .int 0, .int 0, .int 0, .ref q_65, .int 0, .ref q_68, .int 0, .int (-1), .int 0, .int 0, .ref q_70, .ref q_72])), (q_68, .inl (cA_69, 8192, .inl g0_2001))]) [0, 1] rfl
  have hDc := hD.sub (ws' := [(h0, .inr (16, [.ref q_1, .ref q_12, .ref q_17, .ref q_22, .ref q_24, .ref q_26, .ref q_28, .ref q_29, .ref q_31, .ref q_33, .ref q_35, .int 0, .ref q_37, .ref q_39, .ref q_41, .ref q_43, .ref q_45, .ref q_47, .ref q_49, .ref q_51, .ref q_53, .ref q_55, .ref q_57, .int 0, .ref q_59, .ref q_61, .ref q_63, .int (-1), .int 0, .int 0, .int 0, .int 0, .ref q_65, .int 0, .ref q_68, .int 0, .int (-1), .int 0, .int 0, .ref q_70, .ref q_72])), (q_68, .inl (cA_69, 8192, .inl g0_2001))]) [0, 1] (by decide) rfl
  have hKc := hK.sub (tys' := [(cA_69, .byte)]) [0] rfl
  have hFc := va_free (wc := [(h0, .inr (16, [.ref q_1, .ref q_12, .ref q_17, .ref q_22, .ref q_24, .ref q_26, .ref q_28, .ref q_29, .ref q_31, .ref q_33, .ref q_35, .int 0, .ref q_37, .ref q_39, .ref q_41, .ref q_43, .ref q_45, .ref q_47, .ref q_49, .ref q_51, .ref q_53, .ref q_55, .ref q_57, .int 0, .ref q_59, .ref q_61, .ref q_63, .int (-1), .int 0, .int 0, .int 0, .int 0, .ref q_65, .int 0, .ref q_68, .int 0, .int (-1), .int 0, .int 0, .ref q_70, .ref q_72])), (q_68, .inl (cA_69, 8192, .inl g0_2001))]) hD hS hA [0, 1] rfl
  refine va_callv (va_runV (As := [.int p1, .int 4]) (rest := []) ⟨hx, hb, hml, hown, hts⟩ (c_X19_word4 l dC dI h0 q_1 q_12 q_17 q_22 q_24 q_26 q_28 q_29 q_31 q_33 q_35 q_37 q_39 q_41 q_43 q_45 q_47 q_49 q_51 q_53 q_55 q_57 q_59 q_61 q_63 q_65 q_68 q_70 q_72 cA_69 g0_2001 p1 H.size) (cwV 2 hts g_X19_feed_X19_word4 rfl rfl rfl (by decide +kernel) ⟨(Nat.le_of_ble_eq_true rfl), (Nat.le_of_ble_eq_true rfl)⟩) ⟨fun a U g mk q => by obtain ⟨q0, q1, qP, qK, qD⟩ := q; exact ⟨q0, q1, qP, va_K.moved (u := U) (U := U.calling g mk a) (Vm.Alike.refl U.vm) qK, qD⟩, va_recv hKc hPc (ci := 16) (q0 := 0) rfl rfl, fun U hU hW => ⟨rfl, by rw [hU], by rw [hU]; exact hPc, va_K.moved hW.alike hKc, hDc.weaken (fun _ _ _ _ => trivial)⟩⟩ rfl rfl hl.1 rfl (lv_room (Nat.le_of_ble_eq_true rfl)) dX19_feed_41 ⟨(Nat.le_of_ble_eq_true rfl), (Nat.le_of_ble_eq_true rfl)⟩) hS (fun q _ h => hFc q h) hFc (fun  u t H1 locs ht hvm hw hB hz1 hk1 hS => ?_)
  obtain ⟨g0_2002, hP1, hK1, hD1⟩ := hB
  rw [ht] at hP1
  have hK1 := va_K.moved hvm.symm hK1
  obtain ⟨hP, hD⟩ := va_join (wr := []) (w1 := [(h0, .inr (16, [.ref q_1, .ref q_12, .ref q_17, .ref q_22, .ref q_24, .ref q_26, .ref q_28, .ref q_29, .ref q_31, .ref q_33, .ref q_35, .int 0, .ref q_37, .ref q_39, .ref q_41, .ref q_43, .ref q_45, .ref q_47, .ref q_49, .ref q_51, .ref q_53, .ref q_55, .ref q_57, .int 0, .ref q_59, .ref q_61, .ref q_63, .int (-1), .int 0, .int 0, .int 0, .int 0, .ref q_65, .int 0, .ref q_68, .int 0, .int (-1), .int 0, .int 0, .ref q_70, .ref q_72])), (q_68, .inl (cA_69, 8192, .inl g0_2002))]) hP hD [0, 1] [] rfl rfl (by decide) (by decide) hk1 hFc hP1 hD1
  have hK := (hK.sub (tys' := []) [] rfl).app hK1
  generalize H1 = H at hP hS ⊢
  have hP : va_P (dC, dI) vwP [(h0, .inr (16, [.ref q_1, .ref q_12, .ref q_17, .ref q_22, .ref q_24, .ref q_26, .ref q_28, .ref q_29, .ref q_31, .ref q_33, .ref q_35, .int 0, .ref q_37, .ref q_39, .ref q_41, .ref q_43, .ref q_45, .ref q_47, .ref q_49, .ref q_51, .ref q_53, .ref q_55, .ref q_57, .int 0, .ref q_59, .ref q_61, .ref q_63, .int (-1), .int 0, .int 0, .int 0, .int 0, .ref q_65, .int 0, .ref q_68, .int 0, .int (-1), .int 0, .int 0, .ref q_70, .ref q_72])), (q_68, .inl (cA_69, 8192, .inl g0_2002))] H := hP
  have hD : va_D A [(h0, .inr (16, [.ref q_1, .ref q_12, .ref q_17, .ref q_22, .ref q_24, .ref q_26, .ref q_28, .ref q_29, .ref q_31, .ref q_33, .ref q_35, .int 0, .ref q_37, .ref q_39, .ref q_41, .ref q_43, .ref q_45, .ref q_47, .ref q_49, .ref q_51, .ref q_53, .ref q_55, .ref q_57, .int 0, .ref q_59, .ref q_61, .ref q_63, .int (-1), .int 0, .int 0, .int 0, .int 0, .ref q_65, .int 0, .ref q_68, .int 0, .int (-1), .int 0, .int 0, .ref q_70, .ref q_72])), (q_68, .inl (cA_69, 8192, .inl g0_2002))] := hD
  have hK : va_K (dC, dI) vwP [(cA_69, .byte)] s := hK
  refine W.widen (k := 0) (n := 0) (Nat.le_of_ble_eq_true rfl) (Nat.le_of_ble_eq_true rfl) ?_
  refine lv_aload_n hx hb dX19_feed_44 rfl (lv_at hl 0 rfl) ?_
  refine lv_iload_n hx hb dX19_feed_45 rfl (lv_at hl 3 rfl) ?_
  refine lv_aload_n hx hb dX19_feed_46 rfl (lv_at hl 0 rfl) ?_
  refine va_get (D := (dC, dI)) (ci := 16) (v := .int 0) (C := RX19) (T := TX19) (N := 41) hx hb hts mem_X19_feed_0 hown hK hP 0 rfl rfl 35 (by decide) (ow (k := 1) rfl) (fun _ h9 => h9) rfl dX19_feed_47 ?_
  refine lv_bipush (v := 8) hx hb dX19_feed_50 (by decide) ?_
  refine lv_iadd hx hb dX19_feed_52 ?_
  refine lv_topi (fun z ez => ?_)
  obtain rfl : z = 8 := by rw [ez]; decide
  have hPc := hP.sub (ws' := [(h0, .inr (16, [.ref q_1, .ref q_12, .ref q_17, .ref q_22, .ref q_24, .ref q_26, .ref q_28, .ref q_29, .ref q_31, .ref q_33, .ref q_35, .int 0, .ref q_37, .ref q_39, .ref q_41, .ref q_43, .ref q_45, .ref q_47, .ref q_49, .ref q_51, .ref q_53, .ref q_55, .ref q_57, .int 0, .ref q_59, .ref q_61, .ref q_63, .int (-1), .int 0, .int 0, .int 0, .int 0, .ref q_65, .int 0, .ref q_68, .int 0, .int (-1), .int 0, .int 0, .ref q_70, .ref q_72])), (q_68, .inl (cA_69, 8192, .inl g0_2002))]) [0, 1] rfl
  have hDc := hD.sub (ws' := [(h0, .inr (16, [.ref q_1, .ref q_12, .ref q_17, .ref q_22, .ref q_24, .ref q_26, .ref q_28, .ref q_29, .ref q_31, .ref q_33, .ref q_35, .int 0, .ref q_37, .ref q_39, .ref q_41, .ref q_43, .ref q_45, .ref q_47, .ref q_49, .ref q_51, .ref q_53, .ref q_55, .ref q_57, .int 0, .ref q_59, .ref q_61, .ref q_63, .int (-1), .int 0, .int 0, .int 0, .int 0, .ref q_65, .int 0, .ref q_68, .int 0, .int (-1), .int 0, .int 0, .ref q_70, .ref q_72])), (q_68, .inl (cA_69, 8192, .inl g0_2002))]) [0, 1] (by decide) rfl
  have hKc := hK.sub (tys' := [(cA_69, .byte)]) [0] rfl
  have hFc := va_free (wc := [(h0, .inr (16, [.ref q_1, .ref q_12, .ref q_17, .ref q_22, .ref q_24, .ref q_26, .ref q_28, .ref q_29, .ref q_31, .ref q_33, .ref q_35, .int 0, .ref q_37, .ref q_39, .ref q_41, .ref q_43, .ref q_45, .ref q_47, .ref q_49, .ref q_51, .ref q_53, .ref q_55, .ref q_57, .int 0, .ref q_59, .ref q_61, .ref q_63, .int (-1), .int 0, .int 0, .int 0, .int 0, .ref q_65, .int 0, .ref q_68, .int 0, .int (-1), .int 0, .int 0, .ref q_70, .ref q_72])), (q_68, .inl (cA_69, 8192, .inl g0_2002))]) hD hS hA [0, 1] rfl
  refine va_callv (va_runV (As := [.int p2, .int 8]) (rest := []) ⟨hx, hb, hml, hown, hts⟩ (c_X19_word8 l dC dI h0 q_1 q_12 q_17 q_22 q_24 q_26 q_28 q_29 q_31 q_33 q_35 q_37 q_39 q_41 q_43 q_45 q_47 q_49 q_51 q_53 q_55 q_57 q_59 q_61 q_63 q_65 q_68 q_70 q_72 cA_69 g0_2002 p2 H.size) (cwV 2 hts g_X19_feed_X19_word8 rfl rfl rfl (by decide +kernel) ⟨(Nat.le_of_ble_eq_true rfl), (Nat.le_of_ble_eq_true rfl)⟩) ⟨fun a U g mk q => by obtain ⟨q0, q1, qP, qK, qD⟩ := q; exact ⟨q0, q1, qP, va_K.moved (u := U) (U := U.calling g mk a) (Vm.Alike.refl U.vm) qK, qD⟩, va_recv hKc hPc (ci := 16) (q0 := 0) rfl rfl, fun U hU hW => ⟨rfl, by rw [hU], by rw [hU]; exact hPc, va_K.moved hW.alike hKc, hDc.weaken (fun _ _ _ _ => trivial)⟩⟩ rfl rfl hl.1 rfl (lv_room (Nat.le_of_ble_eq_true rfl)) dX19_feed_53 ⟨(Nat.le_of_ble_eq_true rfl), (Nat.le_of_ble_eq_true rfl)⟩) hS (fun q _ h => hFc q h) hFc (fun  u t H1 locs ht hvm hw hB hz1 hk1 hS => ?_)
  obtain ⟨g0_2003, hP1, hK1, hD1⟩ := hB
  rw [ht] at hP1
  have hK1 := va_K.moved hvm.symm hK1
  obtain ⟨hP, hD⟩ := va_join (wr := []) (w1 := [(h0, .inr (16, [.ref q_1, .ref q_12, .ref q_17, .ref q_22, .ref q_24, .ref q_26, .ref q_28, .ref q_29, .ref q_31, .ref q_33, .ref q_35, .int 0, .ref q_37, .ref q_39, .ref q_41, .ref q_43, .ref q_45, .ref q_47, .ref q_49, .ref q_51, .ref q_53, .ref q_55, .ref q_57, .int 0, .ref q_59, .ref q_61, .ref q_63, .int (-1), .int 0, .int 0, .int 0, .int 0, .ref q_65, .int 0, .ref q_68, .int 0, .int (-1), .int 0, .int 0, .ref q_70, .ref q_72])), (q_68, .inl (cA_69, 8192, .inl g0_2003))]) hP hD [0, 1] [] rfl rfl (by decide) (by decide) hk1 hFc hP1 hD1
  have hK := (hK.sub (tys' := []) [] rfl).app hK1
  generalize H1 = H at hP hS ⊢
  have hP : va_P (dC, dI) vwP [(h0, .inr (16, [.ref q_1, .ref q_12, .ref q_17, .ref q_22, .ref q_24, .ref q_26, .ref q_28, .ref q_29, .ref q_31, .ref q_33, .ref q_35, .int 0, .ref q_37, .ref q_39, .ref q_41, .ref q_43, .ref q_45, .ref q_47, .ref q_49, .ref q_51, .ref q_53, .ref q_55, .ref q_57, .int 0, .ref q_59, .ref q_61, .ref q_63, .int (-1), .int 0, .int 0, .int 0, .int 0, .ref q_65, .int 0, .ref q_68, .int 0, .int (-1), .int 0, .int 0, .ref q_70, .ref q_72])), (q_68, .inl (cA_69, 8192, .inl g0_2003))] H := hP
  have hD : va_D A [(h0, .inr (16, [.ref q_1, .ref q_12, .ref q_17, .ref q_22, .ref q_24, .ref q_26, .ref q_28, .ref q_29, .ref q_31, .ref q_33, .ref q_35, .int 0, .ref q_37, .ref q_39, .ref q_41, .ref q_43, .ref q_45, .ref q_47, .ref q_49, .ref q_51, .ref q_53, .ref q_55, .ref q_57, .int 0, .ref q_59, .ref q_61, .ref q_63, .int (-1), .int 0, .int 0, .int 0, .int 0, .ref q_65, .int 0, .ref q_68, .int 0, .int (-1), .int 0, .int 0, .ref q_70, .ref q_72])), (q_68, .inl (cA_69, 8192, .inl g0_2003))] := hD
  have hK : va_K (dC, dI) vwP [(cA_69, .byte)] s := hK
  refine W.widen (k := 0) (n := 0) (Nat.le_of_ble_eq_true rfl) (Nat.le_of_ble_eq_true rfl) ?_
  refine lv_aload_n hx hb dX19_feed_56 rfl (lv_at hl 0 rfl) ?_
  refine lv_iload hx hb dX19_feed_57 (lv_at hl 4 rfl) ?_
  refine lv_aload_n hx hb dX19_feed_59 rfl (lv_at hl 0 rfl) ?_
  refine va_get (D := (dC, dI)) (ci := 16) (v := .int 0) (C := RX19) (T := TX19) (N := 41) hx hb hts mem_X19_feed_0 hown hK hP 0 rfl rfl 35 (by decide) (ow (k := 1) rfl) (fun _ h9 => h9) rfl dX19_feed_60 ?_
  refine lv_bipush (v := 12) hx hb dX19_feed_63 (by decide) ?_
  refine lv_iadd hx hb dX19_feed_65 ?_
  refine lv_topi (fun z ez => ?_)
  obtain rfl : z = 12 := by rw [ez]; decide
  have hPc := hP.sub (ws' := [(h0, .inr (16, [.ref q_1, .ref q_12, .ref q_17, .ref q_22, .ref q_24, .ref q_26, .ref q_28, .ref q_29, .ref q_31, .ref q_33, .ref q_35, .int 0, .ref q_37, .ref q_39, .ref q_41, .ref q_43, .ref q_45, .ref q_47, .ref q_49, .ref q_51, .ref q_53, .ref q_55, .ref q_57, .int 0, .ref q_59, .ref q_61, .ref q_63, .int (-1), .int 0, .int 0, .int 0, .int 0, .ref q_65, .int 0, .ref q_68, .int 0, .int (-1), .int 0, .int 0, .ref q_70, .ref q_72])), (q_68, .inl (cA_69, 8192, .inl g0_2003))]) [0, 1] rfl
  have hDc := hD.sub (ws' := [(h0, .inr (16, [.ref q_1, .ref q_12, .ref q_17, .ref q_22, .ref q_24, .ref q_26, .ref q_28, .ref q_29, .ref q_31, .ref q_33, .ref q_35, .int 0, .ref q_37, .ref q_39, .ref q_41, .ref q_43, .ref q_45, .ref q_47, .ref q_49, .ref q_51, .ref q_53, .ref q_55, .ref q_57, .int 0, .ref q_59, .ref q_61, .ref q_63, .int (-1), .int 0, .int 0, .int 0, .int 0, .ref q_65, .int 0, .ref q_68, .int 0, .int (-1), .int 0, .int 0, .ref q_70, .ref q_72])), (q_68, .inl (cA_69, 8192, .inl g0_2003))]) [0, 1] (by decide) rfl
  have hKc := hK.sub (tys' := [(cA_69, .byte)]) [0] rfl
  have hFc := va_free (wc := [(h0, .inr (16, [.ref q_1, .ref q_12, .ref q_17, .ref q_22, .ref q_24, .ref q_26, .ref q_28, .ref q_29, .ref q_31, .ref q_33, .ref q_35, .int 0, .ref q_37, .ref q_39, .ref q_41, .ref q_43, .ref q_45, .ref q_47, .ref q_49, .ref q_51, .ref q_53, .ref q_55, .ref q_57, .int 0, .ref q_59, .ref q_61, .ref q_63, .int (-1), .int 0, .int 0, .int 0, .int 0, .ref q_65, .int 0, .ref q_68, .int 0, .int (-1), .int 0, .int 0, .ref q_70, .ref q_72])), (q_68, .inl (cA_69, 8192, .inl g0_2003))]) hD hS hA [0, 1] rfl
  refine va_callv (va_runV (As := [.int p3, .int 12]) (rest := []) ⟨hx, hb, hml, hown, hts⟩ (c_X19_word12 l dC dI h0 q_1 q_12 q_17 q_22 q_24 q_26 q_28 q_29 q_31 q_33 q_35 q_37 q_39 q_41 q_43 q_45 q_47 q_49 q_51 q_53 q_55 q_57 q_59 q_61 q_63 q_65 q_68 q_70 q_72 cA_69 g0_2003 p3 H.size) (cwV 2 hts g_X19_feed_X19_word12 rfl rfl rfl (by decide +kernel) ⟨(Nat.le_of_ble_eq_true rfl), (Nat.le_of_ble_eq_true rfl)⟩) ⟨fun a U g mk q => by obtain ⟨q0, q1, qP, qK, qD⟩ := q; exact ⟨q0, q1, qP, va_K.moved (u := U) (U := U.calling g mk a) (Vm.Alike.refl U.vm) qK, qD⟩, va_recv hKc hPc (ci := 16) (q0 := 0) rfl rfl, fun U hU hW => ⟨rfl, by rw [hU], by rw [hU]; exact hPc, va_K.moved hW.alike hKc, hDc.weaken (fun _ _ _ _ => trivial)⟩⟩ rfl rfl hl.1 rfl (lv_room (Nat.le_of_ble_eq_true rfl)) dX19_feed_66 ⟨(Nat.le_of_ble_eq_true rfl), (Nat.le_of_ble_eq_true rfl)⟩) hS (fun q _ h => hFc q h) hFc (fun  u t H1 locs ht hvm hw hB hz1 hk1 hS => ?_)
  obtain ⟨g0_2004, hP1, hK1, hD1⟩ := hB
  rw [ht] at hP1
  have hK1 := va_K.moved hvm.symm hK1
  obtain ⟨hP, hD⟩ := va_join (wr := []) (w1 := [(h0, .inr (16, [.ref q_1, .ref q_12, .ref q_17, .ref q_22, .ref q_24, .ref q_26, .ref q_28, .ref q_29, .ref q_31, .ref q_33, .ref q_35, .int 0, .ref q_37, .ref q_39, .ref q_41, .ref q_43, .ref q_45, .ref q_47, .ref q_49, .ref q_51, .ref q_53, .ref q_55, .ref q_57, .int 0, .ref q_59, .ref q_61, .ref q_63, .int (-1), .int 0, .int 0, .int 0, .int 0, .ref q_65, .int 0, .ref q_68, .int 0, .int (-1), .int 0, .int 0, .ref q_70, .ref q_72])), (q_68, .inl (cA_69, 8192, .inl g0_2004))]) hP hD [0, 1] [] rfl rfl (by decide) (by decide) hk1 hFc hP1 hD1
  have hK := (hK.sub (tys' := []) [] rfl).app hK1
  generalize H1 = H at hP hS ⊢
  have hP : va_P (dC, dI) vwP [(h0, .inr (16, [.ref q_1, .ref q_12, .ref q_17, .ref q_22, .ref q_24, .ref q_26, .ref q_28, .ref q_29, .ref q_31, .ref q_33, .ref q_35, .int 0, .ref q_37, .ref q_39, .ref q_41, .ref q_43, .ref q_45, .ref q_47, .ref q_49, .ref q_51, .ref q_53, .ref q_55, .ref q_57, .int 0, .ref q_59, .ref q_61, .ref q_63, .int (-1), .int 0, .int 0, .int 0, .int 0, .ref q_65, .int 0, .ref q_68, .int 0, .int (-1), .int 0, .int 0, .ref q_70, .ref q_72])), (q_68, .inl (cA_69, 8192, .inl g0_2004))] H := hP
  have hD : va_D A [(h0, .inr (16, [.ref q_1, .ref q_12, .ref q_17, .ref q_22, .ref q_24, .ref q_26, .ref q_28, .ref q_29, .ref q_31, .ref q_33, .ref q_35, .int 0, .ref q_37, .ref q_39, .ref q_41, .ref q_43, .ref q_45, .ref q_47, .ref q_49, .ref q_51, .ref q_53, .ref q_55, .ref q_57, .int 0, .ref q_59, .ref q_61, .ref q_63, .int (-1), .int 0, .int 0, .int 0, .int 0, .ref q_65, .int 0, .ref q_68, .int 0, .int (-1), .int 0, .int 0, .ref q_70, .ref q_72])), (q_68, .inl (cA_69, 8192, .inl g0_2004))] := hD
  have hK : va_K (dC, dI) vwP [(cA_69, .byte)] s := hK
  refine W.widen (k := 0) (n := 0) (Nat.le_of_ble_eq_true rfl) (Nat.le_of_ble_eq_true rfl) ?_
  refine lv_aload_n hx hb dX19_feed_69 rfl (lv_at hl 0 rfl) ?_
  refine lv_iload hx hb dX19_feed_70 (lv_at hl 5 rfl) ?_
  refine lv_aload_n hx hb dX19_feed_72 rfl (lv_at hl 0 rfl) ?_
  refine va_get (D := (dC, dI)) (ci := 16) (v := .int 0) (C := RX19) (T := TX19) (N := 41) hx hb hts mem_X19_feed_0 hown hK hP 0 rfl rfl 35 (by decide) (ow (k := 1) rfl) (fun _ h9 => h9) rfl dX19_feed_73 ?_
  refine lv_bipush (v := 16) hx hb dX19_feed_76 (by decide) ?_
  refine lv_iadd hx hb dX19_feed_78 ?_
  refine lv_topi (fun z ez => ?_)
  obtain rfl : z = 16 := by rw [ez]; decide
  have hPc := hP.sub (ws' := [(h0, .inr (16, [.ref q_1, .ref q_12, .ref q_17, .ref q_22, .ref q_24, .ref q_26, .ref q_28, .ref q_29, .ref q_31, .ref q_33, .ref q_35, .int 0, .ref q_37, .ref q_39, .ref q_41, .ref q_43, .ref q_45, .ref q_47, .ref q_49, .ref q_51, .ref q_53, .ref q_55, .ref q_57, .int 0, .ref q_59, .ref q_61, .ref q_63, .int (-1), .int 0, .int 0, .int 0, .int 0, .ref q_65, .int 0, .ref q_68, .int 0, .int (-1), .int 0, .int 0, .ref q_70, .ref q_72])), (q_68, .inl (cA_69, 8192, .inl g0_2004))]) [0, 1] rfl
  have hDc := hD.sub (ws' := [(h0, .inr (16, [.ref q_1, .ref q_12, .ref q_17, .ref q_22, .ref q_24, .ref q_26, .ref q_28, .ref q_29, .ref q_31, .ref q_33, .ref q_35, .int 0, .ref q_37, .ref q_39, .ref q_41, .ref q_43, .ref q_45, .ref q_47, .ref q_49, .ref q_51, .ref q_53, .ref q_55, .ref q_57, .int 0, .ref q_59, .ref q_61, .ref q_63, .int (-1), .int 0, .int 0, .int 0, .int 0, .ref q_65, .int 0, .ref q_68, .int 0, .int (-1), .int 0, .int 0, .ref q_70, .ref q_72])), (q_68, .inl (cA_69, 8192, .inl g0_2004))]) [0, 1] (by decide) rfl
  have hKc := hK.sub (tys' := [(cA_69, .byte)]) [0] rfl
  have hFc := va_free (wc := [(h0, .inr (16, [.ref q_1, .ref q_12, .ref q_17, .ref q_22, .ref q_24, .ref q_26, .ref q_28, .ref q_29, .ref q_31, .ref q_33, .ref q_35, .int 0, .ref q_37, .ref q_39, .ref q_41, .ref q_43, .ref q_45, .ref q_47, .ref q_49, .ref q_51, .ref q_53, .ref q_55, .ref q_57, .int 0, .ref q_59, .ref q_61, .ref q_63, .int (-1), .int 0, .int 0, .int 0, .int 0, .ref q_65, .int 0, .ref q_68, .int 0, .int (-1), .int 0, .int 0, .ref q_70, .ref q_72])), (q_68, .inl (cA_69, 8192, .inl g0_2004))]) hD hS hA [0, 1] rfl
  refine va_callv (va_runV (As := [.int p4, .int 16]) (rest := []) ⟨hx, hb, hml, hown, hts⟩ (c_X19_word16 l dC dI h0 q_1 q_12 q_17 q_22 q_24 q_26 q_28 q_29 q_31 q_33 q_35 q_37 q_39 q_41 q_43 q_45 q_47 q_49 q_51 q_53 q_55 q_57 q_59 q_61 q_63 q_65 q_68 q_70 q_72 cA_69 g0_2004 p4 H.size) (cwV 2 hts g_X19_feed_X19_word16 rfl rfl rfl (by decide +kernel) ⟨(Nat.le_of_ble_eq_true rfl), (Nat.le_of_ble_eq_true rfl)⟩) ⟨fun a U g mk q => by obtain ⟨q0, q1, qP, qK, qD⟩ := q; exact ⟨q0, q1, qP, va_K.moved (u := U) (U := U.calling g mk a) (Vm.Alike.refl U.vm) qK, qD⟩, va_recv hKc hPc (ci := 16) (q0 := 0) rfl rfl, fun U hU hW => ⟨rfl, by rw [hU], by rw [hU]; exact hPc, va_K.moved hW.alike hKc, hDc.weaken (fun _ _ _ _ => trivial)⟩⟩ rfl rfl hl.1 rfl (lv_room (Nat.le_of_ble_eq_true rfl)) dX19_feed_79 ⟨(Nat.le_of_ble_eq_true rfl), (Nat.le_of_ble_eq_true rfl)⟩) hS (fun q _ h => hFc q h) hFc (fun  u t H1 locs ht hvm hw hB hz1 hk1 hS => ?_)
  obtain ⟨g0_2005, hP1, hK1, hD1⟩ := hB
  rw [ht] at hP1
  have hK1 := va_K.moved hvm.symm hK1
  obtain ⟨hP, hD⟩ := va_join (wr := []) (w1 := [(h0, .inr (16, [.ref q_1, .ref q_12, .ref q_17, .ref q_22, .ref q_24, .ref q_26, .ref q_28, .ref q_29, .ref q_31, .ref q_33, .ref q_35, .int 0, .ref q_37, .ref q_39, .ref q_41, .ref q_43, .ref q_45, .ref q_47, .ref q_49, .ref q_51, .ref q_53, .ref q_55, .ref q_57, .int 0, .ref q_59, .ref q_61, .ref q_63, .int (-1), .int 0, .int 0, .int 0, .int 0, .ref q_65, .int 0, .ref q_68, .int 0, .int (-1), .int 0, .int 0, .ref q_70, .ref q_72])), (q_68, .inl (cA_69, 8192, .inl g0_2005))]) hP hD [0, 1] [] rfl rfl (by decide) (by decide) hk1 hFc hP1 hD1
  have hK := (hK.sub (tys' := []) [] rfl).app hK1
  generalize H1 = H at hP hS ⊢
  have hP : va_P (dC, dI) vwP [(h0, .inr (16, [.ref q_1, .ref q_12, .ref q_17, .ref q_22, .ref q_24, .ref q_26, .ref q_28, .ref q_29, .ref q_31, .ref q_33, .ref q_35, .int 0, .ref q_37, .ref q_39, .ref q_41, .ref q_43, .ref q_45, .ref q_47, .ref q_49, .ref q_51, .ref q_53, .ref q_55, .ref q_57, .int 0, .ref q_59, .ref q_61, .ref q_63, .int (-1), .int 0, .int 0, .int 0, .int 0, .ref q_65, .int 0, .ref q_68, .int 0, .int (-1), .int 0, .int 0, .ref q_70, .ref q_72])), (q_68, .inl (cA_69, 8192, .inl g0_2005))] H := hP
  have hD : va_D A [(h0, .inr (16, [.ref q_1, .ref q_12, .ref q_17, .ref q_22, .ref q_24, .ref q_26, .ref q_28, .ref q_29, .ref q_31, .ref q_33, .ref q_35, .int 0, .ref q_37, .ref q_39, .ref q_41, .ref q_43, .ref q_45, .ref q_47, .ref q_49, .ref q_51, .ref q_53, .ref q_55, .ref q_57, .int 0, .ref q_59, .ref q_61, .ref q_63, .int (-1), .int 0, .int 0, .int 0, .int 0, .ref q_65, .int 0, .ref q_68, .int 0, .int (-1), .int 0, .int 0, .ref q_70, .ref q_72])), (q_68, .inl (cA_69, 8192, .inl g0_2005))] := hD
  have hK : va_K (dC, dI) vwP [(cA_69, .byte)] s := hK
  refine W.widen (k := 0) (n := 0) (Nat.le_of_ble_eq_true rfl) (Nat.le_of_ble_eq_true rfl) ?_
  refine lv_aload_n hx hb dX19_feed_82 rfl (lv_at hl 0 rfl) ?_
  refine lv_dup hx hb dX19_feed_83 rfl ?_
  refine va_get (D := (dC, dI)) (ci := 16) (v := .int 0) (C := RX19) (T := TX19) (N := 41) hx hb hts mem_X19_feed_0 hown hK hP 0 rfl rfl 35 (by decide) (ow (k := 1) rfl) (fun _ h9 => h9) rfl dX19_feed_84 ?_
  refine lv_bipush (v := 20) hx hb dX19_feed_87 (by decide) ?_
  refine lv_iadd hx hb dX19_feed_89 ?_
  refine lv_topi (fun z ez => ?_)
  obtain rfl : z = 20 := by rw [ez]; decide
  refine va_put (D := (dC, dI)) (ci := 16) (v := .int 20) (ty := .int) (C := RX19) (T := TX19) (N := 41) hx hb hts mem_X19_feed_0 tyX19 tyX19_ok nmX19 hown hK hP hD hS 0 rfl rfl 35 (by decide) (ow (k := 1) rfl) (fun _ h9 => h9) rfl (by decide +kernel) rfl rfl (Nat.le_of_ble_eq_true rfl) dX19_feed_90 (fun H locs hP hD hS => ?_)
  have hP : va_P (dC, dI) vwP [(h0, .inr (16, [.ref q_1, .ref q_12, .ref q_17, .ref q_22, .ref q_24, .ref q_26, .ref q_28, .ref q_29, .ref q_31, .ref q_33, .ref q_35, .int 0, .ref q_37, .ref q_39, .ref q_41, .ref q_43, .ref q_45, .ref q_47, .ref q_49, .ref q_51, .ref q_53, .ref q_55, .ref q_57, .int 0, .ref q_59, .ref q_61, .ref q_63, .int (-1), .int 0, .int 0, .int 0, .int 0, .ref q_65, .int 0, .ref q_68, .int 20, .int (-1), .int 0, .int 0, .ref q_70, .ref q_72])), (q_68, .inl (cA_69, 8192, .inl g0_2005))] H := hP
  have hD : va_D A [(h0, .inr (16, [.ref q_1, .ref q_12, .ref q_17, .ref q_22, .ref q_24, .ref q_26, .ref q_28, .ref q_29, .ref q_31, .ref q_33, .ref q_35, .int 0, .ref q_37, .ref q_39, .ref q_41, .ref q_43, .ref q_45, .ref q_47, .ref q_49, .ref q_51, .ref q_53, .ref q_55, .ref q_57, .int 0, .ref q_59, .ref q_61, .ref q_63, .int (-1), .int 0, .int 0, .int 0, .int 0, .ref q_65, .int 0, .ref q_68, .int 20, .int (-1), .int 0, .int 0, .ref q_70, .ref q_72])), (q_68, .inl (cA_69, 8192, .inl g0_2005))] := hD
  refine lv_aload_n hx hb dX19_feed_93 rfl (lv_at hl 0 rfl) ?_
  refine va_get (D := (dC, dI)) (ci := 16) (v := .int 20) (C := RX19) (T := TX19) (N := 41) hx hb hts mem_X19_feed_0 hown hK hP 0 rfl rfl 35 (by decide) (ow (k := 1) rfl) (fun _ h9 => h9) rfl dX19_feed_94 ?_
  have hP := hP.sub (ws' := [(h0, .inr (16, [.ref q_1, .ref q_12, .ref q_17, .ref q_22, .ref q_24, .ref q_26, .ref q_28, .ref q_29, .ref q_31, .ref q_33, .ref q_35, .int 0, .ref q_37, .ref q_39, .ref q_41, .ref q_43, .ref q_45, .ref q_47, .ref q_49, .ref q_51, .ref q_53, .ref q_55, .ref q_57, .int 0, .ref q_59, .ref q_61, .ref q_63, .int (-1), .int 0, .int 0, .int 0, .int 0, .ref q_65, .int 0, .ref q_68, .int 20, .int (-1), .int 0, .int 0, .ref q_70, .ref q_72]))]) [0] rfl
  have hD := hD.sub (ws' := [(h0, .inr (16, [.ref q_1, .ref q_12, .ref q_17, .ref q_22, .ref q_24, .ref q_26, .ref q_28, .ref q_29, .ref q_31, .ref q_33, .ref q_35, .int 0, .ref q_37, .ref q_39, .ref q_41, .ref q_43, .ref q_45, .ref q_47, .ref q_49, .ref q_51, .ref q_53, .ref q_55, .ref q_57, .int 0, .ref q_59, .ref q_61, .ref q_63, .int (-1), .int 0, .int 0, .int 0, .int 0, .ref q_65, .int 0, .ref q_68, .int 20, .int (-1), .int 0, .int 0, .ref q_70, .ref q_72]))]) [0] (by decide) rfl
  have hK := hK.sub (tys' := []) [] rfl
  refine W.widen (k := 0) (n := 0) (Nat.le_of_ble_eq_true rfl) (Nat.le_of_ble_eq_true rfl) ?_
  exact W.iret (v := 20) hx hb hr (fun t ht hW => ⟨⟨20, (), rfl, (fun _ => (show 20 = vf_feed by unfold vf_feed; first | rfl | (split <;> first | rfl | (exfalso; omega)))), 0, 20, (-1), 0, q_72, (show kf_feed = 0 by unfold kf_feed; first | rfl | (split <;> first | rfl | (exfalso; omega))).symm, by rw [ht]; exact hP, va_K.moved hW.alike hK, hD⟩, hS.F ht⟩) hS.2.2 dX19_feed_97
theorem dX19_end_0 : decode cX19_end 0 = .ok (.aload_n 0, 1) := by decide +kernel
theorem dX19_end_1 : decode cX19_end 1 = .ok (.iconst 0, 1) := by decide +kernel
theorem dX19_end_2 : decode cX19_end 2 = .ok (.putfield 560, 3) := by decide +kernel
theorem dX19_end_5 : decode cX19_end 5 = .ok (.iload_n 1, 1) := by decide +kernel
theorem dX19_end_6 : decode cX19_end 6 = .ok (.ifCond .lt 11, 3) := by decide +kernel
theorem dX19_end_17 : decode cX19_end 17 = .ok (.aload_n 0, 1) := by decide +kernel
theorem dX19_end_18 : decode cX19_end 18 = .ok (.iconst 1, 1) := by decide +kernel
theorem dX19_end_19 : decode cX19_end 19 = .ok (.invokevirtual 565, 3) := by decide +kernel
theorem dX19_end_22 : decode cX19_end 22 = .ok (.ireturn, 1) := by decide +kernel
theorem dX19_end_9 : decode cX19_end 9 = .ok (.iload_n 1, 1) := by decide +kernel
theorem dX19_end_10 : decode cX19_end 10 = .ok (.aload_n 0, 1) := by decide +kernel
theorem dX19_end_11 : decode cX19_end 11 = .ok (.getfield 563, 3) := by decide +kernel
theorem dX19_end_14 : decode cX19_end 14 = .ok (.if_icmp .le 9, 3) := by decide +kernel
theorem dX19_end_23 : decode cX19_end 23 = .ok (.aload_n 0, 1) := by decide +kernel
theorem dX19_end_24 : decode cX19_end 24 = .ok (.iload_n 1, 1) := by decide +kernel
theorem dX19_end_25 : decode cX19_end 25 = .ok (.putfield 563, 3) := by decide +kernel
theorem dX19_end_28 : decode cX19_end 28 = .ok (.iload_n 1, 1) := by decide +kernel
theorem dX19_end_29 : decode cX19_end 29 = .ok (.ireturn, 1) := by decide +kernel
def o_X19_end : List Cond := [.fieldLink RX19 560 "SsaForgeModel" "thrown" "I", .methodLink RX19 565 yX19_no, .instanceMethod yX19_no, .selects RX19 yX19_no yX19_no, .initialized RX19, .fieldLink RX19 563 "SsaForgeModel" "size" "I"]
def v_X19_end : List Cond := .code yX19_end cX19_end 2 (some .int) :: (o_X19_end ++ (wsX190 ++ (v_X19_no ++ [])))
theorem mow_X19_end : ∀ w ∈ o_X19_end, w ∈ v_X19_end := fun _ h => List.mem_cons_of_mem _ (List.mem_append_left _ h)
theorem mem_X19_end_0 : ∀ w ∈ wsX190, w ∈ v_X19_end := fun _ h => List.mem_cons_of_mem _ (List.mem_append_right _ (List.mem_append_left _ h))
theorem mem_X19_end_1 : ∀ w ∈ v_X19_no, w ∈ v_X19_end := fun _ h => List.mem_cons_of_mem _ (List.mem_append_right _ (List.mem_append_right _ (List.mem_append_left _ h)))
set_option maxRecDepth 20000 in
theorem gw_X19_end : v_X19_end.all goodWord = true := by decide +kernel
set_option maxRecDepth 20000 in
theorem g_X19_end_X19_no : GoodIn v_X19_end (wsV RX19 565 RX19 yX19_no v_X19_no) := goodIn_app (goodIn_sub (fun w h => mow_X19_end w (by revert w h; decide +kernel)) (by decide +kernel)) (goodIn_sub mem_X19_end_1 gw_X19_no)
set_option maxHeartbeats 4000000 in
set_option maxRecDepth 100000 in
theorem c_X19_end (l : Launch) (dC : Nat → ClassId) (dI : Nat → Nat → Nat) (h0 : Nat) (q_1 : Nat) (q_12 : Nat) (q_17 : Nat) (q_22 : Nat) (q_24 : Nat) (q_26 : Nat) (q_28 : Nat) (q_29 : Nat) (q_31 : Nat) (q_33 : Nat) (q_35 : Nat) (q_37 : Nat) (q_39 : Nat) (q_41 : Nat) (q_43 : Nat) (q_45 : Nat) (q_47 : Nat) (q_49 : Nat) (q_51 : Nat) (q_53 : Nat) (q_55 : Nat) (q_57 : Nat) (q_59 : Nat) (q_61 : Nat) (q_63 : Nat) (q_65 : Nat) (q_68 : Nat) (q_70 : Nat) (q_72 : Nat) (p0 : Int32) (sz : Nat) : Met l yX19_end v_X19_end ({ frames := 1, cells := 0, slots := 0, locals := 21 }) (va_Pc [.ref h0, .int p0] (fun U => U.heap.size = sz ∧ va_P (dC, dI) vwP [(h0, .inr (16, [.ref q_1, .ref q_12, .ref q_17, .ref q_22, .ref q_24, .ref q_26, .ref q_28, .ref q_29, .ref q_31, .ref q_33, .ref q_35, .int 0, .ref q_37, .ref q_39, .ref q_41, .ref q_43, .ref q_45, .ref q_47, .ref q_49, .ref q_51, .ref q_53, .ref q_55, .ref q_57, .int 0, .ref q_59, .ref q_61, .ref q_63, .int (-1), .int 0, .int 0, .int 0, .int 0, .ref q_65, .int 0, .ref q_68, .int 0, .int (-1), .int 0, .int 0, .ref q_70, .ref q_72]))] U.heap ∧ va_K (dC, dI) vwP [] U ∧ va_D (fun _ => True) [(h0, .inr (16, [.ref q_1, .ref q_12, .ref q_17, .ref q_22, .ref q_24, .ref q_26, .ref q_28, .ref q_29, .ref q_31, .ref q_33, .ref q_35, .int 0, .ref q_37, .ref q_39, .ref q_41, .ref q_43, .ref q_45, .ref q_47, .ref q_49, .ref q_51, .ref q_53, .ref q_55, .ref q_57, .int 0, .ref q_59, .ref q_61, .ref q_63, .int (-1), .int 0, .int 0, .int 0, .int 0, .ref q_65, .int 0, .ref q_68, .int 0, .int (-1), .int 0, .int 0, .ref q_70, .ref q_72]))])) (va_Qi (fun (r : Int32) (_ : Unit) => kf_end p0 = 0 → r = vf_end p0) (fun (_ : Unit) (t : State) => ∃ (i_33 : Int32) (i_35 : Int32) (i_36 : Int32) (i_37 : Int32) (q_940 : Nat), (i_33 = kf_end p0) ∧ va_P (dC, dI) vwP [(h0, .inr (16, [.ref q_1, .ref q_12, .ref q_17, .ref q_22, .ref q_24, .ref q_26, .ref q_28, .ref q_29, .ref q_31, .ref q_33, .ref q_35, .int 0, .ref q_37, .ref q_39, .ref q_41, .ref q_43, .ref q_45, .ref q_47, .ref q_49, .ref q_51, .ref q_53, .ref q_55, .ref q_57, .int 0, .ref q_59, .ref q_61, .ref q_63, .int (-1), .int 0, .int 0, .int 0, .int 0, .ref q_65, .int i_33, .ref q_68, .int i_35, .int i_36, .int i_37, .int 0, .ref q_70, .ref q_940]))] t.heap ∧ va_K (dC, dI) vwP [] t ∧ va_D (va_A [(h0, .inr (16, [.ref q_1, .ref q_12, .ref q_17, .ref q_22, .ref q_24, .ref q_26, .ref q_28, .ref q_29, .ref q_31, .ref q_33, .ref q_35, .int 0, .ref q_37, .ref q_39, .ref q_41, .ref q_43, .ref q_45, .ref q_47, .ref q_49, .ref q_51, .ref q_53, .ref q_55, .ref q_57, .int 0, .ref q_59, .ref q_61, .ref q_63, .int (-1), .int 0, .int 0, .int 0, .int 0, .ref q_65, .int 0, .ref q_68, .int 0, .int (-1), .int 0, .int 0, .ref q_70, .ref q_72]))] sz) [(h0, .inr (16, [.ref q_1, .ref q_12, .ref q_17, .ref q_22, .ref q_24, .ref q_26, .ref q_28, .ref q_29, .ref q_31, .ref q_33, .ref q_35, .int 0, .ref q_37, .ref q_39, .ref q_41, .ref q_43, .ref q_45, .ref q_47, .ref q_49, .ref q_51, .ref q_53, .ref q_55, .ref q_57, .int 0, .ref q_59, .ref q_61, .ref q_63, .int (-1), .int 0, .int 0, .int 0, .int 0, .ref q_65, .int i_33, .ref q_68, .int i_35, .int i_36, .int i_37, .int 0, .ref q_70, .ref q_940]))]) (va_A [(h0, .inr (16, [.ref q_1, .ref q_12, .ref q_17, .ref q_22, .ref q_24, .ref q_26, .ref q_28, .ref q_29, .ref q_31, .ref q_33, .ref q_35, .int 0, .ref q_37, .ref q_39, .ref q_41, .ref q_43, .ref q_45, .ref q_47, .ref q_49, .ref q_51, .ref q_53, .ref q_55, .ref q_57, .int 0, .ref q_59, .ref q_61, .ref q_63, .int (-1), .int 0, .int 0, .int 0, .int 0, .ref q_65, .int 0, .ref q_68, .int 0, .int (-1), .int 0, .int 0, .ref q_70, .ref q_72]))] sz)) 0 0 (va_A [(h0, .inr (16, [.ref q_1, .ref q_12, .ref q_17, .ref q_22, .ref q_24, .ref q_26, .ref q_28, .ref q_29, .ref q_31, .ref q_33, .ref q_35, .int 0, .ref q_37, .ref q_39, .ref q_41, .ref q_43, .ref q_45, .ref q_47, .ref q_49, .ref q_51, .ref q_53, .ref q_55, .ref q_57, .int 0, .ref q_59, .ref q_61, .ref q_63, .int (-1), .int 0, .int 0, .int 0, .int 0, .ref q_65, .int 0, .ref q_68, .int 0, .int (-1), .int 0, .int 0, .ref q_70, .ref q_72]))] sz) := by
  refine Met.ofW (cc := cX19_end) (maxL := 2) (ret := (some .int)) (by decide) rfl ?_
  intro p e s m args below meth c s₁ B hml hv
  obtain ⟨rfl, hsz, hP, hK, hD0⟩ := hv
  have hx := B.exec
  have hb := B.bytes
  have hr := B.returns
  have hts := atoms_spec (ws := v_X19_end) B.pre
  have hown : s.vm.findClass RX19 = some m.cls := findClass_of_methodNamed B.named
  have hlocks := B.notSynchronized
  have ow : ∀ {k : Nat} {w : Cond}, o_X19_end[k]? = some w → w.before ([.ref h0, .int p0] : List Value).toArray s = true := fun h => hts _ (mow_X19_end _ (List.mem_of_getElem? h))
  subst hsz
  have hD := hD0.self (sz := s.heap.size)
  generalize hAe : va_A [(h0, .inr (16, [.ref q_1, .ref q_12, .ref q_17, .ref q_22, .ref q_24, .ref q_26, .ref q_28, .ref q_29, .ref q_31, .ref q_33, .ref q_35, .int 0, .ref q_37, .ref q_39, .ref q_41, .ref q_43, .ref q_45, .ref q_47, .ref q_49, .ref q_51, .ref q_53, .ref q_55, .ref q_57, .int 0, .ref q_59, .ref q_61, .ref q_63, .int (-1), .int 0, .int 0, .int 0, .int 0, .ref q_65, .int 0, .ref q_68, .int 0, .int (-1), .int 0, .int 0, .ref q_70, .ref q_72]))] s.heap.size = A at hD ⊢
  have hA : ∀ q : Nat, s.heap.size ≤ q → A q := fun q h => by rw [← hAe]; exact Or.inr h
  have hS : va_S A s.heap s.heap [] := va_S.rf
  have hP : va_P (dC, dI) vwP [(h0, .inr (16, [.ref q_1, .ref q_12, .ref q_17, .ref q_22, .ref q_24, .ref q_26, .ref q_28, .ref q_29, .ref q_31, .ref q_33, .ref q_35, .int 0, .ref q_37, .ref q_39, .ref q_41, .ref q_43, .ref q_45, .ref q_47, .ref q_49, .ref q_51, .ref q_53, .ref q_55, .ref q_57, .int 0, .ref q_59, .ref q_61, .ref q_63, .int (-1), .int 0, .int 0, .int 0, .int 0, .ref q_65, .int 0, .ref q_68, .int 0, .int (-1), .int 0, .int 0, .ref q_70, .ref q_72]))] s.heap := hP
  have hl := lv_entry ([.ref h0, .int p0]) (n := 2) (Nat.le_of_ble_eq_true rfl)
  rw [lg_entry_eq]
  generalize (lg_sl ([.ref h0, .int p0]) ++ List.replicate (2 - (lg_sl ([.ref h0, .int p0])).length) Slot.unset).toArray = ls at hl ⊢
  have hl : lv_has ls 2 [(0, .ref h0), (1, .int p0)] := hl
  obtain ⟨H, hH⟩ : ∃ H, H = s.heap := ⟨_, rfl⟩
  rw [← hH] at hP
  have hS : va_S A s.heap H [] := by rw [hH]; exact hS
  rw [← hH]
  refine lv_aload_n hx hb dX19_end_0 rfl (lv_at hl 0 rfl) ?_
  refine lv_iconst (v := 0) hx hb dX19_end_1 (by decide) ?_
  refine va_put (D := (dC, dI)) (ci := 16) (v := .int 0) (ty := .int) (C := RX19) (T := TX19) (N := 41) hx hb hts mem_X19_end_0 tyX19 tyX19_ok nmX19 hown hK hP hD hS 0 rfl rfl 33 (by decide) (ow (k := 0) rfl) (fun _ h9 => h9) rfl (by decide +kernel) rfl rfl (Nat.le_of_ble_eq_true rfl) dX19_end_2 (fun H locs hP hD hS => ?_)
  have hP : va_P (dC, dI) vwP [(h0, .inr (16, [.ref q_1, .ref q_12, .ref q_17, .ref q_22, .ref q_24, .ref q_26, .ref q_28, .ref q_29, .ref q_31, .ref q_33, .ref q_35, .int 0, .ref q_37, .ref q_39, .ref q_41, .ref q_43, .ref q_45, .ref q_47, .ref q_49, .ref q_51, .ref q_53, .ref q_55, .ref q_57, .int 0, .ref q_59, .ref q_61, .ref q_63, .int (-1), .int 0, .int 0, .int 0, .int 0, .ref q_65, .int 0, .ref q_68, .int 0, .int (-1), .int 0, .int 0, .ref q_70, .ref q_72]))] H := hP
  have hD : va_D A [(h0, .inr (16, [.ref q_1, .ref q_12, .ref q_17, .ref q_22, .ref q_24, .ref q_26, .ref q_28, .ref q_29, .ref q_31, .ref q_33, .ref q_35, .int 0, .ref q_37, .ref q_39, .ref q_41, .ref q_43, .ref q_45, .ref q_47, .ref q_49, .ref q_51, .ref q_53, .ref q_55, .ref q_57, .int 0, .ref q_59, .ref q_61, .ref q_63, .int (-1), .int 0, .int 0, .int 0, .int 0, .ref q_65, .int 0, .ref q_68, .int 0, .int (-1), .int 0, .int 0, .ref q_70, .ref q_72]))] := hD
  refine lv_iload_n hx hb dX19_end_5 rfl (lv_at hl 1 rfl) ?_
  refine lv_if_lt (tgt := 17) hx hb dX19_end_6 (by decide) (fun b6 => ?_) (fun b6 => ?_)
  · refine lv_aload_n hx hb dX19_end_17 rfl (lv_at hl 0 rfl) ?_
    refine lv_iconst (v := 1) hx hb dX19_end_18 (by decide) ?_
    have hPc := hP.sub (ws' := [(h0, .inr (16, [.ref q_1, .ref q_12, .ref q_17, .ref q_22, .ref q_24, .ref q_26, .ref q_28, .ref q_29, .ref q_31, .ref q_33, .ref q_35, .int 0, .ref q_37, .ref q_39, .ref q_41, .ref q_43, .ref q_45, .ref q_47, .ref q_49, .ref q_51, .ref q_53, .ref q_55, .ref q_57, .int 0, .ref q_59, .ref q_61, .ref q_63, .int (-1), .int 0, .int 0, .int 0, .int 0, .ref q_65, .int 0, .ref q_68, .int 0, .int (-1), .int 0, .int 0, .ref q_70, .ref q_72]))]) [0] rfl
    have hDc := hD.sub (ws' := [(h0, .inr (16, [.ref q_1, .ref q_12, .ref q_17, .ref q_22, .ref q_24, .ref q_26, .ref q_28, .ref q_29, .ref q_31, .ref q_33, .ref q_35, .int 0, .ref q_37, .ref q_39, .ref q_41, .ref q_43, .ref q_45, .ref q_47, .ref q_49, .ref q_51, .ref q_53, .ref q_55, .ref q_57, .int 0, .ref q_59, .ref q_61, .ref q_63, .int (-1), .int 0, .int 0, .int 0, .int 0, .ref q_65, .int 0, .ref q_68, .int 0, .int (-1), .int 0, .int 0, .ref q_70, .ref q_72]))]) [0] (by decide) rfl
    have hKc := hK.sub (tys' := []) [] rfl
    have hFc := va_free (wc := [(h0, .inr (16, [.ref q_1, .ref q_12, .ref q_17, .ref q_22, .ref q_24, .ref q_26, .ref q_28, .ref q_29, .ref q_31, .ref q_33, .ref q_35, .int 0, .ref q_37, .ref q_39, .ref q_41, .ref q_43, .ref q_45, .ref q_47, .ref q_49, .ref q_51, .ref q_53, .ref q_55, .ref q_57, .int 0, .ref q_59, .ref q_61, .ref q_63, .int (-1), .int 0, .int 0, .int 0, .int 0, .ref q_65, .int 0, .ref q_68, .int 0, .int (-1), .int 0, .int 0, .ref q_70, .ref q_72]))]) hD hS hA [0] rfl
    refine va_calli (va_runV (As := [.int 1]) (rest := []) ⟨hx, hb, hml, hown, hts⟩ (c_X19_no l dC dI h0 q_1 q_12 q_17 q_22 q_24 q_26 q_28 q_29 q_31 q_33 q_35 q_37 q_39 q_41 q_43 q_45 q_47 q_49 q_51 q_53 q_55 q_57 q_59 q_61 q_63 q_65 q_68 q_70 q_72 1 H.size) (cwV 1 hts g_X19_end_X19_no rfl rfl rfl (by decide +kernel) ⟨(Nat.le_of_ble_eq_true rfl), (Nat.le_of_ble_eq_true rfl)⟩) ⟨fun a U g mk q => by obtain ⟨q0, q1, qP, qK, qD⟩ := q; exact ⟨q0, q1, qP, va_K.moved (u := U) (U := U.calling g mk a) (Vm.Alike.refl U.vm) qK, qD⟩, va_recv hKc hPc (ci := 16) (q0 := 0) rfl rfl, fun U hU hW => ⟨rfl, by rw [hU], by rw [hU]; exact hPc, va_K.moved hW.alike hKc, hDc.weaken (fun _ _ _ _ => trivial)⟩⟩ rfl rfl hl.1 rfl (lv_room (Nat.le_of_ble_eq_true rfl)) dX19_end_19 ⟨(Nat.le_of_ble_eq_true rfl), (Nat.le_of_ble_eq_true rfl)⟩) hS (fun q _ h => hFc q h) hFc (fun r_2001 u t H1 locs ht hvm hw hB hz1 hk1 hS => ?_)
    obtain ⟨hP1, hK1, hD1⟩ := hB
    rw [ht] at hP1
    have hK1 := va_K.moved hvm.symm hK1
    obtain ⟨hP, hD⟩ := va_join (wr := []) (w1 := [(h0, .inr (16, [.ref q_1, .ref q_12, .ref q_17, .ref q_22, .ref q_24, .ref q_26, .ref q_28, .ref q_29, .ref q_31, .ref q_33, .ref q_35, .int 0, .ref q_37, .ref q_39, .ref q_41, .ref q_43, .ref q_45, .ref q_47, .ref q_49, .ref q_51, .ref q_53, .ref q_55, .ref q_57, .int 0, .ref q_59, .ref q_61, .ref q_63, .int (-1), .int 0, .int 0, .int 0, .int 0, .ref q_65, .int 1, .ref q_68, .int 0, .int (-1), .int 0, .int 0, .ref q_70, .ref q_72]))]) hP hD [0] [] rfl rfl (by decide) (by decide) hk1 hFc hP1 hD1
    have hK := (hK.sub (tys' := []) [] rfl).app hK1
    generalize H1 = H at hP hS ⊢
    have hP : va_P (dC, dI) vwP [(h0, .inr (16, [.ref q_1, .ref q_12, .ref q_17, .ref q_22, .ref q_24, .ref q_26, .ref q_28, .ref q_29, .ref q_31, .ref q_33, .ref q_35, .int 0, .ref q_37, .ref q_39, .ref q_41, .ref q_43, .ref q_45, .ref q_47, .ref q_49, .ref q_51, .ref q_53, .ref q_55, .ref q_57, .int 0, .ref q_59, .ref q_61, .ref q_63, .int (-1), .int 0, .int 0, .int 0, .int 0, .ref q_65, .int 1, .ref q_68, .int 0, .int (-1), .int 0, .int 0, .ref q_70, .ref q_72]))] H := hP
    have hD : va_D A [(h0, .inr (16, [.ref q_1, .ref q_12, .ref q_17, .ref q_22, .ref q_24, .ref q_26, .ref q_28, .ref q_29, .ref q_31, .ref q_33, .ref q_35, .int 0, .ref q_37, .ref q_39, .ref q_41, .ref q_43, .ref q_45, .ref q_47, .ref q_49, .ref q_51, .ref q_53, .ref q_55, .ref q_57, .int 0, .ref q_59, .ref q_61, .ref q_63, .int (-1), .int 0, .int 0, .int 0, .int 0, .ref q_65, .int 1, .ref q_68, .int 0, .int (-1), .int 0, .int 0, .ref q_70, .ref q_72]))] := hD
    have hK : va_K (dC, dI) vwP [] s := hK
    refine W.widen (k := 0) (n := 0) (Nat.le_of_ble_eq_true rfl) (Nat.le_of_ble_eq_true rfl) ?_
    obtain rfl : r_2001 = 0 := hw
    have zb6 : p0.toInt < 0 := z_lt b6
    refine W.widen (k := 0) (n := 0) (Nat.le_of_ble_eq_true rfl) (Nat.le_of_ble_eq_true rfl) ?_
    exact W.iret (v := 0) hx hb hr (fun t ht hW => ⟨⟨0, (), rfl, (fun h9 => absurd ((show kf_end p0 = 1 by unfold kf_end; first | rfl | (split <;> first | rfl | (exfalso; omega))).symm.trans h9) (by decide)), 1, 0, (-1), 0, q_72, (show kf_end p0 = 1 by unfold kf_end; first | rfl | (split <;> first | rfl | (exfalso; omega))).symm, by rw [ht]; exact hP, va_K.moved hW.alike hK, hD⟩, hS.F ht⟩) hS.2.2 dX19_end_22
  · refine lv_iload_n hx hb dX19_end_9 rfl (lv_at hl 1 rfl) ?_
    refine lv_aload_n hx hb dX19_end_10 rfl (lv_at hl 0 rfl) ?_
    refine va_get (D := (dC, dI)) (ci := 16) (v := .int 0) (C := RX19) (T := TX19) (N := 41) hx hb hts mem_X19_end_0 hown hK hP 0 rfl rfl 35 (by decide) (ow (k := 5) rfl) (fun _ h9 => h9) rfl dX19_end_11 ?_
    refine lv_icmp_le (tgt := 23) hx hb dX19_end_14 (by decide) (fun b14 => ?_) (fun b14 => ?_)
    · refine lv_aload_n hx hb dX19_end_23 rfl (lv_at hl 0 rfl) ?_
      refine lv_iload_n hx hb dX19_end_24 rfl (lv_at hl 1 rfl) ?_
      refine va_put (D := (dC, dI)) (ci := 16) (v := .int p0) (ty := .int) (C := RX19) (T := TX19) (N := 41) hx hb hts mem_X19_end_0 tyX19 tyX19_ok nmX19 hown hK hP hD hS 0 rfl rfl 35 (by decide) (ow (k := 5) rfl) (fun _ h9 => h9) rfl (by decide +kernel) rfl rfl (Nat.le_of_ble_eq_true rfl) dX19_end_25 (fun H locs hP hD hS => ?_)
      have hP : va_P (dC, dI) vwP [(h0, .inr (16, [.ref q_1, .ref q_12, .ref q_17, .ref q_22, .ref q_24, .ref q_26, .ref q_28, .ref q_29, .ref q_31, .ref q_33, .ref q_35, .int 0, .ref q_37, .ref q_39, .ref q_41, .ref q_43, .ref q_45, .ref q_47, .ref q_49, .ref q_51, .ref q_53, .ref q_55, .ref q_57, .int 0, .ref q_59, .ref q_61, .ref q_63, .int (-1), .int 0, .int 0, .int 0, .int 0, .ref q_65, .int 0, .ref q_68, .int p0, .int (-1), .int 0, .int 0, .ref q_70, .ref q_72]))] H := hP
      have hD : va_D A [(h0, .inr (16, [.ref q_1, .ref q_12, .ref q_17, .ref q_22, .ref q_24, .ref q_26, .ref q_28, .ref q_29, .ref q_31, .ref q_33, .ref q_35, .int 0, .ref q_37, .ref q_39, .ref q_41, .ref q_43, .ref q_45, .ref q_47, .ref q_49, .ref q_51, .ref q_53, .ref q_55, .ref q_57, .int 0, .ref q_59, .ref q_61, .ref q_63, .int (-1), .int 0, .int 0, .int 0, .int 0, .ref q_65, .int 0, .ref q_68, .int p0, .int (-1), .int 0, .int 0, .ref q_70, .ref q_72]))] := hD
      refine lv_iload_n hx hb dX19_end_28 rfl (lv_at hl 1 rfl) ?_
      have zb6 : 0 ≤ p0.toInt := z_nlt b6
      have zb14 : p0.toInt ≤ 0 := z_le b14
      refine W.widen (k := 0) (n := 0) (Nat.le_of_ble_eq_true rfl) (Nat.le_of_ble_eq_true rfl) ?_
      exact W.iret (v := p0) hx hb hr (fun t ht hW => ⟨⟨p0, (), rfl, (fun _ => (show p0 = vf_end p0 by unfold vf_end; first | rfl | (split <;> first | rfl | (exfalso; omega)))), 0, p0, (-1), 0, q_72, (show kf_end p0 = 0 by unfold kf_end; first | rfl | (split <;> first | rfl | (exfalso; omega))).symm, by rw [ht]; exact hP, va_K.moved hW.alike hK, hD⟩, hS.F ht⟩) hS.2.2 dX19_end_29
    · refine lv_aload_n hx hb dX19_end_17 rfl (lv_at hl 0 rfl) ?_
      refine lv_iconst (v := 1) hx hb dX19_end_18 (by decide) ?_
      have hPc := hP.sub (ws' := [(h0, .inr (16, [.ref q_1, .ref q_12, .ref q_17, .ref q_22, .ref q_24, .ref q_26, .ref q_28, .ref q_29, .ref q_31, .ref q_33, .ref q_35, .int 0, .ref q_37, .ref q_39, .ref q_41, .ref q_43, .ref q_45, .ref q_47, .ref q_49, .ref q_51, .ref q_53, .ref q_55, .ref q_57, .int 0, .ref q_59, .ref q_61, .ref q_63, .int (-1), .int 0, .int 0, .int 0, .int 0, .ref q_65, .int 0, .ref q_68, .int 0, .int (-1), .int 0, .int 0, .ref q_70, .ref q_72]))]) [0] rfl
      have hDc := hD.sub (ws' := [(h0, .inr (16, [.ref q_1, .ref q_12, .ref q_17, .ref q_22, .ref q_24, .ref q_26, .ref q_28, .ref q_29, .ref q_31, .ref q_33, .ref q_35, .int 0, .ref q_37, .ref q_39, .ref q_41, .ref q_43, .ref q_45, .ref q_47, .ref q_49, .ref q_51, .ref q_53, .ref q_55, .ref q_57, .int 0, .ref q_59, .ref q_61, .ref q_63, .int (-1), .int 0, .int 0, .int 0, .int 0, .ref q_65, .int 0, .ref q_68, .int 0, .int (-1), .int 0, .int 0, .ref q_70, .ref q_72]))]) [0] (by decide) rfl
      have hKc := hK.sub (tys' := []) [] rfl
      have hFc := va_free (wc := [(h0, .inr (16, [.ref q_1, .ref q_12, .ref q_17, .ref q_22, .ref q_24, .ref q_26, .ref q_28, .ref q_29, .ref q_31, .ref q_33, .ref q_35, .int 0, .ref q_37, .ref q_39, .ref q_41, .ref q_43, .ref q_45, .ref q_47, .ref q_49, .ref q_51, .ref q_53, .ref q_55, .ref q_57, .int 0, .ref q_59, .ref q_61, .ref q_63, .int (-1), .int 0, .int 0, .int 0, .int 0, .ref q_65, .int 0, .ref q_68, .int 0, .int (-1), .int 0, .int 0, .ref q_70, .ref q_72]))]) hD hS hA [0] rfl
      refine va_calli (va_runV (As := [.int 1]) (rest := []) ⟨hx, hb, hml, hown, hts⟩ (c_X19_no l dC dI h0 q_1 q_12 q_17 q_22 q_24 q_26 q_28 q_29 q_31 q_33 q_35 q_37 q_39 q_41 q_43 q_45 q_47 q_49 q_51 q_53 q_55 q_57 q_59 q_61 q_63 q_65 q_68 q_70 q_72 1 H.size) (cwV 1 hts g_X19_end_X19_no rfl rfl rfl (by decide +kernel) ⟨(Nat.le_of_ble_eq_true rfl), (Nat.le_of_ble_eq_true rfl)⟩) ⟨fun a U g mk q => by obtain ⟨q0, q1, qP, qK, qD⟩ := q; exact ⟨q0, q1, qP, va_K.moved (u := U) (U := U.calling g mk a) (Vm.Alike.refl U.vm) qK, qD⟩, va_recv hKc hPc (ci := 16) (q0 := 0) rfl rfl, fun U hU hW => ⟨rfl, by rw [hU], by rw [hU]; exact hPc, va_K.moved hW.alike hKc, hDc.weaken (fun _ _ _ _ => trivial)⟩⟩ rfl rfl hl.1 rfl (lv_room (Nat.le_of_ble_eq_true rfl)) dX19_end_19 ⟨(Nat.le_of_ble_eq_true rfl), (Nat.le_of_ble_eq_true rfl)⟩) hS (fun q _ h => hFc q h) hFc (fun r_2002 u t H1 locs ht hvm hw hB hz1 hk1 hS => ?_)
      obtain ⟨hP1, hK1, hD1⟩ := hB
      rw [ht] at hP1
      have hK1 := va_K.moved hvm.symm hK1
      obtain ⟨hP, hD⟩ := va_join (wr := []) (w1 := [(h0, .inr (16, [.ref q_1, .ref q_12, .ref q_17, .ref q_22, .ref q_24, .ref q_26, .ref q_28, .ref q_29, .ref q_31, .ref q_33, .ref q_35, .int 0, .ref q_37, .ref q_39, .ref q_41, .ref q_43, .ref q_45, .ref q_47, .ref q_49, .ref q_51, .ref q_53, .ref q_55, .ref q_57, .int 0, .ref q_59, .ref q_61, .ref q_63, .int (-1), .int 0, .int 0, .int 0, .int 0, .ref q_65, .int 1, .ref q_68, .int 0, .int (-1), .int 0, .int 0, .ref q_70, .ref q_72]))]) hP hD [0] [] rfl rfl (by decide) (by decide) hk1 hFc hP1 hD1
      have hK := (hK.sub (tys' := []) [] rfl).app hK1
      generalize H1 = H at hP hS ⊢
      have hP : va_P (dC, dI) vwP [(h0, .inr (16, [.ref q_1, .ref q_12, .ref q_17, .ref q_22, .ref q_24, .ref q_26, .ref q_28, .ref q_29, .ref q_31, .ref q_33, .ref q_35, .int 0, .ref q_37, .ref q_39, .ref q_41, .ref q_43, .ref q_45, .ref q_47, .ref q_49, .ref q_51, .ref q_53, .ref q_55, .ref q_57, .int 0, .ref q_59, .ref q_61, .ref q_63, .int (-1), .int 0, .int 0, .int 0, .int 0, .ref q_65, .int 1, .ref q_68, .int 0, .int (-1), .int 0, .int 0, .ref q_70, .ref q_72]))] H := hP
      have hD : va_D A [(h0, .inr (16, [.ref q_1, .ref q_12, .ref q_17, .ref q_22, .ref q_24, .ref q_26, .ref q_28, .ref q_29, .ref q_31, .ref q_33, .ref q_35, .int 0, .ref q_37, .ref q_39, .ref q_41, .ref q_43, .ref q_45, .ref q_47, .ref q_49, .ref q_51, .ref q_53, .ref q_55, .ref q_57, .int 0, .ref q_59, .ref q_61, .ref q_63, .int (-1), .int 0, .int 0, .int 0, .int 0, .ref q_65, .int 1, .ref q_68, .int 0, .int (-1), .int 0, .int 0, .ref q_70, .ref q_72]))] := hD
      have hK : va_K (dC, dI) vwP [] s := hK
      refine W.widen (k := 0) (n := 0) (Nat.le_of_ble_eq_true rfl) (Nat.le_of_ble_eq_true rfl) ?_
      obtain rfl : r_2002 = 0 := hw
      have zb6 : 0 ≤ p0.toInt := z_nlt b6
      have zb14 : 0 < p0.toInt := z_nle b14
      refine W.widen (k := 0) (n := 0) (Nat.le_of_ble_eq_true rfl) (Nat.le_of_ble_eq_true rfl) ?_
      exact W.iret (v := 0) hx hb hr (fun t ht hW => ⟨⟨0, (), rfl, (fun h9 => absurd ((show kf_end p0 = 1 by unfold kf_end; first | rfl | (split <;> first | rfl | (exfalso; omega))).symm.trans h9) (by decide)), 1, 0, (-1), 0, q_72, (show kf_end p0 = 1 by unfold kf_end; first | rfl | (split <;> first | rfl | (exfalso; omega))).symm, by rw [ht]; exact hP, va_K.moved hW.alike hK, hD⟩, hS.F ht⟩) hS.2.2 dX19_end_22
theorem dX19_ssa_0 : decode cX19_ssa 0 = .ok (.aload_n 0, 1) := by decide +kernel
theorem dX19_ssa_1 : decode cX19_ssa 1 = .ok (.iconst 0, 1) := by decide +kernel
theorem dX19_ssa_2 : decode cX19_ssa 2 = .ok (.putfield 560, 3) := by decide +kernel
theorem dX19_ssa_5 : decode cX19_ssa 5 = .ok (.aload_n 0, 1) := by decide +kernel
theorem dX19_ssa_6 : decode cX19_ssa 6 = .ok (.getfield 555, 3) := by decide +kernel
theorem dX19_ssa_9 : decode cX19_ssa 9 = .ok (.ifCond .eq 9, 3) := by decide +kernel
theorem dX19_ssa_12 : decode cX19_ssa 12 = .ok (.aload_n 0, 1) := by decide +kernel
theorem dX19_ssa_13 : decode cX19_ssa 13 = .ok (.iconst 1, 1) := by decide +kernel
theorem dX19_ssa_14 : decode cX19_ssa 14 = .ok (.invokevirtual 565, 3) := by decide +kernel
theorem dX19_ssa_17 : decode cX19_ssa 17 = .ok (.ireturn, 1) := by decide +kernel
def o_X19_ssa : List Cond := [.fieldLink RX19 560 "SsaForgeModel" "thrown" "I", .fieldLink RX19 555 "SsaForgeModel" "form" "I", .methodLink RX19 565 yX19_no, .instanceMethod yX19_no, .selects RX19 yX19_no yX19_no, .initialized RX19]
def v_X19_ssa : List Cond := .code yX19_ssa cX19_ssa 1 (some .int) :: (o_X19_ssa ++ (wsX190 ++ (v_X19_no ++ [])))
theorem mow_X19_ssa : ∀ w ∈ o_X19_ssa, w ∈ v_X19_ssa := fun _ h => List.mem_cons_of_mem _ (List.mem_append_left _ h)
theorem mem_X19_ssa_0 : ∀ w ∈ wsX190, w ∈ v_X19_ssa := fun _ h => List.mem_cons_of_mem _ (List.mem_append_right _ (List.mem_append_left _ h))
theorem mem_X19_ssa_1 : ∀ w ∈ v_X19_no, w ∈ v_X19_ssa := fun _ h => List.mem_cons_of_mem _ (List.mem_append_right _ (List.mem_append_right _ (List.mem_append_left _ h)))
set_option maxRecDepth 20000 in
theorem gw_X19_ssa : v_X19_ssa.all goodWord = true := by decide +kernel
set_option maxRecDepth 20000 in
theorem g_X19_ssa_X19_no : GoodIn v_X19_ssa (wsV RX19 565 RX19 yX19_no v_X19_no) := goodIn_app (goodIn_sub (fun w h => mow_X19_ssa w (by revert w h; decide +kernel)) (by decide +kernel)) (goodIn_sub mem_X19_ssa_1 gw_X19_no)
set_option maxHeartbeats 4000000 in
set_option maxRecDepth 100000 in
theorem c_X19_ssa (l : Launch) (dC : Nat → ClassId) (dI : Nat → Nat → Nat) (h0 : Nat) (q_1 : Nat) (q_12 : Nat) (q_17 : Nat) (q_22 : Nat) (q_24 : Nat) (q_26 : Nat) (q_28 : Nat) (q_29 : Nat) (q_31 : Nat) (q_33 : Nat) (q_35 : Nat) (q_37 : Nat) (q_39 : Nat) (q_41 : Nat) (q_43 : Nat) (q_45 : Nat) (q_47 : Nat) (q_49 : Nat) (q_51 : Nat) (q_53 : Nat) (q_55 : Nat) (q_57 : Nat) (q_59 : Nat) (q_61 : Nat) (q_63 : Nat) (q_65 : Nat) (q_68 : Nat) (q_70 : Nat) (q_72 : Nat) (sz : Nat) : Met l yX19_ssa v_X19_ssa ({ frames := 1, cells := 0, slots := 0, locals := 21 }) (va_Pc [.ref h0] (fun U => U.heap.size = sz ∧ va_P (dC, dI) vwP [(h0, .inr (16, [.ref q_1, .ref q_12, .ref q_17, .ref q_22, .ref q_24, .ref q_26, .ref q_28, .ref q_29, .ref q_31, .ref q_33, .ref q_35, .int 0, .ref q_37, .ref q_39, .ref q_41, .ref q_43, .ref q_45, .ref q_47, .ref q_49, .ref q_51, .ref q_53, .ref q_55, .ref q_57, .int 0, .ref q_59, .ref q_61, .ref q_63, .int (-1), .int 0, .int 0, .int 0, .int 0, .ref q_65, .int 0, .ref q_68, .int 0, .int (-1), .int 0, .int 0, .ref q_70, .ref q_72]))] U.heap ∧ va_K (dC, dI) vwP [] U ∧ va_D (fun _ => True) [(h0, .inr (16, [.ref q_1, .ref q_12, .ref q_17, .ref q_22, .ref q_24, .ref q_26, .ref q_28, .ref q_29, .ref q_31, .ref q_33, .ref q_35, .int 0, .ref q_37, .ref q_39, .ref q_41, .ref q_43, .ref q_45, .ref q_47, .ref q_49, .ref q_51, .ref q_53, .ref q_55, .ref q_57, .int 0, .ref q_59, .ref q_61, .ref q_63, .int (-1), .int 0, .int 0, .int 0, .int 0, .ref q_65, .int 0, .ref q_68, .int 0, .int (-1), .int 0, .int 0, .ref q_70, .ref q_72]))])) (va_Qi (fun (r : Int32) (_ : Unit) => kf_ssa = 0 → r = vf_ssa) (fun (_ : Unit) (t : State) => ∃ (i_33 : Int32) (i_35 : Int32) (i_36 : Int32) (i_37 : Int32) (q_940 : Nat), (i_33 = kf_ssa) ∧ va_P (dC, dI) vwP [(h0, .inr (16, [.ref q_1, .ref q_12, .ref q_17, .ref q_22, .ref q_24, .ref q_26, .ref q_28, .ref q_29, .ref q_31, .ref q_33, .ref q_35, .int 0, .ref q_37, .ref q_39, .ref q_41, .ref q_43, .ref q_45, .ref q_47, .ref q_49, .ref q_51, .ref q_53, .ref q_55, .ref q_57, .int 0, .ref q_59, .ref q_61, .ref q_63, .int (-1), .int 0, .int 0, .int 0, .int 0, .ref q_65, .int i_33, .ref q_68, .int i_35, .int i_36, .int i_37, .int 0, .ref q_70, .ref q_940]))] t.heap ∧ va_K (dC, dI) vwP [] t ∧ va_D (va_A [(h0, .inr (16, [.ref q_1, .ref q_12, .ref q_17, .ref q_22, .ref q_24, .ref q_26, .ref q_28, .ref q_29, .ref q_31, .ref q_33, .ref q_35, .int 0, .ref q_37, .ref q_39, .ref q_41, .ref q_43, .ref q_45, .ref q_47, .ref q_49, .ref q_51, .ref q_53, .ref q_55, .ref q_57, .int 0, .ref q_59, .ref q_61, .ref q_63, .int (-1), .int 0, .int 0, .int 0, .int 0, .ref q_65, .int 0, .ref q_68, .int 0, .int (-1), .int 0, .int 0, .ref q_70, .ref q_72]))] sz) [(h0, .inr (16, [.ref q_1, .ref q_12, .ref q_17, .ref q_22, .ref q_24, .ref q_26, .ref q_28, .ref q_29, .ref q_31, .ref q_33, .ref q_35, .int 0, .ref q_37, .ref q_39, .ref q_41, .ref q_43, .ref q_45, .ref q_47, .ref q_49, .ref q_51, .ref q_53, .ref q_55, .ref q_57, .int 0, .ref q_59, .ref q_61, .ref q_63, .int (-1), .int 0, .int 0, .int 0, .int 0, .ref q_65, .int i_33, .ref q_68, .int i_35, .int i_36, .int i_37, .int 0, .ref q_70, .ref q_940]))]) (va_A [(h0, .inr (16, [.ref q_1, .ref q_12, .ref q_17, .ref q_22, .ref q_24, .ref q_26, .ref q_28, .ref q_29, .ref q_31, .ref q_33, .ref q_35, .int 0, .ref q_37, .ref q_39, .ref q_41, .ref q_43, .ref q_45, .ref q_47, .ref q_49, .ref q_51, .ref q_53, .ref q_55, .ref q_57, .int 0, .ref q_59, .ref q_61, .ref q_63, .int (-1), .int 0, .int 0, .int 0, .int 0, .ref q_65, .int 0, .ref q_68, .int 0, .int (-1), .int 0, .int 0, .ref q_70, .ref q_72]))] sz)) 0 0 (va_A [(h0, .inr (16, [.ref q_1, .ref q_12, .ref q_17, .ref q_22, .ref q_24, .ref q_26, .ref q_28, .ref q_29, .ref q_31, .ref q_33, .ref q_35, .int 0, .ref q_37, .ref q_39, .ref q_41, .ref q_43, .ref q_45, .ref q_47, .ref q_49, .ref q_51, .ref q_53, .ref q_55, .ref q_57, .int 0, .ref q_59, .ref q_61, .ref q_63, .int (-1), .int 0, .int 0, .int 0, .int 0, .ref q_65, .int 0, .ref q_68, .int 0, .int (-1), .int 0, .int 0, .ref q_70, .ref q_72]))] sz) := by
  refine Met.ofW (cc := cX19_ssa) (maxL := 1) (ret := (some .int)) (by decide) rfl ?_
  intro p e s m args below meth c s₁ B hml hv
  obtain ⟨rfl, hsz, hP, hK, hD0⟩ := hv
  have hx := B.exec
  have hb := B.bytes
  have hr := B.returns
  have hts := atoms_spec (ws := v_X19_ssa) B.pre
  have hown : s.vm.findClass RX19 = some m.cls := findClass_of_methodNamed B.named
  have hlocks := B.notSynchronized
  have ow : ∀ {k : Nat} {w : Cond}, o_X19_ssa[k]? = some w → w.before ([.ref h0] : List Value).toArray s = true := fun h => hts _ (mow_X19_ssa _ (List.mem_of_getElem? h))
  subst hsz
  have hD := hD0.self (sz := s.heap.size)
  generalize hAe : va_A [(h0, .inr (16, [.ref q_1, .ref q_12, .ref q_17, .ref q_22, .ref q_24, .ref q_26, .ref q_28, .ref q_29, .ref q_31, .ref q_33, .ref q_35, .int 0, .ref q_37, .ref q_39, .ref q_41, .ref q_43, .ref q_45, .ref q_47, .ref q_49, .ref q_51, .ref q_53, .ref q_55, .ref q_57, .int 0, .ref q_59, .ref q_61, .ref q_63, .int (-1), .int 0, .int 0, .int 0, .int 0, .ref q_65, .int 0, .ref q_68, .int 0, .int (-1), .int 0, .int 0, .ref q_70, .ref q_72]))] s.heap.size = A at hD ⊢
  have hA : ∀ q : Nat, s.heap.size ≤ q → A q := fun q h => by rw [← hAe]; exact Or.inr h
  have hS : va_S A s.heap s.heap [] := va_S.rf
  have hP : va_P (dC, dI) vwP [(h0, .inr (16, [.ref q_1, .ref q_12, .ref q_17, .ref q_22, .ref q_24, .ref q_26, .ref q_28, .ref q_29, .ref q_31, .ref q_33, .ref q_35, .int 0, .ref q_37, .ref q_39, .ref q_41, .ref q_43, .ref q_45, .ref q_47, .ref q_49, .ref q_51, .ref q_53, .ref q_55, .ref q_57, .int 0, .ref q_59, .ref q_61, .ref q_63, .int (-1), .int 0, .int 0, .int 0, .int 0, .ref q_65, .int 0, .ref q_68, .int 0, .int (-1), .int 0, .int 0, .ref q_70, .ref q_72]))] s.heap := hP
  have hl := lv_entry ([.ref h0]) (n := 1) (Nat.le_of_ble_eq_true rfl)
  rw [lg_entry_eq]
  generalize (lg_sl ([.ref h0]) ++ List.replicate (1 - (lg_sl ([.ref h0])).length) Slot.unset).toArray = ls at hl ⊢
  have hl : lv_has ls 1 [(0, .ref h0)] := hl
  obtain ⟨H, hH⟩ : ∃ H, H = s.heap := ⟨_, rfl⟩
  rw [← hH] at hP
  have hS : va_S A s.heap H [] := by rw [hH]; exact hS
  rw [← hH]
  refine lv_aload_n hx hb dX19_ssa_0 rfl (lv_at hl 0 rfl) ?_
  refine lv_iconst (v := 0) hx hb dX19_ssa_1 (by decide) ?_
  refine va_put (D := (dC, dI)) (ci := 16) (v := .int 0) (ty := .int) (C := RX19) (T := TX19) (N := 41) hx hb hts mem_X19_ssa_0 tyX19 tyX19_ok nmX19 hown hK hP hD hS 0 rfl rfl 33 (by decide) (ow (k := 0) rfl) (fun _ h9 => h9) rfl (by decide +kernel) rfl rfl (Nat.le_of_ble_eq_true rfl) dX19_ssa_2 (fun H locs hP hD hS => ?_)
  have hP : va_P (dC, dI) vwP [(h0, .inr (16, [.ref q_1, .ref q_12, .ref q_17, .ref q_22, .ref q_24, .ref q_26, .ref q_28, .ref q_29, .ref q_31, .ref q_33, .ref q_35, .int 0, .ref q_37, .ref q_39, .ref q_41, .ref q_43, .ref q_45, .ref q_47, .ref q_49, .ref q_51, .ref q_53, .ref q_55, .ref q_57, .int 0, .ref q_59, .ref q_61, .ref q_63, .int (-1), .int 0, .int 0, .int 0, .int 0, .ref q_65, .int 0, .ref q_68, .int 0, .int (-1), .int 0, .int 0, .ref q_70, .ref q_72]))] H := hP
  have hD : va_D A [(h0, .inr (16, [.ref q_1, .ref q_12, .ref q_17, .ref q_22, .ref q_24, .ref q_26, .ref q_28, .ref q_29, .ref q_31, .ref q_33, .ref q_35, .int 0, .ref q_37, .ref q_39, .ref q_41, .ref q_43, .ref q_45, .ref q_47, .ref q_49, .ref q_51, .ref q_53, .ref q_55, .ref q_57, .int 0, .ref q_59, .ref q_61, .ref q_63, .int (-1), .int 0, .int 0, .int 0, .int 0, .ref q_65, .int 0, .ref q_68, .int 0, .int (-1), .int 0, .int 0, .ref q_70, .ref q_72]))] := hD
  refine lv_aload_n hx hb dX19_ssa_5 rfl (lv_at hl 0 rfl) ?_
  refine va_get (D := (dC, dI)) (ci := 16) (v := .int (-1)) (C := RX19) (T := TX19) (N := 41) hx hb hts mem_X19_ssa_0 hown hK hP 0 rfl rfl 36 (by decide) (ow (k := 1) rfl) (fun _ h9 => h9) rfl dX19_ssa_6 ?_
  refine lv_if_eq (tgt := 18) hx hb dX19_ssa_9 (by decide) (fun h9 => absurd h9 (by decide)) (fun _ => ?_)
  refine lv_aload_n hx hb dX19_ssa_12 rfl (lv_at hl 0 rfl) ?_
  refine lv_iconst (v := 1) hx hb dX19_ssa_13 (by decide) ?_
  have hPc := hP.sub (ws' := [(h0, .inr (16, [.ref q_1, .ref q_12, .ref q_17, .ref q_22, .ref q_24, .ref q_26, .ref q_28, .ref q_29, .ref q_31, .ref q_33, .ref q_35, .int 0, .ref q_37, .ref q_39, .ref q_41, .ref q_43, .ref q_45, .ref q_47, .ref q_49, .ref q_51, .ref q_53, .ref q_55, .ref q_57, .int 0, .ref q_59, .ref q_61, .ref q_63, .int (-1), .int 0, .int 0, .int 0, .int 0, .ref q_65, .int 0, .ref q_68, .int 0, .int (-1), .int 0, .int 0, .ref q_70, .ref q_72]))]) [0] rfl
  have hDc := hD.sub (ws' := [(h0, .inr (16, [.ref q_1, .ref q_12, .ref q_17, .ref q_22, .ref q_24, .ref q_26, .ref q_28, .ref q_29, .ref q_31, .ref q_33, .ref q_35, .int 0, .ref q_37, .ref q_39, .ref q_41, .ref q_43, .ref q_45, .ref q_47, .ref q_49, .ref q_51, .ref q_53, .ref q_55, .ref q_57, .int 0, .ref q_59, .ref q_61, .ref q_63, .int (-1), .int 0, .int 0, .int 0, .int 0, .ref q_65, .int 0, .ref q_68, .int 0, .int (-1), .int 0, .int 0, .ref q_70, .ref q_72]))]) [0] (by decide) rfl
  have hKc := hK.sub (tys' := []) [] rfl
  have hFc := va_free (wc := [(h0, .inr (16, [.ref q_1, .ref q_12, .ref q_17, .ref q_22, .ref q_24, .ref q_26, .ref q_28, .ref q_29, .ref q_31, .ref q_33, .ref q_35, .int 0, .ref q_37, .ref q_39, .ref q_41, .ref q_43, .ref q_45, .ref q_47, .ref q_49, .ref q_51, .ref q_53, .ref q_55, .ref q_57, .int 0, .ref q_59, .ref q_61, .ref q_63, .int (-1), .int 0, .int 0, .int 0, .int 0, .ref q_65, .int 0, .ref q_68, .int 0, .int (-1), .int 0, .int 0, .ref q_70, .ref q_72]))]) hD hS hA [0] rfl
  refine va_calli (va_runV (As := [.int 1]) (rest := []) ⟨hx, hb, hml, hown, hts⟩ (c_X19_no l dC dI h0 q_1 q_12 q_17 q_22 q_24 q_26 q_28 q_29 q_31 q_33 q_35 q_37 q_39 q_41 q_43 q_45 q_47 q_49 q_51 q_53 q_55 q_57 q_59 q_61 q_63 q_65 q_68 q_70 q_72 1 H.size) (cwV 1 hts g_X19_ssa_X19_no rfl rfl rfl (by decide +kernel) ⟨(Nat.le_of_ble_eq_true rfl), (Nat.le_of_ble_eq_true rfl)⟩) ⟨fun a U g mk q => by obtain ⟨q0, q1, qP, qK, qD⟩ := q; exact ⟨q0, q1, qP, va_K.moved (u := U) (U := U.calling g mk a) (Vm.Alike.refl U.vm) qK, qD⟩, va_recv hKc hPc (ci := 16) (q0 := 0) rfl rfl, fun U hU hW => ⟨rfl, by rw [hU], by rw [hU]; exact hPc, va_K.moved hW.alike hKc, hDc.weaken (fun _ _ _ _ => trivial)⟩⟩ rfl rfl hl.1 rfl (lv_room (Nat.le_of_ble_eq_true rfl)) dX19_ssa_14 ⟨(Nat.le_of_ble_eq_true rfl), (Nat.le_of_ble_eq_true rfl)⟩) hS (fun q _ h => hFc q h) hFc (fun r_2001 u t H1 locs ht hvm hw hB hz1 hk1 hS => ?_)
  obtain ⟨hP1, hK1, hD1⟩ := hB
  rw [ht] at hP1
  have hK1 := va_K.moved hvm.symm hK1
  obtain ⟨hP, hD⟩ := va_join (wr := []) (w1 := [(h0, .inr (16, [.ref q_1, .ref q_12, .ref q_17, .ref q_22, .ref q_24, .ref q_26, .ref q_28, .ref q_29, .ref q_31, .ref q_33, .ref q_35, .int 0, .ref q_37, .ref q_39, .ref q_41, .ref q_43, .ref q_45, .ref q_47, .ref q_49, .ref q_51, .ref q_53, .ref q_55, .ref q_57, .int 0, .ref q_59, .ref q_61, .ref q_63, .int (-1), .int 0, .int 0, .int 0, .int 0, .ref q_65, .int 1, .ref q_68, .int 0, .int (-1), .int 0, .int 0, .ref q_70, .ref q_72]))]) hP hD [0] [] rfl rfl (by decide) (by decide) hk1 hFc hP1 hD1
  have hK := (hK.sub (tys' := []) [] rfl).app hK1
  generalize H1 = H at hP hS ⊢
  have hP : va_P (dC, dI) vwP [(h0, .inr (16, [.ref q_1, .ref q_12, .ref q_17, .ref q_22, .ref q_24, .ref q_26, .ref q_28, .ref q_29, .ref q_31, .ref q_33, .ref q_35, .int 0, .ref q_37, .ref q_39, .ref q_41, .ref q_43, .ref q_45, .ref q_47, .ref q_49, .ref q_51, .ref q_53, .ref q_55, .ref q_57, .int 0, .ref q_59, .ref q_61, .ref q_63, .int (-1), .int 0, .int 0, .int 0, .int 0, .ref q_65, .int 1, .ref q_68, .int 0, .int (-1), .int 0, .int 0, .ref q_70, .ref q_72]))] H := hP
  have hD : va_D A [(h0, .inr (16, [.ref q_1, .ref q_12, .ref q_17, .ref q_22, .ref q_24, .ref q_26, .ref q_28, .ref q_29, .ref q_31, .ref q_33, .ref q_35, .int 0, .ref q_37, .ref q_39, .ref q_41, .ref q_43, .ref q_45, .ref q_47, .ref q_49, .ref q_51, .ref q_53, .ref q_55, .ref q_57, .int 0, .ref q_59, .ref q_61, .ref q_63, .int (-1), .int 0, .int 0, .int 0, .int 0, .ref q_65, .int 1, .ref q_68, .int 0, .int (-1), .int 0, .int 0, .ref q_70, .ref q_72]))] := hD
  have hK : va_K (dC, dI) vwP [] s := hK
  refine W.widen (k := 0) (n := 0) (Nat.le_of_ble_eq_true rfl) (Nat.le_of_ble_eq_true rfl) ?_
  obtain rfl : r_2001 = 0 := hw
  refine W.widen (k := 0) (n := 0) (Nat.le_of_ble_eq_true rfl) (Nat.le_of_ble_eq_true rfl) ?_
  exact W.iret (v := 0) hx hb hr (fun t ht hW => ⟨⟨0, (), rfl, (fun h9 => absurd ((show kf_ssa = 1 by unfold kf_ssa; first | rfl | (split <;> first | rfl | (exfalso; omega))).symm.trans h9) (by decide)), 1, 0, (-1), 0, q_72, (show kf_ssa = 1 by unfold kf_ssa; first | rfl | (split <;> first | rfl | (exfalso; omega))).symm, by rw [ht]; exact hP, va_K.moved hW.alike hK, hD⟩, hS.F ht⟩) hS.2.2 dX19_ssa_17
theorem dX19_pass_0 : decode cX19_pass 0 = .ok (.aload_n 0, 1) := by decide +kernel
theorem dX19_pass_1 : decode cX19_pass 1 = .ok (.iconst 0, 1) := by decide +kernel
theorem dX19_pass_2 : decode cX19_pass 2 = .ok (.putfield 560, 3) := by decide +kernel
theorem dX19_pass_5 : decode cX19_pass 5 = .ok (.iload_n 1, 1) := by decide +kernel
theorem dX19_pass_6 : decode cX19_pass 6 = .ok (.iconst 1, 1) := by decide +kernel
theorem dX19_pass_7 : decode cX19_pass 7 = .ok (.if_icmp .lt 9, 3) := by decide +kernel
theorem dX19_pass_16 : decode cX19_pass 16 = .ok (.aload_n 0, 1) := by decide +kernel
theorem dX19_pass_17 : decode cX19_pass 17 = .ok (.iconst 1, 1) := by decide +kernel
theorem dX19_pass_18 : decode cX19_pass 18 = .ok (.invokevirtual 565, 3) := by decide +kernel
theorem dX19_pass_21 : decode cX19_pass 21 = .ok (.ireturn, 1) := by decide +kernel
theorem dX19_pass_10 : decode cX19_pass 10 = .ok (.iload_n 1, 1) := by decide +kernel
theorem dX19_pass_11 : decode cX19_pass 11 = .ok (.bipush 7, 2) := by decide +kernel
theorem dX19_pass_13 : decode cX19_pass 13 = .ok (.if_icmp .le 9, 3) := by decide +kernel
theorem dX19_pass_22 : decode cX19_pass 22 = .ok (.aload_n 0, 1) := by decide +kernel
theorem dX19_pass_23 : decode cX19_pass 23 = .ok (.getfield 555, 3) := by decide +kernel
theorem dX19_pass_26 : decode cX19_pass 26 = .ok (.iconst 1, 1) := by decide +kernel
theorem dX19_pass_27 : decode cX19_pass 27 = .ok (.if_icmp .eq 9, 3) := by decide +kernel
theorem dX19_pass_30 : decode cX19_pass 30 = .ok (.aload_n 0, 1) := by decide +kernel
theorem dX19_pass_31 : decode cX19_pass 31 = .ok (.iconst 2, 1) := by decide +kernel
theorem dX19_pass_32 : decode cX19_pass 32 = .ok (.invokevirtual 565, 3) := by decide +kernel
theorem dX19_pass_35 : decode cX19_pass 35 = .ok (.ireturn, 1) := by decide +kernel
def o_X19_pass : List Cond := [.fieldLink RX19 560 "SsaForgeModel" "thrown" "I", .methodLink RX19 565 yX19_no, .instanceMethod yX19_no, .selects RX19 yX19_no yX19_no, .initialized RX19, .fieldLink RX19 555 "SsaForgeModel" "form" "I"]
def v_X19_pass : List Cond := .code yX19_pass cX19_pass 2 (some .int) :: (o_X19_pass ++ (wsX190 ++ (v_X19_no ++ [])))
theorem mow_X19_pass : ∀ w ∈ o_X19_pass, w ∈ v_X19_pass := fun _ h => List.mem_cons_of_mem _ (List.mem_append_left _ h)
theorem mem_X19_pass_0 : ∀ w ∈ wsX190, w ∈ v_X19_pass := fun _ h => List.mem_cons_of_mem _ (List.mem_append_right _ (List.mem_append_left _ h))
theorem mem_X19_pass_1 : ∀ w ∈ v_X19_no, w ∈ v_X19_pass := fun _ h => List.mem_cons_of_mem _ (List.mem_append_right _ (List.mem_append_right _ (List.mem_append_left _ h)))
set_option maxRecDepth 20000 in
theorem gw_X19_pass : v_X19_pass.all goodWord = true := by decide +kernel
set_option maxRecDepth 20000 in
theorem g_X19_pass_X19_no : GoodIn v_X19_pass (wsV RX19 565 RX19 yX19_no v_X19_no) := goodIn_app (goodIn_sub (fun w h => mow_X19_pass w (by revert w h; decide +kernel)) (by decide +kernel)) (goodIn_sub mem_X19_pass_1 gw_X19_no)
set_option maxHeartbeats 4000000 in
set_option maxRecDepth 100000 in
theorem c_X19_pass (l : Launch) (dC : Nat → ClassId) (dI : Nat → Nat → Nat) (h0 : Nat) (q_1 : Nat) (q_12 : Nat) (q_17 : Nat) (q_22 : Nat) (q_24 : Nat) (q_26 : Nat) (q_28 : Nat) (q_29 : Nat) (q_31 : Nat) (q_33 : Nat) (q_35 : Nat) (q_37 : Nat) (q_39 : Nat) (q_41 : Nat) (q_43 : Nat) (q_45 : Nat) (q_47 : Nat) (q_49 : Nat) (q_51 : Nat) (q_53 : Nat) (q_55 : Nat) (q_57 : Nat) (q_59 : Nat) (q_61 : Nat) (q_63 : Nat) (q_65 : Nat) (q_68 : Nat) (q_70 : Nat) (q_72 : Nat) (p0 : Int32) (sz : Nat) : Met l yX19_pass v_X19_pass ({ frames := 1, cells := 0, slots := 0, locals := 21 }) (va_Pc [.ref h0, .int p0] (fun U => U.heap.size = sz ∧ va_P (dC, dI) vwP [(h0, .inr (16, [.ref q_1, .ref q_12, .ref q_17, .ref q_22, .ref q_24, .ref q_26, .ref q_28, .ref q_29, .ref q_31, .ref q_33, .ref q_35, .int 0, .ref q_37, .ref q_39, .ref q_41, .ref q_43, .ref q_45, .ref q_47, .ref q_49, .ref q_51, .ref q_53, .ref q_55, .ref q_57, .int 0, .ref q_59, .ref q_61, .ref q_63, .int (-1), .int 0, .int 0, .int 0, .int 0, .ref q_65, .int 0, .ref q_68, .int 0, .int (-1), .int 0, .int 0, .ref q_70, .ref q_72]))] U.heap ∧ va_K (dC, dI) vwP [] U ∧ va_D (fun _ => True) [(h0, .inr (16, [.ref q_1, .ref q_12, .ref q_17, .ref q_22, .ref q_24, .ref q_26, .ref q_28, .ref q_29, .ref q_31, .ref q_33, .ref q_35, .int 0, .ref q_37, .ref q_39, .ref q_41, .ref q_43, .ref q_45, .ref q_47, .ref q_49, .ref q_51, .ref q_53, .ref q_55, .ref q_57, .int 0, .ref q_59, .ref q_61, .ref q_63, .int (-1), .int 0, .int 0, .int 0, .int 0, .ref q_65, .int 0, .ref q_68, .int 0, .int (-1), .int 0, .int 0, .ref q_70, .ref q_72]))])) (va_Qi (fun (r : Int32) (_ : Unit) => kf_pass p0 = 0 → r = vf_pass) (fun (_ : Unit) (t : State) => ∃ (i_33 : Int32) (i_35 : Int32) (i_36 : Int32) (i_37 : Int32) (q_940 : Nat), (i_33 = kf_pass p0) ∧ va_P (dC, dI) vwP [(h0, .inr (16, [.ref q_1, .ref q_12, .ref q_17, .ref q_22, .ref q_24, .ref q_26, .ref q_28, .ref q_29, .ref q_31, .ref q_33, .ref q_35, .int 0, .ref q_37, .ref q_39, .ref q_41, .ref q_43, .ref q_45, .ref q_47, .ref q_49, .ref q_51, .ref q_53, .ref q_55, .ref q_57, .int 0, .ref q_59, .ref q_61, .ref q_63, .int (-1), .int 0, .int 0, .int 0, .int 0, .ref q_65, .int i_33, .ref q_68, .int i_35, .int i_36, .int i_37, .int 0, .ref q_70, .ref q_940]))] t.heap ∧ va_K (dC, dI) vwP [] t ∧ va_D (va_A [(h0, .inr (16, [.ref q_1, .ref q_12, .ref q_17, .ref q_22, .ref q_24, .ref q_26, .ref q_28, .ref q_29, .ref q_31, .ref q_33, .ref q_35, .int 0, .ref q_37, .ref q_39, .ref q_41, .ref q_43, .ref q_45, .ref q_47, .ref q_49, .ref q_51, .ref q_53, .ref q_55, .ref q_57, .int 0, .ref q_59, .ref q_61, .ref q_63, .int (-1), .int 0, .int 0, .int 0, .int 0, .ref q_65, .int 0, .ref q_68, .int 0, .int (-1), .int 0, .int 0, .ref q_70, .ref q_72]))] sz) [(h0, .inr (16, [.ref q_1, .ref q_12, .ref q_17, .ref q_22, .ref q_24, .ref q_26, .ref q_28, .ref q_29, .ref q_31, .ref q_33, .ref q_35, .int 0, .ref q_37, .ref q_39, .ref q_41, .ref q_43, .ref q_45, .ref q_47, .ref q_49, .ref q_51, .ref q_53, .ref q_55, .ref q_57, .int 0, .ref q_59, .ref q_61, .ref q_63, .int (-1), .int 0, .int 0, .int 0, .int 0, .ref q_65, .int i_33, .ref q_68, .int i_35, .int i_36, .int i_37, .int 0, .ref q_70, .ref q_940]))]) (va_A [(h0, .inr (16, [.ref q_1, .ref q_12, .ref q_17, .ref q_22, .ref q_24, .ref q_26, .ref q_28, .ref q_29, .ref q_31, .ref q_33, .ref q_35, .int 0, .ref q_37, .ref q_39, .ref q_41, .ref q_43, .ref q_45, .ref q_47, .ref q_49, .ref q_51, .ref q_53, .ref q_55, .ref q_57, .int 0, .ref q_59, .ref q_61, .ref q_63, .int (-1), .int 0, .int 0, .int 0, .int 0, .ref q_65, .int 0, .ref q_68, .int 0, .int (-1), .int 0, .int 0, .ref q_70, .ref q_72]))] sz)) 0 0 (va_A [(h0, .inr (16, [.ref q_1, .ref q_12, .ref q_17, .ref q_22, .ref q_24, .ref q_26, .ref q_28, .ref q_29, .ref q_31, .ref q_33, .ref q_35, .int 0, .ref q_37, .ref q_39, .ref q_41, .ref q_43, .ref q_45, .ref q_47, .ref q_49, .ref q_51, .ref q_53, .ref q_55, .ref q_57, .int 0, .ref q_59, .ref q_61, .ref q_63, .int (-1), .int 0, .int 0, .int 0, .int 0, .ref q_65, .int 0, .ref q_68, .int 0, .int (-1), .int 0, .int 0, .ref q_70, .ref q_72]))] sz) := by
  refine Met.ofW (cc := cX19_pass) (maxL := 2) (ret := (some .int)) (by decide) rfl ?_
  intro p e s m args below meth c s₁ B hml hv
  obtain ⟨rfl, hsz, hP, hK, hD0⟩ := hv
  have hx := B.exec
  have hb := B.bytes
  have hr := B.returns
  have hts := atoms_spec (ws := v_X19_pass) B.pre
  have hown : s.vm.findClass RX19 = some m.cls := findClass_of_methodNamed B.named
  have hlocks := B.notSynchronized
  have ow : ∀ {k : Nat} {w : Cond}, o_X19_pass[k]? = some w → w.before ([.ref h0, .int p0] : List Value).toArray s = true := fun h => hts _ (mow_X19_pass _ (List.mem_of_getElem? h))
  subst hsz
  have hD := hD0.self (sz := s.heap.size)
  generalize hAe : va_A [(h0, .inr (16, [.ref q_1, .ref q_12, .ref q_17, .ref q_22, .ref q_24, .ref q_26, .ref q_28, .ref q_29, .ref q_31, .ref q_33, .ref q_35, .int 0, .ref q_37, .ref q_39, .ref q_41, .ref q_43, .ref q_45, .ref q_47, .ref q_49, .ref q_51, .ref q_53, .ref q_55, .ref q_57, .int 0, .ref q_59, .ref q_61, .ref q_63, .int (-1), .int 0, .int 0, .int 0, .int 0, .ref q_65, .int 0, .ref q_68, .int 0, .int (-1), .int 0, .int 0, .ref q_70, .ref q_72]))] s.heap.size = A at hD ⊢
  have hA : ∀ q : Nat, s.heap.size ≤ q → A q := fun q h => by rw [← hAe]; exact Or.inr h
  have hS : va_S A s.heap s.heap [] := va_S.rf
  have hP : va_P (dC, dI) vwP [(h0, .inr (16, [.ref q_1, .ref q_12, .ref q_17, .ref q_22, .ref q_24, .ref q_26, .ref q_28, .ref q_29, .ref q_31, .ref q_33, .ref q_35, .int 0, .ref q_37, .ref q_39, .ref q_41, .ref q_43, .ref q_45, .ref q_47, .ref q_49, .ref q_51, .ref q_53, .ref q_55, .ref q_57, .int 0, .ref q_59, .ref q_61, .ref q_63, .int (-1), .int 0, .int 0, .int 0, .int 0, .ref q_65, .int 0, .ref q_68, .int 0, .int (-1), .int 0, .int 0, .ref q_70, .ref q_72]))] s.heap := hP
  have hl := lv_entry ([.ref h0, .int p0]) (n := 2) (Nat.le_of_ble_eq_true rfl)
  rw [lg_entry_eq]
  generalize (lg_sl ([.ref h0, .int p0]) ++ List.replicate (2 - (lg_sl ([.ref h0, .int p0])).length) Slot.unset).toArray = ls at hl ⊢
  have hl : lv_has ls 2 [(0, .ref h0), (1, .int p0)] := hl
  obtain ⟨H, hH⟩ : ∃ H, H = s.heap := ⟨_, rfl⟩
  rw [← hH] at hP
  have hS : va_S A s.heap H [] := by rw [hH]; exact hS
  rw [← hH]
  refine lv_aload_n hx hb dX19_pass_0 rfl (lv_at hl 0 rfl) ?_
  refine lv_iconst (v := 0) hx hb dX19_pass_1 (by decide) ?_
  refine va_put (D := (dC, dI)) (ci := 16) (v := .int 0) (ty := .int) (C := RX19) (T := TX19) (N := 41) hx hb hts mem_X19_pass_0 tyX19 tyX19_ok nmX19 hown hK hP hD hS 0 rfl rfl 33 (by decide) (ow (k := 0) rfl) (fun _ h9 => h9) rfl (by decide +kernel) rfl rfl (Nat.le_of_ble_eq_true rfl) dX19_pass_2 (fun H locs hP hD hS => ?_)
  have hP : va_P (dC, dI) vwP [(h0, .inr (16, [.ref q_1, .ref q_12, .ref q_17, .ref q_22, .ref q_24, .ref q_26, .ref q_28, .ref q_29, .ref q_31, .ref q_33, .ref q_35, .int 0, .ref q_37, .ref q_39, .ref q_41, .ref q_43, .ref q_45, .ref q_47, .ref q_49, .ref q_51, .ref q_53, .ref q_55, .ref q_57, .int 0, .ref q_59, .ref q_61, .ref q_63, .int (-1), .int 0, .int 0, .int 0, .int 0, .ref q_65, .int 0, .ref q_68, .int 0, .int (-1), .int 0, .int 0, .ref q_70, .ref q_72]))] H := hP
  have hD : va_D A [(h0, .inr (16, [.ref q_1, .ref q_12, .ref q_17, .ref q_22, .ref q_24, .ref q_26, .ref q_28, .ref q_29, .ref q_31, .ref q_33, .ref q_35, .int 0, .ref q_37, .ref q_39, .ref q_41, .ref q_43, .ref q_45, .ref q_47, .ref q_49, .ref q_51, .ref q_53, .ref q_55, .ref q_57, .int 0, .ref q_59, .ref q_61, .ref q_63, .int (-1), .int 0, .int 0, .int 0, .int 0, .ref q_65, .int 0, .ref q_68, .int 0, .int (-1), .int 0, .int 0, .ref q_70, .ref q_72]))] := hD
  refine lv_iload_n hx hb dX19_pass_5 rfl (lv_at hl 1 rfl) ?_
  refine lv_iconst (v := 1) hx hb dX19_pass_6 (by decide) ?_
  refine lv_icmp_lt (tgt := 16) hx hb dX19_pass_7 (by decide) (fun b7 => ?_) (fun b7 => ?_)
  · refine lv_aload_n hx hb dX19_pass_16 rfl (lv_at hl 0 rfl) ?_
    refine lv_iconst (v := 1) hx hb dX19_pass_17 (by decide) ?_
    have hPc := hP.sub (ws' := [(h0, .inr (16, [.ref q_1, .ref q_12, .ref q_17, .ref q_22, .ref q_24, .ref q_26, .ref q_28, .ref q_29, .ref q_31, .ref q_33, .ref q_35, .int 0, .ref q_37, .ref q_39, .ref q_41, .ref q_43, .ref q_45, .ref q_47, .ref q_49, .ref q_51, .ref q_53, .ref q_55, .ref q_57, .int 0, .ref q_59, .ref q_61, .ref q_63, .int (-1), .int 0, .int 0, .int 0, .int 0, .ref q_65, .int 0, .ref q_68, .int 0, .int (-1), .int 0, .int 0, .ref q_70, .ref q_72]))]) [0] rfl
    have hDc := hD.sub (ws' := [(h0, .inr (16, [.ref q_1, .ref q_12, .ref q_17, .ref q_22, .ref q_24, .ref q_26, .ref q_28, .ref q_29, .ref q_31, .ref q_33, .ref q_35, .int 0, .ref q_37, .ref q_39, .ref q_41, .ref q_43, .ref q_45, .ref q_47, .ref q_49, .ref q_51, .ref q_53, .ref q_55, .ref q_57, .int 0, .ref q_59, .ref q_61, .ref q_63, .int (-1), .int 0, .int 0, .int 0, .int 0, .ref q_65, .int 0, .ref q_68, .int 0, .int (-1), .int 0, .int 0, .ref q_70, .ref q_72]))]) [0] (by decide) rfl
    have hKc := hK.sub (tys' := []) [] rfl
    have hFc := va_free (wc := [(h0, .inr (16, [.ref q_1, .ref q_12, .ref q_17, .ref q_22, .ref q_24, .ref q_26, .ref q_28, .ref q_29, .ref q_31, .ref q_33, .ref q_35, .int 0, .ref q_37, .ref q_39, .ref q_41, .ref q_43, .ref q_45, .ref q_47, .ref q_49, .ref q_51, .ref q_53, .ref q_55, .ref q_57, .int 0, .ref q_59, .ref q_61, .ref q_63, .int (-1), .int 0, .int 0, .int 0, .int 0, .ref q_65, .int 0, .ref q_68, .int 0, .int (-1), .int 0, .int 0, .ref q_70, .ref q_72]))]) hD hS hA [0] rfl
    refine va_calli (va_runV (As := [.int 1]) (rest := []) ⟨hx, hb, hml, hown, hts⟩ (c_X19_no l dC dI h0 q_1 q_12 q_17 q_22 q_24 q_26 q_28 q_29 q_31 q_33 q_35 q_37 q_39 q_41 q_43 q_45 q_47 q_49 q_51 q_53 q_55 q_57 q_59 q_61 q_63 q_65 q_68 q_70 q_72 1 H.size) (cwV 1 hts g_X19_pass_X19_no rfl rfl rfl (by decide +kernel) ⟨(Nat.le_of_ble_eq_true rfl), (Nat.le_of_ble_eq_true rfl)⟩) ⟨fun a U g mk q => by obtain ⟨q0, q1, qP, qK, qD⟩ := q; exact ⟨q0, q1, qP, va_K.moved (u := U) (U := U.calling g mk a) (Vm.Alike.refl U.vm) qK, qD⟩, va_recv hKc hPc (ci := 16) (q0 := 0) rfl rfl, fun U hU hW => ⟨rfl, by rw [hU], by rw [hU]; exact hPc, va_K.moved hW.alike hKc, hDc.weaken (fun _ _ _ _ => trivial)⟩⟩ rfl rfl hl.1 rfl (lv_room (Nat.le_of_ble_eq_true rfl)) dX19_pass_18 ⟨(Nat.le_of_ble_eq_true rfl), (Nat.le_of_ble_eq_true rfl)⟩) hS (fun q _ h => hFc q h) hFc (fun r_2001 u t H1 locs ht hvm hw hB hz1 hk1 hS => ?_)
    obtain ⟨hP1, hK1, hD1⟩ := hB
    rw [ht] at hP1
    have hK1 := va_K.moved hvm.symm hK1
    obtain ⟨hP, hD⟩ := va_join (wr := []) (w1 := [(h0, .inr (16, [.ref q_1, .ref q_12, .ref q_17, .ref q_22, .ref q_24, .ref q_26, .ref q_28, .ref q_29, .ref q_31, .ref q_33, .ref q_35, .int 0, .ref q_37, .ref q_39, .ref q_41, .ref q_43, .ref q_45, .ref q_47, .ref q_49, .ref q_51, .ref q_53, .ref q_55, .ref q_57, .int 0, .ref q_59, .ref q_61, .ref q_63, .int (-1), .int 0, .int 0, .int 0, .int 0, .ref q_65, .int 1, .ref q_68, .int 0, .int (-1), .int 0, .int 0, .ref q_70, .ref q_72]))]) hP hD [0] [] rfl rfl (by decide) (by decide) hk1 hFc hP1 hD1
    have hK := (hK.sub (tys' := []) [] rfl).app hK1
    generalize H1 = H at hP hS ⊢
    have hP : va_P (dC, dI) vwP [(h0, .inr (16, [.ref q_1, .ref q_12, .ref q_17, .ref q_22, .ref q_24, .ref q_26, .ref q_28, .ref q_29, .ref q_31, .ref q_33, .ref q_35, .int 0, .ref q_37, .ref q_39, .ref q_41, .ref q_43, .ref q_45, .ref q_47, .ref q_49, .ref q_51, .ref q_53, .ref q_55, .ref q_57, .int 0, .ref q_59, .ref q_61, .ref q_63, .int (-1), .int 0, .int 0, .int 0, .int 0, .ref q_65, .int 1, .ref q_68, .int 0, .int (-1), .int 0, .int 0, .ref q_70, .ref q_72]))] H := hP
    have hD : va_D A [(h0, .inr (16, [.ref q_1, .ref q_12, .ref q_17, .ref q_22, .ref q_24, .ref q_26, .ref q_28, .ref q_29, .ref q_31, .ref q_33, .ref q_35, .int 0, .ref q_37, .ref q_39, .ref q_41, .ref q_43, .ref q_45, .ref q_47, .ref q_49, .ref q_51, .ref q_53, .ref q_55, .ref q_57, .int 0, .ref q_59, .ref q_61, .ref q_63, .int (-1), .int 0, .int 0, .int 0, .int 0, .ref q_65, .int 1, .ref q_68, .int 0, .int (-1), .int 0, .int 0, .ref q_70, .ref q_72]))] := hD
    have hK : va_K (dC, dI) vwP [] s := hK
    refine W.widen (k := 0) (n := 0) (Nat.le_of_ble_eq_true rfl) (Nat.le_of_ble_eq_true rfl) ?_
    obtain rfl : r_2001 = 0 := hw
    have zb7 : p0.toInt < 1 := z_lt b7
    refine W.widen (k := 0) (n := 0) (Nat.le_of_ble_eq_true rfl) (Nat.le_of_ble_eq_true rfl) ?_
    exact W.iret (v := 0) hx hb hr (fun t ht hW => ⟨⟨0, (), rfl, (fun h9 => absurd ((show kf_pass p0 = 1 by unfold kf_pass; first | rfl | (split <;> first | rfl | (exfalso; omega))).symm.trans h9) (by decide)), 1, 0, (-1), 0, q_72, (show kf_pass p0 = 1 by unfold kf_pass; first | rfl | (split <;> first | rfl | (exfalso; omega))).symm, by rw [ht]; exact hP, va_K.moved hW.alike hK, hD⟩, hS.F ht⟩) hS.2.2 dX19_pass_21
  · refine lv_iload_n hx hb dX19_pass_10 rfl (lv_at hl 1 rfl) ?_
    refine lv_bipush (v := 7) hx hb dX19_pass_11 (by decide) ?_
    refine lv_icmp_le (tgt := 22) hx hb dX19_pass_13 (by decide) (fun b13 => ?_) (fun b13 => ?_)
    · refine lv_aload_n hx hb dX19_pass_22 rfl (lv_at hl 0 rfl) ?_
      refine va_get (D := (dC, dI)) (ci := 16) (v := .int (-1)) (C := RX19) (T := TX19) (N := 41) hx hb hts mem_X19_pass_0 hown hK hP 0 rfl rfl 36 (by decide) (ow (k := 5) rfl) (fun _ h9 => h9) rfl dX19_pass_23 ?_
      refine lv_iconst (v := 1) hx hb dX19_pass_26 (by decide) ?_
      refine lv_icmp_eq (tgt := 36) hx hb dX19_pass_27 (by decide) (fun h9 => absurd h9 (by decide)) (fun _ => ?_)
      refine lv_aload_n hx hb dX19_pass_30 rfl (lv_at hl 0 rfl) ?_
      refine lv_iconst (v := 2) hx hb dX19_pass_31 (by decide) ?_
      have hPc := hP.sub (ws' := [(h0, .inr (16, [.ref q_1, .ref q_12, .ref q_17, .ref q_22, .ref q_24, .ref q_26, .ref q_28, .ref q_29, .ref q_31, .ref q_33, .ref q_35, .int 0, .ref q_37, .ref q_39, .ref q_41, .ref q_43, .ref q_45, .ref q_47, .ref q_49, .ref q_51, .ref q_53, .ref q_55, .ref q_57, .int 0, .ref q_59, .ref q_61, .ref q_63, .int (-1), .int 0, .int 0, .int 0, .int 0, .ref q_65, .int 0, .ref q_68, .int 0, .int (-1), .int 0, .int 0, .ref q_70, .ref q_72]))]) [0] rfl
      have hDc := hD.sub (ws' := [(h0, .inr (16, [.ref q_1, .ref q_12, .ref q_17, .ref q_22, .ref q_24, .ref q_26, .ref q_28, .ref q_29, .ref q_31, .ref q_33, .ref q_35, .int 0, .ref q_37, .ref q_39, .ref q_41, .ref q_43, .ref q_45, .ref q_47, .ref q_49, .ref q_51, .ref q_53, .ref q_55, .ref q_57, .int 0, .ref q_59, .ref q_61, .ref q_63, .int (-1), .int 0, .int 0, .int 0, .int 0, .ref q_65, .int 0, .ref q_68, .int 0, .int (-1), .int 0, .int 0, .ref q_70, .ref q_72]))]) [0] (by decide) rfl
      have hKc := hK.sub (tys' := []) [] rfl
      have hFc := va_free (wc := [(h0, .inr (16, [.ref q_1, .ref q_12, .ref q_17, .ref q_22, .ref q_24, .ref q_26, .ref q_28, .ref q_29, .ref q_31, .ref q_33, .ref q_35, .int 0, .ref q_37, .ref q_39, .ref q_41, .ref q_43, .ref q_45, .ref q_47, .ref q_49, .ref q_51, .ref q_53, .ref q_55, .ref q_57, .int 0, .ref q_59, .ref q_61, .ref q_63, .int (-1), .int 0, .int 0, .int 0, .int 0, .ref q_65, .int 0, .ref q_68, .int 0, .int (-1), .int 0, .int 0, .ref q_70, .ref q_72]))]) hD hS hA [0] rfl
      refine va_calli (va_runV (As := [.int 2]) (rest := []) ⟨hx, hb, hml, hown, hts⟩ (c_X19_no l dC dI h0 q_1 q_12 q_17 q_22 q_24 q_26 q_28 q_29 q_31 q_33 q_35 q_37 q_39 q_41 q_43 q_45 q_47 q_49 q_51 q_53 q_55 q_57 q_59 q_61 q_63 q_65 q_68 q_70 q_72 2 H.size) (cwV 1 hts g_X19_pass_X19_no rfl rfl rfl (by decide +kernel) ⟨(Nat.le_of_ble_eq_true rfl), (Nat.le_of_ble_eq_true rfl)⟩) ⟨fun a U g mk q => by obtain ⟨q0, q1, qP, qK, qD⟩ := q; exact ⟨q0, q1, qP, va_K.moved (u := U) (U := U.calling g mk a) (Vm.Alike.refl U.vm) qK, qD⟩, va_recv hKc hPc (ci := 16) (q0 := 0) rfl rfl, fun U hU hW => ⟨rfl, by rw [hU], by rw [hU]; exact hPc, va_K.moved hW.alike hKc, hDc.weaken (fun _ _ _ _ => trivial)⟩⟩ rfl rfl hl.1 rfl (lv_room (Nat.le_of_ble_eq_true rfl)) dX19_pass_32 ⟨(Nat.le_of_ble_eq_true rfl), (Nat.le_of_ble_eq_true rfl)⟩) hS (fun q _ h => hFc q h) hFc (fun r_2002 u t H1 locs ht hvm hw hB hz1 hk1 hS => ?_)
      obtain ⟨hP1, hK1, hD1⟩ := hB
      rw [ht] at hP1
      have hK1 := va_K.moved hvm.symm hK1
      obtain ⟨hP, hD⟩ := va_join (wr := []) (w1 := [(h0, .inr (16, [.ref q_1, .ref q_12, .ref q_17, .ref q_22, .ref q_24, .ref q_26, .ref q_28, .ref q_29, .ref q_31, .ref q_33, .ref q_35, .int 0, .ref q_37, .ref q_39, .ref q_41, .ref q_43, .ref q_45, .ref q_47, .ref q_49, .ref q_51, .ref q_53, .ref q_55, .ref q_57, .int 0, .ref q_59, .ref q_61, .ref q_63, .int (-1), .int 0, .int 0, .int 0, .int 0, .ref q_65, .int 2, .ref q_68, .int 0, .int (-1), .int 0, .int 0, .ref q_70, .ref q_72]))]) hP hD [0] [] rfl rfl (by decide) (by decide) hk1 hFc hP1 hD1
      have hK := (hK.sub (tys' := []) [] rfl).app hK1
      generalize H1 = H at hP hS ⊢
      have hP : va_P (dC, dI) vwP [(h0, .inr (16, [.ref q_1, .ref q_12, .ref q_17, .ref q_22, .ref q_24, .ref q_26, .ref q_28, .ref q_29, .ref q_31, .ref q_33, .ref q_35, .int 0, .ref q_37, .ref q_39, .ref q_41, .ref q_43, .ref q_45, .ref q_47, .ref q_49, .ref q_51, .ref q_53, .ref q_55, .ref q_57, .int 0, .ref q_59, .ref q_61, .ref q_63, .int (-1), .int 0, .int 0, .int 0, .int 0, .ref q_65, .int 2, .ref q_68, .int 0, .int (-1), .int 0, .int 0, .ref q_70, .ref q_72]))] H := hP
      have hD : va_D A [(h0, .inr (16, [.ref q_1, .ref q_12, .ref q_17, .ref q_22, .ref q_24, .ref q_26, .ref q_28, .ref q_29, .ref q_31, .ref q_33, .ref q_35, .int 0, .ref q_37, .ref q_39, .ref q_41, .ref q_43, .ref q_45, .ref q_47, .ref q_49, .ref q_51, .ref q_53, .ref q_55, .ref q_57, .int 0, .ref q_59, .ref q_61, .ref q_63, .int (-1), .int 0, .int 0, .int 0, .int 0, .ref q_65, .int 2, .ref q_68, .int 0, .int (-1), .int 0, .int 0, .ref q_70, .ref q_72]))] := hD
      have hK : va_K (dC, dI) vwP [] s := hK
      refine W.widen (k := 0) (n := 0) (Nat.le_of_ble_eq_true rfl) (Nat.le_of_ble_eq_true rfl) ?_
      obtain rfl : r_2002 = 0 := hw
      have zb7 : 1 ≤ p0.toInt := z_nlt b7
      have zb13 : p0.toInt ≤ 7 := z_le b13
      refine W.widen (k := 0) (n := 0) (Nat.le_of_ble_eq_true rfl) (Nat.le_of_ble_eq_true rfl) ?_
      exact W.iret (v := 0) hx hb hr (fun t ht hW => ⟨⟨0, (), rfl, (fun h9 => absurd ((show kf_pass p0 = 2 by unfold kf_pass; first | rfl | (split <;> first | rfl | (exfalso; omega))).symm.trans h9) (by decide)), 2, 0, (-1), 0, q_72, (show kf_pass p0 = 2 by unfold kf_pass; first | rfl | (split <;> first | rfl | (exfalso; omega))).symm, by rw [ht]; exact hP, va_K.moved hW.alike hK, hD⟩, hS.F ht⟩) hS.2.2 dX19_pass_35
    · refine lv_aload_n hx hb dX19_pass_16 rfl (lv_at hl 0 rfl) ?_
      refine lv_iconst (v := 1) hx hb dX19_pass_17 (by decide) ?_
      have hPc := hP.sub (ws' := [(h0, .inr (16, [.ref q_1, .ref q_12, .ref q_17, .ref q_22, .ref q_24, .ref q_26, .ref q_28, .ref q_29, .ref q_31, .ref q_33, .ref q_35, .int 0, .ref q_37, .ref q_39, .ref q_41, .ref q_43, .ref q_45, .ref q_47, .ref q_49, .ref q_51, .ref q_53, .ref q_55, .ref q_57, .int 0, .ref q_59, .ref q_61, .ref q_63, .int (-1), .int 0, .int 0, .int 0, .int 0, .ref q_65, .int 0, .ref q_68, .int 0, .int (-1), .int 0, .int 0, .ref q_70, .ref q_72]))]) [0] rfl
      have hDc := hD.sub (ws' := [(h0, .inr (16, [.ref q_1, .ref q_12, .ref q_17, .ref q_22, .ref q_24, .ref q_26, .ref q_28, .ref q_29, .ref q_31, .ref q_33, .ref q_35, .int 0, .ref q_37, .ref q_39, .ref q_41, .ref q_43, .ref q_45, .ref q_47, .ref q_49, .ref q_51, .ref q_53, .ref q_55, .ref q_57, .int 0, .ref q_59, .ref q_61, .ref q_63, .int (-1), .int 0, .int 0, .int 0, .int 0, .ref q_65, .int 0, .ref q_68, .int 0, .int (-1), .int 0, .int 0, .ref q_70, .ref q_72]))]) [0] (by decide) rfl
      have hKc := hK.sub (tys' := []) [] rfl
      have hFc := va_free (wc := [(h0, .inr (16, [.ref q_1, .ref q_12, .ref q_17, .ref q_22, .ref q_24, .ref q_26, .ref q_28, .ref q_29, .ref q_31, .ref q_33, .ref q_35, .int 0, .ref q_37, .ref q_39, .ref q_41, .ref q_43, .ref q_45, .ref q_47, .ref q_49, .ref q_51, .ref q_53, .ref q_55, .ref q_57, .int 0, .ref q_59, .ref q_61, .ref q_63, .int (-1), .int 0, .int 0, .int 0, .int 0, .ref q_65, .int 0, .ref q_68, .int 0, .int (-1), .int 0, .int 0, .ref q_70, .ref q_72]))]) hD hS hA [0] rfl
      refine va_calli (va_runV (As := [.int 1]) (rest := []) ⟨hx, hb, hml, hown, hts⟩ (c_X19_no l dC dI h0 q_1 q_12 q_17 q_22 q_24 q_26 q_28 q_29 q_31 q_33 q_35 q_37 q_39 q_41 q_43 q_45 q_47 q_49 q_51 q_53 q_55 q_57 q_59 q_61 q_63 q_65 q_68 q_70 q_72 1 H.size) (cwV 1 hts g_X19_pass_X19_no rfl rfl rfl (by decide +kernel) ⟨(Nat.le_of_ble_eq_true rfl), (Nat.le_of_ble_eq_true rfl)⟩) ⟨fun a U g mk q => by obtain ⟨q0, q1, qP, qK, qD⟩ := q; exact ⟨q0, q1, qP, va_K.moved (u := U) (U := U.calling g mk a) (Vm.Alike.refl U.vm) qK, qD⟩, va_recv hKc hPc (ci := 16) (q0 := 0) rfl rfl, fun U hU hW => ⟨rfl, by rw [hU], by rw [hU]; exact hPc, va_K.moved hW.alike hKc, hDc.weaken (fun _ _ _ _ => trivial)⟩⟩ rfl rfl hl.1 rfl (lv_room (Nat.le_of_ble_eq_true rfl)) dX19_pass_18 ⟨(Nat.le_of_ble_eq_true rfl), (Nat.le_of_ble_eq_true rfl)⟩) hS (fun q _ h => hFc q h) hFc (fun r_2003 u t H1 locs ht hvm hw hB hz1 hk1 hS => ?_)
      obtain ⟨hP1, hK1, hD1⟩ := hB
      rw [ht] at hP1
      have hK1 := va_K.moved hvm.symm hK1
      obtain ⟨hP, hD⟩ := va_join (wr := []) (w1 := [(h0, .inr (16, [.ref q_1, .ref q_12, .ref q_17, .ref q_22, .ref q_24, .ref q_26, .ref q_28, .ref q_29, .ref q_31, .ref q_33, .ref q_35, .int 0, .ref q_37, .ref q_39, .ref q_41, .ref q_43, .ref q_45, .ref q_47, .ref q_49, .ref q_51, .ref q_53, .ref q_55, .ref q_57, .int 0, .ref q_59, .ref q_61, .ref q_63, .int (-1), .int 0, .int 0, .int 0, .int 0, .ref q_65, .int 1, .ref q_68, .int 0, .int (-1), .int 0, .int 0, .ref q_70, .ref q_72]))]) hP hD [0] [] rfl rfl (by decide) (by decide) hk1 hFc hP1 hD1
      have hK := (hK.sub (tys' := []) [] rfl).app hK1
      generalize H1 = H at hP hS ⊢
      have hP : va_P (dC, dI) vwP [(h0, .inr (16, [.ref q_1, .ref q_12, .ref q_17, .ref q_22, .ref q_24, .ref q_26, .ref q_28, .ref q_29, .ref q_31, .ref q_33, .ref q_35, .int 0, .ref q_37, .ref q_39, .ref q_41, .ref q_43, .ref q_45, .ref q_47, .ref q_49, .ref q_51, .ref q_53, .ref q_55, .ref q_57, .int 0, .ref q_59, .ref q_61, .ref q_63, .int (-1), .int 0, .int 0, .int 0, .int 0, .ref q_65, .int 1, .ref q_68, .int 0, .int (-1), .int 0, .int 0, .ref q_70, .ref q_72]))] H := hP
      have hD : va_D A [(h0, .inr (16, [.ref q_1, .ref q_12, .ref q_17, .ref q_22, .ref q_24, .ref q_26, .ref q_28, .ref q_29, .ref q_31, .ref q_33, .ref q_35, .int 0, .ref q_37, .ref q_39, .ref q_41, .ref q_43, .ref q_45, .ref q_47, .ref q_49, .ref q_51, .ref q_53, .ref q_55, .ref q_57, .int 0, .ref q_59, .ref q_61, .ref q_63, .int (-1), .int 0, .int 0, .int 0, .int 0, .ref q_65, .int 1, .ref q_68, .int 0, .int (-1), .int 0, .int 0, .ref q_70, .ref q_72]))] := hD
      have hK : va_K (dC, dI) vwP [] s := hK
      refine W.widen (k := 0) (n := 0) (Nat.le_of_ble_eq_true rfl) (Nat.le_of_ble_eq_true rfl) ?_
      obtain rfl : r_2003 = 0 := hw
      have zb7 : 1 ≤ p0.toInt := z_nlt b7
      have zb13 : 7 < p0.toInt := z_nle b13
      refine W.widen (k := 0) (n := 0) (Nat.le_of_ble_eq_true rfl) (Nat.le_of_ble_eq_true rfl) ?_
      exact W.iret (v := 0) hx hb hr (fun t ht hW => ⟨⟨0, (), rfl, (fun h9 => absurd ((show kf_pass p0 = 1 by unfold kf_pass; first | rfl | (split <;> first | rfl | (exfalso; omega))).symm.trans h9) (by decide)), 1, 0, (-1), 0, q_72, (show kf_pass p0 = 1 by unfold kf_pass; first | rfl | (split <;> first | rfl | (exfalso; omega))).symm, by rw [ht]; exact hP, va_K.moved hW.alike hK, hD⟩, hS.F ht⟩) hS.2.2 dX19_pass_21
theorem dX19_plain_0 : decode cX19_plain 0 = .ok (.aload_n 0, 1) := by decide +kernel
theorem dX19_plain_1 : decode cX19_plain 1 = .ok (.iconst 0, 1) := by decide +kernel
theorem dX19_plain_2 : decode cX19_plain 2 = .ok (.putfield 560, 3) := by decide +kernel
theorem dX19_plain_5 : decode cX19_plain 5 = .ok (.aload_n 0, 1) := by decide +kernel
theorem dX19_plain_6 : decode cX19_plain 6 = .ok (.getfield 555, 3) := by decide +kernel
theorem dX19_plain_9 : decode cX19_plain 9 = .ok (.iconst 1, 1) := by decide +kernel
theorem dX19_plain_10 : decode cX19_plain 10 = .ok (.if_icmp .ge 9, 3) := by decide +kernel
theorem dX19_plain_13 : decode cX19_plain 13 = .ok (.aload_n 0, 1) := by decide +kernel
theorem dX19_plain_14 : decode cX19_plain 14 = .ok (.iconst 1, 1) := by decide +kernel
theorem dX19_plain_15 : decode cX19_plain 15 = .ok (.invokevirtual 565, 3) := by decide +kernel
theorem dX19_plain_18 : decode cX19_plain 18 = .ok (.ireturn, 1) := by decide +kernel
def o_X19_plain : List Cond := [.fieldLink RX19 560 "SsaForgeModel" "thrown" "I", .fieldLink RX19 555 "SsaForgeModel" "form" "I", .methodLink RX19 565 yX19_no, .instanceMethod yX19_no, .selects RX19 yX19_no yX19_no, .initialized RX19]
def v_X19_plain : List Cond := .code yX19_plain cX19_plain 2 (some .int) :: (o_X19_plain ++ (wsX190 ++ (v_X19_no ++ [])))
theorem mow_X19_plain : ∀ w ∈ o_X19_plain, w ∈ v_X19_plain := fun _ h => List.mem_cons_of_mem _ (List.mem_append_left _ h)
theorem mem_X19_plain_0 : ∀ w ∈ wsX190, w ∈ v_X19_plain := fun _ h => List.mem_cons_of_mem _ (List.mem_append_right _ (List.mem_append_left _ h))
theorem mem_X19_plain_1 : ∀ w ∈ v_X19_no, w ∈ v_X19_plain := fun _ h => List.mem_cons_of_mem _ (List.mem_append_right _ (List.mem_append_right _ (List.mem_append_left _ h)))
set_option maxRecDepth 20000 in
theorem gw_X19_plain : v_X19_plain.all goodWord = true := by decide +kernel
set_option maxRecDepth 20000 in
theorem g_X19_plain_X19_no : GoodIn v_X19_plain (wsV RX19 565 RX19 yX19_no v_X19_no) := goodIn_app (goodIn_sub (fun w h => mow_X19_plain w (by revert w h; decide +kernel)) (by decide +kernel)) (goodIn_sub mem_X19_plain_1 gw_X19_no)
set_option maxHeartbeats 4000000 in
set_option maxRecDepth 100000 in
theorem c_X19_plain (l : Launch) (dC : Nat → ClassId) (dI : Nat → Nat → Nat) (h0 : Nat) (q_1 : Nat) (q_12 : Nat) (q_17 : Nat) (q_22 : Nat) (q_24 : Nat) (q_26 : Nat) (q_28 : Nat) (q_29 : Nat) (q_31 : Nat) (q_33 : Nat) (q_35 : Nat) (q_37 : Nat) (q_39 : Nat) (q_41 : Nat) (q_43 : Nat) (q_45 : Nat) (q_47 : Nat) (q_49 : Nat) (q_51 : Nat) (q_53 : Nat) (q_55 : Nat) (q_57 : Nat) (q_59 : Nat) (q_61 : Nat) (q_63 : Nat) (q_65 : Nat) (q_68 : Nat) (q_70 : Nat) (q_72 : Nat) (sz : Nat) : Met l yX19_plain v_X19_plain ({ frames := 1, cells := 0, slots := 0, locals := 21 }) (va_Pc [.ref h0] (fun U => U.heap.size = sz ∧ va_P (dC, dI) vwP [(h0, .inr (16, [.ref q_1, .ref q_12, .ref q_17, .ref q_22, .ref q_24, .ref q_26, .ref q_28, .ref q_29, .ref q_31, .ref q_33, .ref q_35, .int 0, .ref q_37, .ref q_39, .ref q_41, .ref q_43, .ref q_45, .ref q_47, .ref q_49, .ref q_51, .ref q_53, .ref q_55, .ref q_57, .int 0, .ref q_59, .ref q_61, .ref q_63, .int (-1), .int 0, .int 0, .int 0, .int 0, .ref q_65, .int 0, .ref q_68, .int 0, .int (-1), .int 0, .int 0, .ref q_70, .ref q_72]))] U.heap ∧ va_K (dC, dI) vwP [] U ∧ va_D (fun _ => True) [(h0, .inr (16, [.ref q_1, .ref q_12, .ref q_17, .ref q_22, .ref q_24, .ref q_26, .ref q_28, .ref q_29, .ref q_31, .ref q_33, .ref q_35, .int 0, .ref q_37, .ref q_39, .ref q_41, .ref q_43, .ref q_45, .ref q_47, .ref q_49, .ref q_51, .ref q_53, .ref q_55, .ref q_57, .int 0, .ref q_59, .ref q_61, .ref q_63, .int (-1), .int 0, .int 0, .int 0, .int 0, .ref q_65, .int 0, .ref q_68, .int 0, .int (-1), .int 0, .int 0, .ref q_70, .ref q_72]))])) (va_Qi (fun (r : Int32) (_ : Unit) => kf_plain = 0 → r = vf_plain) (fun (_ : Unit) (t : State) => ∃ (i_33 : Int32) (i_35 : Int32) (i_36 : Int32) (i_37 : Int32) (q_940 : Nat), (i_33 = kf_plain) ∧ va_P (dC, dI) vwP [(h0, .inr (16, [.ref q_1, .ref q_12, .ref q_17, .ref q_22, .ref q_24, .ref q_26, .ref q_28, .ref q_29, .ref q_31, .ref q_33, .ref q_35, .int 0, .ref q_37, .ref q_39, .ref q_41, .ref q_43, .ref q_45, .ref q_47, .ref q_49, .ref q_51, .ref q_53, .ref q_55, .ref q_57, .int 0, .ref q_59, .ref q_61, .ref q_63, .int (-1), .int 0, .int 0, .int 0, .int 0, .ref q_65, .int i_33, .ref q_68, .int i_35, .int i_36, .int i_37, .int 0, .ref q_70, .ref q_940]))] t.heap ∧ va_K (dC, dI) vwP [] t ∧ va_D (va_A [(h0, .inr (16, [.ref q_1, .ref q_12, .ref q_17, .ref q_22, .ref q_24, .ref q_26, .ref q_28, .ref q_29, .ref q_31, .ref q_33, .ref q_35, .int 0, .ref q_37, .ref q_39, .ref q_41, .ref q_43, .ref q_45, .ref q_47, .ref q_49, .ref q_51, .ref q_53, .ref q_55, .ref q_57, .int 0, .ref q_59, .ref q_61, .ref q_63, .int (-1), .int 0, .int 0, .int 0, .int 0, .ref q_65, .int 0, .ref q_68, .int 0, .int (-1), .int 0, .int 0, .ref q_70, .ref q_72]))] sz) [(h0, .inr (16, [.ref q_1, .ref q_12, .ref q_17, .ref q_22, .ref q_24, .ref q_26, .ref q_28, .ref q_29, .ref q_31, .ref q_33, .ref q_35, .int 0, .ref q_37, .ref q_39, .ref q_41, .ref q_43, .ref q_45, .ref q_47, .ref q_49, .ref q_51, .ref q_53, .ref q_55, .ref q_57, .int 0, .ref q_59, .ref q_61, .ref q_63, .int (-1), .int 0, .int 0, .int 0, .int 0, .ref q_65, .int i_33, .ref q_68, .int i_35, .int i_36, .int i_37, .int 0, .ref q_70, .ref q_940]))]) (va_A [(h0, .inr (16, [.ref q_1, .ref q_12, .ref q_17, .ref q_22, .ref q_24, .ref q_26, .ref q_28, .ref q_29, .ref q_31, .ref q_33, .ref q_35, .int 0, .ref q_37, .ref q_39, .ref q_41, .ref q_43, .ref q_45, .ref q_47, .ref q_49, .ref q_51, .ref q_53, .ref q_55, .ref q_57, .int 0, .ref q_59, .ref q_61, .ref q_63, .int (-1), .int 0, .int 0, .int 0, .int 0, .ref q_65, .int 0, .ref q_68, .int 0, .int (-1), .int 0, .int 0, .ref q_70, .ref q_72]))] sz)) 0 0 (va_A [(h0, .inr (16, [.ref q_1, .ref q_12, .ref q_17, .ref q_22, .ref q_24, .ref q_26, .ref q_28, .ref q_29, .ref q_31, .ref q_33, .ref q_35, .int 0, .ref q_37, .ref q_39, .ref q_41, .ref q_43, .ref q_45, .ref q_47, .ref q_49, .ref q_51, .ref q_53, .ref q_55, .ref q_57, .int 0, .ref q_59, .ref q_61, .ref q_63, .int (-1), .int 0, .int 0, .int 0, .int 0, .ref q_65, .int 0, .ref q_68, .int 0, .int (-1), .int 0, .int 0, .ref q_70, .ref q_72]))] sz) := by
  refine Met.ofW (cc := cX19_plain) (maxL := 2) (ret := (some .int)) (by decide) rfl ?_
  intro p e s m args below meth c s₁ B hml hv
  obtain ⟨rfl, hsz, hP, hK, hD0⟩ := hv
  have hx := B.exec
  have hb := B.bytes
  have hr := B.returns
  have hts := atoms_spec (ws := v_X19_plain) B.pre
  have hown : s.vm.findClass RX19 = some m.cls := findClass_of_methodNamed B.named
  have hlocks := B.notSynchronized
  have ow : ∀ {k : Nat} {w : Cond}, o_X19_plain[k]? = some w → w.before ([.ref h0] : List Value).toArray s = true := fun h => hts _ (mow_X19_plain _ (List.mem_of_getElem? h))
  subst hsz
  have hD := hD0.self (sz := s.heap.size)
  generalize hAe : va_A [(h0, .inr (16, [.ref q_1, .ref q_12, .ref q_17, .ref q_22, .ref q_24, .ref q_26, .ref q_28, .ref q_29, .ref q_31, .ref q_33, .ref q_35, .int 0, .ref q_37, .ref q_39, .ref q_41, .ref q_43, .ref q_45, .ref q_47, .ref q_49, .ref q_51, .ref q_53, .ref q_55, .ref q_57, .int 0, .ref q_59, .ref q_61, .ref q_63, .int (-1), .int 0, .int 0, .int 0, .int 0, .ref q_65, .int 0, .ref q_68, .int 0, .int (-1), .int 0, .int 0, .ref q_70, .ref q_72]))] s.heap.size = A at hD ⊢
  have hA : ∀ q : Nat, s.heap.size ≤ q → A q := fun q h => by rw [← hAe]; exact Or.inr h
  have hS : va_S A s.heap s.heap [] := va_S.rf
  have hP : va_P (dC, dI) vwP [(h0, .inr (16, [.ref q_1, .ref q_12, .ref q_17, .ref q_22, .ref q_24, .ref q_26, .ref q_28, .ref q_29, .ref q_31, .ref q_33, .ref q_35, .int 0, .ref q_37, .ref q_39, .ref q_41, .ref q_43, .ref q_45, .ref q_47, .ref q_49, .ref q_51, .ref q_53, .ref q_55, .ref q_57, .int 0, .ref q_59, .ref q_61, .ref q_63, .int (-1), .int 0, .int 0, .int 0, .int 0, .ref q_65, .int 0, .ref q_68, .int 0, .int (-1), .int 0, .int 0, .ref q_70, .ref q_72]))] s.heap := hP
  have hl := lv_entry ([.ref h0]) (n := 2) (Nat.le_of_ble_eq_true rfl)
  rw [lg_entry_eq]
  generalize (lg_sl ([.ref h0]) ++ List.replicate (2 - (lg_sl ([.ref h0])).length) Slot.unset).toArray = ls at hl ⊢
  have hl : lv_has ls 2 [(0, .ref h0)] := hl
  obtain ⟨H, hH⟩ : ∃ H, H = s.heap := ⟨_, rfl⟩
  rw [← hH] at hP
  have hS : va_S A s.heap H [] := by rw [hH]; exact hS
  rw [← hH]
  refine lv_aload_n hx hb dX19_plain_0 rfl (lv_at hl 0 rfl) ?_
  refine lv_iconst (v := 0) hx hb dX19_plain_1 (by decide) ?_
  refine va_put (D := (dC, dI)) (ci := 16) (v := .int 0) (ty := .int) (C := RX19) (T := TX19) (N := 41) hx hb hts mem_X19_plain_0 tyX19 tyX19_ok nmX19 hown hK hP hD hS 0 rfl rfl 33 (by decide) (ow (k := 0) rfl) (fun _ h9 => h9) rfl (by decide +kernel) rfl rfl (Nat.le_of_ble_eq_true rfl) dX19_plain_2 (fun H locs hP hD hS => ?_)
  have hP : va_P (dC, dI) vwP [(h0, .inr (16, [.ref q_1, .ref q_12, .ref q_17, .ref q_22, .ref q_24, .ref q_26, .ref q_28, .ref q_29, .ref q_31, .ref q_33, .ref q_35, .int 0, .ref q_37, .ref q_39, .ref q_41, .ref q_43, .ref q_45, .ref q_47, .ref q_49, .ref q_51, .ref q_53, .ref q_55, .ref q_57, .int 0, .ref q_59, .ref q_61, .ref q_63, .int (-1), .int 0, .int 0, .int 0, .int 0, .ref q_65, .int 0, .ref q_68, .int 0, .int (-1), .int 0, .int 0, .ref q_70, .ref q_72]))] H := hP
  have hD : va_D A [(h0, .inr (16, [.ref q_1, .ref q_12, .ref q_17, .ref q_22, .ref q_24, .ref q_26, .ref q_28, .ref q_29, .ref q_31, .ref q_33, .ref q_35, .int 0, .ref q_37, .ref q_39, .ref q_41, .ref q_43, .ref q_45, .ref q_47, .ref q_49, .ref q_51, .ref q_53, .ref q_55, .ref q_57, .int 0, .ref q_59, .ref q_61, .ref q_63, .int (-1), .int 0, .int 0, .int 0, .int 0, .ref q_65, .int 0, .ref q_68, .int 0, .int (-1), .int 0, .int 0, .ref q_70, .ref q_72]))] := hD
  refine lv_aload_n hx hb dX19_plain_5 rfl (lv_at hl 0 rfl) ?_
  refine va_get (D := (dC, dI)) (ci := 16) (v := .int (-1)) (C := RX19) (T := TX19) (N := 41) hx hb hts mem_X19_plain_0 hown hK hP 0 rfl rfl 36 (by decide) (ow (k := 1) rfl) (fun _ h9 => h9) rfl dX19_plain_6 ?_
  refine lv_iconst (v := 1) hx hb dX19_plain_9 (by decide) ?_
  refine lv_icmp_ge (tgt := 19) hx hb dX19_plain_10 (by decide) (fun h9 => absurd h9 (by decide)) (fun _ => ?_)
  refine lv_aload_n hx hb dX19_plain_13 rfl (lv_at hl 0 rfl) ?_
  refine lv_iconst (v := 1) hx hb dX19_plain_14 (by decide) ?_
  have hPc := hP.sub (ws' := [(h0, .inr (16, [.ref q_1, .ref q_12, .ref q_17, .ref q_22, .ref q_24, .ref q_26, .ref q_28, .ref q_29, .ref q_31, .ref q_33, .ref q_35, .int 0, .ref q_37, .ref q_39, .ref q_41, .ref q_43, .ref q_45, .ref q_47, .ref q_49, .ref q_51, .ref q_53, .ref q_55, .ref q_57, .int 0, .ref q_59, .ref q_61, .ref q_63, .int (-1), .int 0, .int 0, .int 0, .int 0, .ref q_65, .int 0, .ref q_68, .int 0, .int (-1), .int 0, .int 0, .ref q_70, .ref q_72]))]) [0] rfl
  have hDc := hD.sub (ws' := [(h0, .inr (16, [.ref q_1, .ref q_12, .ref q_17, .ref q_22, .ref q_24, .ref q_26, .ref q_28, .ref q_29, .ref q_31, .ref q_33, .ref q_35, .int 0, .ref q_37, .ref q_39, .ref q_41, .ref q_43, .ref q_45, .ref q_47, .ref q_49, .ref q_51, .ref q_53, .ref q_55, .ref q_57, .int 0, .ref q_59, .ref q_61, .ref q_63, .int (-1), .int 0, .int 0, .int 0, .int 0, .ref q_65, .int 0, .ref q_68, .int 0, .int (-1), .int 0, .int 0, .ref q_70, .ref q_72]))]) [0] (by decide) rfl
  have hKc := hK.sub (tys' := []) [] rfl
  have hFc := va_free (wc := [(h0, .inr (16, [.ref q_1, .ref q_12, .ref q_17, .ref q_22, .ref q_24, .ref q_26, .ref q_28, .ref q_29, .ref q_31, .ref q_33, .ref q_35, .int 0, .ref q_37, .ref q_39, .ref q_41, .ref q_43, .ref q_45, .ref q_47, .ref q_49, .ref q_51, .ref q_53, .ref q_55, .ref q_57, .int 0, .ref q_59, .ref q_61, .ref q_63, .int (-1), .int 0, .int 0, .int 0, .int 0, .ref q_65, .int 0, .ref q_68, .int 0, .int (-1), .int 0, .int 0, .ref q_70, .ref q_72]))]) hD hS hA [0] rfl
  refine va_calli (va_runV (As := [.int 1]) (rest := []) ⟨hx, hb, hml, hown, hts⟩ (c_X19_no l dC dI h0 q_1 q_12 q_17 q_22 q_24 q_26 q_28 q_29 q_31 q_33 q_35 q_37 q_39 q_41 q_43 q_45 q_47 q_49 q_51 q_53 q_55 q_57 q_59 q_61 q_63 q_65 q_68 q_70 q_72 1 H.size) (cwV 1 hts g_X19_plain_X19_no rfl rfl rfl (by decide +kernel) ⟨(Nat.le_of_ble_eq_true rfl), (Nat.le_of_ble_eq_true rfl)⟩) ⟨fun a U g mk q => by obtain ⟨q0, q1, qP, qK, qD⟩ := q; exact ⟨q0, q1, qP, va_K.moved (u := U) (U := U.calling g mk a) (Vm.Alike.refl U.vm) qK, qD⟩, va_recv hKc hPc (ci := 16) (q0 := 0) rfl rfl, fun U hU hW => ⟨rfl, by rw [hU], by rw [hU]; exact hPc, va_K.moved hW.alike hKc, hDc.weaken (fun _ _ _ _ => trivial)⟩⟩ rfl rfl hl.1 rfl (lv_room (Nat.le_of_ble_eq_true rfl)) dX19_plain_15 ⟨(Nat.le_of_ble_eq_true rfl), (Nat.le_of_ble_eq_true rfl)⟩) hS (fun q _ h => hFc q h) hFc (fun r_2001 u t H1 locs ht hvm hw hB hz1 hk1 hS => ?_)
  obtain ⟨hP1, hK1, hD1⟩ := hB
  rw [ht] at hP1
  have hK1 := va_K.moved hvm.symm hK1
  obtain ⟨hP, hD⟩ := va_join (wr := []) (w1 := [(h0, .inr (16, [.ref q_1, .ref q_12, .ref q_17, .ref q_22, .ref q_24, .ref q_26, .ref q_28, .ref q_29, .ref q_31, .ref q_33, .ref q_35, .int 0, .ref q_37, .ref q_39, .ref q_41, .ref q_43, .ref q_45, .ref q_47, .ref q_49, .ref q_51, .ref q_53, .ref q_55, .ref q_57, .int 0, .ref q_59, .ref q_61, .ref q_63, .int (-1), .int 0, .int 0, .int 0, .int 0, .ref q_65, .int 1, .ref q_68, .int 0, .int (-1), .int 0, .int 0, .ref q_70, .ref q_72]))]) hP hD [0] [] rfl rfl (by decide) (by decide) hk1 hFc hP1 hD1
  have hK := (hK.sub (tys' := []) [] rfl).app hK1
  generalize H1 = H at hP hS ⊢
  have hP : va_P (dC, dI) vwP [(h0, .inr (16, [.ref q_1, .ref q_12, .ref q_17, .ref q_22, .ref q_24, .ref q_26, .ref q_28, .ref q_29, .ref q_31, .ref q_33, .ref q_35, .int 0, .ref q_37, .ref q_39, .ref q_41, .ref q_43, .ref q_45, .ref q_47, .ref q_49, .ref q_51, .ref q_53, .ref q_55, .ref q_57, .int 0, .ref q_59, .ref q_61, .ref q_63, .int (-1), .int 0, .int 0, .int 0, .int 0, .ref q_65, .int 1, .ref q_68, .int 0, .int (-1), .int 0, .int 0, .ref q_70, .ref q_72]))] H := hP
  have hD : va_D A [(h0, .inr (16, [.ref q_1, .ref q_12, .ref q_17, .ref q_22, .ref q_24, .ref q_26, .ref q_28, .ref q_29, .ref q_31, .ref q_33, .ref q_35, .int 0, .ref q_37, .ref q_39, .ref q_41, .ref q_43, .ref q_45, .ref q_47, .ref q_49, .ref q_51, .ref q_53, .ref q_55, .ref q_57, .int 0, .ref q_59, .ref q_61, .ref q_63, .int (-1), .int 0, .int 0, .int 0, .int 0, .ref q_65, .int 1, .ref q_68, .int 0, .int (-1), .int 0, .int 0, .ref q_70, .ref q_72]))] := hD
  have hK : va_K (dC, dI) vwP [] s := hK
  refine W.widen (k := 0) (n := 0) (Nat.le_of_ble_eq_true rfl) (Nat.le_of_ble_eq_true rfl) ?_
  obtain rfl : r_2001 = 0 := hw
  refine W.widen (k := 0) (n := 0) (Nat.le_of_ble_eq_true rfl) (Nat.le_of_ble_eq_true rfl) ?_
  exact W.iret (v := 0) hx hb hr (fun t ht hW => ⟨⟨0, (), rfl, (fun h9 => absurd ((show kf_plain = 1 by unfold kf_plain; first | rfl | (split <;> first | rfl | (exfalso; omega))).symm.trans h9) (by decide)), 1, 0, (-1), 0, q_72, (show kf_plain = 1 by unfold kf_plain; first | rfl | (split <;> first | rfl | (exfalso; omega))).symm, by rw [ht]; exact hP, va_K.moved hW.alike hK, hD⟩, hS.F ht⟩) hS.2.2 dX19_plain_18
theorem dX19_run__0 : decode cX19_run_ 0 = .ok (.aload_n 0, 1) := by decide +kernel
theorem dX19_run__1 : decode cX19_run_ 1 = .ok (.iconst 0, 1) := by decide +kernel
theorem dX19_run__2 : decode cX19_run_ 2 = .ok (.putfield 560, 3) := by decide +kernel
theorem dX19_run__5 : decode cX19_run_ 5 = .ok (.iload_n 1, 1) := by decide +kernel
theorem dX19_run__6 : decode cX19_run_ 6 = .ok (.iconst 1, 1) := by decide +kernel
theorem dX19_run__7 : decode cX19_run_ 7 = .ok (.if_icmp .lt 10, 3) := by decide +kernel
theorem dX19_run__17 : decode cX19_run_ 17 = .ok (.aload_n 0, 1) := by decide +kernel
theorem dX19_run__18 : decode cX19_run_ 18 = .ok (.iconst 1, 1) := by decide +kernel
theorem dX19_run__19 : decode cX19_run_ 19 = .ok (.invokevirtual 565, 3) := by decide +kernel
theorem dX19_run__22 : decode cX19_run_ 22 = .ok (.ireturn, 1) := by decide +kernel
theorem dX19_run__10 : decode cX19_run_ 10 = .ok (.iload_n 1, 1) := by decide +kernel
theorem dX19_run__11 : decode cX19_run_ 11 = .ok (.ldc_w 628, 3) := by decide +kernel
theorem dX19_run__14 : decode cX19_run_ 14 = .ok (.if_icmp .le 9, 3) := by decide +kernel
theorem dX19_run__23 : decode cX19_run_ 23 = .ok (.aload_n 0, 1) := by decide +kernel
theorem dX19_run__24 : decode cX19_run_ 24 = .ok (.getfield 555, 3) := by decide +kernel
theorem dX19_run__27 : decode cX19_run_ 27 = .ok (.ifCond .ge 9, 3) := by decide +kernel
theorem dX19_run__30 : decode cX19_run_ 30 = .ok (.aload_n 0, 1) := by decide +kernel
theorem dX19_run__31 : decode cX19_run_ 31 = .ok (.iconst 2, 1) := by decide +kernel
theorem dX19_run__32 : decode cX19_run_ 32 = .ok (.invokevirtual 565, 3) := by decide +kernel
theorem dX19_run__35 : decode cX19_run_ 35 = .ok (.ireturn, 1) := by decide +kernel
def o_X19_run_ : List Cond := [.fieldLink RX19 560 "SsaForgeModel" "thrown" "I", .methodLink RX19 565 yX19_no, .instanceMethod yX19_no, .selects RX19 yX19_no yX19_no, .initialized RX19, .constant RX19 628 (100000), .fieldLink RX19 555 "SsaForgeModel" "form" "I"]
def v_X19_run_ : List Cond := .code yX19_run_ cX19_run_ 2 (some .int) :: (o_X19_run_ ++ (wsX190 ++ (v_X19_no ++ [])))
theorem mow_X19_run_ : ∀ w ∈ o_X19_run_, w ∈ v_X19_run_ := fun _ h => List.mem_cons_of_mem _ (List.mem_append_left _ h)
theorem mem_X19_run__0 : ∀ w ∈ wsX190, w ∈ v_X19_run_ := fun _ h => List.mem_cons_of_mem _ (List.mem_append_right _ (List.mem_append_left _ h))
theorem mem_X19_run__1 : ∀ w ∈ v_X19_no, w ∈ v_X19_run_ := fun _ h => List.mem_cons_of_mem _ (List.mem_append_right _ (List.mem_append_right _ (List.mem_append_left _ h)))
set_option maxRecDepth 20000 in
theorem gw_X19_run_ : v_X19_run_.all goodWord = true := by decide +kernel
set_option maxRecDepth 20000 in
theorem g_X19_run__X19_no : GoodIn v_X19_run_ (wsV RX19 565 RX19 yX19_no v_X19_no) := goodIn_app (goodIn_sub (fun w h => mow_X19_run_ w (by revert w h; decide +kernel)) (by decide +kernel)) (goodIn_sub mem_X19_run__1 gw_X19_no)
set_option maxHeartbeats 4000000 in
set_option maxRecDepth 100000 in
theorem c_X19_run_ (l : Launch) (dC : Nat → ClassId) (dI : Nat → Nat → Nat) (h0 : Nat) (q_1 : Nat) (q_12 : Nat) (q_17 : Nat) (q_22 : Nat) (q_24 : Nat) (q_26 : Nat) (q_28 : Nat) (q_29 : Nat) (q_31 : Nat) (q_33 : Nat) (q_35 : Nat) (q_37 : Nat) (q_39 : Nat) (q_41 : Nat) (q_43 : Nat) (q_45 : Nat) (q_47 : Nat) (q_49 : Nat) (q_51 : Nat) (q_53 : Nat) (q_55 : Nat) (q_57 : Nat) (q_59 : Nat) (q_61 : Nat) (q_63 : Nat) (q_65 : Nat) (q_68 : Nat) (q_70 : Nat) (q_72 : Nat) (p0 : Int32) (sz : Nat) : Met l yX19_run_ v_X19_run_ ({ frames := 1, cells := 0, slots := 0, locals := 21 }) (va_Pc [.ref h0, .int p0] (fun U => U.heap.size = sz ∧ va_P (dC, dI) vwP [(h0, .inr (16, [.ref q_1, .ref q_12, .ref q_17, .ref q_22, .ref q_24, .ref q_26, .ref q_28, .ref q_29, .ref q_31, .ref q_33, .ref q_35, .int 0, .ref q_37, .ref q_39, .ref q_41, .ref q_43, .ref q_45, .ref q_47, .ref q_49, .ref q_51, .ref q_53, .ref q_55, .ref q_57, .int 0, .ref q_59, .ref q_61, .ref q_63, .int (-1), .int 0, .int 0, .int 0, .int 0, .ref q_65, .int 0, .ref q_68, .int 0, .int (-1), .int 0, .int 0, .ref q_70, .ref q_72]))] U.heap ∧ va_K (dC, dI) vwP [] U ∧ va_D (fun _ => True) [(h0, .inr (16, [.ref q_1, .ref q_12, .ref q_17, .ref q_22, .ref q_24, .ref q_26, .ref q_28, .ref q_29, .ref q_31, .ref q_33, .ref q_35, .int 0, .ref q_37, .ref q_39, .ref q_41, .ref q_43, .ref q_45, .ref q_47, .ref q_49, .ref q_51, .ref q_53, .ref q_55, .ref q_57, .int 0, .ref q_59, .ref q_61, .ref q_63, .int (-1), .int 0, .int 0, .int 0, .int 0, .ref q_65, .int 0, .ref q_68, .int 0, .int (-1), .int 0, .int 0, .ref q_70, .ref q_72]))])) (va_Qi (fun (r : Int32) (_ : Unit) => kf_run p0 = 0 → r = vf_run) (fun (_ : Unit) (t : State) => ∃ (i_33 : Int32) (i_35 : Int32) (i_36 : Int32) (i_37 : Int32) (q_940 : Nat), (i_33 = kf_run p0) ∧ va_P (dC, dI) vwP [(h0, .inr (16, [.ref q_1, .ref q_12, .ref q_17, .ref q_22, .ref q_24, .ref q_26, .ref q_28, .ref q_29, .ref q_31, .ref q_33, .ref q_35, .int 0, .ref q_37, .ref q_39, .ref q_41, .ref q_43, .ref q_45, .ref q_47, .ref q_49, .ref q_51, .ref q_53, .ref q_55, .ref q_57, .int 0, .ref q_59, .ref q_61, .ref q_63, .int (-1), .int 0, .int 0, .int 0, .int 0, .ref q_65, .int i_33, .ref q_68, .int i_35, .int i_36, .int i_37, .int 0, .ref q_70, .ref q_940]))] t.heap ∧ va_K (dC, dI) vwP [] t ∧ va_D (va_A [(h0, .inr (16, [.ref q_1, .ref q_12, .ref q_17, .ref q_22, .ref q_24, .ref q_26, .ref q_28, .ref q_29, .ref q_31, .ref q_33, .ref q_35, .int 0, .ref q_37, .ref q_39, .ref q_41, .ref q_43, .ref q_45, .ref q_47, .ref q_49, .ref q_51, .ref q_53, .ref q_55, .ref q_57, .int 0, .ref q_59, .ref q_61, .ref q_63, .int (-1), .int 0, .int 0, .int 0, .int 0, .ref q_65, .int 0, .ref q_68, .int 0, .int (-1), .int 0, .int 0, .ref q_70, .ref q_72]))] sz) [(h0, .inr (16, [.ref q_1, .ref q_12, .ref q_17, .ref q_22, .ref q_24, .ref q_26, .ref q_28, .ref q_29, .ref q_31, .ref q_33, .ref q_35, .int 0, .ref q_37, .ref q_39, .ref q_41, .ref q_43, .ref q_45, .ref q_47, .ref q_49, .ref q_51, .ref q_53, .ref q_55, .ref q_57, .int 0, .ref q_59, .ref q_61, .ref q_63, .int (-1), .int 0, .int 0, .int 0, .int 0, .ref q_65, .int i_33, .ref q_68, .int i_35, .int i_36, .int i_37, .int 0, .ref q_70, .ref q_940]))]) (va_A [(h0, .inr (16, [.ref q_1, .ref q_12, .ref q_17, .ref q_22, .ref q_24, .ref q_26, .ref q_28, .ref q_29, .ref q_31, .ref q_33, .ref q_35, .int 0, .ref q_37, .ref q_39, .ref q_41, .ref q_43, .ref q_45, .ref q_47, .ref q_49, .ref q_51, .ref q_53, .ref q_55, .ref q_57, .int 0, .ref q_59, .ref q_61, .ref q_63, .int (-1), .int 0, .int 0, .int 0, .int 0, .ref q_65, .int 0, .ref q_68, .int 0, .int (-1), .int 0, .int 0, .ref q_70, .ref q_72]))] sz)) 0 0 (va_A [(h0, .inr (16, [.ref q_1, .ref q_12, .ref q_17, .ref q_22, .ref q_24, .ref q_26, .ref q_28, .ref q_29, .ref q_31, .ref q_33, .ref q_35, .int 0, .ref q_37, .ref q_39, .ref q_41, .ref q_43, .ref q_45, .ref q_47, .ref q_49, .ref q_51, .ref q_53, .ref q_55, .ref q_57, .int 0, .ref q_59, .ref q_61, .ref q_63, .int (-1), .int 0, .int 0, .int 0, .int 0, .ref q_65, .int 0, .ref q_68, .int 0, .int (-1), .int 0, .int 0, .ref q_70, .ref q_72]))] sz) := by
  refine Met.ofW (cc := cX19_run_) (maxL := 2) (ret := (some .int)) (by decide) rfl ?_
  intro p e s m args below meth c s₁ B hml hv
  obtain ⟨rfl, hsz, hP, hK, hD0⟩ := hv
  have hx := B.exec
  have hb := B.bytes
  have hr := B.returns
  have hts := atoms_spec (ws := v_X19_run_) B.pre
  have hown : s.vm.findClass RX19 = some m.cls := findClass_of_methodNamed B.named
  have hlocks := B.notSynchronized
  have ow : ∀ {k : Nat} {w : Cond}, o_X19_run_[k]? = some w → w.before ([.ref h0, .int p0] : List Value).toArray s = true := fun h => hts _ (mow_X19_run_ _ (List.mem_of_getElem? h))
  subst hsz
  have hD := hD0.self (sz := s.heap.size)
  generalize hAe : va_A [(h0, .inr (16, [.ref q_1, .ref q_12, .ref q_17, .ref q_22, .ref q_24, .ref q_26, .ref q_28, .ref q_29, .ref q_31, .ref q_33, .ref q_35, .int 0, .ref q_37, .ref q_39, .ref q_41, .ref q_43, .ref q_45, .ref q_47, .ref q_49, .ref q_51, .ref q_53, .ref q_55, .ref q_57, .int 0, .ref q_59, .ref q_61, .ref q_63, .int (-1), .int 0, .int 0, .int 0, .int 0, .ref q_65, .int 0, .ref q_68, .int 0, .int (-1), .int 0, .int 0, .ref q_70, .ref q_72]))] s.heap.size = A at hD ⊢
  have hA : ∀ q : Nat, s.heap.size ≤ q → A q := fun q h => by rw [← hAe]; exact Or.inr h
  have hS : va_S A s.heap s.heap [] := va_S.rf
  have hP : va_P (dC, dI) vwP [(h0, .inr (16, [.ref q_1, .ref q_12, .ref q_17, .ref q_22, .ref q_24, .ref q_26, .ref q_28, .ref q_29, .ref q_31, .ref q_33, .ref q_35, .int 0, .ref q_37, .ref q_39, .ref q_41, .ref q_43, .ref q_45, .ref q_47, .ref q_49, .ref q_51, .ref q_53, .ref q_55, .ref q_57, .int 0, .ref q_59, .ref q_61, .ref q_63, .int (-1), .int 0, .int 0, .int 0, .int 0, .ref q_65, .int 0, .ref q_68, .int 0, .int (-1), .int 0, .int 0, .ref q_70, .ref q_72]))] s.heap := hP
  have hl := lv_entry ([.ref h0, .int p0]) (n := 2) (Nat.le_of_ble_eq_true rfl)
  rw [lg_entry_eq]
  generalize (lg_sl ([.ref h0, .int p0]) ++ List.replicate (2 - (lg_sl ([.ref h0, .int p0])).length) Slot.unset).toArray = ls at hl ⊢
  have hl : lv_has ls 2 [(0, .ref h0), (1, .int p0)] := hl
  obtain ⟨H, hH⟩ : ∃ H, H = s.heap := ⟨_, rfl⟩
  rw [← hH] at hP
  have hS : va_S A s.heap H [] := by rw [hH]; exact hS
  rw [← hH]
  refine lv_aload_n hx hb dX19_run__0 rfl (lv_at hl 0 rfl) ?_
  refine lv_iconst (v := 0) hx hb dX19_run__1 (by decide) ?_
  refine va_put (D := (dC, dI)) (ci := 16) (v := .int 0) (ty := .int) (C := RX19) (T := TX19) (N := 41) hx hb hts mem_X19_run__0 tyX19 tyX19_ok nmX19 hown hK hP hD hS 0 rfl rfl 33 (by decide) (ow (k := 0) rfl) (fun _ h9 => h9) rfl (by decide +kernel) rfl rfl (Nat.le_of_ble_eq_true rfl) dX19_run__2 (fun H locs hP hD hS => ?_)
  have hP : va_P (dC, dI) vwP [(h0, .inr (16, [.ref q_1, .ref q_12, .ref q_17, .ref q_22, .ref q_24, .ref q_26, .ref q_28, .ref q_29, .ref q_31, .ref q_33, .ref q_35, .int 0, .ref q_37, .ref q_39, .ref q_41, .ref q_43, .ref q_45, .ref q_47, .ref q_49, .ref q_51, .ref q_53, .ref q_55, .ref q_57, .int 0, .ref q_59, .ref q_61, .ref q_63, .int (-1), .int 0, .int 0, .int 0, .int 0, .ref q_65, .int 0, .ref q_68, .int 0, .int (-1), .int 0, .int 0, .ref q_70, .ref q_72]))] H := hP
  have hD : va_D A [(h0, .inr (16, [.ref q_1, .ref q_12, .ref q_17, .ref q_22, .ref q_24, .ref q_26, .ref q_28, .ref q_29, .ref q_31, .ref q_33, .ref q_35, .int 0, .ref q_37, .ref q_39, .ref q_41, .ref q_43, .ref q_45, .ref q_47, .ref q_49, .ref q_51, .ref q_53, .ref q_55, .ref q_57, .int 0, .ref q_59, .ref q_61, .ref q_63, .int (-1), .int 0, .int 0, .int 0, .int 0, .ref q_65, .int 0, .ref q_68, .int 0, .int (-1), .int 0, .int 0, .ref q_70, .ref q_72]))] := hD
  refine lv_iload_n hx hb dX19_run__5 rfl (lv_at hl 1 rfl) ?_
  refine lv_iconst (v := 1) hx hb dX19_run__6 (by decide) ?_
  refine lv_icmp_lt (tgt := 17) hx hb dX19_run__7 (by decide) (fun b7 => ?_) (fun b7 => ?_)
  · refine lv_aload_n hx hb dX19_run__17 rfl (lv_at hl 0 rfl) ?_
    refine lv_iconst (v := 1) hx hb dX19_run__18 (by decide) ?_
    have hPc := hP.sub (ws' := [(h0, .inr (16, [.ref q_1, .ref q_12, .ref q_17, .ref q_22, .ref q_24, .ref q_26, .ref q_28, .ref q_29, .ref q_31, .ref q_33, .ref q_35, .int 0, .ref q_37, .ref q_39, .ref q_41, .ref q_43, .ref q_45, .ref q_47, .ref q_49, .ref q_51, .ref q_53, .ref q_55, .ref q_57, .int 0, .ref q_59, .ref q_61, .ref q_63, .int (-1), .int 0, .int 0, .int 0, .int 0, .ref q_65, .int 0, .ref q_68, .int 0, .int (-1), .int 0, .int 0, .ref q_70, .ref q_72]))]) [0] rfl
    have hDc := hD.sub (ws' := [(h0, .inr (16, [.ref q_1, .ref q_12, .ref q_17, .ref q_22, .ref q_24, .ref q_26, .ref q_28, .ref q_29, .ref q_31, .ref q_33, .ref q_35, .int 0, .ref q_37, .ref q_39, .ref q_41, .ref q_43, .ref q_45, .ref q_47, .ref q_49, .ref q_51, .ref q_53, .ref q_55, .ref q_57, .int 0, .ref q_59, .ref q_61, .ref q_63, .int (-1), .int 0, .int 0, .int 0, .int 0, .ref q_65, .int 0, .ref q_68, .int 0, .int (-1), .int 0, .int 0, .ref q_70, .ref q_72]))]) [0] (by decide) rfl
    have hKc := hK.sub (tys' := []) [] rfl
    have hFc := va_free (wc := [(h0, .inr (16, [.ref q_1, .ref q_12, .ref q_17, .ref q_22, .ref q_24, .ref q_26, .ref q_28, .ref q_29, .ref q_31, .ref q_33, .ref q_35, .int 0, .ref q_37, .ref q_39, .ref q_41, .ref q_43, .ref q_45, .ref q_47, .ref q_49, .ref q_51, .ref q_53, .ref q_55, .ref q_57, .int 0, .ref q_59, .ref q_61, .ref q_63, .int (-1), .int 0, .int 0, .int 0, .int 0, .ref q_65, .int 0, .ref q_68, .int 0, .int (-1), .int 0, .int 0, .ref q_70, .ref q_72]))]) hD hS hA [0] rfl
    refine va_calli (va_runV (As := [.int 1]) (rest := []) ⟨hx, hb, hml, hown, hts⟩ (c_X19_no l dC dI h0 q_1 q_12 q_17 q_22 q_24 q_26 q_28 q_29 q_31 q_33 q_35 q_37 q_39 q_41 q_43 q_45 q_47 q_49 q_51 q_53 q_55 q_57 q_59 q_61 q_63 q_65 q_68 q_70 q_72 1 H.size) (cwV 1 hts g_X19_run__X19_no rfl rfl rfl (by decide +kernel) ⟨(Nat.le_of_ble_eq_true rfl), (Nat.le_of_ble_eq_true rfl)⟩) ⟨fun a U g mk q => by obtain ⟨q0, q1, qP, qK, qD⟩ := q; exact ⟨q0, q1, qP, va_K.moved (u := U) (U := U.calling g mk a) (Vm.Alike.refl U.vm) qK, qD⟩, va_recv hKc hPc (ci := 16) (q0 := 0) rfl rfl, fun U hU hW => ⟨rfl, by rw [hU], by rw [hU]; exact hPc, va_K.moved hW.alike hKc, hDc.weaken (fun _ _ _ _ => trivial)⟩⟩ rfl rfl hl.1 rfl (lv_room (Nat.le_of_ble_eq_true rfl)) dX19_run__19 ⟨(Nat.le_of_ble_eq_true rfl), (Nat.le_of_ble_eq_true rfl)⟩) hS (fun q _ h => hFc q h) hFc (fun r_2001 u t H1 locs ht hvm hw hB hz1 hk1 hS => ?_)
    obtain ⟨hP1, hK1, hD1⟩ := hB
    rw [ht] at hP1
    have hK1 := va_K.moved hvm.symm hK1
    obtain ⟨hP, hD⟩ := va_join (wr := []) (w1 := [(h0, .inr (16, [.ref q_1, .ref q_12, .ref q_17, .ref q_22, .ref q_24, .ref q_26, .ref q_28, .ref q_29, .ref q_31, .ref q_33, .ref q_35, .int 0, .ref q_37, .ref q_39, .ref q_41, .ref q_43, .ref q_45, .ref q_47, .ref q_49, .ref q_51, .ref q_53, .ref q_55, .ref q_57, .int 0, .ref q_59, .ref q_61, .ref q_63, .int (-1), .int 0, .int 0, .int 0, .int 0, .ref q_65, .int 1, .ref q_68, .int 0, .int (-1), .int 0, .int 0, .ref q_70, .ref q_72]))]) hP hD [0] [] rfl rfl (by decide) (by decide) hk1 hFc hP1 hD1
    have hK := (hK.sub (tys' := []) [] rfl).app hK1
    generalize H1 = H at hP hS ⊢
    have hP : va_P (dC, dI) vwP [(h0, .inr (16, [.ref q_1, .ref q_12, .ref q_17, .ref q_22, .ref q_24, .ref q_26, .ref q_28, .ref q_29, .ref q_31, .ref q_33, .ref q_35, .int 0, .ref q_37, .ref q_39, .ref q_41, .ref q_43, .ref q_45, .ref q_47, .ref q_49, .ref q_51, .ref q_53, .ref q_55, .ref q_57, .int 0, .ref q_59, .ref q_61, .ref q_63, .int (-1), .int 0, .int 0, .int 0, .int 0, .ref q_65, .int 1, .ref q_68, .int 0, .int (-1), .int 0, .int 0, .ref q_70, .ref q_72]))] H := hP
    have hD : va_D A [(h0, .inr (16, [.ref q_1, .ref q_12, .ref q_17, .ref q_22, .ref q_24, .ref q_26, .ref q_28, .ref q_29, .ref q_31, .ref q_33, .ref q_35, .int 0, .ref q_37, .ref q_39, .ref q_41, .ref q_43, .ref q_45, .ref q_47, .ref q_49, .ref q_51, .ref q_53, .ref q_55, .ref q_57, .int 0, .ref q_59, .ref q_61, .ref q_63, .int (-1), .int 0, .int 0, .int 0, .int 0, .ref q_65, .int 1, .ref q_68, .int 0, .int (-1), .int 0, .int 0, .ref q_70, .ref q_72]))] := hD
    have hK : va_K (dC, dI) vwP [] s := hK
    refine W.widen (k := 0) (n := 0) (Nat.le_of_ble_eq_true rfl) (Nat.le_of_ble_eq_true rfl) ?_
    obtain rfl : r_2001 = 0 := hw
    have zb7 : p0.toInt < 1 := z_lt b7
    refine W.widen (k := 0) (n := 0) (Nat.le_of_ble_eq_true rfl) (Nat.le_of_ble_eq_true rfl) ?_
    exact W.iret (v := 0) hx hb hr (fun t ht hW => ⟨⟨0, (), rfl, (fun h9 => absurd ((show kf_run p0 = 1 by unfold kf_run; first | rfl | (split <;> first | rfl | (exfalso; omega))).symm.trans h9) (by decide)), 1, 0, (-1), 0, q_72, (show kf_run p0 = 1 by unfold kf_run; first | rfl | (split <;> first | rfl | (exfalso; omega))).symm, by rw [ht]; exact hP, va_K.moved hW.alike hK, hD⟩, hS.F ht⟩) hS.2.2 dX19_run__22
  · refine lv_iload_n hx hb dX19_run__10 rfl (lv_at hl 1 rfl) ?_
    refine lv_ldcw (v := 100000) hx hb hown (ow (k := 5) rfl) dX19_run__11 ?_
    refine lv_icmp_le (tgt := 23) hx hb dX19_run__14 (by decide) (fun b14 => ?_) (fun b14 => ?_)
    · refine lv_aload_n hx hb dX19_run__23 rfl (lv_at hl 0 rfl) ?_
      refine va_get (D := (dC, dI)) (ci := 16) (v := .int (-1)) (C := RX19) (T := TX19) (N := 41) hx hb hts mem_X19_run__0 hown hK hP 0 rfl rfl 36 (by decide) (ow (k := 6) rfl) (fun _ h9 => h9) rfl dX19_run__24 ?_
      refine lv_if_ge (tgt := 36) hx hb dX19_run__27 (by decide) (fun h9 => absurd h9 (by decide)) (fun _ => ?_)
      refine lv_aload_n hx hb dX19_run__30 rfl (lv_at hl 0 rfl) ?_
      refine lv_iconst (v := 2) hx hb dX19_run__31 (by decide) ?_
      have hPc := hP.sub (ws' := [(h0, .inr (16, [.ref q_1, .ref q_12, .ref q_17, .ref q_22, .ref q_24, .ref q_26, .ref q_28, .ref q_29, .ref q_31, .ref q_33, .ref q_35, .int 0, .ref q_37, .ref q_39, .ref q_41, .ref q_43, .ref q_45, .ref q_47, .ref q_49, .ref q_51, .ref q_53, .ref q_55, .ref q_57, .int 0, .ref q_59, .ref q_61, .ref q_63, .int (-1), .int 0, .int 0, .int 0, .int 0, .ref q_65, .int 0, .ref q_68, .int 0, .int (-1), .int 0, .int 0, .ref q_70, .ref q_72]))]) [0] rfl
      have hDc := hD.sub (ws' := [(h0, .inr (16, [.ref q_1, .ref q_12, .ref q_17, .ref q_22, .ref q_24, .ref q_26, .ref q_28, .ref q_29, .ref q_31, .ref q_33, .ref q_35, .int 0, .ref q_37, .ref q_39, .ref q_41, .ref q_43, .ref q_45, .ref q_47, .ref q_49, .ref q_51, .ref q_53, .ref q_55, .ref q_57, .int 0, .ref q_59, .ref q_61, .ref q_63, .int (-1), .int 0, .int 0, .int 0, .int 0, .ref q_65, .int 0, .ref q_68, .int 0, .int (-1), .int 0, .int 0, .ref q_70, .ref q_72]))]) [0] (by decide) rfl
      have hKc := hK.sub (tys' := []) [] rfl
      have hFc := va_free (wc := [(h0, .inr (16, [.ref q_1, .ref q_12, .ref q_17, .ref q_22, .ref q_24, .ref q_26, .ref q_28, .ref q_29, .ref q_31, .ref q_33, .ref q_35, .int 0, .ref q_37, .ref q_39, .ref q_41, .ref q_43, .ref q_45, .ref q_47, .ref q_49, .ref q_51, .ref q_53, .ref q_55, .ref q_57, .int 0, .ref q_59, .ref q_61, .ref q_63, .int (-1), .int 0, .int 0, .int 0, .int 0, .ref q_65, .int 0, .ref q_68, .int 0, .int (-1), .int 0, .int 0, .ref q_70, .ref q_72]))]) hD hS hA [0] rfl
      refine va_calli (va_runV (As := [.int 2]) (rest := []) ⟨hx, hb, hml, hown, hts⟩ (c_X19_no l dC dI h0 q_1 q_12 q_17 q_22 q_24 q_26 q_28 q_29 q_31 q_33 q_35 q_37 q_39 q_41 q_43 q_45 q_47 q_49 q_51 q_53 q_55 q_57 q_59 q_61 q_63 q_65 q_68 q_70 q_72 2 H.size) (cwV 1 hts g_X19_run__X19_no rfl rfl rfl (by decide +kernel) ⟨(Nat.le_of_ble_eq_true rfl), (Nat.le_of_ble_eq_true rfl)⟩) ⟨fun a U g mk q => by obtain ⟨q0, q1, qP, qK, qD⟩ := q; exact ⟨q0, q1, qP, va_K.moved (u := U) (U := U.calling g mk a) (Vm.Alike.refl U.vm) qK, qD⟩, va_recv hKc hPc (ci := 16) (q0 := 0) rfl rfl, fun U hU hW => ⟨rfl, by rw [hU], by rw [hU]; exact hPc, va_K.moved hW.alike hKc, hDc.weaken (fun _ _ _ _ => trivial)⟩⟩ rfl rfl hl.1 rfl (lv_room (Nat.le_of_ble_eq_true rfl)) dX19_run__32 ⟨(Nat.le_of_ble_eq_true rfl), (Nat.le_of_ble_eq_true rfl)⟩) hS (fun q _ h => hFc q h) hFc (fun r_2002 u t H1 locs ht hvm hw hB hz1 hk1 hS => ?_)
      obtain ⟨hP1, hK1, hD1⟩ := hB
      rw [ht] at hP1
      have hK1 := va_K.moved hvm.symm hK1
      obtain ⟨hP, hD⟩ := va_join (wr := []) (w1 := [(h0, .inr (16, [.ref q_1, .ref q_12, .ref q_17, .ref q_22, .ref q_24, .ref q_26, .ref q_28, .ref q_29, .ref q_31, .ref q_33, .ref q_35, .int 0, .ref q_37, .ref q_39, .ref q_41, .ref q_43, .ref q_45, .ref q_47, .ref q_49, .ref q_51, .ref q_53, .ref q_55, .ref q_57, .int 0, .ref q_59, .ref q_61, .ref q_63, .int (-1), .int 0, .int 0, .int 0, .int 0, .ref q_65, .int 2, .ref q_68, .int 0, .int (-1), .int 0, .int 0, .ref q_70, .ref q_72]))]) hP hD [0] [] rfl rfl (by decide) (by decide) hk1 hFc hP1 hD1
      have hK := (hK.sub (tys' := []) [] rfl).app hK1
      generalize H1 = H at hP hS ⊢
      have hP : va_P (dC, dI) vwP [(h0, .inr (16, [.ref q_1, .ref q_12, .ref q_17, .ref q_22, .ref q_24, .ref q_26, .ref q_28, .ref q_29, .ref q_31, .ref q_33, .ref q_35, .int 0, .ref q_37, .ref q_39, .ref q_41, .ref q_43, .ref q_45, .ref q_47, .ref q_49, .ref q_51, .ref q_53, .ref q_55, .ref q_57, .int 0, .ref q_59, .ref q_61, .ref q_63, .int (-1), .int 0, .int 0, .int 0, .int 0, .ref q_65, .int 2, .ref q_68, .int 0, .int (-1), .int 0, .int 0, .ref q_70, .ref q_72]))] H := hP
      have hD : va_D A [(h0, .inr (16, [.ref q_1, .ref q_12, .ref q_17, .ref q_22, .ref q_24, .ref q_26, .ref q_28, .ref q_29, .ref q_31, .ref q_33, .ref q_35, .int 0, .ref q_37, .ref q_39, .ref q_41, .ref q_43, .ref q_45, .ref q_47, .ref q_49, .ref q_51, .ref q_53, .ref q_55, .ref q_57, .int 0, .ref q_59, .ref q_61, .ref q_63, .int (-1), .int 0, .int 0, .int 0, .int 0, .ref q_65, .int 2, .ref q_68, .int 0, .int (-1), .int 0, .int 0, .ref q_70, .ref q_72]))] := hD
      have hK : va_K (dC, dI) vwP [] s := hK
      refine W.widen (k := 0) (n := 0) (Nat.le_of_ble_eq_true rfl) (Nat.le_of_ble_eq_true rfl) ?_
      obtain rfl : r_2002 = 0 := hw
      have zb7 : 1 ≤ p0.toInt := z_nlt b7
      have zb14 : p0.toInt ≤ 100000 := z_le b14
      refine W.widen (k := 0) (n := 0) (Nat.le_of_ble_eq_true rfl) (Nat.le_of_ble_eq_true rfl) ?_
      exact W.iret (v := 0) hx hb hr (fun t ht hW => ⟨⟨0, (), rfl, (fun h9 => absurd ((show kf_run p0 = 2 by unfold kf_run; first | rfl | (split <;> first | rfl | (exfalso; omega))).symm.trans h9) (by decide)), 2, 0, (-1), 0, q_72, (show kf_run p0 = 2 by unfold kf_run; first | rfl | (split <;> first | rfl | (exfalso; omega))).symm, by rw [ht]; exact hP, va_K.moved hW.alike hK, hD⟩, hS.F ht⟩) hS.2.2 dX19_run__35
    · refine lv_aload_n hx hb dX19_run__17 rfl (lv_at hl 0 rfl) ?_
      refine lv_iconst (v := 1) hx hb dX19_run__18 (by decide) ?_
      have hPc := hP.sub (ws' := [(h0, .inr (16, [.ref q_1, .ref q_12, .ref q_17, .ref q_22, .ref q_24, .ref q_26, .ref q_28, .ref q_29, .ref q_31, .ref q_33, .ref q_35, .int 0, .ref q_37, .ref q_39, .ref q_41, .ref q_43, .ref q_45, .ref q_47, .ref q_49, .ref q_51, .ref q_53, .ref q_55, .ref q_57, .int 0, .ref q_59, .ref q_61, .ref q_63, .int (-1), .int 0, .int 0, .int 0, .int 0, .ref q_65, .int 0, .ref q_68, .int 0, .int (-1), .int 0, .int 0, .ref q_70, .ref q_72]))]) [0] rfl
      have hDc := hD.sub (ws' := [(h0, .inr (16, [.ref q_1, .ref q_12, .ref q_17, .ref q_22, .ref q_24, .ref q_26, .ref q_28, .ref q_29, .ref q_31, .ref q_33, .ref q_35, .int 0, .ref q_37, .ref q_39, .ref q_41, .ref q_43, .ref q_45, .ref q_47, .ref q_49, .ref q_51, .ref q_53, .ref q_55, .ref q_57, .int 0, .ref q_59, .ref q_61, .ref q_63, .int (-1), .int 0, .int 0, .int 0, .int 0, .ref q_65, .int 0, .ref q_68, .int 0, .int (-1), .int 0, .int 0, .ref q_70, .ref q_72]))]) [0] (by decide) rfl
      have hKc := hK.sub (tys' := []) [] rfl
      have hFc := va_free (wc := [(h0, .inr (16, [.ref q_1, .ref q_12, .ref q_17, .ref q_22, .ref q_24, .ref q_26, .ref q_28, .ref q_29, .ref q_31, .ref q_33, .ref q_35, .int 0, .ref q_37, .ref q_39, .ref q_41, .ref q_43, .ref q_45, .ref q_47, .ref q_49, .ref q_51, .ref q_53, .ref q_55, .ref q_57, .int 0, .ref q_59, .ref q_61, .ref q_63, .int (-1), .int 0, .int 0, .int 0, .int 0, .ref q_65, .int 0, .ref q_68, .int 0, .int (-1), .int 0, .int 0, .ref q_70, .ref q_72]))]) hD hS hA [0] rfl
      refine va_calli (va_runV (As := [.int 1]) (rest := []) ⟨hx, hb, hml, hown, hts⟩ (c_X19_no l dC dI h0 q_1 q_12 q_17 q_22 q_24 q_26 q_28 q_29 q_31 q_33 q_35 q_37 q_39 q_41 q_43 q_45 q_47 q_49 q_51 q_53 q_55 q_57 q_59 q_61 q_63 q_65 q_68 q_70 q_72 1 H.size) (cwV 1 hts g_X19_run__X19_no rfl rfl rfl (by decide +kernel) ⟨(Nat.le_of_ble_eq_true rfl), (Nat.le_of_ble_eq_true rfl)⟩) ⟨fun a U g mk q => by obtain ⟨q0, q1, qP, qK, qD⟩ := q; exact ⟨q0, q1, qP, va_K.moved (u := U) (U := U.calling g mk a) (Vm.Alike.refl U.vm) qK, qD⟩, va_recv hKc hPc (ci := 16) (q0 := 0) rfl rfl, fun U hU hW => ⟨rfl, by rw [hU], by rw [hU]; exact hPc, va_K.moved hW.alike hKc, hDc.weaken (fun _ _ _ _ => trivial)⟩⟩ rfl rfl hl.1 rfl (lv_room (Nat.le_of_ble_eq_true rfl)) dX19_run__19 ⟨(Nat.le_of_ble_eq_true rfl), (Nat.le_of_ble_eq_true rfl)⟩) hS (fun q _ h => hFc q h) hFc (fun r_2003 u t H1 locs ht hvm hw hB hz1 hk1 hS => ?_)
      obtain ⟨hP1, hK1, hD1⟩ := hB
      rw [ht] at hP1
      have hK1 := va_K.moved hvm.symm hK1
      obtain ⟨hP, hD⟩ := va_join (wr := []) (w1 := [(h0, .inr (16, [.ref q_1, .ref q_12, .ref q_17, .ref q_22, .ref q_24, .ref q_26, .ref q_28, .ref q_29, .ref q_31, .ref q_33, .ref q_35, .int 0, .ref q_37, .ref q_39, .ref q_41, .ref q_43, .ref q_45, .ref q_47, .ref q_49, .ref q_51, .ref q_53, .ref q_55, .ref q_57, .int 0, .ref q_59, .ref q_61, .ref q_63, .int (-1), .int 0, .int 0, .int 0, .int 0, .ref q_65, .int 1, .ref q_68, .int 0, .int (-1), .int 0, .int 0, .ref q_70, .ref q_72]))]) hP hD [0] [] rfl rfl (by decide) (by decide) hk1 hFc hP1 hD1
      have hK := (hK.sub (tys' := []) [] rfl).app hK1
      generalize H1 = H at hP hS ⊢
      have hP : va_P (dC, dI) vwP [(h0, .inr (16, [.ref q_1, .ref q_12, .ref q_17, .ref q_22, .ref q_24, .ref q_26, .ref q_28, .ref q_29, .ref q_31, .ref q_33, .ref q_35, .int 0, .ref q_37, .ref q_39, .ref q_41, .ref q_43, .ref q_45, .ref q_47, .ref q_49, .ref q_51, .ref q_53, .ref q_55, .ref q_57, .int 0, .ref q_59, .ref q_61, .ref q_63, .int (-1), .int 0, .int 0, .int 0, .int 0, .ref q_65, .int 1, .ref q_68, .int 0, .int (-1), .int 0, .int 0, .ref q_70, .ref q_72]))] H := hP
      have hD : va_D A [(h0, .inr (16, [.ref q_1, .ref q_12, .ref q_17, .ref q_22, .ref q_24, .ref q_26, .ref q_28, .ref q_29, .ref q_31, .ref q_33, .ref q_35, .int 0, .ref q_37, .ref q_39, .ref q_41, .ref q_43, .ref q_45, .ref q_47, .ref q_49, .ref q_51, .ref q_53, .ref q_55, .ref q_57, .int 0, .ref q_59, .ref q_61, .ref q_63, .int (-1), .int 0, .int 0, .int 0, .int 0, .ref q_65, .int 1, .ref q_68, .int 0, .int (-1), .int 0, .int 0, .ref q_70, .ref q_72]))] := hD
      have hK : va_K (dC, dI) vwP [] s := hK
      refine W.widen (k := 0) (n := 0) (Nat.le_of_ble_eq_true rfl) (Nat.le_of_ble_eq_true rfl) ?_
      obtain rfl : r_2003 = 0 := hw
      have zb7 : 1 ≤ p0.toInt := z_nlt b7
      have zb14 : 100000 < p0.toInt := z_nle b14
      refine W.widen (k := 0) (n := 0) (Nat.le_of_ble_eq_true rfl) (Nat.le_of_ble_eq_true rfl) ?_
      exact W.iret (v := 0) hx hb hr (fun t ht hW => ⟨⟨0, (), rfl, (fun h9 => absurd ((show kf_run p0 = 1 by unfold kf_run; first | rfl | (split <;> first | rfl | (exfalso; omega))).symm.trans h9) (by decide)), 1, 0, (-1), 0, q_72, (show kf_run p0 = 1 by unfold kf_run; first | rfl | (split <;> first | rfl | (exfalso; omega))).symm, by rw [ht]; exact hP, va_K.moved hW.alike hK, hD⟩, hS.F ht⟩) hS.2.2 dX19_run__22
theorem dX19_told_0 : decode cX19_told 0 = .ok (.aload_n 0, 1) := by decide +kernel
theorem dX19_told_1 : decode cX19_told 1 = .ok (.iconst 0, 1) := by decide +kernel
theorem dX19_told_2 : decode cX19_told 2 = .ok (.putfield 560, 3) := by decide +kernel
theorem dX19_told_5 : decode cX19_told 5 = .ok (.iload_n 1, 1) := by decide +kernel
theorem dX19_told_6 : decode cX19_told 6 = .ok (.tableswitch 70 0 4 #[34, 50, 55, 60, 65], 34) := by decide +kernel
theorem dX19_told_40 : decode cX19_told 40 = .ok (.aload_n 0, 1) := by decide +kernel
theorem dX19_told_41 : decode cX19_told 41 = .ok (.getfield 548, 3) := by decide +kernel
theorem dX19_told_44 : decode cX19_told 44 = .ok (.ifCond .ne 10, 3) := by decide +kernel
theorem dX19_told_54 : decode cX19_told 54 = .ok (.iconst 0, 1) := by decide +kernel
theorem dX19_told_55 : decode cX19_told 55 = .ok (.ireturn, 1) := by decide +kernel
theorem dX19_told_56 : decode cX19_told 56 = .ok (.aload_n 0, 1) := by decide +kernel
theorem dX19_told_57 : decode cX19_told 57 = .ok (.getfield 466, 3) := by decide +kernel
theorem dX19_told_60 : decode cX19_told 60 = .ok (.ireturn, 1) := by decide +kernel
theorem dX19_told_61 : decode cX19_told 61 = .ok (.aload_n 0, 1) := by decide +kernel
theorem dX19_told_62 : decode cX19_told 62 = .ok (.getfield 469, 3) := by decide +kernel
theorem dX19_told_65 : decode cX19_told 65 = .ok (.ireturn, 1) := by decide +kernel
theorem dX19_told_66 : decode cX19_told 66 = .ok (.aload_n 0, 1) := by decide +kernel
theorem dX19_told_67 : decode cX19_told 67 = .ok (.getfield 472, 3) := by decide +kernel
theorem dX19_told_70 : decode cX19_told 70 = .ok (.ireturn, 1) := by decide +kernel
theorem dX19_told_71 : decode cX19_told 71 = .ok (.aload_n 0, 1) := by decide +kernel
theorem dX19_told_72 : decode cX19_told 72 = .ok (.getfield 548, 3) := by decide +kernel
theorem dX19_told_75 : decode cX19_told 75 = .ok (.ireturn, 1) := by decide +kernel
theorem dX19_told_76 : decode cX19_told 76 = .ok (.aload_n 0, 1) := by decide +kernel
theorem dX19_told_77 : decode cX19_told 77 = .ok (.iconst 1, 1) := by decide +kernel
theorem dX19_told_78 : decode cX19_told 78 = .ok (.invokevirtual 565, 3) := by decide +kernel
theorem dX19_told_81 : decode cX19_told 81 = .ok (.ireturn, 1) := by decide +kernel
def o_X19_told : List Cond := [.fieldLink RX19 560 "SsaForgeModel" "thrown" "I", .fieldLink RX19 548 "SsaForgeModel" "ended" "I", .fieldLink RX19 466 "SsaForgeModel" "shown" "I", .fieldLink RX19 469 "SsaForgeModel" "steps" "I", .fieldLink RX19 472 "SsaForgeModel" "read" "I", .methodLink RX19 565 yX19_no, .instanceMethod yX19_no, .selects RX19 yX19_no yX19_no, .initialized RX19]
def v_X19_told : List Cond := .code yX19_told cX19_told 2 (some .int) :: (o_X19_told ++ (wsX190 ++ (v_X19_no ++ [])))
theorem mow_X19_told : ∀ w ∈ o_X19_told, w ∈ v_X19_told := fun _ h => List.mem_cons_of_mem _ (List.mem_append_left _ h)
theorem mem_X19_told_0 : ∀ w ∈ wsX190, w ∈ v_X19_told := fun _ h => List.mem_cons_of_mem _ (List.mem_append_right _ (List.mem_append_left _ h))
theorem mem_X19_told_1 : ∀ w ∈ v_X19_no, w ∈ v_X19_told := fun _ h => List.mem_cons_of_mem _ (List.mem_append_right _ (List.mem_append_right _ (List.mem_append_left _ h)))
set_option maxRecDepth 20000 in
theorem gw_X19_told : v_X19_told.all goodWord = true := by decide +kernel
set_option maxRecDepth 20000 in
theorem g_X19_told_X19_no : GoodIn v_X19_told (wsV RX19 565 RX19 yX19_no v_X19_no) := goodIn_app (goodIn_sub (fun w h => mow_X19_told w (by revert w h; decide +kernel)) (by decide +kernel)) (goodIn_sub mem_X19_told_1 gw_X19_no)
set_option maxHeartbeats 4000000 in
set_option maxRecDepth 100000 in
theorem c_X19_told (l : Launch) (dC : Nat → ClassId) (dI : Nat → Nat → Nat) (h0 : Nat) (q_1 : Nat) (q_12 : Nat) (q_17 : Nat) (q_22 : Nat) (q_24 : Nat) (q_26 : Nat) (q_28 : Nat) (q_29 : Nat) (q_31 : Nat) (q_33 : Nat) (q_35 : Nat) (q_37 : Nat) (q_39 : Nat) (q_41 : Nat) (q_43 : Nat) (q_45 : Nat) (q_47 : Nat) (q_49 : Nat) (q_51 : Nat) (q_53 : Nat) (q_55 : Nat) (q_57 : Nat) (q_59 : Nat) (q_61 : Nat) (q_63 : Nat) (q_65 : Nat) (q_68 : Nat) (q_70 : Nat) (q_72 : Nat) (p0 : Int32) (sz : Nat) : Met l yX19_told v_X19_told ({ frames := 1, cells := 0, slots := 0, locals := 21 }) (va_Pc [.ref h0, .int p0] (fun U => U.heap.size = sz ∧ va_P (dC, dI) vwP [(h0, .inr (16, [.ref q_1, .ref q_12, .ref q_17, .ref q_22, .ref q_24, .ref q_26, .ref q_28, .ref q_29, .ref q_31, .ref q_33, .ref q_35, .int 0, .ref q_37, .ref q_39, .ref q_41, .ref q_43, .ref q_45, .ref q_47, .ref q_49, .ref q_51, .ref q_53, .ref q_55, .ref q_57, .int 0, .ref q_59, .ref q_61, .ref q_63, .int (-1), .int 0, .int 0, .int 0, .int 0, .ref q_65, .int 0, .ref q_68, .int 0, .int (-1), .int 0, .int 0, .ref q_70, .ref q_72]))] U.heap ∧ va_K (dC, dI) vwP [] U ∧ va_D (fun _ => True) [(h0, .inr (16, [.ref q_1, .ref q_12, .ref q_17, .ref q_22, .ref q_24, .ref q_26, .ref q_28, .ref q_29, .ref q_31, .ref q_33, .ref q_35, .int 0, .ref q_37, .ref q_39, .ref q_41, .ref q_43, .ref q_45, .ref q_47, .ref q_49, .ref q_51, .ref q_53, .ref q_55, .ref q_57, .int 0, .ref q_59, .ref q_61, .ref q_63, .int (-1), .int 0, .int 0, .int 0, .int 0, .ref q_65, .int 0, .ref q_68, .int 0, .int (-1), .int 0, .int 0, .ref q_70, .ref q_72]))])) (va_Qi (fun (r : Int32) (_ : Unit) => kf_told p0 = 0 → r = vf_told p0) (fun (_ : Unit) (t : State) => ∃ (i_33 : Int32) (i_35 : Int32) (i_36 : Int32) (i_37 : Int32) (q_940 : Nat), (i_33 = kf_told p0) ∧ va_P (dC, dI) vwP [(h0, .inr (16, [.ref q_1, .ref q_12, .ref q_17, .ref q_22, .ref q_24, .ref q_26, .ref q_28, .ref q_29, .ref q_31, .ref q_33, .ref q_35, .int 0, .ref q_37, .ref q_39, .ref q_41, .ref q_43, .ref q_45, .ref q_47, .ref q_49, .ref q_51, .ref q_53, .ref q_55, .ref q_57, .int 0, .ref q_59, .ref q_61, .ref q_63, .int (-1), .int 0, .int 0, .int 0, .int 0, .ref q_65, .int i_33, .ref q_68, .int i_35, .int i_36, .int i_37, .int 0, .ref q_70, .ref q_940]))] t.heap ∧ va_K (dC, dI) vwP [] t ∧ va_D (va_A [(h0, .inr (16, [.ref q_1, .ref q_12, .ref q_17, .ref q_22, .ref q_24, .ref q_26, .ref q_28, .ref q_29, .ref q_31, .ref q_33, .ref q_35, .int 0, .ref q_37, .ref q_39, .ref q_41, .ref q_43, .ref q_45, .ref q_47, .ref q_49, .ref q_51, .ref q_53, .ref q_55, .ref q_57, .int 0, .ref q_59, .ref q_61, .ref q_63, .int (-1), .int 0, .int 0, .int 0, .int 0, .ref q_65, .int 0, .ref q_68, .int 0, .int (-1), .int 0, .int 0, .ref q_70, .ref q_72]))] sz) [(h0, .inr (16, [.ref q_1, .ref q_12, .ref q_17, .ref q_22, .ref q_24, .ref q_26, .ref q_28, .ref q_29, .ref q_31, .ref q_33, .ref q_35, .int 0, .ref q_37, .ref q_39, .ref q_41, .ref q_43, .ref q_45, .ref q_47, .ref q_49, .ref q_51, .ref q_53, .ref q_55, .ref q_57, .int 0, .ref q_59, .ref q_61, .ref q_63, .int (-1), .int 0, .int 0, .int 0, .int 0, .ref q_65, .int i_33, .ref q_68, .int i_35, .int i_36, .int i_37, .int 0, .ref q_70, .ref q_940]))]) (va_A [(h0, .inr (16, [.ref q_1, .ref q_12, .ref q_17, .ref q_22, .ref q_24, .ref q_26, .ref q_28, .ref q_29, .ref q_31, .ref q_33, .ref q_35, .int 0, .ref q_37, .ref q_39, .ref q_41, .ref q_43, .ref q_45, .ref q_47, .ref q_49, .ref q_51, .ref q_53, .ref q_55, .ref q_57, .int 0, .ref q_59, .ref q_61, .ref q_63, .int (-1), .int 0, .int 0, .int 0, .int 0, .ref q_65, .int 0, .ref q_68, .int 0, .int (-1), .int 0, .int 0, .ref q_70, .ref q_72]))] sz)) 0 0 (va_A [(h0, .inr (16, [.ref q_1, .ref q_12, .ref q_17, .ref q_22, .ref q_24, .ref q_26, .ref q_28, .ref q_29, .ref q_31, .ref q_33, .ref q_35, .int 0, .ref q_37, .ref q_39, .ref q_41, .ref q_43, .ref q_45, .ref q_47, .ref q_49, .ref q_51, .ref q_53, .ref q_55, .ref q_57, .int 0, .ref q_59, .ref q_61, .ref q_63, .int (-1), .int 0, .int 0, .int 0, .int 0, .ref q_65, .int 0, .ref q_68, .int 0, .int (-1), .int 0, .int 0, .ref q_70, .ref q_72]))] sz) := by
  refine Met.ofW (cc := cX19_told) (maxL := 2) (ret := (some .int)) (by decide) rfl ?_
  intro p e s m args below meth c s₁ B hml hv
  obtain ⟨rfl, hsz, hP, hK, hD0⟩ := hv
  have hx := B.exec
  have hb := B.bytes
  have hr := B.returns
  have hts := atoms_spec (ws := v_X19_told) B.pre
  have hown : s.vm.findClass RX19 = some m.cls := findClass_of_methodNamed B.named
  have hlocks := B.notSynchronized
  have ow : ∀ {k : Nat} {w : Cond}, o_X19_told[k]? = some w → w.before ([.ref h0, .int p0] : List Value).toArray s = true := fun h => hts _ (mow_X19_told _ (List.mem_of_getElem? h))
  subst hsz
  have hD := hD0.self (sz := s.heap.size)
  generalize hAe : va_A [(h0, .inr (16, [.ref q_1, .ref q_12, .ref q_17, .ref q_22, .ref q_24, .ref q_26, .ref q_28, .ref q_29, .ref q_31, .ref q_33, .ref q_35, .int 0, .ref q_37, .ref q_39, .ref q_41, .ref q_43, .ref q_45, .ref q_47, .ref q_49, .ref q_51, .ref q_53, .ref q_55, .ref q_57, .int 0, .ref q_59, .ref q_61, .ref q_63, .int (-1), .int 0, .int 0, .int 0, .int 0, .ref q_65, .int 0, .ref q_68, .int 0, .int (-1), .int 0, .int 0, .ref q_70, .ref q_72]))] s.heap.size = A at hD ⊢
  have hA : ∀ q : Nat, s.heap.size ≤ q → A q := fun q h => by rw [← hAe]; exact Or.inr h
  have hS : va_S A s.heap s.heap [] := va_S.rf
  have hP : va_P (dC, dI) vwP [(h0, .inr (16, [.ref q_1, .ref q_12, .ref q_17, .ref q_22, .ref q_24, .ref q_26, .ref q_28, .ref q_29, .ref q_31, .ref q_33, .ref q_35, .int 0, .ref q_37, .ref q_39, .ref q_41, .ref q_43, .ref q_45, .ref q_47, .ref q_49, .ref q_51, .ref q_53, .ref q_55, .ref q_57, .int 0, .ref q_59, .ref q_61, .ref q_63, .int (-1), .int 0, .int 0, .int 0, .int 0, .ref q_65, .int 0, .ref q_68, .int 0, .int (-1), .int 0, .int 0, .ref q_70, .ref q_72]))] s.heap := hP
  have hl := lv_entry ([.ref h0, .int p0]) (n := 2) (Nat.le_of_ble_eq_true rfl)
  rw [lg_entry_eq]
  generalize (lg_sl ([.ref h0, .int p0]) ++ List.replicate (2 - (lg_sl ([.ref h0, .int p0])).length) Slot.unset).toArray = ls at hl ⊢
  have hl : lv_has ls 2 [(0, .ref h0), (1, .int p0)] := hl
  obtain ⟨H, hH⟩ : ∃ H, H = s.heap := ⟨_, rfl⟩
  rw [← hH] at hP
  have hS : va_S A s.heap H [] := by rw [hH]; exact hS
  rw [← hH]
  refine lv_aload_n hx hb dX19_told_0 rfl (lv_at hl 0 rfl) ?_
  refine lv_iconst (v := 0) hx hb dX19_told_1 (by decide) ?_
  refine va_put (D := (dC, dI)) (ci := 16) (v := .int 0) (ty := .int) (C := RX19) (T := TX19) (N := 41) hx hb hts mem_X19_told_0 tyX19 tyX19_ok nmX19 hown hK hP hD hS 0 rfl rfl 33 (by decide) (ow (k := 0) rfl) (fun _ h9 => h9) rfl (by decide +kernel) rfl rfl (Nat.le_of_ble_eq_true rfl) dX19_told_2 (fun H locs hP hD hS => ?_)
  have hP : va_P (dC, dI) vwP [(h0, .inr (16, [.ref q_1, .ref q_12, .ref q_17, .ref q_22, .ref q_24, .ref q_26, .ref q_28, .ref q_29, .ref q_31, .ref q_33, .ref q_35, .int 0, .ref q_37, .ref q_39, .ref q_41, .ref q_43, .ref q_45, .ref q_47, .ref q_49, .ref q_51, .ref q_53, .ref q_55, .ref q_57, .int 0, .ref q_59, .ref q_61, .ref q_63, .int (-1), .int 0, .int 0, .int 0, .int 0, .ref q_65, .int 0, .ref q_68, .int 0, .int (-1), .int 0, .int 0, .ref q_70, .ref q_72]))] H := hP
  have hD : va_D A [(h0, .inr (16, [.ref q_1, .ref q_12, .ref q_17, .ref q_22, .ref q_24, .ref q_26, .ref q_28, .ref q_29, .ref q_31, .ref q_33, .ref q_35, .int 0, .ref q_37, .ref q_39, .ref q_41, .ref q_43, .ref q_45, .ref q_47, .ref q_49, .ref q_51, .ref q_53, .ref q_55, .ref q_57, .int 0, .ref q_59, .ref q_61, .ref q_63, .int (-1), .int 0, .int 0, .int 0, .int 0, .ref q_65, .int 0, .ref q_68, .int 0, .int (-1), .int 0, .int 0, .ref q_70, .ref q_72]))] := hD
  refine lv_iload_n hx hb dX19_told_5 rfl (lv_at hl 1 rfl) ?_
  by_cases s6_0 : p0 = 0
  · refine lv_tableIn (off := 34) (tgt := 40) hx hb dX19_told_6 (by rw [s6_0]; decide) (by rw [s6_0]; decide) (by rw [s6_0]; decide) (by decide) ?_
    refine lv_aload_n hx hb dX19_told_40 rfl (lv_at hl 0 rfl) ?_
    refine va_get (D := (dC, dI)) (ci := 16) (v := .int (-1)) (C := RX19) (T := TX19) (N := 41) hx hb hts mem_X19_told_0 hown hK hP 0 rfl rfl 27 (by decide) (ow (k := 1) rfl) (fun _ h9 => h9) rfl dX19_told_41 ?_
    refine lv_if_ne (tgt := 54) hx hb dX19_told_44 (by decide) (fun _ => ?_) (fun h9 => absurd h9 (by decide))
    refine lv_iconst (v := 0) hx hb dX19_told_54 (by decide) ?_
    have zs6_0 : p0.toInt = 0 := z_eq s6_0
    refine W.widen (k := 0) (n := 0) (Nat.le_of_ble_eq_true rfl) (Nat.le_of_ble_eq_true rfl) ?_
    exact W.iret (v := 0) hx hb hr (fun t ht hW => ⟨⟨0, (), rfl, (fun _ => (show 0 = vf_told p0 by unfold vf_told; first | rfl | (split <;> first | rfl | (exfalso; omega)))), 0, 0, (-1), 0, q_72, (show kf_told p0 = 0 by unfold kf_told; first | rfl | (split <;> first | rfl | (exfalso; omega))).symm, by rw [ht]; exact hP, va_K.moved hW.alike hK, hD⟩, hS.F ht⟩) hS.2.2 dX19_told_55
  by_cases s6_1 : p0 = 1
  · refine lv_tableIn (off := 50) (tgt := 56) hx hb dX19_told_6 (by rw [s6_1]; decide) (by rw [s6_1]; decide) (by rw [s6_1]; decide) (by decide) ?_
    refine lv_aload_n hx hb dX19_told_56 rfl (lv_at hl 0 rfl) ?_
    refine va_get (D := (dC, dI)) (ci := 16) (v := .int 0) (C := RX19) (T := TX19) (N := 41) hx hb hts mem_X19_told_0 hown hK hP 0 rfl rfl 29 (by decide) (ow (k := 2) rfl) (fun _ h9 => h9) rfl dX19_told_57 ?_
    have zs6_0 : ¬ p0.toInt = 0 := z_ne s6_0
    have zs6_1 : p0.toInt = 1 := z_eq s6_1
    refine W.widen (k := 0) (n := 0) (Nat.le_of_ble_eq_true rfl) (Nat.le_of_ble_eq_true rfl) ?_
    exact W.iret (v := 0) hx hb hr (fun t ht hW => ⟨⟨0, (), rfl, (fun _ => (show 0 = vf_told p0 by unfold vf_told; first | rfl | (split <;> first | rfl | (exfalso; omega)))), 0, 0, (-1), 0, q_72, (show kf_told p0 = 0 by unfold kf_told; first | rfl | (split <;> first | rfl | (exfalso; omega))).symm, by rw [ht]; exact hP, va_K.moved hW.alike hK, hD⟩, hS.F ht⟩) hS.2.2 dX19_told_60
  by_cases s6_2 : p0 = 2
  · refine lv_tableIn (off := 55) (tgt := 61) hx hb dX19_told_6 (by rw [s6_2]; decide) (by rw [s6_2]; decide) (by rw [s6_2]; decide) (by decide) ?_
    refine lv_aload_n hx hb dX19_told_61 rfl (lv_at hl 0 rfl) ?_
    refine va_get (D := (dC, dI)) (ci := 16) (v := .int 0) (C := RX19) (T := TX19) (N := 41) hx hb hts mem_X19_told_0 hown hK hP 0 rfl rfl 30 (by decide) (ow (k := 3) rfl) (fun _ h9 => h9) rfl dX19_told_62 ?_
    have zs6_0 : ¬ p0.toInt = 0 := z_ne s6_0
    have zs6_1 : ¬ p0.toInt = 1 := z_ne s6_1
    have zs6_2 : p0.toInt = 2 := z_eq s6_2
    refine W.widen (k := 0) (n := 0) (Nat.le_of_ble_eq_true rfl) (Nat.le_of_ble_eq_true rfl) ?_
    exact W.iret (v := 0) hx hb hr (fun t ht hW => ⟨⟨0, (), rfl, (fun _ => (show 0 = vf_told p0 by unfold vf_told; first | rfl | (split <;> first | rfl | (exfalso; omega)))), 0, 0, (-1), 0, q_72, (show kf_told p0 = 0 by unfold kf_told; first | rfl | (split <;> first | rfl | (exfalso; omega))).symm, by rw [ht]; exact hP, va_K.moved hW.alike hK, hD⟩, hS.F ht⟩) hS.2.2 dX19_told_65
  by_cases s6_3 : p0 = 3
  · refine lv_tableIn (off := 60) (tgt := 66) hx hb dX19_told_6 (by rw [s6_3]; decide) (by rw [s6_3]; decide) (by rw [s6_3]; decide) (by decide) ?_
    refine lv_aload_n hx hb dX19_told_66 rfl (lv_at hl 0 rfl) ?_
    refine va_get (D := (dC, dI)) (ci := 16) (v := .int 0) (C := RX19) (T := TX19) (N := 41) hx hb hts mem_X19_told_0 hown hK hP 0 rfl rfl 31 (by decide) (ow (k := 4) rfl) (fun _ h9 => h9) rfl dX19_told_67 ?_
    have zs6_0 : ¬ p0.toInt = 0 := z_ne s6_0
    have zs6_1 : ¬ p0.toInt = 1 := z_ne s6_1
    have zs6_2 : ¬ p0.toInt = 2 := z_ne s6_2
    have zs6_3 : p0.toInt = 3 := z_eq s6_3
    refine W.widen (k := 0) (n := 0) (Nat.le_of_ble_eq_true rfl) (Nat.le_of_ble_eq_true rfl) ?_
    exact W.iret (v := 0) hx hb hr (fun t ht hW => ⟨⟨0, (), rfl, (fun _ => (show 0 = vf_told p0 by unfold vf_told; first | rfl | (split <;> first | rfl | (exfalso; omega)))), 0, 0, (-1), 0, q_72, (show kf_told p0 = 0 by unfold kf_told; first | rfl | (split <;> first | rfl | (exfalso; omega))).symm, by rw [ht]; exact hP, va_K.moved hW.alike hK, hD⟩, hS.F ht⟩) hS.2.2 dX19_told_70
  by_cases s6_4 : p0 = 4
  · refine lv_tableIn (off := 65) (tgt := 71) hx hb dX19_told_6 (by rw [s6_4]; decide) (by rw [s6_4]; decide) (by rw [s6_4]; decide) (by decide) ?_
    refine lv_aload_n hx hb dX19_told_71 rfl (lv_at hl 0 rfl) ?_
    refine va_get (D := (dC, dI)) (ci := 16) (v := .int (-1)) (C := RX19) (T := TX19) (N := 41) hx hb hts mem_X19_told_0 hown hK hP 0 rfl rfl 27 (by decide) (ow (k := 1) rfl) (fun _ h9 => h9) rfl dX19_told_72 ?_
    have zs6_0 : ¬ p0.toInt = 0 := z_ne s6_0
    have zs6_1 : ¬ p0.toInt = 1 := z_ne s6_1
    have zs6_2 : ¬ p0.toInt = 2 := z_ne s6_2
    have zs6_3 : ¬ p0.toInt = 3 := z_ne s6_3
    have zs6_4 : p0.toInt = 4 := z_eq s6_4
    refine W.widen (k := 0) (n := 0) (Nat.le_of_ble_eq_true rfl) (Nat.le_of_ble_eq_true rfl) ?_
    exact W.iret (v := (-1)) hx hb hr (fun t ht hW => ⟨⟨(-1), (), rfl, (fun _ => (show (-1) = vf_told p0 by unfold vf_told; first | rfl | (split <;> first | rfl | (exfalso; omega)))), 0, 0, (-1), 0, q_72, (show kf_told p0 = 0 by unfold kf_told; first | rfl | (split <;> first | rfl | (exfalso; omega))).symm, by rw [ht]; exact hP, va_K.moved hW.alike hK, hD⟩, hS.F ht⟩) hS.2.2 dX19_told_75
  have zs6_0 : ¬ p0.toInt = 0 := z_ne s6_0
  have zs6_1 : ¬ p0.toInt = 1 := z_ne s6_1
  have zs6_2 : ¬ p0.toInt = 2 := z_ne s6_2
  have zs6_3 : ¬ p0.toInt = 3 := z_ne s6_3
  have zs6_4 : ¬ p0.toInt = 4 := z_ne s6_4
  refine lv_tableOut (tgt := 76) hx hb dX19_told_6 (show p0.toInt < 0 ∨ 4 < p0.toInt by omega) (by decide) ?_
  refine lv_aload_n hx hb dX19_told_76 rfl (lv_at hl 0 rfl) ?_
  refine lv_iconst (v := 1) hx hb dX19_told_77 (by decide) ?_
  have hPc := hP.sub (ws' := [(h0, .inr (16, [.ref q_1, .ref q_12, .ref q_17, .ref q_22, .ref q_24, .ref q_26, .ref q_28, .ref q_29, .ref q_31, .ref q_33, .ref q_35, .int 0, .ref q_37, .ref q_39, .ref q_41, .ref q_43, .ref q_45, .ref q_47, .ref q_49, .ref q_51, .ref q_53, .ref q_55, .ref q_57, .int 0, .ref q_59, .ref q_61, .ref q_63, .int (-1), .int 0, .int 0, .int 0, .int 0, .ref q_65, .int 0, .ref q_68, .int 0, .int (-1), .int 0, .int 0, .ref q_70, .ref q_72]))]) [0] rfl
  have hDc := hD.sub (ws' := [(h0, .inr (16, [.ref q_1, .ref q_12, .ref q_17, .ref q_22, .ref q_24, .ref q_26, .ref q_28, .ref q_29, .ref q_31, .ref q_33, .ref q_35, .int 0, .ref q_37, .ref q_39, .ref q_41, .ref q_43, .ref q_45, .ref q_47, .ref q_49, .ref q_51, .ref q_53, .ref q_55, .ref q_57, .int 0, .ref q_59, .ref q_61, .ref q_63, .int (-1), .int 0, .int 0, .int 0, .int 0, .ref q_65, .int 0, .ref q_68, .int 0, .int (-1), .int 0, .int 0, .ref q_70, .ref q_72]))]) [0] (by decide) rfl
  have hKc := hK.sub (tys' := []) [] rfl
  have hFc := va_free (wc := [(h0, .inr (16, [.ref q_1, .ref q_12, .ref q_17, .ref q_22, .ref q_24, .ref q_26, .ref q_28, .ref q_29, .ref q_31, .ref q_33, .ref q_35, .int 0, .ref q_37, .ref q_39, .ref q_41, .ref q_43, .ref q_45, .ref q_47, .ref q_49, .ref q_51, .ref q_53, .ref q_55, .ref q_57, .int 0, .ref q_59, .ref q_61, .ref q_63, .int (-1), .int 0, .int 0, .int 0, .int 0, .ref q_65, .int 0, .ref q_68, .int 0, .int (-1), .int 0, .int 0, .ref q_70, .ref q_72]))]) hD hS hA [0] rfl
  refine va_calli (va_runV (As := [.int 1]) (rest := []) ⟨hx, hb, hml, hown, hts⟩ (c_X19_no l dC dI h0 q_1 q_12 q_17 q_22 q_24 q_26 q_28 q_29 q_31 q_33 q_35 q_37 q_39 q_41 q_43 q_45 q_47 q_49 q_51 q_53 q_55 q_57 q_59 q_61 q_63 q_65 q_68 q_70 q_72 1 H.size) (cwV 1 hts g_X19_told_X19_no rfl rfl rfl (by decide +kernel) ⟨(Nat.le_of_ble_eq_true rfl), (Nat.le_of_ble_eq_true rfl)⟩) ⟨fun a U g mk q => by obtain ⟨q0, q1, qP, qK, qD⟩ := q; exact ⟨q0, q1, qP, va_K.moved (u := U) (U := U.calling g mk a) (Vm.Alike.refl U.vm) qK, qD⟩, va_recv hKc hPc (ci := 16) (q0 := 0) rfl rfl, fun U hU hW => ⟨rfl, by rw [hU], by rw [hU]; exact hPc, va_K.moved hW.alike hKc, hDc.weaken (fun _ _ _ _ => trivial)⟩⟩ rfl rfl hl.1 rfl (lv_room (Nat.le_of_ble_eq_true rfl)) dX19_told_78 ⟨(Nat.le_of_ble_eq_true rfl), (Nat.le_of_ble_eq_true rfl)⟩) hS (fun q _ h => hFc q h) hFc (fun r_2001 u t H1 locs ht hvm hw hB hz1 hk1 hS => ?_)
  obtain ⟨hP1, hK1, hD1⟩ := hB
  rw [ht] at hP1
  have hK1 := va_K.moved hvm.symm hK1
  obtain ⟨hP, hD⟩ := va_join (wr := []) (w1 := [(h0, .inr (16, [.ref q_1, .ref q_12, .ref q_17, .ref q_22, .ref q_24, .ref q_26, .ref q_28, .ref q_29, .ref q_31, .ref q_33, .ref q_35, .int 0, .ref q_37, .ref q_39, .ref q_41, .ref q_43, .ref q_45, .ref q_47, .ref q_49, .ref q_51, .ref q_53, .ref q_55, .ref q_57, .int 0, .ref q_59, .ref q_61, .ref q_63, .int (-1), .int 0, .int 0, .int 0, .int 0, .ref q_65, .int 1, .ref q_68, .int 0, .int (-1), .int 0, .int 0, .ref q_70, .ref q_72]))]) hP hD [0] [] rfl rfl (by decide) (by decide) hk1 hFc hP1 hD1
  have hK := (hK.sub (tys' := []) [] rfl).app hK1
  generalize H1 = H at hP hS ⊢
  have hP : va_P (dC, dI) vwP [(h0, .inr (16, [.ref q_1, .ref q_12, .ref q_17, .ref q_22, .ref q_24, .ref q_26, .ref q_28, .ref q_29, .ref q_31, .ref q_33, .ref q_35, .int 0, .ref q_37, .ref q_39, .ref q_41, .ref q_43, .ref q_45, .ref q_47, .ref q_49, .ref q_51, .ref q_53, .ref q_55, .ref q_57, .int 0, .ref q_59, .ref q_61, .ref q_63, .int (-1), .int 0, .int 0, .int 0, .int 0, .ref q_65, .int 1, .ref q_68, .int 0, .int (-1), .int 0, .int 0, .ref q_70, .ref q_72]))] H := hP
  have hD : va_D A [(h0, .inr (16, [.ref q_1, .ref q_12, .ref q_17, .ref q_22, .ref q_24, .ref q_26, .ref q_28, .ref q_29, .ref q_31, .ref q_33, .ref q_35, .int 0, .ref q_37, .ref q_39, .ref q_41, .ref q_43, .ref q_45, .ref q_47, .ref q_49, .ref q_51, .ref q_53, .ref q_55, .ref q_57, .int 0, .ref q_59, .ref q_61, .ref q_63, .int (-1), .int 0, .int 0, .int 0, .int 0, .ref q_65, .int 1, .ref q_68, .int 0, .int (-1), .int 0, .int 0, .ref q_70, .ref q_72]))] := hD
  have hK : va_K (dC, dI) vwP [] s := hK
  refine W.widen (k := 0) (n := 0) (Nat.le_of_ble_eq_true rfl) (Nat.le_of_ble_eq_true rfl) ?_
  obtain rfl : r_2001 = 0 := hw
  have zs6_0 : ¬ p0.toInt = 0 := z_ne s6_0
  have zs6_1 : ¬ p0.toInt = 1 := z_ne s6_1
  have zs6_2 : ¬ p0.toInt = 2 := z_ne s6_2
  have zs6_3 : ¬ p0.toInt = 3 := z_ne s6_3
  have zs6_4 : ¬ p0.toInt = 4 := z_ne s6_4
  refine W.widen (k := 0) (n := 0) (Nat.le_of_ble_eq_true rfl) (Nat.le_of_ble_eq_true rfl) ?_
  exact W.iret (v := 0) hx hb hr (fun t ht hW => ⟨⟨0, (), rfl, (fun h9 => absurd ((show kf_told p0 = 1 by unfold kf_told; first | rfl | (split <;> first | rfl | (exfalso; omega))).symm.trans h9) (by decide)), 1, 0, (-1), 0, q_72, (show kf_told p0 = 1 by unfold kf_told; first | rfl | (split <;> first | rfl | (exfalso; omega))).symm, by rw [ht]; exact hP, va_K.moved hW.alike hK, hD⟩, hS.F ht⟩) hS.2.2 dX19_told_81
theorem dX19_shown_0 : decode cX19_shown 0 = .ok (.aload_n 0, 1) := by decide +kernel
theorem dX19_shown_1 : decode cX19_shown 1 = .ok (.iconst 0, 1) := by decide +kernel
theorem dX19_shown_2 : decode cX19_shown 2 = .ok (.putfield 560, 3) := by decide +kernel
theorem dX19_shown_5 : decode cX19_shown 5 = .ok (.iload_n 1, 1) := by decide +kernel
theorem dX19_shown_6 : decode cX19_shown 6 = .ok (.ifCond .lt 20, 3) := by decide +kernel
theorem dX19_shown_26 : decode cX19_shown 26 = .ok (.aload_n 0, 1) := by decide +kernel
theorem dX19_shown_27 : decode cX19_shown 27 = .ok (.iconst 1, 1) := by decide +kernel
theorem dX19_shown_28 : decode cX19_shown 28 = .ok (.invokevirtual 565, 3) := by decide +kernel
theorem dX19_shown_31 : decode cX19_shown 31 = .ok (.ireturn, 1) := by decide +kernel
theorem dX19_shown_9 : decode cX19_shown 9 = .ok (.iload_n 1, 1) := by decide +kernel
theorem dX19_shown_10 : decode cX19_shown 10 = .ok (.aload_n 0, 1) := by decide +kernel
theorem dX19_shown_11 : decode cX19_shown 11 = .ok (.getfield 466, 3) := by decide +kernel
theorem dX19_shown_14 : decode cX19_shown 14 = .ok (.if_icmp .ge 12, 3) := by decide +kernel
def o_X19_shown : List Cond := [.fieldLink RX19 560 "SsaForgeModel" "thrown" "I", .methodLink RX19 565 yX19_no, .instanceMethod yX19_no, .selects RX19 yX19_no yX19_no, .initialized RX19, .fieldLink RX19 466 "SsaForgeModel" "shown" "I"]
def v_X19_shown : List Cond := .code yX19_shown cX19_shown 2 (some .int) :: (o_X19_shown ++ (wsX190 ++ (v_X19_no ++ [])))
theorem mow_X19_shown : ∀ w ∈ o_X19_shown, w ∈ v_X19_shown := fun _ h => List.mem_cons_of_mem _ (List.mem_append_left _ h)
theorem mem_X19_shown_0 : ∀ w ∈ wsX190, w ∈ v_X19_shown := fun _ h => List.mem_cons_of_mem _ (List.mem_append_right _ (List.mem_append_left _ h))
theorem mem_X19_shown_1 : ∀ w ∈ v_X19_no, w ∈ v_X19_shown := fun _ h => List.mem_cons_of_mem _ (List.mem_append_right _ (List.mem_append_right _ (List.mem_append_left _ h)))
set_option maxRecDepth 20000 in
theorem gw_X19_shown : v_X19_shown.all goodWord = true := by decide +kernel
set_option maxRecDepth 20000 in
theorem g_X19_shown_X19_no : GoodIn v_X19_shown (wsV RX19 565 RX19 yX19_no v_X19_no) := goodIn_app (goodIn_sub (fun w h => mow_X19_shown w (by revert w h; decide +kernel)) (by decide +kernel)) (goodIn_sub mem_X19_shown_1 gw_X19_no)
set_option maxHeartbeats 4000000 in
set_option maxRecDepth 100000 in
theorem c_X19_shown (l : Launch) (dC : Nat → ClassId) (dI : Nat → Nat → Nat) (h0 : Nat) (q_1 : Nat) (q_12 : Nat) (q_17 : Nat) (q_22 : Nat) (q_24 : Nat) (q_26 : Nat) (q_28 : Nat) (q_29 : Nat) (q_31 : Nat) (q_33 : Nat) (q_35 : Nat) (q_37 : Nat) (q_39 : Nat) (q_41 : Nat) (q_43 : Nat) (q_45 : Nat) (q_47 : Nat) (q_49 : Nat) (q_51 : Nat) (q_53 : Nat) (q_55 : Nat) (q_57 : Nat) (q_59 : Nat) (q_61 : Nat) (q_63 : Nat) (q_65 : Nat) (q_68 : Nat) (q_70 : Nat) (q_72 : Nat) (p0 : Int32) (sz : Nat) : Met l yX19_shown v_X19_shown ({ frames := 1, cells := 0, slots := 0, locals := 21 }) (va_Pc [.ref h0, .int p0] (fun U => U.heap.size = sz ∧ va_P (dC, dI) vwP [(h0, .inr (16, [.ref q_1, .ref q_12, .ref q_17, .ref q_22, .ref q_24, .ref q_26, .ref q_28, .ref q_29, .ref q_31, .ref q_33, .ref q_35, .int 0, .ref q_37, .ref q_39, .ref q_41, .ref q_43, .ref q_45, .ref q_47, .ref q_49, .ref q_51, .ref q_53, .ref q_55, .ref q_57, .int 0, .ref q_59, .ref q_61, .ref q_63, .int (-1), .int 0, .int 0, .int 0, .int 0, .ref q_65, .int 0, .ref q_68, .int 0, .int (-1), .int 0, .int 0, .ref q_70, .ref q_72]))] U.heap ∧ va_K (dC, dI) vwP [] U ∧ va_D (fun _ => True) [(h0, .inr (16, [.ref q_1, .ref q_12, .ref q_17, .ref q_22, .ref q_24, .ref q_26, .ref q_28, .ref q_29, .ref q_31, .ref q_33, .ref q_35, .int 0, .ref q_37, .ref q_39, .ref q_41, .ref q_43, .ref q_45, .ref q_47, .ref q_49, .ref q_51, .ref q_53, .ref q_55, .ref q_57, .int 0, .ref q_59, .ref q_61, .ref q_63, .int (-1), .int 0, .int 0, .int 0, .int 0, .ref q_65, .int 0, .ref q_68, .int 0, .int (-1), .int 0, .int 0, .ref q_70, .ref q_72]))])) (va_Qi (fun (r : Int32) (_ : Unit) => kf_shown = 0 → r = vf_shown) (fun (_ : Unit) (t : State) => ∃ (i_33 : Int32) (i_35 : Int32) (i_36 : Int32) (i_37 : Int32) (q_940 : Nat), (i_33 = kf_shown) ∧ va_P (dC, dI) vwP [(h0, .inr (16, [.ref q_1, .ref q_12, .ref q_17, .ref q_22, .ref q_24, .ref q_26, .ref q_28, .ref q_29, .ref q_31, .ref q_33, .ref q_35, .int 0, .ref q_37, .ref q_39, .ref q_41, .ref q_43, .ref q_45, .ref q_47, .ref q_49, .ref q_51, .ref q_53, .ref q_55, .ref q_57, .int 0, .ref q_59, .ref q_61, .ref q_63, .int (-1), .int 0, .int 0, .int 0, .int 0, .ref q_65, .int i_33, .ref q_68, .int i_35, .int i_36, .int i_37, .int 0, .ref q_70, .ref q_940]))] t.heap ∧ va_K (dC, dI) vwP [] t ∧ va_D (va_A [(h0, .inr (16, [.ref q_1, .ref q_12, .ref q_17, .ref q_22, .ref q_24, .ref q_26, .ref q_28, .ref q_29, .ref q_31, .ref q_33, .ref q_35, .int 0, .ref q_37, .ref q_39, .ref q_41, .ref q_43, .ref q_45, .ref q_47, .ref q_49, .ref q_51, .ref q_53, .ref q_55, .ref q_57, .int 0, .ref q_59, .ref q_61, .ref q_63, .int (-1), .int 0, .int 0, .int 0, .int 0, .ref q_65, .int 0, .ref q_68, .int 0, .int (-1), .int 0, .int 0, .ref q_70, .ref q_72]))] sz) [(h0, .inr (16, [.ref q_1, .ref q_12, .ref q_17, .ref q_22, .ref q_24, .ref q_26, .ref q_28, .ref q_29, .ref q_31, .ref q_33, .ref q_35, .int 0, .ref q_37, .ref q_39, .ref q_41, .ref q_43, .ref q_45, .ref q_47, .ref q_49, .ref q_51, .ref q_53, .ref q_55, .ref q_57, .int 0, .ref q_59, .ref q_61, .ref q_63, .int (-1), .int 0, .int 0, .int 0, .int 0, .ref q_65, .int i_33, .ref q_68, .int i_35, .int i_36, .int i_37, .int 0, .ref q_70, .ref q_940]))]) (va_A [(h0, .inr (16, [.ref q_1, .ref q_12, .ref q_17, .ref q_22, .ref q_24, .ref q_26, .ref q_28, .ref q_29, .ref q_31, .ref q_33, .ref q_35, .int 0, .ref q_37, .ref q_39, .ref q_41, .ref q_43, .ref q_45, .ref q_47, .ref q_49, .ref q_51, .ref q_53, .ref q_55, .ref q_57, .int 0, .ref q_59, .ref q_61, .ref q_63, .int (-1), .int 0, .int 0, .int 0, .int 0, .ref q_65, .int 0, .ref q_68, .int 0, .int (-1), .int 0, .int 0, .ref q_70, .ref q_72]))] sz)) 0 0 (va_A [(h0, .inr (16, [.ref q_1, .ref q_12, .ref q_17, .ref q_22, .ref q_24, .ref q_26, .ref q_28, .ref q_29, .ref q_31, .ref q_33, .ref q_35, .int 0, .ref q_37, .ref q_39, .ref q_41, .ref q_43, .ref q_45, .ref q_47, .ref q_49, .ref q_51, .ref q_53, .ref q_55, .ref q_57, .int 0, .ref q_59, .ref q_61, .ref q_63, .int (-1), .int 0, .int 0, .int 0, .int 0, .ref q_65, .int 0, .ref q_68, .int 0, .int (-1), .int 0, .int 0, .ref q_70, .ref q_72]))] sz) := by
  refine Met.ofW (cc := cX19_shown) (maxL := 2) (ret := (some .int)) (by decide) rfl ?_
  intro p e s m args below meth c s₁ B hml hv
  obtain ⟨rfl, hsz, hP, hK, hD0⟩ := hv
  have hx := B.exec
  have hb := B.bytes
  have hr := B.returns
  have hts := atoms_spec (ws := v_X19_shown) B.pre
  have hown : s.vm.findClass RX19 = some m.cls := findClass_of_methodNamed B.named
  have hlocks := B.notSynchronized
  have ow : ∀ {k : Nat} {w : Cond}, o_X19_shown[k]? = some w → w.before ([.ref h0, .int p0] : List Value).toArray s = true := fun h => hts _ (mow_X19_shown _ (List.mem_of_getElem? h))
  subst hsz
  have hD := hD0.self (sz := s.heap.size)
  generalize hAe : va_A [(h0, .inr (16, [.ref q_1, .ref q_12, .ref q_17, .ref q_22, .ref q_24, .ref q_26, .ref q_28, .ref q_29, .ref q_31, .ref q_33, .ref q_35, .int 0, .ref q_37, .ref q_39, .ref q_41, .ref q_43, .ref q_45, .ref q_47, .ref q_49, .ref q_51, .ref q_53, .ref q_55, .ref q_57, .int 0, .ref q_59, .ref q_61, .ref q_63, .int (-1), .int 0, .int 0, .int 0, .int 0, .ref q_65, .int 0, .ref q_68, .int 0, .int (-1), .int 0, .int 0, .ref q_70, .ref q_72]))] s.heap.size = A at hD ⊢
  have hA : ∀ q : Nat, s.heap.size ≤ q → A q := fun q h => by rw [← hAe]; exact Or.inr h
  have hS : va_S A s.heap s.heap [] := va_S.rf
  have hP : va_P (dC, dI) vwP [(h0, .inr (16, [.ref q_1, .ref q_12, .ref q_17, .ref q_22, .ref q_24, .ref q_26, .ref q_28, .ref q_29, .ref q_31, .ref q_33, .ref q_35, .int 0, .ref q_37, .ref q_39, .ref q_41, .ref q_43, .ref q_45, .ref q_47, .ref q_49, .ref q_51, .ref q_53, .ref q_55, .ref q_57, .int 0, .ref q_59, .ref q_61, .ref q_63, .int (-1), .int 0, .int 0, .int 0, .int 0, .ref q_65, .int 0, .ref q_68, .int 0, .int (-1), .int 0, .int 0, .ref q_70, .ref q_72]))] s.heap := hP
  have hl := lv_entry ([.ref h0, .int p0]) (n := 2) (Nat.le_of_ble_eq_true rfl)
  rw [lg_entry_eq]
  generalize (lg_sl ([.ref h0, .int p0]) ++ List.replicate (2 - (lg_sl ([.ref h0, .int p0])).length) Slot.unset).toArray = ls at hl ⊢
  have hl : lv_has ls 2 [(0, .ref h0), (1, .int p0)] := hl
  obtain ⟨H, hH⟩ : ∃ H, H = s.heap := ⟨_, rfl⟩
  rw [← hH] at hP
  have hS : va_S A s.heap H [] := by rw [hH]; exact hS
  rw [← hH]
  refine lv_aload_n hx hb dX19_shown_0 rfl (lv_at hl 0 rfl) ?_
  refine lv_iconst (v := 0) hx hb dX19_shown_1 (by decide) ?_
  refine va_put (D := (dC, dI)) (ci := 16) (v := .int 0) (ty := .int) (C := RX19) (T := TX19) (N := 41) hx hb hts mem_X19_shown_0 tyX19 tyX19_ok nmX19 hown hK hP hD hS 0 rfl rfl 33 (by decide) (ow (k := 0) rfl) (fun _ h9 => h9) rfl (by decide +kernel) rfl rfl (Nat.le_of_ble_eq_true rfl) dX19_shown_2 (fun H locs hP hD hS => ?_)
  have hP : va_P (dC, dI) vwP [(h0, .inr (16, [.ref q_1, .ref q_12, .ref q_17, .ref q_22, .ref q_24, .ref q_26, .ref q_28, .ref q_29, .ref q_31, .ref q_33, .ref q_35, .int 0, .ref q_37, .ref q_39, .ref q_41, .ref q_43, .ref q_45, .ref q_47, .ref q_49, .ref q_51, .ref q_53, .ref q_55, .ref q_57, .int 0, .ref q_59, .ref q_61, .ref q_63, .int (-1), .int 0, .int 0, .int 0, .int 0, .ref q_65, .int 0, .ref q_68, .int 0, .int (-1), .int 0, .int 0, .ref q_70, .ref q_72]))] H := hP
  have hD : va_D A [(h0, .inr (16, [.ref q_1, .ref q_12, .ref q_17, .ref q_22, .ref q_24, .ref q_26, .ref q_28, .ref q_29, .ref q_31, .ref q_33, .ref q_35, .int 0, .ref q_37, .ref q_39, .ref q_41, .ref q_43, .ref q_45, .ref q_47, .ref q_49, .ref q_51, .ref q_53, .ref q_55, .ref q_57, .int 0, .ref q_59, .ref q_61, .ref q_63, .int (-1), .int 0, .int 0, .int 0, .int 0, .ref q_65, .int 0, .ref q_68, .int 0, .int (-1), .int 0, .int 0, .ref q_70, .ref q_72]))] := hD
  refine lv_iload_n hx hb dX19_shown_5 rfl (lv_at hl 1 rfl) ?_
  refine lv_if_lt (tgt := 26) hx hb dX19_shown_6 (by decide) (fun b6 => ?_) (fun b6 => ?_)
  · refine lv_aload_n hx hb dX19_shown_26 rfl (lv_at hl 0 rfl) ?_
    refine lv_iconst (v := 1) hx hb dX19_shown_27 (by decide) ?_
    have hPc := hP.sub (ws' := [(h0, .inr (16, [.ref q_1, .ref q_12, .ref q_17, .ref q_22, .ref q_24, .ref q_26, .ref q_28, .ref q_29, .ref q_31, .ref q_33, .ref q_35, .int 0, .ref q_37, .ref q_39, .ref q_41, .ref q_43, .ref q_45, .ref q_47, .ref q_49, .ref q_51, .ref q_53, .ref q_55, .ref q_57, .int 0, .ref q_59, .ref q_61, .ref q_63, .int (-1), .int 0, .int 0, .int 0, .int 0, .ref q_65, .int 0, .ref q_68, .int 0, .int (-1), .int 0, .int 0, .ref q_70, .ref q_72]))]) [0] rfl
    have hDc := hD.sub (ws' := [(h0, .inr (16, [.ref q_1, .ref q_12, .ref q_17, .ref q_22, .ref q_24, .ref q_26, .ref q_28, .ref q_29, .ref q_31, .ref q_33, .ref q_35, .int 0, .ref q_37, .ref q_39, .ref q_41, .ref q_43, .ref q_45, .ref q_47, .ref q_49, .ref q_51, .ref q_53, .ref q_55, .ref q_57, .int 0, .ref q_59, .ref q_61, .ref q_63, .int (-1), .int 0, .int 0, .int 0, .int 0, .ref q_65, .int 0, .ref q_68, .int 0, .int (-1), .int 0, .int 0, .ref q_70, .ref q_72]))]) [0] (by decide) rfl
    have hKc := hK.sub (tys' := []) [] rfl
    have hFc := va_free (wc := [(h0, .inr (16, [.ref q_1, .ref q_12, .ref q_17, .ref q_22, .ref q_24, .ref q_26, .ref q_28, .ref q_29, .ref q_31, .ref q_33, .ref q_35, .int 0, .ref q_37, .ref q_39, .ref q_41, .ref q_43, .ref q_45, .ref q_47, .ref q_49, .ref q_51, .ref q_53, .ref q_55, .ref q_57, .int 0, .ref q_59, .ref q_61, .ref q_63, .int (-1), .int 0, .int 0, .int 0, .int 0, .ref q_65, .int 0, .ref q_68, .int 0, .int (-1), .int 0, .int 0, .ref q_70, .ref q_72]))]) hD hS hA [0] rfl
    refine va_calli (va_runV (As := [.int 1]) (rest := []) ⟨hx, hb, hml, hown, hts⟩ (c_X19_no l dC dI h0 q_1 q_12 q_17 q_22 q_24 q_26 q_28 q_29 q_31 q_33 q_35 q_37 q_39 q_41 q_43 q_45 q_47 q_49 q_51 q_53 q_55 q_57 q_59 q_61 q_63 q_65 q_68 q_70 q_72 1 H.size) (cwV 1 hts g_X19_shown_X19_no rfl rfl rfl (by decide +kernel) ⟨(Nat.le_of_ble_eq_true rfl), (Nat.le_of_ble_eq_true rfl)⟩) ⟨fun a U g mk q => by obtain ⟨q0, q1, qP, qK, qD⟩ := q; exact ⟨q0, q1, qP, va_K.moved (u := U) (U := U.calling g mk a) (Vm.Alike.refl U.vm) qK, qD⟩, va_recv hKc hPc (ci := 16) (q0 := 0) rfl rfl, fun U hU hW => ⟨rfl, by rw [hU], by rw [hU]; exact hPc, va_K.moved hW.alike hKc, hDc.weaken (fun _ _ _ _ => trivial)⟩⟩ rfl rfl hl.1 rfl (lv_room (Nat.le_of_ble_eq_true rfl)) dX19_shown_28 ⟨(Nat.le_of_ble_eq_true rfl), (Nat.le_of_ble_eq_true rfl)⟩) hS (fun q _ h => hFc q h) hFc (fun r_2001 u t H1 locs ht hvm hw hB hz1 hk1 hS => ?_)
    obtain ⟨hP1, hK1, hD1⟩ := hB
    rw [ht] at hP1
    have hK1 := va_K.moved hvm.symm hK1
    obtain ⟨hP, hD⟩ := va_join (wr := []) (w1 := [(h0, .inr (16, [.ref q_1, .ref q_12, .ref q_17, .ref q_22, .ref q_24, .ref q_26, .ref q_28, .ref q_29, .ref q_31, .ref q_33, .ref q_35, .int 0, .ref q_37, .ref q_39, .ref q_41, .ref q_43, .ref q_45, .ref q_47, .ref q_49, .ref q_51, .ref q_53, .ref q_55, .ref q_57, .int 0, .ref q_59, .ref q_61, .ref q_63, .int (-1), .int 0, .int 0, .int 0, .int 0, .ref q_65, .int 1, .ref q_68, .int 0, .int (-1), .int 0, .int 0, .ref q_70, .ref q_72]))]) hP hD [0] [] rfl rfl (by decide) (by decide) hk1 hFc hP1 hD1
    have hK := (hK.sub (tys' := []) [] rfl).app hK1
    generalize H1 = H at hP hS ⊢
    have hP : va_P (dC, dI) vwP [(h0, .inr (16, [.ref q_1, .ref q_12, .ref q_17, .ref q_22, .ref q_24, .ref q_26, .ref q_28, .ref q_29, .ref q_31, .ref q_33, .ref q_35, .int 0, .ref q_37, .ref q_39, .ref q_41, .ref q_43, .ref q_45, .ref q_47, .ref q_49, .ref q_51, .ref q_53, .ref q_55, .ref q_57, .int 0, .ref q_59, .ref q_61, .ref q_63, .int (-1), .int 0, .int 0, .int 0, .int 0, .ref q_65, .int 1, .ref q_68, .int 0, .int (-1), .int 0, .int 0, .ref q_70, .ref q_72]))] H := hP
    have hD : va_D A [(h0, .inr (16, [.ref q_1, .ref q_12, .ref q_17, .ref q_22, .ref q_24, .ref q_26, .ref q_28, .ref q_29, .ref q_31, .ref q_33, .ref q_35, .int 0, .ref q_37, .ref q_39, .ref q_41, .ref q_43, .ref q_45, .ref q_47, .ref q_49, .ref q_51, .ref q_53, .ref q_55, .ref q_57, .int 0, .ref q_59, .ref q_61, .ref q_63, .int (-1), .int 0, .int 0, .int 0, .int 0, .ref q_65, .int 1, .ref q_68, .int 0, .int (-1), .int 0, .int 0, .ref q_70, .ref q_72]))] := hD
    have hK : va_K (dC, dI) vwP [] s := hK
    refine W.widen (k := 0) (n := 0) (Nat.le_of_ble_eq_true rfl) (Nat.le_of_ble_eq_true rfl) ?_
    obtain rfl : r_2001 = 0 := hw
    have zb6 : p0.toInt < 0 := z_lt b6
    refine W.widen (k := 0) (n := 0) (Nat.le_of_ble_eq_true rfl) (Nat.le_of_ble_eq_true rfl) ?_
    exact W.iret (v := 0) hx hb hr (fun t ht hW => ⟨⟨0, (), rfl, (fun h9 => absurd ((show kf_shown = 1 by unfold kf_shown; first | rfl | (split <;> first | rfl | (exfalso; omega))).symm.trans h9) (by decide)), 1, 0, (-1), 0, q_72, (show kf_shown = 1 by unfold kf_shown; first | rfl | (split <;> first | rfl | (exfalso; omega))).symm, by rw [ht]; exact hP, va_K.moved hW.alike hK, hD⟩, hS.F ht⟩) hS.2.2 dX19_shown_31
  · refine lv_iload_n hx hb dX19_shown_9 rfl (lv_at hl 1 rfl) ?_
    refine lv_aload_n hx hb dX19_shown_10 rfl (lv_at hl 0 rfl) ?_
    refine va_get (D := (dC, dI)) (ci := 16) (v := .int 0) (C := RX19) (T := TX19) (N := 41) hx hb hts mem_X19_shown_0 hown hK hP 0 rfl rfl 29 (by decide) (ow (k := 5) rfl) (fun _ h9 => h9) rfl dX19_shown_11 ?_
    refine lv_icmp_ge (tgt := 26) hx hb dX19_shown_14 (by decide) (fun _ => ?_) (fun h9 => absurd h9 (fun h8 => h8 (Int32.le_iff_toInt_le.mpr (z_nlt b6))))
    refine lv_aload_n hx hb dX19_shown_26 rfl (lv_at hl 0 rfl) ?_
    refine lv_iconst (v := 1) hx hb dX19_shown_27 (by decide) ?_
    have hPc := hP.sub (ws' := [(h0, .inr (16, [.ref q_1, .ref q_12, .ref q_17, .ref q_22, .ref q_24, .ref q_26, .ref q_28, .ref q_29, .ref q_31, .ref q_33, .ref q_35, .int 0, .ref q_37, .ref q_39, .ref q_41, .ref q_43, .ref q_45, .ref q_47, .ref q_49, .ref q_51, .ref q_53, .ref q_55, .ref q_57, .int 0, .ref q_59, .ref q_61, .ref q_63, .int (-1), .int 0, .int 0, .int 0, .int 0, .ref q_65, .int 0, .ref q_68, .int 0, .int (-1), .int 0, .int 0, .ref q_70, .ref q_72]))]) [0] rfl
    have hDc := hD.sub (ws' := [(h0, .inr (16, [.ref q_1, .ref q_12, .ref q_17, .ref q_22, .ref q_24, .ref q_26, .ref q_28, .ref q_29, .ref q_31, .ref q_33, .ref q_35, .int 0, .ref q_37, .ref q_39, .ref q_41, .ref q_43, .ref q_45, .ref q_47, .ref q_49, .ref q_51, .ref q_53, .ref q_55, .ref q_57, .int 0, .ref q_59, .ref q_61, .ref q_63, .int (-1), .int 0, .int 0, .int 0, .int 0, .ref q_65, .int 0, .ref q_68, .int 0, .int (-1), .int 0, .int 0, .ref q_70, .ref q_72]))]) [0] (by decide) rfl
    have hKc := hK.sub (tys' := []) [] rfl
    have hFc := va_free (wc := [(h0, .inr (16, [.ref q_1, .ref q_12, .ref q_17, .ref q_22, .ref q_24, .ref q_26, .ref q_28, .ref q_29, .ref q_31, .ref q_33, .ref q_35, .int 0, .ref q_37, .ref q_39, .ref q_41, .ref q_43, .ref q_45, .ref q_47, .ref q_49, .ref q_51, .ref q_53, .ref q_55, .ref q_57, .int 0, .ref q_59, .ref q_61, .ref q_63, .int (-1), .int 0, .int 0, .int 0, .int 0, .ref q_65, .int 0, .ref q_68, .int 0, .int (-1), .int 0, .int 0, .ref q_70, .ref q_72]))]) hD hS hA [0] rfl
    refine va_calli (va_runV (As := [.int 1]) (rest := []) ⟨hx, hb, hml, hown, hts⟩ (c_X19_no l dC dI h0 q_1 q_12 q_17 q_22 q_24 q_26 q_28 q_29 q_31 q_33 q_35 q_37 q_39 q_41 q_43 q_45 q_47 q_49 q_51 q_53 q_55 q_57 q_59 q_61 q_63 q_65 q_68 q_70 q_72 1 H.size) (cwV 1 hts g_X19_shown_X19_no rfl rfl rfl (by decide +kernel) ⟨(Nat.le_of_ble_eq_true rfl), (Nat.le_of_ble_eq_true rfl)⟩) ⟨fun a U g mk q => by obtain ⟨q0, q1, qP, qK, qD⟩ := q; exact ⟨q0, q1, qP, va_K.moved (u := U) (U := U.calling g mk a) (Vm.Alike.refl U.vm) qK, qD⟩, va_recv hKc hPc (ci := 16) (q0 := 0) rfl rfl, fun U hU hW => ⟨rfl, by rw [hU], by rw [hU]; exact hPc, va_K.moved hW.alike hKc, hDc.weaken (fun _ _ _ _ => trivial)⟩⟩ rfl rfl hl.1 rfl (lv_room (Nat.le_of_ble_eq_true rfl)) dX19_shown_28 ⟨(Nat.le_of_ble_eq_true rfl), (Nat.le_of_ble_eq_true rfl)⟩) hS (fun q _ h => hFc q h) hFc (fun r_2002 u t H1 locs ht hvm hw hB hz1 hk1 hS => ?_)
    obtain ⟨hP1, hK1, hD1⟩ := hB
    rw [ht] at hP1
    have hK1 := va_K.moved hvm.symm hK1
    obtain ⟨hP, hD⟩ := va_join (wr := []) (w1 := [(h0, .inr (16, [.ref q_1, .ref q_12, .ref q_17, .ref q_22, .ref q_24, .ref q_26, .ref q_28, .ref q_29, .ref q_31, .ref q_33, .ref q_35, .int 0, .ref q_37, .ref q_39, .ref q_41, .ref q_43, .ref q_45, .ref q_47, .ref q_49, .ref q_51, .ref q_53, .ref q_55, .ref q_57, .int 0, .ref q_59, .ref q_61, .ref q_63, .int (-1), .int 0, .int 0, .int 0, .int 0, .ref q_65, .int 1, .ref q_68, .int 0, .int (-1), .int 0, .int 0, .ref q_70, .ref q_72]))]) hP hD [0] [] rfl rfl (by decide) (by decide) hk1 hFc hP1 hD1
    have hK := (hK.sub (tys' := []) [] rfl).app hK1
    generalize H1 = H at hP hS ⊢
    have hP : va_P (dC, dI) vwP [(h0, .inr (16, [.ref q_1, .ref q_12, .ref q_17, .ref q_22, .ref q_24, .ref q_26, .ref q_28, .ref q_29, .ref q_31, .ref q_33, .ref q_35, .int 0, .ref q_37, .ref q_39, .ref q_41, .ref q_43, .ref q_45, .ref q_47, .ref q_49, .ref q_51, .ref q_53, .ref q_55, .ref q_57, .int 0, .ref q_59, .ref q_61, .ref q_63, .int (-1), .int 0, .int 0, .int 0, .int 0, .ref q_65, .int 1, .ref q_68, .int 0, .int (-1), .int 0, .int 0, .ref q_70, .ref q_72]))] H := hP
    have hD : va_D A [(h0, .inr (16, [.ref q_1, .ref q_12, .ref q_17, .ref q_22, .ref q_24, .ref q_26, .ref q_28, .ref q_29, .ref q_31, .ref q_33, .ref q_35, .int 0, .ref q_37, .ref q_39, .ref q_41, .ref q_43, .ref q_45, .ref q_47, .ref q_49, .ref q_51, .ref q_53, .ref q_55, .ref q_57, .int 0, .ref q_59, .ref q_61, .ref q_63, .int (-1), .int 0, .int 0, .int 0, .int 0, .ref q_65, .int 1, .ref q_68, .int 0, .int (-1), .int 0, .int 0, .ref q_70, .ref q_72]))] := hD
    have hK : va_K (dC, dI) vwP [] s := hK
    refine W.widen (k := 0) (n := 0) (Nat.le_of_ble_eq_true rfl) (Nat.le_of_ble_eq_true rfl) ?_
    obtain rfl : r_2002 = 0 := hw
    have zb6 : 0 ≤ p0.toInt := z_nlt b6
    refine W.widen (k := 0) (n := 0) (Nat.le_of_ble_eq_true rfl) (Nat.le_of_ble_eq_true rfl) ?_
    exact W.iret (v := 0) hx hb hr (fun t ht hW => ⟨⟨0, (), rfl, (fun h9 => absurd ((show kf_shown = 1 by unfold kf_shown; first | rfl | (split <;> first | rfl | (exfalso; omega))).symm.trans h9) (by decide)), 1, 0, (-1), 0, q_72, (show kf_shown = 1 by unfold kf_shown; first | rfl | (split <;> first | rfl | (exfalso; omega))).symm, by rw [ht]; exact hP, va_K.moved hW.alike hK, hD⟩, hS.F ht⟩) hS.2.2 dX19_shown_31
theorem dX19_count_0 : decode cX19_count 0 = .ok (.aload_n 0, 1) := by decide +kernel
theorem dX19_count_1 : decode cX19_count 1 = .ok (.iconst 0, 1) := by decide +kernel
theorem dX19_count_2 : decode cX19_count 2 = .ok (.putfield 560, 3) := by decide +kernel
theorem dX19_count_5 : decode cX19_count 5 = .ok (.aload_n 0, 1) := by decide +kernel
theorem dX19_count_6 : decode cX19_count 6 = .ok (.getfield 555, 3) := by decide +kernel
theorem dX19_count_9 : decode cX19_count 9 = .ok (.ifCond .lt 7, 3) := by decide +kernel
theorem dX19_count_16 : decode cX19_count 16 = .ok (.iconst 0, 1) := by decide +kernel
theorem dX19_count_17 : decode cX19_count 17 = .ok (.istore_n 2, 1) := by decide +kernel
theorem dX19_count_18 : decode cX19_count 18 = .ok (.iload_n 1, 1) := by decide +kernel
theorem dX19_count_19 : decode cX19_count 19 = .ok (.tableswitch 149 0 7 #[45, 50, 66, 82, 98, 134, 139, 144], 45) := by decide +kernel
theorem dX19_count_64 : decode cX19_count 64 = .ok (.aload_n 0, 1) := by decide +kernel
theorem dX19_count_65 : decode cX19_count 65 = .ok (.getfield 555, 3) := by decide +kernel
theorem dX19_count_68 : decode cX19_count 68 = .ok (.ireturn, 1) := by decide +kernel
theorem dX19_count_69 : decode cX19_count 69 = .ok (.iload_n 2, 1) := by decide +kernel
theorem dX19_count_70 : decode cX19_count 70 = .ok (.ifCond .eq 13, 3) := by decide +kernel
theorem dX19_count_83 : decode cX19_count 83 = .ok (.iconst 0, 1) := by decide +kernel
theorem dX19_count_84 : decode cX19_count 84 = .ok (.ireturn, 1) := by decide +kernel
theorem dX19_count_85 : decode cX19_count 85 = .ok (.iload_n 2, 1) := by decide +kernel
theorem dX19_count_86 : decode cX19_count 86 = .ok (.ifCond .eq 13, 3) := by decide +kernel
theorem dX19_count_99 : decode cX19_count 99 = .ok (.iconst 0, 1) := by decide +kernel
theorem dX19_count_100 : decode cX19_count 100 = .ok (.ireturn, 1) := by decide +kernel
theorem dX19_count_101 : decode cX19_count 101 = .ok (.iload_n 2, 1) := by decide +kernel
theorem dX19_count_102 : decode cX19_count 102 = .ok (.ifCond .eq 13, 3) := by decide +kernel
theorem dX19_count_115 : decode cX19_count 115 = .ok (.iconst 0, 1) := by decide +kernel
theorem dX19_count_116 : decode cX19_count 116 = .ok (.ireturn, 1) := by decide +kernel
theorem dX19_count_117 : decode cX19_count 117 = .ok (.iload_n 2, 1) := by decide +kernel
theorem dX19_count_118 : decode cX19_count 118 = .ok (.ifCond .ne 5, 3) := by decide +kernel
theorem dX19_count_121 : decode cX19_count 121 = .ok (.iconst 0, 1) := by decide +kernel
theorem dX19_count_122 : decode cX19_count 122 = .ok (.ireturn, 1) := by decide +kernel
theorem dX19_count_153 : decode cX19_count 153 = .ok (.aload_n 0, 1) := by decide +kernel
theorem dX19_count_154 : decode cX19_count 154 = .ok (.getfield 572, 3) := by decide +kernel
theorem dX19_count_157 : decode cX19_count 157 = .ok (.ireturn, 1) := by decide +kernel
theorem dX19_count_158 : decode cX19_count 158 = .ok (.aload_n 0, 1) := by decide +kernel
theorem dX19_count_159 : decode cX19_count 159 = .ok (.getfield 635, 3) := by decide +kernel
theorem dX19_count_162 : decode cX19_count 162 = .ok (.ireturn, 1) := by decide +kernel
theorem dX19_count_163 : decode cX19_count 163 = .ok (.aload_n 0, 1) := by decide +kernel
theorem dX19_count_164 : decode cX19_count 164 = .ok (.getfield 563, 3) := by decide +kernel
theorem dX19_count_167 : decode cX19_count 167 = .ok (.ireturn, 1) := by decide +kernel
theorem dX19_count_168 : decode cX19_count 168 = .ok (.aload_n 0, 1) := by decide +kernel
theorem dX19_count_169 : decode cX19_count 169 = .ok (.iconst 1, 1) := by decide +kernel
theorem dX19_count_170 : decode cX19_count 170 = .ok (.invokevirtual 565, 3) := by decide +kernel
theorem dX19_count_173 : decode cX19_count 173 = .ok (.ireturn, 1) := by decide +kernel
def o_X19_count : List Cond := [.fieldLink RX19 560 "SsaForgeModel" "thrown" "I", .fieldLink RX19 555 "SsaForgeModel" "form" "I", .fieldLink RX19 572 "SsaForgeModel" "reason" "I", .fieldLink RX19 635 "SsaForgeModel" "results" "I", .fieldLink RX19 563 "SsaForgeModel" "size" "I", .methodLink RX19 565 yX19_no, .instanceMethod yX19_no, .selects RX19 yX19_no yX19_no, .initialized RX19]
def v_X19_count : List Cond := .code yX19_count cX19_count 3 (some .int) :: (o_X19_count ++ (wsX190 ++ (v_X19_no ++ [])))
theorem mow_X19_count : ∀ w ∈ o_X19_count, w ∈ v_X19_count := fun _ h => List.mem_cons_of_mem _ (List.mem_append_left _ h)
theorem mem_X19_count_0 : ∀ w ∈ wsX190, w ∈ v_X19_count := fun _ h => List.mem_cons_of_mem _ (List.mem_append_right _ (List.mem_append_left _ h))
theorem mem_X19_count_1 : ∀ w ∈ v_X19_no, w ∈ v_X19_count := fun _ h => List.mem_cons_of_mem _ (List.mem_append_right _ (List.mem_append_right _ (List.mem_append_left _ h)))
set_option maxRecDepth 20000 in
theorem gw_X19_count : v_X19_count.all goodWord = true := by decide +kernel
set_option maxRecDepth 20000 in
theorem g_X19_count_X19_no : GoodIn v_X19_count (wsV RX19 565 RX19 yX19_no v_X19_no) := goodIn_app (goodIn_sub (fun w h => mow_X19_count w (by revert w h; decide +kernel)) (by decide +kernel)) (goodIn_sub mem_X19_count_1 gw_X19_no)
set_option maxHeartbeats 4000000 in
set_option maxRecDepth 100000 in
theorem c_X19_count (l : Launch) (dC : Nat → ClassId) (dI : Nat → Nat → Nat) (h0 : Nat) (q_1 : Nat) (q_12 : Nat) (q_17 : Nat) (q_22 : Nat) (q_24 : Nat) (q_26 : Nat) (q_28 : Nat) (q_29 : Nat) (q_31 : Nat) (q_33 : Nat) (q_35 : Nat) (q_37 : Nat) (q_39 : Nat) (q_41 : Nat) (q_43 : Nat) (q_45 : Nat) (q_47 : Nat) (q_49 : Nat) (q_51 : Nat) (q_53 : Nat) (q_55 : Nat) (q_57 : Nat) (q_59 : Nat) (q_61 : Nat) (q_63 : Nat) (q_65 : Nat) (q_68 : Nat) (q_70 : Nat) (q_72 : Nat) (p0 : Int32) (sz : Nat) : Met l yX19_count v_X19_count ({ frames := 1, cells := 0, slots := 0, locals := 21 }) (va_Pc [.ref h0, .int p0] (fun U => U.heap.size = sz ∧ va_P (dC, dI) vwP [(h0, .inr (16, [.ref q_1, .ref q_12, .ref q_17, .ref q_22, .ref q_24, .ref q_26, .ref q_28, .ref q_29, .ref q_31, .ref q_33, .ref q_35, .int 0, .ref q_37, .ref q_39, .ref q_41, .ref q_43, .ref q_45, .ref q_47, .ref q_49, .ref q_51, .ref q_53, .ref q_55, .ref q_57, .int 0, .ref q_59, .ref q_61, .ref q_63, .int (-1), .int 0, .int 0, .int 0, .int 0, .ref q_65, .int 0, .ref q_68, .int 0, .int (-1), .int 0, .int 0, .ref q_70, .ref q_72]))] U.heap ∧ va_K (dC, dI) vwP [] U ∧ va_D (fun _ => True) [(h0, .inr (16, [.ref q_1, .ref q_12, .ref q_17, .ref q_22, .ref q_24, .ref q_26, .ref q_28, .ref q_29, .ref q_31, .ref q_33, .ref q_35, .int 0, .ref q_37, .ref q_39, .ref q_41, .ref q_43, .ref q_45, .ref q_47, .ref q_49, .ref q_51, .ref q_53, .ref q_55, .ref q_57, .int 0, .ref q_59, .ref q_61, .ref q_63, .int (-1), .int 0, .int 0, .int 0, .int 0, .ref q_65, .int 0, .ref q_68, .int 0, .int (-1), .int 0, .int 0, .ref q_70, .ref q_72]))])) (va_Qi (fun (r : Int32) (_ : Unit) => kf_count p0 = 0 → r = vf_count p0) (fun (_ : Unit) (t : State) => ∃ (i_33 : Int32) (i_35 : Int32) (i_36 : Int32) (i_37 : Int32) (q_940 : Nat), (i_33 = kf_count p0) ∧ va_P (dC, dI) vwP [(h0, .inr (16, [.ref q_1, .ref q_12, .ref q_17, .ref q_22, .ref q_24, .ref q_26, .ref q_28, .ref q_29, .ref q_31, .ref q_33, .ref q_35, .int 0, .ref q_37, .ref q_39, .ref q_41, .ref q_43, .ref q_45, .ref q_47, .ref q_49, .ref q_51, .ref q_53, .ref q_55, .ref q_57, .int 0, .ref q_59, .ref q_61, .ref q_63, .int (-1), .int 0, .int 0, .int 0, .int 0, .ref q_65, .int i_33, .ref q_68, .int i_35, .int i_36, .int i_37, .int 0, .ref q_70, .ref q_940]))] t.heap ∧ va_K (dC, dI) vwP [] t ∧ va_D (va_A [(h0, .inr (16, [.ref q_1, .ref q_12, .ref q_17, .ref q_22, .ref q_24, .ref q_26, .ref q_28, .ref q_29, .ref q_31, .ref q_33, .ref q_35, .int 0, .ref q_37, .ref q_39, .ref q_41, .ref q_43, .ref q_45, .ref q_47, .ref q_49, .ref q_51, .ref q_53, .ref q_55, .ref q_57, .int 0, .ref q_59, .ref q_61, .ref q_63, .int (-1), .int 0, .int 0, .int 0, .int 0, .ref q_65, .int 0, .ref q_68, .int 0, .int (-1), .int 0, .int 0, .ref q_70, .ref q_72]))] sz) [(h0, .inr (16, [.ref q_1, .ref q_12, .ref q_17, .ref q_22, .ref q_24, .ref q_26, .ref q_28, .ref q_29, .ref q_31, .ref q_33, .ref q_35, .int 0, .ref q_37, .ref q_39, .ref q_41, .ref q_43, .ref q_45, .ref q_47, .ref q_49, .ref q_51, .ref q_53, .ref q_55, .ref q_57, .int 0, .ref q_59, .ref q_61, .ref q_63, .int (-1), .int 0, .int 0, .int 0, .int 0, .ref q_65, .int i_33, .ref q_68, .int i_35, .int i_36, .int i_37, .int 0, .ref q_70, .ref q_940]))]) (va_A [(h0, .inr (16, [.ref q_1, .ref q_12, .ref q_17, .ref q_22, .ref q_24, .ref q_26, .ref q_28, .ref q_29, .ref q_31, .ref q_33, .ref q_35, .int 0, .ref q_37, .ref q_39, .ref q_41, .ref q_43, .ref q_45, .ref q_47, .ref q_49, .ref q_51, .ref q_53, .ref q_55, .ref q_57, .int 0, .ref q_59, .ref q_61, .ref q_63, .int (-1), .int 0, .int 0, .int 0, .int 0, .ref q_65, .int 0, .ref q_68, .int 0, .int (-1), .int 0, .int 0, .ref q_70, .ref q_72]))] sz)) 0 0 (va_A [(h0, .inr (16, [.ref q_1, .ref q_12, .ref q_17, .ref q_22, .ref q_24, .ref q_26, .ref q_28, .ref q_29, .ref q_31, .ref q_33, .ref q_35, .int 0, .ref q_37, .ref q_39, .ref q_41, .ref q_43, .ref q_45, .ref q_47, .ref q_49, .ref q_51, .ref q_53, .ref q_55, .ref q_57, .int 0, .ref q_59, .ref q_61, .ref q_63, .int (-1), .int 0, .int 0, .int 0, .int 0, .ref q_65, .int 0, .ref q_68, .int 0, .int (-1), .int 0, .int 0, .ref q_70, .ref q_72]))] sz) := by
  refine Met.ofW (cc := cX19_count) (maxL := 3) (ret := (some .int)) (by decide) rfl ?_
  intro p e s m args below meth c s₁ B hml hv
  obtain ⟨rfl, hsz, hP, hK, hD0⟩ := hv
  have hx := B.exec
  have hb := B.bytes
  have hr := B.returns
  have hts := atoms_spec (ws := v_X19_count) B.pre
  have hown : s.vm.findClass RX19 = some m.cls := findClass_of_methodNamed B.named
  have hlocks := B.notSynchronized
  have ow : ∀ {k : Nat} {w : Cond}, o_X19_count[k]? = some w → w.before ([.ref h0, .int p0] : List Value).toArray s = true := fun h => hts _ (mow_X19_count _ (List.mem_of_getElem? h))
  subst hsz
  have hD := hD0.self (sz := s.heap.size)
  generalize hAe : va_A [(h0, .inr (16, [.ref q_1, .ref q_12, .ref q_17, .ref q_22, .ref q_24, .ref q_26, .ref q_28, .ref q_29, .ref q_31, .ref q_33, .ref q_35, .int 0, .ref q_37, .ref q_39, .ref q_41, .ref q_43, .ref q_45, .ref q_47, .ref q_49, .ref q_51, .ref q_53, .ref q_55, .ref q_57, .int 0, .ref q_59, .ref q_61, .ref q_63, .int (-1), .int 0, .int 0, .int 0, .int 0, .ref q_65, .int 0, .ref q_68, .int 0, .int (-1), .int 0, .int 0, .ref q_70, .ref q_72]))] s.heap.size = A at hD ⊢
  have hA : ∀ q : Nat, s.heap.size ≤ q → A q := fun q h => by rw [← hAe]; exact Or.inr h
  have hS : va_S A s.heap s.heap [] := va_S.rf
  have hP : va_P (dC, dI) vwP [(h0, .inr (16, [.ref q_1, .ref q_12, .ref q_17, .ref q_22, .ref q_24, .ref q_26, .ref q_28, .ref q_29, .ref q_31, .ref q_33, .ref q_35, .int 0, .ref q_37, .ref q_39, .ref q_41, .ref q_43, .ref q_45, .ref q_47, .ref q_49, .ref q_51, .ref q_53, .ref q_55, .ref q_57, .int 0, .ref q_59, .ref q_61, .ref q_63, .int (-1), .int 0, .int 0, .int 0, .int 0, .ref q_65, .int 0, .ref q_68, .int 0, .int (-1), .int 0, .int 0, .ref q_70, .ref q_72]))] s.heap := hP
  have hl := lv_entry ([.ref h0, .int p0]) (n := 3) (Nat.le_of_ble_eq_true rfl)
  rw [lg_entry_eq]
  generalize (lg_sl ([.ref h0, .int p0]) ++ List.replicate (3 - (lg_sl ([.ref h0, .int p0])).length) Slot.unset).toArray = ls at hl ⊢
  have hl : lv_has ls 3 [(0, .ref h0), (1, .int p0)] := hl
  obtain ⟨H, hH⟩ : ∃ H, H = s.heap := ⟨_, rfl⟩
  rw [← hH] at hP
  have hS : va_S A s.heap H [] := by rw [hH]; exact hS
  rw [← hH]
  refine lv_aload_n hx hb dX19_count_0 rfl (lv_at hl 0 rfl) ?_
  refine lv_iconst (v := 0) hx hb dX19_count_1 (by decide) ?_
  refine va_put (D := (dC, dI)) (ci := 16) (v := .int 0) (ty := .int) (C := RX19) (T := TX19) (N := 41) hx hb hts mem_X19_count_0 tyX19 tyX19_ok nmX19 hown hK hP hD hS 0 rfl rfl 33 (by decide) (ow (k := 0) rfl) (fun _ h9 => h9) rfl (by decide +kernel) rfl rfl (Nat.le_of_ble_eq_true rfl) dX19_count_2 (fun H locs hP hD hS => ?_)
  have hP : va_P (dC, dI) vwP [(h0, .inr (16, [.ref q_1, .ref q_12, .ref q_17, .ref q_22, .ref q_24, .ref q_26, .ref q_28, .ref q_29, .ref q_31, .ref q_33, .ref q_35, .int 0, .ref q_37, .ref q_39, .ref q_41, .ref q_43, .ref q_45, .ref q_47, .ref q_49, .ref q_51, .ref q_53, .ref q_55, .ref q_57, .int 0, .ref q_59, .ref q_61, .ref q_63, .int (-1), .int 0, .int 0, .int 0, .int 0, .ref q_65, .int 0, .ref q_68, .int 0, .int (-1), .int 0, .int 0, .ref q_70, .ref q_72]))] H := hP
  have hD : va_D A [(h0, .inr (16, [.ref q_1, .ref q_12, .ref q_17, .ref q_22, .ref q_24, .ref q_26, .ref q_28, .ref q_29, .ref q_31, .ref q_33, .ref q_35, .int 0, .ref q_37, .ref q_39, .ref q_41, .ref q_43, .ref q_45, .ref q_47, .ref q_49, .ref q_51, .ref q_53, .ref q_55, .ref q_57, .int 0, .ref q_59, .ref q_61, .ref q_63, .int (-1), .int 0, .int 0, .int 0, .int 0, .ref q_65, .int 0, .ref q_68, .int 0, .int (-1), .int 0, .int 0, .ref q_70, .ref q_72]))] := hD
  refine lv_aload_n hx hb dX19_count_5 rfl (lv_at hl 0 rfl) ?_
  refine va_get (D := (dC, dI)) (ci := 16) (v := .int (-1)) (C := RX19) (T := TX19) (N := 41) hx hb hts mem_X19_count_0 hown hK hP 0 rfl rfl 36 (by decide) (ow (k := 1) rfl) (fun _ h9 => h9) rfl dX19_count_6 ?_
  refine lv_if_lt (tgt := 16) hx hb dX19_count_9 (by decide) (fun _ => ?_) (fun h9 => absurd h9 (by decide))
  refine lv_iconst (v := 0) hx hb dX19_count_16 (by decide) ?_
  refine lv_istore_n (lv' := [(2, .int 0), (0, .ref h0), (1, .int p0)]) hx hb dX19_count_17 rfl hl (by decide) rfl (fun ls hl => ?_)
  refine lv_iload_n hx hb dX19_count_18 rfl (lv_at hl 2 rfl) ?_
  by_cases s19_0 : p0 = 0
  · refine lv_tableIn (off := 45) (tgt := 64) hx hb dX19_count_19 (by rw [s19_0]; decide) (by rw [s19_0]; decide) (by rw [s19_0]; decide) (by decide) ?_
    refine lv_aload_n hx hb dX19_count_64 rfl (lv_at hl 1 rfl) ?_
    refine va_get (D := (dC, dI)) (ci := 16) (v := .int (-1)) (C := RX19) (T := TX19) (N := 41) hx hb hts mem_X19_count_0 hown hK hP 0 rfl rfl 36 (by decide) (ow (k := 1) rfl) (fun _ h9 => h9) rfl dX19_count_65 ?_
    have zs19_0 : p0.toInt = 0 := z_eq s19_0
    refine W.widen (k := 0) (n := 0) (Nat.le_of_ble_eq_true rfl) (Nat.le_of_ble_eq_true rfl) ?_
    exact W.iret (v := (-1)) hx hb hr (fun t ht hW => ⟨⟨(-1), (), rfl, (fun _ => (show (-1) = vf_count p0 by unfold vf_count; first | rfl | (split <;> first | rfl | (exfalso; omega)))), 0, 0, (-1), 0, q_72, (show kf_count p0 = 0 by unfold kf_count; first | rfl | (split <;> first | rfl | (exfalso; omega))).symm, by rw [ht]; exact hP, va_K.moved hW.alike hK, hD⟩, hS.F ht⟩) hS.2.2 dX19_count_68
  by_cases s19_1 : p0 = 1
  · refine lv_tableIn (off := 50) (tgt := 69) hx hb dX19_count_19 (by rw [s19_1]; decide) (by rw [s19_1]; decide) (by rw [s19_1]; decide) (by decide) ?_
    refine lv_iload_n hx hb dX19_count_69 rfl (lv_at hl 0 rfl) ?_
    refine lv_if_eq (tgt := 83) hx hb dX19_count_70 (by decide) (fun _ => ?_) (fun h9 => absurd h9 (by decide))
    refine lv_iconst (v := 0) hx hb dX19_count_83 (by decide) ?_
    have zs19_0 : ¬ p0.toInt = 0 := z_ne s19_0
    have zs19_1 : p0.toInt = 1 := z_eq s19_1
    refine W.widen (k := 0) (n := 0) (Nat.le_of_ble_eq_true rfl) (Nat.le_of_ble_eq_true rfl) ?_
    exact W.iret (v := 0) hx hb hr (fun t ht hW => ⟨⟨0, (), rfl, (fun _ => (show 0 = vf_count p0 by unfold vf_count; first | rfl | (split <;> first | rfl | (exfalso; omega)))), 0, 0, (-1), 0, q_72, (show kf_count p0 = 0 by unfold kf_count; first | rfl | (split <;> first | rfl | (exfalso; omega))).symm, by rw [ht]; exact hP, va_K.moved hW.alike hK, hD⟩, hS.F ht⟩) hS.2.2 dX19_count_84
  by_cases s19_2 : p0 = 2
  · refine lv_tableIn (off := 66) (tgt := 85) hx hb dX19_count_19 (by rw [s19_2]; decide) (by rw [s19_2]; decide) (by rw [s19_2]; decide) (by decide) ?_
    refine lv_iload_n hx hb dX19_count_85 rfl (lv_at hl 0 rfl) ?_
    refine lv_if_eq (tgt := 99) hx hb dX19_count_86 (by decide) (fun _ => ?_) (fun h9 => absurd h9 (by decide))
    refine lv_iconst (v := 0) hx hb dX19_count_99 (by decide) ?_
    have zs19_0 : ¬ p0.toInt = 0 := z_ne s19_0
    have zs19_1 : ¬ p0.toInt = 1 := z_ne s19_1
    have zs19_2 : p0.toInt = 2 := z_eq s19_2
    refine W.widen (k := 0) (n := 0) (Nat.le_of_ble_eq_true rfl) (Nat.le_of_ble_eq_true rfl) ?_
    exact W.iret (v := 0) hx hb hr (fun t ht hW => ⟨⟨0, (), rfl, (fun _ => (show 0 = vf_count p0 by unfold vf_count; first | rfl | (split <;> first | rfl | (exfalso; omega)))), 0, 0, (-1), 0, q_72, (show kf_count p0 = 0 by unfold kf_count; first | rfl | (split <;> first | rfl | (exfalso; omega))).symm, by rw [ht]; exact hP, va_K.moved hW.alike hK, hD⟩, hS.F ht⟩) hS.2.2 dX19_count_100
  by_cases s19_3 : p0 = 3
  · refine lv_tableIn (off := 82) (tgt := 101) hx hb dX19_count_19 (by rw [s19_3]; decide) (by rw [s19_3]; decide) (by rw [s19_3]; decide) (by decide) ?_
    refine lv_iload_n hx hb dX19_count_101 rfl (lv_at hl 0 rfl) ?_
    refine lv_if_eq (tgt := 115) hx hb dX19_count_102 (by decide) (fun _ => ?_) (fun h9 => absurd h9 (by decide))
    refine lv_iconst (v := 0) hx hb dX19_count_115 (by decide) ?_
    have zs19_0 : ¬ p0.toInt = 0 := z_ne s19_0
    have zs19_1 : ¬ p0.toInt = 1 := z_ne s19_1
    have zs19_2 : ¬ p0.toInt = 2 := z_ne s19_2
    have zs19_3 : p0.toInt = 3 := z_eq s19_3
    refine W.widen (k := 0) (n := 0) (Nat.le_of_ble_eq_true rfl) (Nat.le_of_ble_eq_true rfl) ?_
    exact W.iret (v := 0) hx hb hr (fun t ht hW => ⟨⟨0, (), rfl, (fun _ => (show 0 = vf_count p0 by unfold vf_count; first | rfl | (split <;> first | rfl | (exfalso; omega)))), 0, 0, (-1), 0, q_72, (show kf_count p0 = 0 by unfold kf_count; first | rfl | (split <;> first | rfl | (exfalso; omega))).symm, by rw [ht]; exact hP, va_K.moved hW.alike hK, hD⟩, hS.F ht⟩) hS.2.2 dX19_count_116
  by_cases s19_4 : p0 = 4
  · refine lv_tableIn (off := 98) (tgt := 117) hx hb dX19_count_19 (by rw [s19_4]; decide) (by rw [s19_4]; decide) (by rw [s19_4]; decide) (by decide) ?_
    refine lv_iload_n hx hb dX19_count_117 rfl (lv_at hl 0 rfl) ?_
    refine lv_if_ne (tgt := 123) hx hb dX19_count_118 (by decide) (fun h9 => absurd h9 (by decide)) (fun _ => ?_)
    refine lv_iconst (v := 0) hx hb dX19_count_121 (by decide) ?_
    have zs19_0 : ¬ p0.toInt = 0 := z_ne s19_0
    have zs19_1 : ¬ p0.toInt = 1 := z_ne s19_1
    have zs19_2 : ¬ p0.toInt = 2 := z_ne s19_2
    have zs19_3 : ¬ p0.toInt = 3 := z_ne s19_3
    have zs19_4 : p0.toInt = 4 := z_eq s19_4
    refine W.widen (k := 0) (n := 0) (Nat.le_of_ble_eq_true rfl) (Nat.le_of_ble_eq_true rfl) ?_
    exact W.iret (v := 0) hx hb hr (fun t ht hW => ⟨⟨0, (), rfl, (fun _ => (show 0 = vf_count p0 by unfold vf_count; first | rfl | (split <;> first | rfl | (exfalso; omega)))), 0, 0, (-1), 0, q_72, (show kf_count p0 = 0 by unfold kf_count; first | rfl | (split <;> first | rfl | (exfalso; omega))).symm, by rw [ht]; exact hP, va_K.moved hW.alike hK, hD⟩, hS.F ht⟩) hS.2.2 dX19_count_122
  by_cases s19_5 : p0 = 5
  · refine lv_tableIn (off := 134) (tgt := 153) hx hb dX19_count_19 (by rw [s19_5]; decide) (by rw [s19_5]; decide) (by rw [s19_5]; decide) (by decide) ?_
    refine lv_aload_n hx hb dX19_count_153 rfl (lv_at hl 1 rfl) ?_
    refine va_get (D := (dC, dI)) (ci := 16) (v := .int 0) (C := RX19) (T := TX19) (N := 41) hx hb hts mem_X19_count_0 hown hK hP 0 rfl rfl 37 (by decide) (ow (k := 2) rfl) (fun _ h9 => h9) rfl dX19_count_154 ?_
    have zs19_0 : ¬ p0.toInt = 0 := z_ne s19_0
    have zs19_1 : ¬ p0.toInt = 1 := z_ne s19_1
    have zs19_2 : ¬ p0.toInt = 2 := z_ne s19_2
    have zs19_3 : ¬ p0.toInt = 3 := z_ne s19_3
    have zs19_4 : ¬ p0.toInt = 4 := z_ne s19_4
    have zs19_5 : p0.toInt = 5 := z_eq s19_5
    refine W.widen (k := 0) (n := 0) (Nat.le_of_ble_eq_true rfl) (Nat.le_of_ble_eq_true rfl) ?_
    exact W.iret (v := 0) hx hb hr (fun t ht hW => ⟨⟨0, (), rfl, (fun _ => (show 0 = vf_count p0 by unfold vf_count; first | rfl | (split <;> first | rfl | (exfalso; omega)))), 0, 0, (-1), 0, q_72, (show kf_count p0 = 0 by unfold kf_count; first | rfl | (split <;> first | rfl | (exfalso; omega))).symm, by rw [ht]; exact hP, va_K.moved hW.alike hK, hD⟩, hS.F ht⟩) hS.2.2 dX19_count_157
  by_cases s19_6 : p0 = 6
  · refine lv_tableIn (off := 139) (tgt := 158) hx hb dX19_count_19 (by rw [s19_6]; decide) (by rw [s19_6]; decide) (by rw [s19_6]; decide) (by decide) ?_
    refine lv_aload_n hx hb dX19_count_158 rfl (lv_at hl 1 rfl) ?_
    refine va_get (D := (dC, dI)) (ci := 16) (v := .int 0) (C := RX19) (T := TX19) (N := 41) hx hb hts mem_X19_count_0 hown hK hP 0 rfl rfl 38 (by decide) (ow (k := 3) rfl) (fun _ h9 => h9) rfl dX19_count_159 ?_
    have zs19_0 : ¬ p0.toInt = 0 := z_ne s19_0
    have zs19_1 : ¬ p0.toInt = 1 := z_ne s19_1
    have zs19_2 : ¬ p0.toInt = 2 := z_ne s19_2
    have zs19_3 : ¬ p0.toInt = 3 := z_ne s19_3
    have zs19_4 : ¬ p0.toInt = 4 := z_ne s19_4
    have zs19_5 : ¬ p0.toInt = 5 := z_ne s19_5
    have zs19_6 : p0.toInt = 6 := z_eq s19_6
    refine W.widen (k := 0) (n := 0) (Nat.le_of_ble_eq_true rfl) (Nat.le_of_ble_eq_true rfl) ?_
    exact W.iret (v := 0) hx hb hr (fun t ht hW => ⟨⟨0, (), rfl, (fun _ => (show 0 = vf_count p0 by unfold vf_count; first | rfl | (split <;> first | rfl | (exfalso; omega)))), 0, 0, (-1), 0, q_72, (show kf_count p0 = 0 by unfold kf_count; first | rfl | (split <;> first | rfl | (exfalso; omega))).symm, by rw [ht]; exact hP, va_K.moved hW.alike hK, hD⟩, hS.F ht⟩) hS.2.2 dX19_count_162
  by_cases s19_7 : p0 = 7
  · refine lv_tableIn (off := 144) (tgt := 163) hx hb dX19_count_19 (by rw [s19_7]; decide) (by rw [s19_7]; decide) (by rw [s19_7]; decide) (by decide) ?_
    refine lv_aload_n hx hb dX19_count_163 rfl (lv_at hl 1 rfl) ?_
    refine va_get (D := (dC, dI)) (ci := 16) (v := .int 0) (C := RX19) (T := TX19) (N := 41) hx hb hts mem_X19_count_0 hown hK hP 0 rfl rfl 35 (by decide) (ow (k := 4) rfl) (fun _ h9 => h9) rfl dX19_count_164 ?_
    have zs19_0 : ¬ p0.toInt = 0 := z_ne s19_0
    have zs19_1 : ¬ p0.toInt = 1 := z_ne s19_1
    have zs19_2 : ¬ p0.toInt = 2 := z_ne s19_2
    have zs19_3 : ¬ p0.toInt = 3 := z_ne s19_3
    have zs19_4 : ¬ p0.toInt = 4 := z_ne s19_4
    have zs19_5 : ¬ p0.toInt = 5 := z_ne s19_5
    have zs19_6 : ¬ p0.toInt = 6 := z_ne s19_6
    have zs19_7 : p0.toInt = 7 := z_eq s19_7
    refine W.widen (k := 0) (n := 0) (Nat.le_of_ble_eq_true rfl) (Nat.le_of_ble_eq_true rfl) ?_
    exact W.iret (v := 0) hx hb hr (fun t ht hW => ⟨⟨0, (), rfl, (fun _ => (show 0 = vf_count p0 by unfold vf_count; first | rfl | (split <;> first | rfl | (exfalso; omega)))), 0, 0, (-1), 0, q_72, (show kf_count p0 = 0 by unfold kf_count; first | rfl | (split <;> first | rfl | (exfalso; omega))).symm, by rw [ht]; exact hP, va_K.moved hW.alike hK, hD⟩, hS.F ht⟩) hS.2.2 dX19_count_167
  have zs19_0 : ¬ p0.toInt = 0 := z_ne s19_0
  have zs19_1 : ¬ p0.toInt = 1 := z_ne s19_1
  have zs19_2 : ¬ p0.toInt = 2 := z_ne s19_2
  have zs19_3 : ¬ p0.toInt = 3 := z_ne s19_3
  have zs19_4 : ¬ p0.toInt = 4 := z_ne s19_4
  have zs19_5 : ¬ p0.toInt = 5 := z_ne s19_5
  have zs19_6 : ¬ p0.toInt = 6 := z_ne s19_6
  have zs19_7 : ¬ p0.toInt = 7 := z_ne s19_7
  refine lv_tableOut (tgt := 168) hx hb dX19_count_19 (show p0.toInt < 0 ∨ 7 < p0.toInt by omega) (by decide) ?_
  refine lv_aload_n hx hb dX19_count_168 rfl (lv_at hl 1 rfl) ?_
  refine lv_iconst (v := 1) hx hb dX19_count_169 (by decide) ?_
  have hPc := hP.sub (ws' := [(h0, .inr (16, [.ref q_1, .ref q_12, .ref q_17, .ref q_22, .ref q_24, .ref q_26, .ref q_28, .ref q_29, .ref q_31, .ref q_33, .ref q_35, .int 0, .ref q_37, .ref q_39, .ref q_41, .ref q_43, .ref q_45, .ref q_47, .ref q_49, .ref q_51, .ref q_53, .ref q_55, .ref q_57, .int 0, .ref q_59, .ref q_61, .ref q_63, .int (-1), .int 0, .int 0, .int 0, .int 0, .ref q_65, .int 0, .ref q_68, .int 0, .int (-1), .int 0, .int 0, .ref q_70, .ref q_72]))]) [0] rfl
  have hDc := hD.sub (ws' := [(h0, .inr (16, [.ref q_1, .ref q_12, .ref q_17, .ref q_22, .ref q_24, .ref q_26, .ref q_28, .ref q_29, .ref q_31, .ref q_33, .ref q_35, .int 0, .ref q_37, .ref q_39, .ref q_41, .ref q_43, .ref q_45, .ref q_47, .ref q_49, .ref q_51, .ref q_53, .ref q_55, .ref q_57, .int 0, .ref q_59, .ref q_61, .ref q_63, .int (-1), .int 0, .int 0, .int 0, .int 0, .ref q_65, .int 0, .ref q_68, .int 0, .int (-1), .int 0, .int 0, .ref q_70, .ref q_72]))]) [0] (by decide) rfl
  have hKc := hK.sub (tys' := []) [] rfl
  have hFc := va_free (wc := [(h0, .inr (16, [.ref q_1, .ref q_12, .ref q_17, .ref q_22, .ref q_24, .ref q_26, .ref q_28, .ref q_29, .ref q_31, .ref q_33, .ref q_35, .int 0, .ref q_37, .ref q_39, .ref q_41, .ref q_43, .ref q_45, .ref q_47, .ref q_49, .ref q_51, .ref q_53, .ref q_55, .ref q_57, .int 0, .ref q_59, .ref q_61, .ref q_63, .int (-1), .int 0, .int 0, .int 0, .int 0, .ref q_65, .int 0, .ref q_68, .int 0, .int (-1), .int 0, .int 0, .ref q_70, .ref q_72]))]) hD hS hA [0] rfl
  refine va_calli (va_runV (As := [.int 1]) (rest := []) ⟨hx, hb, hml, hown, hts⟩ (c_X19_no l dC dI h0 q_1 q_12 q_17 q_22 q_24 q_26 q_28 q_29 q_31 q_33 q_35 q_37 q_39 q_41 q_43 q_45 q_47 q_49 q_51 q_53 q_55 q_57 q_59 q_61 q_63 q_65 q_68 q_70 q_72 1 H.size) (cwV 1 hts g_X19_count_X19_no rfl rfl rfl (by decide +kernel) ⟨(Nat.le_of_ble_eq_true rfl), (Nat.le_of_ble_eq_true rfl)⟩) ⟨fun a U g mk q => by obtain ⟨q0, q1, qP, qK, qD⟩ := q; exact ⟨q0, q1, qP, va_K.moved (u := U) (U := U.calling g mk a) (Vm.Alike.refl U.vm) qK, qD⟩, va_recv hKc hPc (ci := 16) (q0 := 0) rfl rfl, fun U hU hW => ⟨rfl, by rw [hU], by rw [hU]; exact hPc, va_K.moved hW.alike hKc, hDc.weaken (fun _ _ _ _ => trivial)⟩⟩ rfl rfl hl.1 rfl (lv_room (Nat.le_of_ble_eq_true rfl)) dX19_count_170 ⟨(Nat.le_of_ble_eq_true rfl), (Nat.le_of_ble_eq_true rfl)⟩) hS (fun q _ h => hFc q h) hFc (fun r_2001 u t H1 locs ht hvm hw hB hz1 hk1 hS => ?_)
  obtain ⟨hP1, hK1, hD1⟩ := hB
  rw [ht] at hP1
  have hK1 := va_K.moved hvm.symm hK1
  obtain ⟨hP, hD⟩ := va_join (wr := []) (w1 := [(h0, .inr (16, [.ref q_1, .ref q_12, .ref q_17, .ref q_22, .ref q_24, .ref q_26, .ref q_28, .ref q_29, .ref q_31, .ref q_33, .ref q_35, .int 0, .ref q_37, .ref q_39, .ref q_41, .ref q_43, .ref q_45, .ref q_47, .ref q_49, .ref q_51, .ref q_53, .ref q_55, .ref q_57, .int 0, .ref q_59, .ref q_61, .ref q_63, .int (-1), .int 0, .int 0, .int 0, .int 0, .ref q_65, .int 1, .ref q_68, .int 0, .int (-1), .int 0, .int 0, .ref q_70, .ref q_72]))]) hP hD [0] [] rfl rfl (by decide) (by decide) hk1 hFc hP1 hD1
  have hK := (hK.sub (tys' := []) [] rfl).app hK1
  generalize H1 = H at hP hS ⊢
  have hP : va_P (dC, dI) vwP [(h0, .inr (16, [.ref q_1, .ref q_12, .ref q_17, .ref q_22, .ref q_24, .ref q_26, .ref q_28, .ref q_29, .ref q_31, .ref q_33, .ref q_35, .int 0, .ref q_37, .ref q_39, .ref q_41, .ref q_43, .ref q_45, .ref q_47, .ref q_49, .ref q_51, .ref q_53, .ref q_55, .ref q_57, .int 0, .ref q_59, .ref q_61, .ref q_63, .int (-1), .int 0, .int 0, .int 0, .int 0, .ref q_65, .int 1, .ref q_68, .int 0, .int (-1), .int 0, .int 0, .ref q_70, .ref q_72]))] H := hP
  have hD : va_D A [(h0, .inr (16, [.ref q_1, .ref q_12, .ref q_17, .ref q_22, .ref q_24, .ref q_26, .ref q_28, .ref q_29, .ref q_31, .ref q_33, .ref q_35, .int 0, .ref q_37, .ref q_39, .ref q_41, .ref q_43, .ref q_45, .ref q_47, .ref q_49, .ref q_51, .ref q_53, .ref q_55, .ref q_57, .int 0, .ref q_59, .ref q_61, .ref q_63, .int (-1), .int 0, .int 0, .int 0, .int 0, .ref q_65, .int 1, .ref q_68, .int 0, .int (-1), .int 0, .int 0, .ref q_70, .ref q_72]))] := hD
  have hK : va_K (dC, dI) vwP [] s := hK
  refine W.widen (k := 0) (n := 0) (Nat.le_of_ble_eq_true rfl) (Nat.le_of_ble_eq_true rfl) ?_
  obtain rfl : r_2001 = 0 := hw
  have zs19_0 : ¬ p0.toInt = 0 := z_ne s19_0
  have zs19_1 : ¬ p0.toInt = 1 := z_ne s19_1
  have zs19_2 : ¬ p0.toInt = 2 := z_ne s19_2
  have zs19_3 : ¬ p0.toInt = 3 := z_ne s19_3
  have zs19_4 : ¬ p0.toInt = 4 := z_ne s19_4
  have zs19_5 : ¬ p0.toInt = 5 := z_ne s19_5
  have zs19_6 : ¬ p0.toInt = 6 := z_ne s19_6
  have zs19_7 : ¬ p0.toInt = 7 := z_ne s19_7
  refine W.widen (k := 0) (n := 0) (Nat.le_of_ble_eq_true rfl) (Nat.le_of_ble_eq_true rfl) ?_
  exact W.iret (v := 0) hx hb hr (fun t ht hW => ⟨⟨0, (), rfl, (fun h9 => absurd ((show kf_count p0 = 1 by unfold kf_count; first | rfl | (split <;> first | rfl | (exfalso; omega))).symm.trans h9) (by decide)), 1, 0, (-1), 0, q_72, (show kf_count p0 = 1 by unfold kf_count; first | rfl | (split <;> first | rfl | (exfalso; omega))).symm, by rw [ht]; exact hP, va_K.moved hW.alike hK, hD⟩, hS.F ht⟩) hS.2.2 dX19_count_173
theorem dX19_block_0 : decode cX19_block 0 = .ok (.aload_n 0, 1) := by decide +kernel
theorem dX19_block_1 : decode cX19_block 1 = .ok (.iconst 0, 1) := by decide +kernel
theorem dX19_block_2 : decode cX19_block 2 = .ok (.putfield 560, 3) := by decide +kernel
theorem dX19_block_5 : decode cX19_block 5 = .ok (.iload_n 2, 1) := by decide +kernel
theorem dX19_block_6 : decode cX19_block 6 = .ok (.ifCond .lt 8, 3) := by decide +kernel
theorem dX19_block_14 : decode cX19_block 14 = .ok (.aload_n 0, 1) := by decide +kernel
theorem dX19_block_15 : decode cX19_block 15 = .ok (.iconst 1, 1) := by decide +kernel
theorem dX19_block_16 : decode cX19_block 16 = .ok (.invokevirtual 565, 3) := by decide +kernel
theorem dX19_block_19 : decode cX19_block 19 = .ok (.ireturn, 1) := by decide +kernel
theorem dX19_block_9 : decode cX19_block 9 = .ok (.iload_n 2, 1) := by decide +kernel
theorem dX19_block_10 : decode cX19_block 10 = .ok (.iconst 4, 1) := by decide +kernel
theorem dX19_block_11 : decode cX19_block 11 = .ok (.if_icmp .le 9, 3) := by decide +kernel
theorem dX19_block_20 : decode cX19_block 20 = .ok (.aload_n 0, 1) := by decide +kernel
theorem dX19_block_21 : decode cX19_block 21 = .ok (.getfield 555, 3) := by decide +kernel
theorem dX19_block_24 : decode cX19_block 24 = .ok (.ifCond .lt 18, 3) := by decide +kernel
theorem dX19_block_42 : decode cX19_block 42 = .ok (.aload_n 0, 1) := by decide +kernel
theorem dX19_block_43 : decode cX19_block 43 = .ok (.iconst 2, 1) := by decide +kernel
theorem dX19_block_44 : decode cX19_block 44 = .ok (.invokevirtual 565, 3) := by decide +kernel
theorem dX19_block_47 : decode cX19_block 47 = .ok (.ireturn, 1) := by decide +kernel
def o_X19_block : List Cond := [.fieldLink RX19 560 "SsaForgeModel" "thrown" "I", .methodLink RX19 565 yX19_no, .instanceMethod yX19_no, .selects RX19 yX19_no yX19_no, .initialized RX19, .fieldLink RX19 555 "SsaForgeModel" "form" "I"]
def v_X19_block : List Cond := .code yX19_block cX19_block 5 (some .int) :: (o_X19_block ++ (wsX190 ++ (v_X19_no ++ [])))
theorem mow_X19_block : ∀ w ∈ o_X19_block, w ∈ v_X19_block := fun _ h => List.mem_cons_of_mem _ (List.mem_append_left _ h)
theorem mem_X19_block_0 : ∀ w ∈ wsX190, w ∈ v_X19_block := fun _ h => List.mem_cons_of_mem _ (List.mem_append_right _ (List.mem_append_left _ h))
theorem mem_X19_block_1 : ∀ w ∈ v_X19_no, w ∈ v_X19_block := fun _ h => List.mem_cons_of_mem _ (List.mem_append_right _ (List.mem_append_right _ (List.mem_append_left _ h)))
set_option maxRecDepth 20000 in
theorem gw_X19_block : v_X19_block.all goodWord = true := by decide +kernel
set_option maxRecDepth 20000 in
theorem g_X19_block_X19_no : GoodIn v_X19_block (wsV RX19 565 RX19 yX19_no v_X19_no) := goodIn_app (goodIn_sub (fun w h => mow_X19_block w (by revert w h; decide +kernel)) (by decide +kernel)) (goodIn_sub mem_X19_block_1 gw_X19_no)
set_option maxHeartbeats 4000000 in
set_option maxRecDepth 100000 in
theorem c_X19_block (l : Launch) (dC : Nat → ClassId) (dI : Nat → Nat → Nat) (h0 : Nat) (q_1 : Nat) (q_12 : Nat) (q_17 : Nat) (q_22 : Nat) (q_24 : Nat) (q_26 : Nat) (q_28 : Nat) (q_29 : Nat) (q_31 : Nat) (q_33 : Nat) (q_35 : Nat) (q_37 : Nat) (q_39 : Nat) (q_41 : Nat) (q_43 : Nat) (q_45 : Nat) (q_47 : Nat) (q_49 : Nat) (q_51 : Nat) (q_53 : Nat) (q_55 : Nat) (q_57 : Nat) (q_59 : Nat) (q_61 : Nat) (q_63 : Nat) (q_65 : Nat) (q_68 : Nat) (q_70 : Nat) (q_72 : Nat) (p0 : Int32) (p1 : Int32) (sz : Nat) : Met l yX19_block v_X19_block ({ frames := 1, cells := 0, slots := 0, locals := 21 }) (va_Pc [.ref h0, .int p0, .int p1] (fun U => U.heap.size = sz ∧ va_P (dC, dI) vwP [(h0, .inr (16, [.ref q_1, .ref q_12, .ref q_17, .ref q_22, .ref q_24, .ref q_26, .ref q_28, .ref q_29, .ref q_31, .ref q_33, .ref q_35, .int 0, .ref q_37, .ref q_39, .ref q_41, .ref q_43, .ref q_45, .ref q_47, .ref q_49, .ref q_51, .ref q_53, .ref q_55, .ref q_57, .int 0, .ref q_59, .ref q_61, .ref q_63, .int (-1), .int 0, .int 0, .int 0, .int 0, .ref q_65, .int 0, .ref q_68, .int 0, .int (-1), .int 0, .int 0, .ref q_70, .ref q_72]))] U.heap ∧ va_K (dC, dI) vwP [] U ∧ va_D (fun _ => True) [(h0, .inr (16, [.ref q_1, .ref q_12, .ref q_17, .ref q_22, .ref q_24, .ref q_26, .ref q_28, .ref q_29, .ref q_31, .ref q_33, .ref q_35, .int 0, .ref q_37, .ref q_39, .ref q_41, .ref q_43, .ref q_45, .ref q_47, .ref q_49, .ref q_51, .ref q_53, .ref q_55, .ref q_57, .int 0, .ref q_59, .ref q_61, .ref q_63, .int (-1), .int 0, .int 0, .int 0, .int 0, .ref q_65, .int 0, .ref q_68, .int 0, .int (-1), .int 0, .int 0, .ref q_70, .ref q_72]))])) (va_Qi (fun (r : Int32) (_ : Unit) => kf_block p1 = 0 → r = vf_block) (fun (_ : Unit) (t : State) => ∃ (i_33 : Int32) (i_35 : Int32) (i_36 : Int32) (i_37 : Int32) (q_940 : Nat), (i_33 = kf_block p1) ∧ va_P (dC, dI) vwP [(h0, .inr (16, [.ref q_1, .ref q_12, .ref q_17, .ref q_22, .ref q_24, .ref q_26, .ref q_28, .ref q_29, .ref q_31, .ref q_33, .ref q_35, .int 0, .ref q_37, .ref q_39, .ref q_41, .ref q_43, .ref q_45, .ref q_47, .ref q_49, .ref q_51, .ref q_53, .ref q_55, .ref q_57, .int 0, .ref q_59, .ref q_61, .ref q_63, .int (-1), .int 0, .int 0, .int 0, .int 0, .ref q_65, .int i_33, .ref q_68, .int i_35, .int i_36, .int i_37, .int 0, .ref q_70, .ref q_940]))] t.heap ∧ va_K (dC, dI) vwP [] t ∧ va_D (va_A [(h0, .inr (16, [.ref q_1, .ref q_12, .ref q_17, .ref q_22, .ref q_24, .ref q_26, .ref q_28, .ref q_29, .ref q_31, .ref q_33, .ref q_35, .int 0, .ref q_37, .ref q_39, .ref q_41, .ref q_43, .ref q_45, .ref q_47, .ref q_49, .ref q_51, .ref q_53, .ref q_55, .ref q_57, .int 0, .ref q_59, .ref q_61, .ref q_63, .int (-1), .int 0, .int 0, .int 0, .int 0, .ref q_65, .int 0, .ref q_68, .int 0, .int (-1), .int 0, .int 0, .ref q_70, .ref q_72]))] sz) [(h0, .inr (16, [.ref q_1, .ref q_12, .ref q_17, .ref q_22, .ref q_24, .ref q_26, .ref q_28, .ref q_29, .ref q_31, .ref q_33, .ref q_35, .int 0, .ref q_37, .ref q_39, .ref q_41, .ref q_43, .ref q_45, .ref q_47, .ref q_49, .ref q_51, .ref q_53, .ref q_55, .ref q_57, .int 0, .ref q_59, .ref q_61, .ref q_63, .int (-1), .int 0, .int 0, .int 0, .int 0, .ref q_65, .int i_33, .ref q_68, .int i_35, .int i_36, .int i_37, .int 0, .ref q_70, .ref q_940]))]) (va_A [(h0, .inr (16, [.ref q_1, .ref q_12, .ref q_17, .ref q_22, .ref q_24, .ref q_26, .ref q_28, .ref q_29, .ref q_31, .ref q_33, .ref q_35, .int 0, .ref q_37, .ref q_39, .ref q_41, .ref q_43, .ref q_45, .ref q_47, .ref q_49, .ref q_51, .ref q_53, .ref q_55, .ref q_57, .int 0, .ref q_59, .ref q_61, .ref q_63, .int (-1), .int 0, .int 0, .int 0, .int 0, .ref q_65, .int 0, .ref q_68, .int 0, .int (-1), .int 0, .int 0, .ref q_70, .ref q_72]))] sz)) 0 0 (va_A [(h0, .inr (16, [.ref q_1, .ref q_12, .ref q_17, .ref q_22, .ref q_24, .ref q_26, .ref q_28, .ref q_29, .ref q_31, .ref q_33, .ref q_35, .int 0, .ref q_37, .ref q_39, .ref q_41, .ref q_43, .ref q_45, .ref q_47, .ref q_49, .ref q_51, .ref q_53, .ref q_55, .ref q_57, .int 0, .ref q_59, .ref q_61, .ref q_63, .int (-1), .int 0, .int 0, .int 0, .int 0, .ref q_65, .int 0, .ref q_68, .int 0, .int (-1), .int 0, .int 0, .ref q_70, .ref q_72]))] sz) := by
  refine Met.ofW (cc := cX19_block) (maxL := 5) (ret := (some .int)) (by decide) rfl ?_
  intro p e s m args below meth c s₁ B hml hv
  obtain ⟨rfl, hsz, hP, hK, hD0⟩ := hv
  have hx := B.exec
  have hb := B.bytes
  have hr := B.returns
  have hts := atoms_spec (ws := v_X19_block) B.pre
  have hown : s.vm.findClass RX19 = some m.cls := findClass_of_methodNamed B.named
  have hlocks := B.notSynchronized
  have ow : ∀ {k : Nat} {w : Cond}, o_X19_block[k]? = some w → w.before ([.ref h0, .int p0, .int p1] : List Value).toArray s = true := fun h => hts _ (mow_X19_block _ (List.mem_of_getElem? h))
  subst hsz
  have hD := hD0.self (sz := s.heap.size)
  generalize hAe : va_A [(h0, .inr (16, [.ref q_1, .ref q_12, .ref q_17, .ref q_22, .ref q_24, .ref q_26, .ref q_28, .ref q_29, .ref q_31, .ref q_33, .ref q_35, .int 0, .ref q_37, .ref q_39, .ref q_41, .ref q_43, .ref q_45, .ref q_47, .ref q_49, .ref q_51, .ref q_53, .ref q_55, .ref q_57, .int 0, .ref q_59, .ref q_61, .ref q_63, .int (-1), .int 0, .int 0, .int 0, .int 0, .ref q_65, .int 0, .ref q_68, .int 0, .int (-1), .int 0, .int 0, .ref q_70, .ref q_72]))] s.heap.size = A at hD ⊢
  have hA : ∀ q : Nat, s.heap.size ≤ q → A q := fun q h => by rw [← hAe]; exact Or.inr h
  have hS : va_S A s.heap s.heap [] := va_S.rf
  have hP : va_P (dC, dI) vwP [(h0, .inr (16, [.ref q_1, .ref q_12, .ref q_17, .ref q_22, .ref q_24, .ref q_26, .ref q_28, .ref q_29, .ref q_31, .ref q_33, .ref q_35, .int 0, .ref q_37, .ref q_39, .ref q_41, .ref q_43, .ref q_45, .ref q_47, .ref q_49, .ref q_51, .ref q_53, .ref q_55, .ref q_57, .int 0, .ref q_59, .ref q_61, .ref q_63, .int (-1), .int 0, .int 0, .int 0, .int 0, .ref q_65, .int 0, .ref q_68, .int 0, .int (-1), .int 0, .int 0, .ref q_70, .ref q_72]))] s.heap := hP
  have hl := lv_entry ([.ref h0, .int p0, .int p1]) (n := 5) (Nat.le_of_ble_eq_true rfl)
  rw [lg_entry_eq]
  generalize (lg_sl ([.ref h0, .int p0, .int p1]) ++ List.replicate (5 - (lg_sl ([.ref h0, .int p0, .int p1])).length) Slot.unset).toArray = ls at hl ⊢
  have hl : lv_has ls 5 [(0, .ref h0), (1, .int p0), (2, .int p1)] := hl
  obtain ⟨H, hH⟩ : ∃ H, H = s.heap := ⟨_, rfl⟩
  rw [← hH] at hP
  have hS : va_S A s.heap H [] := by rw [hH]; exact hS
  rw [← hH]
  refine lv_aload_n hx hb dX19_block_0 rfl (lv_at hl 0 rfl) ?_
  refine lv_iconst (v := 0) hx hb dX19_block_1 (by decide) ?_
  refine va_put (D := (dC, dI)) (ci := 16) (v := .int 0) (ty := .int) (C := RX19) (T := TX19) (N := 41) hx hb hts mem_X19_block_0 tyX19 tyX19_ok nmX19 hown hK hP hD hS 0 rfl rfl 33 (by decide) (ow (k := 0) rfl) (fun _ h9 => h9) rfl (by decide +kernel) rfl rfl (Nat.le_of_ble_eq_true rfl) dX19_block_2 (fun H locs hP hD hS => ?_)
  have hP : va_P (dC, dI) vwP [(h0, .inr (16, [.ref q_1, .ref q_12, .ref q_17, .ref q_22, .ref q_24, .ref q_26, .ref q_28, .ref q_29, .ref q_31, .ref q_33, .ref q_35, .int 0, .ref q_37, .ref q_39, .ref q_41, .ref q_43, .ref q_45, .ref q_47, .ref q_49, .ref q_51, .ref q_53, .ref q_55, .ref q_57, .int 0, .ref q_59, .ref q_61, .ref q_63, .int (-1), .int 0, .int 0, .int 0, .int 0, .ref q_65, .int 0, .ref q_68, .int 0, .int (-1), .int 0, .int 0, .ref q_70, .ref q_72]))] H := hP
  have hD : va_D A [(h0, .inr (16, [.ref q_1, .ref q_12, .ref q_17, .ref q_22, .ref q_24, .ref q_26, .ref q_28, .ref q_29, .ref q_31, .ref q_33, .ref q_35, .int 0, .ref q_37, .ref q_39, .ref q_41, .ref q_43, .ref q_45, .ref q_47, .ref q_49, .ref q_51, .ref q_53, .ref q_55, .ref q_57, .int 0, .ref q_59, .ref q_61, .ref q_63, .int (-1), .int 0, .int 0, .int 0, .int 0, .ref q_65, .int 0, .ref q_68, .int 0, .int (-1), .int 0, .int 0, .ref q_70, .ref q_72]))] := hD
  refine lv_iload_n hx hb dX19_block_5 rfl (lv_at hl 2 rfl) ?_
  refine lv_if_lt (tgt := 14) hx hb dX19_block_6 (by decide) (fun b6 => ?_) (fun b6 => ?_)
  · refine lv_aload_n hx hb dX19_block_14 rfl (lv_at hl 0 rfl) ?_
    refine lv_iconst (v := 1) hx hb dX19_block_15 (by decide) ?_
    have hPc := hP.sub (ws' := [(h0, .inr (16, [.ref q_1, .ref q_12, .ref q_17, .ref q_22, .ref q_24, .ref q_26, .ref q_28, .ref q_29, .ref q_31, .ref q_33, .ref q_35, .int 0, .ref q_37, .ref q_39, .ref q_41, .ref q_43, .ref q_45, .ref q_47, .ref q_49, .ref q_51, .ref q_53, .ref q_55, .ref q_57, .int 0, .ref q_59, .ref q_61, .ref q_63, .int (-1), .int 0, .int 0, .int 0, .int 0, .ref q_65, .int 0, .ref q_68, .int 0, .int (-1), .int 0, .int 0, .ref q_70, .ref q_72]))]) [0] rfl
    have hDc := hD.sub (ws' := [(h0, .inr (16, [.ref q_1, .ref q_12, .ref q_17, .ref q_22, .ref q_24, .ref q_26, .ref q_28, .ref q_29, .ref q_31, .ref q_33, .ref q_35, .int 0, .ref q_37, .ref q_39, .ref q_41, .ref q_43, .ref q_45, .ref q_47, .ref q_49, .ref q_51, .ref q_53, .ref q_55, .ref q_57, .int 0, .ref q_59, .ref q_61, .ref q_63, .int (-1), .int 0, .int 0, .int 0, .int 0, .ref q_65, .int 0, .ref q_68, .int 0, .int (-1), .int 0, .int 0, .ref q_70, .ref q_72]))]) [0] (by decide) rfl
    have hKc := hK.sub (tys' := []) [] rfl
    have hFc := va_free (wc := [(h0, .inr (16, [.ref q_1, .ref q_12, .ref q_17, .ref q_22, .ref q_24, .ref q_26, .ref q_28, .ref q_29, .ref q_31, .ref q_33, .ref q_35, .int 0, .ref q_37, .ref q_39, .ref q_41, .ref q_43, .ref q_45, .ref q_47, .ref q_49, .ref q_51, .ref q_53, .ref q_55, .ref q_57, .int 0, .ref q_59, .ref q_61, .ref q_63, .int (-1), .int 0, .int 0, .int 0, .int 0, .ref q_65, .int 0, .ref q_68, .int 0, .int (-1), .int 0, .int 0, .ref q_70, .ref q_72]))]) hD hS hA [0] rfl
    refine va_calli (va_runV (As := [.int 1]) (rest := []) ⟨hx, hb, hml, hown, hts⟩ (c_X19_no l dC dI h0 q_1 q_12 q_17 q_22 q_24 q_26 q_28 q_29 q_31 q_33 q_35 q_37 q_39 q_41 q_43 q_45 q_47 q_49 q_51 q_53 q_55 q_57 q_59 q_61 q_63 q_65 q_68 q_70 q_72 1 H.size) (cwV 1 hts g_X19_block_X19_no rfl rfl rfl (by decide +kernel) ⟨(Nat.le_of_ble_eq_true rfl), (Nat.le_of_ble_eq_true rfl)⟩) ⟨fun a U g mk q => by obtain ⟨q0, q1, qP, qK, qD⟩ := q; exact ⟨q0, q1, qP, va_K.moved (u := U) (U := U.calling g mk a) (Vm.Alike.refl U.vm) qK, qD⟩, va_recv hKc hPc (ci := 16) (q0 := 0) rfl rfl, fun U hU hW => ⟨rfl, by rw [hU], by rw [hU]; exact hPc, va_K.moved hW.alike hKc, hDc.weaken (fun _ _ _ _ => trivial)⟩⟩ rfl rfl hl.1 rfl (lv_room (Nat.le_of_ble_eq_true rfl)) dX19_block_16 ⟨(Nat.le_of_ble_eq_true rfl), (Nat.le_of_ble_eq_true rfl)⟩) hS (fun q _ h => hFc q h) hFc (fun r_2001 u t H1 locs ht hvm hw hB hz1 hk1 hS => ?_)
    obtain ⟨hP1, hK1, hD1⟩ := hB
    rw [ht] at hP1
    have hK1 := va_K.moved hvm.symm hK1
    obtain ⟨hP, hD⟩ := va_join (wr := []) (w1 := [(h0, .inr (16, [.ref q_1, .ref q_12, .ref q_17, .ref q_22, .ref q_24, .ref q_26, .ref q_28, .ref q_29, .ref q_31, .ref q_33, .ref q_35, .int 0, .ref q_37, .ref q_39, .ref q_41, .ref q_43, .ref q_45, .ref q_47, .ref q_49, .ref q_51, .ref q_53, .ref q_55, .ref q_57, .int 0, .ref q_59, .ref q_61, .ref q_63, .int (-1), .int 0, .int 0, .int 0, .int 0, .ref q_65, .int 1, .ref q_68, .int 0, .int (-1), .int 0, .int 0, .ref q_70, .ref q_72]))]) hP hD [0] [] rfl rfl (by decide) (by decide) hk1 hFc hP1 hD1
    have hK := (hK.sub (tys' := []) [] rfl).app hK1
    generalize H1 = H at hP hS ⊢
    have hP : va_P (dC, dI) vwP [(h0, .inr (16, [.ref q_1, .ref q_12, .ref q_17, .ref q_22, .ref q_24, .ref q_26, .ref q_28, .ref q_29, .ref q_31, .ref q_33, .ref q_35, .int 0, .ref q_37, .ref q_39, .ref q_41, .ref q_43, .ref q_45, .ref q_47, .ref q_49, .ref q_51, .ref q_53, .ref q_55, .ref q_57, .int 0, .ref q_59, .ref q_61, .ref q_63, .int (-1), .int 0, .int 0, .int 0, .int 0, .ref q_65, .int 1, .ref q_68, .int 0, .int (-1), .int 0, .int 0, .ref q_70, .ref q_72]))] H := hP
    have hD : va_D A [(h0, .inr (16, [.ref q_1, .ref q_12, .ref q_17, .ref q_22, .ref q_24, .ref q_26, .ref q_28, .ref q_29, .ref q_31, .ref q_33, .ref q_35, .int 0, .ref q_37, .ref q_39, .ref q_41, .ref q_43, .ref q_45, .ref q_47, .ref q_49, .ref q_51, .ref q_53, .ref q_55, .ref q_57, .int 0, .ref q_59, .ref q_61, .ref q_63, .int (-1), .int 0, .int 0, .int 0, .int 0, .ref q_65, .int 1, .ref q_68, .int 0, .int (-1), .int 0, .int 0, .ref q_70, .ref q_72]))] := hD
    have hK : va_K (dC, dI) vwP [] s := hK
    refine W.widen (k := 0) (n := 0) (Nat.le_of_ble_eq_true rfl) (Nat.le_of_ble_eq_true rfl) ?_
    obtain rfl : r_2001 = 0 := hw
    have zb6 : p1.toInt < 0 := z_lt b6
    refine W.widen (k := 0) (n := 0) (Nat.le_of_ble_eq_true rfl) (Nat.le_of_ble_eq_true rfl) ?_
    exact W.iret (v := 0) hx hb hr (fun t ht hW => ⟨⟨0, (), rfl, (fun h9 => absurd ((show kf_block p1 = 1 by unfold kf_block; first | rfl | (split <;> first | rfl | (exfalso; omega))).symm.trans h9) (by decide)), 1, 0, (-1), 0, q_72, (show kf_block p1 = 1 by unfold kf_block; first | rfl | (split <;> first | rfl | (exfalso; omega))).symm, by rw [ht]; exact hP, va_K.moved hW.alike hK, hD⟩, hS.F ht⟩) hS.2.2 dX19_block_19
  · refine lv_iload_n hx hb dX19_block_9 rfl (lv_at hl 2 rfl) ?_
    refine lv_iconst (v := 4) hx hb dX19_block_10 (by decide) ?_
    refine lv_icmp_le (tgt := 20) hx hb dX19_block_11 (by decide) (fun b11 => ?_) (fun b11 => ?_)
    · refine lv_aload_n hx hb dX19_block_20 rfl (lv_at hl 0 rfl) ?_
      refine va_get (D := (dC, dI)) (ci := 16) (v := .int (-1)) (C := RX19) (T := TX19) (N := 41) hx hb hts mem_X19_block_0 hown hK hP 0 rfl rfl 36 (by decide) (ow (k := 5) rfl) (fun _ h9 => h9) rfl dX19_block_21 ?_
      refine lv_if_lt (tgt := 42) hx hb dX19_block_24 (by decide) (fun _ => ?_) (fun h9 => absurd h9 (by decide))
      refine lv_aload_n hx hb dX19_block_42 rfl (lv_at hl 0 rfl) ?_
      refine lv_iconst (v := 2) hx hb dX19_block_43 (by decide) ?_
      have hPc := hP.sub (ws' := [(h0, .inr (16, [.ref q_1, .ref q_12, .ref q_17, .ref q_22, .ref q_24, .ref q_26, .ref q_28, .ref q_29, .ref q_31, .ref q_33, .ref q_35, .int 0, .ref q_37, .ref q_39, .ref q_41, .ref q_43, .ref q_45, .ref q_47, .ref q_49, .ref q_51, .ref q_53, .ref q_55, .ref q_57, .int 0, .ref q_59, .ref q_61, .ref q_63, .int (-1), .int 0, .int 0, .int 0, .int 0, .ref q_65, .int 0, .ref q_68, .int 0, .int (-1), .int 0, .int 0, .ref q_70, .ref q_72]))]) [0] rfl
      have hDc := hD.sub (ws' := [(h0, .inr (16, [.ref q_1, .ref q_12, .ref q_17, .ref q_22, .ref q_24, .ref q_26, .ref q_28, .ref q_29, .ref q_31, .ref q_33, .ref q_35, .int 0, .ref q_37, .ref q_39, .ref q_41, .ref q_43, .ref q_45, .ref q_47, .ref q_49, .ref q_51, .ref q_53, .ref q_55, .ref q_57, .int 0, .ref q_59, .ref q_61, .ref q_63, .int (-1), .int 0, .int 0, .int 0, .int 0, .ref q_65, .int 0, .ref q_68, .int 0, .int (-1), .int 0, .int 0, .ref q_70, .ref q_72]))]) [0] (by decide) rfl
      have hKc := hK.sub (tys' := []) [] rfl
      have hFc := va_free (wc := [(h0, .inr (16, [.ref q_1, .ref q_12, .ref q_17, .ref q_22, .ref q_24, .ref q_26, .ref q_28, .ref q_29, .ref q_31, .ref q_33, .ref q_35, .int 0, .ref q_37, .ref q_39, .ref q_41, .ref q_43, .ref q_45, .ref q_47, .ref q_49, .ref q_51, .ref q_53, .ref q_55, .ref q_57, .int 0, .ref q_59, .ref q_61, .ref q_63, .int (-1), .int 0, .int 0, .int 0, .int 0, .ref q_65, .int 0, .ref q_68, .int 0, .int (-1), .int 0, .int 0, .ref q_70, .ref q_72]))]) hD hS hA [0] rfl
      refine va_calli (va_runV (As := [.int 2]) (rest := []) ⟨hx, hb, hml, hown, hts⟩ (c_X19_no l dC dI h0 q_1 q_12 q_17 q_22 q_24 q_26 q_28 q_29 q_31 q_33 q_35 q_37 q_39 q_41 q_43 q_45 q_47 q_49 q_51 q_53 q_55 q_57 q_59 q_61 q_63 q_65 q_68 q_70 q_72 2 H.size) (cwV 1 hts g_X19_block_X19_no rfl rfl rfl (by decide +kernel) ⟨(Nat.le_of_ble_eq_true rfl), (Nat.le_of_ble_eq_true rfl)⟩) ⟨fun a U g mk q => by obtain ⟨q0, q1, qP, qK, qD⟩ := q; exact ⟨q0, q1, qP, va_K.moved (u := U) (U := U.calling g mk a) (Vm.Alike.refl U.vm) qK, qD⟩, va_recv hKc hPc (ci := 16) (q0 := 0) rfl rfl, fun U hU hW => ⟨rfl, by rw [hU], by rw [hU]; exact hPc, va_K.moved hW.alike hKc, hDc.weaken (fun _ _ _ _ => trivial)⟩⟩ rfl rfl hl.1 rfl (lv_room (Nat.le_of_ble_eq_true rfl)) dX19_block_44 ⟨(Nat.le_of_ble_eq_true rfl), (Nat.le_of_ble_eq_true rfl)⟩) hS (fun q _ h => hFc q h) hFc (fun r_2002 u t H1 locs ht hvm hw hB hz1 hk1 hS => ?_)
      obtain ⟨hP1, hK1, hD1⟩ := hB
      rw [ht] at hP1
      have hK1 := va_K.moved hvm.symm hK1
      obtain ⟨hP, hD⟩ := va_join (wr := []) (w1 := [(h0, .inr (16, [.ref q_1, .ref q_12, .ref q_17, .ref q_22, .ref q_24, .ref q_26, .ref q_28, .ref q_29, .ref q_31, .ref q_33, .ref q_35, .int 0, .ref q_37, .ref q_39, .ref q_41, .ref q_43, .ref q_45, .ref q_47, .ref q_49, .ref q_51, .ref q_53, .ref q_55, .ref q_57, .int 0, .ref q_59, .ref q_61, .ref q_63, .int (-1), .int 0, .int 0, .int 0, .int 0, .ref q_65, .int 2, .ref q_68, .int 0, .int (-1), .int 0, .int 0, .ref q_70, .ref q_72]))]) hP hD [0] [] rfl rfl (by decide) (by decide) hk1 hFc hP1 hD1
      have hK := (hK.sub (tys' := []) [] rfl).app hK1
      generalize H1 = H at hP hS ⊢
      have hP : va_P (dC, dI) vwP [(h0, .inr (16, [.ref q_1, .ref q_12, .ref q_17, .ref q_22, .ref q_24, .ref q_26, .ref q_28, .ref q_29, .ref q_31, .ref q_33, .ref q_35, .int 0, .ref q_37, .ref q_39, .ref q_41, .ref q_43, .ref q_45, .ref q_47, .ref q_49, .ref q_51, .ref q_53, .ref q_55, .ref q_57, .int 0, .ref q_59, .ref q_61, .ref q_63, .int (-1), .int 0, .int 0, .int 0, .int 0, .ref q_65, .int 2, .ref q_68, .int 0, .int (-1), .int 0, .int 0, .ref q_70, .ref q_72]))] H := hP
      have hD : va_D A [(h0, .inr (16, [.ref q_1, .ref q_12, .ref q_17, .ref q_22, .ref q_24, .ref q_26, .ref q_28, .ref q_29, .ref q_31, .ref q_33, .ref q_35, .int 0, .ref q_37, .ref q_39, .ref q_41, .ref q_43, .ref q_45, .ref q_47, .ref q_49, .ref q_51, .ref q_53, .ref q_55, .ref q_57, .int 0, .ref q_59, .ref q_61, .ref q_63, .int (-1), .int 0, .int 0, .int 0, .int 0, .ref q_65, .int 2, .ref q_68, .int 0, .int (-1), .int 0, .int 0, .ref q_70, .ref q_72]))] := hD
      have hK : va_K (dC, dI) vwP [] s := hK
      refine W.widen (k := 0) (n := 0) (Nat.le_of_ble_eq_true rfl) (Nat.le_of_ble_eq_true rfl) ?_
      obtain rfl : r_2002 = 0 := hw
      have zb6 : 0 ≤ p1.toInt := z_nlt b6
      have zb11 : p1.toInt ≤ 4 := z_le b11
      refine W.widen (k := 0) (n := 0) (Nat.le_of_ble_eq_true rfl) (Nat.le_of_ble_eq_true rfl) ?_
      exact W.iret (v := 0) hx hb hr (fun t ht hW => ⟨⟨0, (), rfl, (fun h9 => absurd ((show kf_block p1 = 2 by unfold kf_block; first | rfl | (split <;> first | rfl | (exfalso; omega))).symm.trans h9) (by decide)), 2, 0, (-1), 0, q_72, (show kf_block p1 = 2 by unfold kf_block; first | rfl | (split <;> first | rfl | (exfalso; omega))).symm, by rw [ht]; exact hP, va_K.moved hW.alike hK, hD⟩, hS.F ht⟩) hS.2.2 dX19_block_47
    · refine lv_aload_n hx hb dX19_block_14 rfl (lv_at hl 0 rfl) ?_
      refine lv_iconst (v := 1) hx hb dX19_block_15 (by decide) ?_
      have hPc := hP.sub (ws' := [(h0, .inr (16, [.ref q_1, .ref q_12, .ref q_17, .ref q_22, .ref q_24, .ref q_26, .ref q_28, .ref q_29, .ref q_31, .ref q_33, .ref q_35, .int 0, .ref q_37, .ref q_39, .ref q_41, .ref q_43, .ref q_45, .ref q_47, .ref q_49, .ref q_51, .ref q_53, .ref q_55, .ref q_57, .int 0, .ref q_59, .ref q_61, .ref q_63, .int (-1), .int 0, .int 0, .int 0, .int 0, .ref q_65, .int 0, .ref q_68, .int 0, .int (-1), .int 0, .int 0, .ref q_70, .ref q_72]))]) [0] rfl
      have hDc := hD.sub (ws' := [(h0, .inr (16, [.ref q_1, .ref q_12, .ref q_17, .ref q_22, .ref q_24, .ref q_26, .ref q_28, .ref q_29, .ref q_31, .ref q_33, .ref q_35, .int 0, .ref q_37, .ref q_39, .ref q_41, .ref q_43, .ref q_45, .ref q_47, .ref q_49, .ref q_51, .ref q_53, .ref q_55, .ref q_57, .int 0, .ref q_59, .ref q_61, .ref q_63, .int (-1), .int 0, .int 0, .int 0, .int 0, .ref q_65, .int 0, .ref q_68, .int 0, .int (-1), .int 0, .int 0, .ref q_70, .ref q_72]))]) [0] (by decide) rfl
      have hKc := hK.sub (tys' := []) [] rfl
      have hFc := va_free (wc := [(h0, .inr (16, [.ref q_1, .ref q_12, .ref q_17, .ref q_22, .ref q_24, .ref q_26, .ref q_28, .ref q_29, .ref q_31, .ref q_33, .ref q_35, .int 0, .ref q_37, .ref q_39, .ref q_41, .ref q_43, .ref q_45, .ref q_47, .ref q_49, .ref q_51, .ref q_53, .ref q_55, .ref q_57, .int 0, .ref q_59, .ref q_61, .ref q_63, .int (-1), .int 0, .int 0, .int 0, .int 0, .ref q_65, .int 0, .ref q_68, .int 0, .int (-1), .int 0, .int 0, .ref q_70, .ref q_72]))]) hD hS hA [0] rfl
      refine va_calli (va_runV (As := [.int 1]) (rest := []) ⟨hx, hb, hml, hown, hts⟩ (c_X19_no l dC dI h0 q_1 q_12 q_17 q_22 q_24 q_26 q_28 q_29 q_31 q_33 q_35 q_37 q_39 q_41 q_43 q_45 q_47 q_49 q_51 q_53 q_55 q_57 q_59 q_61 q_63 q_65 q_68 q_70 q_72 1 H.size) (cwV 1 hts g_X19_block_X19_no rfl rfl rfl (by decide +kernel) ⟨(Nat.le_of_ble_eq_true rfl), (Nat.le_of_ble_eq_true rfl)⟩) ⟨fun a U g mk q => by obtain ⟨q0, q1, qP, qK, qD⟩ := q; exact ⟨q0, q1, qP, va_K.moved (u := U) (U := U.calling g mk a) (Vm.Alike.refl U.vm) qK, qD⟩, va_recv hKc hPc (ci := 16) (q0 := 0) rfl rfl, fun U hU hW => ⟨rfl, by rw [hU], by rw [hU]; exact hPc, va_K.moved hW.alike hKc, hDc.weaken (fun _ _ _ _ => trivial)⟩⟩ rfl rfl hl.1 rfl (lv_room (Nat.le_of_ble_eq_true rfl)) dX19_block_16 ⟨(Nat.le_of_ble_eq_true rfl), (Nat.le_of_ble_eq_true rfl)⟩) hS (fun q _ h => hFc q h) hFc (fun r_2003 u t H1 locs ht hvm hw hB hz1 hk1 hS => ?_)
      obtain ⟨hP1, hK1, hD1⟩ := hB
      rw [ht] at hP1
      have hK1 := va_K.moved hvm.symm hK1
      obtain ⟨hP, hD⟩ := va_join (wr := []) (w1 := [(h0, .inr (16, [.ref q_1, .ref q_12, .ref q_17, .ref q_22, .ref q_24, .ref q_26, .ref q_28, .ref q_29, .ref q_31, .ref q_33, .ref q_35, .int 0, .ref q_37, .ref q_39, .ref q_41, .ref q_43, .ref q_45, .ref q_47, .ref q_49, .ref q_51, .ref q_53, .ref q_55, .ref q_57, .int 0, .ref q_59, .ref q_61, .ref q_63, .int (-1), .int 0, .int 0, .int 0, .int 0, .ref q_65, .int 1, .ref q_68, .int 0, .int (-1), .int 0, .int 0, .ref q_70, .ref q_72]))]) hP hD [0] [] rfl rfl (by decide) (by decide) hk1 hFc hP1 hD1
      have hK := (hK.sub (tys' := []) [] rfl).app hK1
      generalize H1 = H at hP hS ⊢
      have hP : va_P (dC, dI) vwP [(h0, .inr (16, [.ref q_1, .ref q_12, .ref q_17, .ref q_22, .ref q_24, .ref q_26, .ref q_28, .ref q_29, .ref q_31, .ref q_33, .ref q_35, .int 0, .ref q_37, .ref q_39, .ref q_41, .ref q_43, .ref q_45, .ref q_47, .ref q_49, .ref q_51, .ref q_53, .ref q_55, .ref q_57, .int 0, .ref q_59, .ref q_61, .ref q_63, .int (-1), .int 0, .int 0, .int 0, .int 0, .ref q_65, .int 1, .ref q_68, .int 0, .int (-1), .int 0, .int 0, .ref q_70, .ref q_72]))] H := hP
      have hD : va_D A [(h0, .inr (16, [.ref q_1, .ref q_12, .ref q_17, .ref q_22, .ref q_24, .ref q_26, .ref q_28, .ref q_29, .ref q_31, .ref q_33, .ref q_35, .int 0, .ref q_37, .ref q_39, .ref q_41, .ref q_43, .ref q_45, .ref q_47, .ref q_49, .ref q_51, .ref q_53, .ref q_55, .ref q_57, .int 0, .ref q_59, .ref q_61, .ref q_63, .int (-1), .int 0, .int 0, .int 0, .int 0, .ref q_65, .int 1, .ref q_68, .int 0, .int (-1), .int 0, .int 0, .ref q_70, .ref q_72]))] := hD
      have hK : va_K (dC, dI) vwP [] s := hK
      refine W.widen (k := 0) (n := 0) (Nat.le_of_ble_eq_true rfl) (Nat.le_of_ble_eq_true rfl) ?_
      obtain rfl : r_2003 = 0 := hw
      have zb6 : 0 ≤ p1.toInt := z_nlt b6
      have zb11 : 4 < p1.toInt := z_nle b11
      refine W.widen (k := 0) (n := 0) (Nat.le_of_ble_eq_true rfl) (Nat.le_of_ble_eq_true rfl) ?_
      exact W.iret (v := 0) hx hb hr (fun t ht hW => ⟨⟨0, (), rfl, (fun h9 => absurd ((show kf_block p1 = 1 by unfold kf_block; first | rfl | (split <;> first | rfl | (exfalso; omega))).symm.trans h9) (by decide)), 1, 0, (-1), 0, q_72, (show kf_block p1 = 1 by unfold kf_block; first | rfl | (split <;> first | rfl | (exfalso; omega))).symm, by rw [ht]; exact hP, va_K.moved hW.alike hK, hD⟩, hS.F ht⟩) hS.2.2 dX19_block_19
theorem dX19_list___0 : decode cX19_list__ 0 = .ok (.aload_n 0, 1) := by decide +kernel
theorem dX19_list___1 : decode cX19_list__ 1 = .ok (.iconst 0, 1) := by decide +kernel
theorem dX19_list___2 : decode cX19_list__ 2 = .ok (.putfield 560, 3) := by decide +kernel
theorem dX19_list___5 : decode cX19_list__ 5 = .ok (.aload_n 0, 1) := by decide +kernel
theorem dX19_list___6 : decode cX19_list__ 6 = .ok (.getfield 555, 3) := by decide +kernel
theorem dX19_list___9 : decode cX19_list__ 9 = .ok (.ifCond .ge 9, 3) := by decide +kernel
theorem dX19_list___12 : decode cX19_list__ 12 = .ok (.aload_n 0, 1) := by decide +kernel
theorem dX19_list___13 : decode cX19_list__ 13 = .ok (.iconst 1, 1) := by decide +kernel
theorem dX19_list___14 : decode cX19_list__ 14 = .ok (.invokevirtual 565, 3) := by decide +kernel
theorem dX19_list___17 : decode cX19_list__ 17 = .ok (.ireturn, 1) := by decide +kernel
def o_X19_list__ : List Cond := [.fieldLink RX19 560 "SsaForgeModel" "thrown" "I", .fieldLink RX19 555 "SsaForgeModel" "form" "I", .methodLink RX19 565 yX19_no, .instanceMethod yX19_no, .selects RX19 yX19_no yX19_no, .initialized RX19]
def v_X19_list__ : List Cond := .code yX19_list__ cX19_list__ 2 (some .int) :: (o_X19_list__ ++ (wsX190 ++ (v_X19_no ++ [])))
theorem mow_X19_list__ : ∀ w ∈ o_X19_list__, w ∈ v_X19_list__ := fun _ h => List.mem_cons_of_mem _ (List.mem_append_left _ h)
theorem mem_X19_list___0 : ∀ w ∈ wsX190, w ∈ v_X19_list__ := fun _ h => List.mem_cons_of_mem _ (List.mem_append_right _ (List.mem_append_left _ h))
theorem mem_X19_list___1 : ∀ w ∈ v_X19_no, w ∈ v_X19_list__ := fun _ h => List.mem_cons_of_mem _ (List.mem_append_right _ (List.mem_append_right _ (List.mem_append_left _ h)))
set_option maxRecDepth 20000 in
theorem gw_X19_list__ : v_X19_list__.all goodWord = true := by decide +kernel
set_option maxRecDepth 20000 in
theorem g_X19_list___X19_no : GoodIn v_X19_list__ (wsV RX19 565 RX19 yX19_no v_X19_no) := goodIn_app (goodIn_sub (fun w h => mow_X19_list__ w (by revert w h; decide +kernel)) (by decide +kernel)) (goodIn_sub mem_X19_list___1 gw_X19_no)
set_option maxHeartbeats 4000000 in
set_option maxRecDepth 100000 in
theorem c_X19_list__ (l : Launch) (dC : Nat → ClassId) (dI : Nat → Nat → Nat) (h0 : Nat) (q_1 : Nat) (q_12 : Nat) (q_17 : Nat) (q_22 : Nat) (q_24 : Nat) (q_26 : Nat) (q_28 : Nat) (q_29 : Nat) (q_31 : Nat) (q_33 : Nat) (q_35 : Nat) (q_37 : Nat) (q_39 : Nat) (q_41 : Nat) (q_43 : Nat) (q_45 : Nat) (q_47 : Nat) (q_49 : Nat) (q_51 : Nat) (q_53 : Nat) (q_55 : Nat) (q_57 : Nat) (q_59 : Nat) (q_61 : Nat) (q_63 : Nat) (q_65 : Nat) (q_68 : Nat) (q_70 : Nat) (q_72 : Nat) (sz : Nat) : Met l yX19_list__ v_X19_list__ ({ frames := 1, cells := 0, slots := 0, locals := 21 }) (va_Pc [.ref h0] (fun U => U.heap.size = sz ∧ va_P (dC, dI) vwP [(h0, .inr (16, [.ref q_1, .ref q_12, .ref q_17, .ref q_22, .ref q_24, .ref q_26, .ref q_28, .ref q_29, .ref q_31, .ref q_33, .ref q_35, .int 0, .ref q_37, .ref q_39, .ref q_41, .ref q_43, .ref q_45, .ref q_47, .ref q_49, .ref q_51, .ref q_53, .ref q_55, .ref q_57, .int 0, .ref q_59, .ref q_61, .ref q_63, .int (-1), .int 0, .int 0, .int 0, .int 0, .ref q_65, .int 0, .ref q_68, .int 0, .int (-1), .int 0, .int 0, .ref q_70, .ref q_72]))] U.heap ∧ va_K (dC, dI) vwP [] U ∧ va_D (fun _ => True) [(h0, .inr (16, [.ref q_1, .ref q_12, .ref q_17, .ref q_22, .ref q_24, .ref q_26, .ref q_28, .ref q_29, .ref q_31, .ref q_33, .ref q_35, .int 0, .ref q_37, .ref q_39, .ref q_41, .ref q_43, .ref q_45, .ref q_47, .ref q_49, .ref q_51, .ref q_53, .ref q_55, .ref q_57, .int 0, .ref q_59, .ref q_61, .ref q_63, .int (-1), .int 0, .int 0, .int 0, .int 0, .ref q_65, .int 0, .ref q_68, .int 0, .int (-1), .int 0, .int 0, .ref q_70, .ref q_72]))])) (va_Qi (fun (r : Int32) (_ : Unit) => kf_list = 0 → r = vf_list) (fun (_ : Unit) (t : State) => ∃ (i_33 : Int32) (i_35 : Int32) (i_36 : Int32) (i_37 : Int32) (q_940 : Nat), (i_33 = kf_list) ∧ va_P (dC, dI) vwP [(h0, .inr (16, [.ref q_1, .ref q_12, .ref q_17, .ref q_22, .ref q_24, .ref q_26, .ref q_28, .ref q_29, .ref q_31, .ref q_33, .ref q_35, .int 0, .ref q_37, .ref q_39, .ref q_41, .ref q_43, .ref q_45, .ref q_47, .ref q_49, .ref q_51, .ref q_53, .ref q_55, .ref q_57, .int 0, .ref q_59, .ref q_61, .ref q_63, .int (-1), .int 0, .int 0, .int 0, .int 0, .ref q_65, .int i_33, .ref q_68, .int i_35, .int i_36, .int i_37, .int 0, .ref q_70, .ref q_940]))] t.heap ∧ va_K (dC, dI) vwP [] t ∧ va_D (va_A [(h0, .inr (16, [.ref q_1, .ref q_12, .ref q_17, .ref q_22, .ref q_24, .ref q_26, .ref q_28, .ref q_29, .ref q_31, .ref q_33, .ref q_35, .int 0, .ref q_37, .ref q_39, .ref q_41, .ref q_43, .ref q_45, .ref q_47, .ref q_49, .ref q_51, .ref q_53, .ref q_55, .ref q_57, .int 0, .ref q_59, .ref q_61, .ref q_63, .int (-1), .int 0, .int 0, .int 0, .int 0, .ref q_65, .int 0, .ref q_68, .int 0, .int (-1), .int 0, .int 0, .ref q_70, .ref q_72]))] sz) [(h0, .inr (16, [.ref q_1, .ref q_12, .ref q_17, .ref q_22, .ref q_24, .ref q_26, .ref q_28, .ref q_29, .ref q_31, .ref q_33, .ref q_35, .int 0, .ref q_37, .ref q_39, .ref q_41, .ref q_43, .ref q_45, .ref q_47, .ref q_49, .ref q_51, .ref q_53, .ref q_55, .ref q_57, .int 0, .ref q_59, .ref q_61, .ref q_63, .int (-1), .int 0, .int 0, .int 0, .int 0, .ref q_65, .int i_33, .ref q_68, .int i_35, .int i_36, .int i_37, .int 0, .ref q_70, .ref q_940]))]) (va_A [(h0, .inr (16, [.ref q_1, .ref q_12, .ref q_17, .ref q_22, .ref q_24, .ref q_26, .ref q_28, .ref q_29, .ref q_31, .ref q_33, .ref q_35, .int 0, .ref q_37, .ref q_39, .ref q_41, .ref q_43, .ref q_45, .ref q_47, .ref q_49, .ref q_51, .ref q_53, .ref q_55, .ref q_57, .int 0, .ref q_59, .ref q_61, .ref q_63, .int (-1), .int 0, .int 0, .int 0, .int 0, .ref q_65, .int 0, .ref q_68, .int 0, .int (-1), .int 0, .int 0, .ref q_70, .ref q_72]))] sz)) 0 0 (va_A [(h0, .inr (16, [.ref q_1, .ref q_12, .ref q_17, .ref q_22, .ref q_24, .ref q_26, .ref q_28, .ref q_29, .ref q_31, .ref q_33, .ref q_35, .int 0, .ref q_37, .ref q_39, .ref q_41, .ref q_43, .ref q_45, .ref q_47, .ref q_49, .ref q_51, .ref q_53, .ref q_55, .ref q_57, .int 0, .ref q_59, .ref q_61, .ref q_63, .int (-1), .int 0, .int 0, .int 0, .int 0, .ref q_65, .int 0, .ref q_68, .int 0, .int (-1), .int 0, .int 0, .ref q_70, .ref q_72]))] sz) := by
  refine Met.ofW (cc := cX19_list__) (maxL := 2) (ret := (some .int)) (by decide) rfl ?_
  intro p e s m args below meth c s₁ B hml hv
  obtain ⟨rfl, hsz, hP, hK, hD0⟩ := hv
  have hx := B.exec
  have hb := B.bytes
  have hr := B.returns
  have hts := atoms_spec (ws := v_X19_list__) B.pre
  have hown : s.vm.findClass RX19 = some m.cls := findClass_of_methodNamed B.named
  have hlocks := B.notSynchronized
  have ow : ∀ {k : Nat} {w : Cond}, o_X19_list__[k]? = some w → w.before ([.ref h0] : List Value).toArray s = true := fun h => hts _ (mow_X19_list__ _ (List.mem_of_getElem? h))
  subst hsz
  have hD := hD0.self (sz := s.heap.size)
  generalize hAe : va_A [(h0, .inr (16, [.ref q_1, .ref q_12, .ref q_17, .ref q_22, .ref q_24, .ref q_26, .ref q_28, .ref q_29, .ref q_31, .ref q_33, .ref q_35, .int 0, .ref q_37, .ref q_39, .ref q_41, .ref q_43, .ref q_45, .ref q_47, .ref q_49, .ref q_51, .ref q_53, .ref q_55, .ref q_57, .int 0, .ref q_59, .ref q_61, .ref q_63, .int (-1), .int 0, .int 0, .int 0, .int 0, .ref q_65, .int 0, .ref q_68, .int 0, .int (-1), .int 0, .int 0, .ref q_70, .ref q_72]))] s.heap.size = A at hD ⊢
  have hA : ∀ q : Nat, s.heap.size ≤ q → A q := fun q h => by rw [← hAe]; exact Or.inr h
  have hS : va_S A s.heap s.heap [] := va_S.rf
  have hP : va_P (dC, dI) vwP [(h0, .inr (16, [.ref q_1, .ref q_12, .ref q_17, .ref q_22, .ref q_24, .ref q_26, .ref q_28, .ref q_29, .ref q_31, .ref q_33, .ref q_35, .int 0, .ref q_37, .ref q_39, .ref q_41, .ref q_43, .ref q_45, .ref q_47, .ref q_49, .ref q_51, .ref q_53, .ref q_55, .ref q_57, .int 0, .ref q_59, .ref q_61, .ref q_63, .int (-1), .int 0, .int 0, .int 0, .int 0, .ref q_65, .int 0, .ref q_68, .int 0, .int (-1), .int 0, .int 0, .ref q_70, .ref q_72]))] s.heap := hP
  have hl := lv_entry ([.ref h0]) (n := 2) (Nat.le_of_ble_eq_true rfl)
  rw [lg_entry_eq]
  generalize (lg_sl ([.ref h0]) ++ List.replicate (2 - (lg_sl ([.ref h0])).length) Slot.unset).toArray = ls at hl ⊢
  have hl : lv_has ls 2 [(0, .ref h0)] := hl
  obtain ⟨H, hH⟩ : ∃ H, H = s.heap := ⟨_, rfl⟩
  rw [← hH] at hP
  have hS : va_S A s.heap H [] := by rw [hH]; exact hS
  rw [← hH]
  refine lv_aload_n hx hb dX19_list___0 rfl (lv_at hl 0 rfl) ?_
  refine lv_iconst (v := 0) hx hb dX19_list___1 (by decide) ?_
  refine va_put (D := (dC, dI)) (ci := 16) (v := .int 0) (ty := .int) (C := RX19) (T := TX19) (N := 41) hx hb hts mem_X19_list___0 tyX19 tyX19_ok nmX19 hown hK hP hD hS 0 rfl rfl 33 (by decide) (ow (k := 0) rfl) (fun _ h9 => h9) rfl (by decide +kernel) rfl rfl (Nat.le_of_ble_eq_true rfl) dX19_list___2 (fun H locs hP hD hS => ?_)
  have hP : va_P (dC, dI) vwP [(h0, .inr (16, [.ref q_1, .ref q_12, .ref q_17, .ref q_22, .ref q_24, .ref q_26, .ref q_28, .ref q_29, .ref q_31, .ref q_33, .ref q_35, .int 0, .ref q_37, .ref q_39, .ref q_41, .ref q_43, .ref q_45, .ref q_47, .ref q_49, .ref q_51, .ref q_53, .ref q_55, .ref q_57, .int 0, .ref q_59, .ref q_61, .ref q_63, .int (-1), .int 0, .int 0, .int 0, .int 0, .ref q_65, .int 0, .ref q_68, .int 0, .int (-1), .int 0, .int 0, .ref q_70, .ref q_72]))] H := hP
  have hD : va_D A [(h0, .inr (16, [.ref q_1, .ref q_12, .ref q_17, .ref q_22, .ref q_24, .ref q_26, .ref q_28, .ref q_29, .ref q_31, .ref q_33, .ref q_35, .int 0, .ref q_37, .ref q_39, .ref q_41, .ref q_43, .ref q_45, .ref q_47, .ref q_49, .ref q_51, .ref q_53, .ref q_55, .ref q_57, .int 0, .ref q_59, .ref q_61, .ref q_63, .int (-1), .int 0, .int 0, .int 0, .int 0, .ref q_65, .int 0, .ref q_68, .int 0, .int (-1), .int 0, .int 0, .ref q_70, .ref q_72]))] := hD
  refine lv_aload_n hx hb dX19_list___5 rfl (lv_at hl 0 rfl) ?_
  refine va_get (D := (dC, dI)) (ci := 16) (v := .int (-1)) (C := RX19) (T := TX19) (N := 41) hx hb hts mem_X19_list___0 hown hK hP 0 rfl rfl 36 (by decide) (ow (k := 1) rfl) (fun _ h9 => h9) rfl dX19_list___6 ?_
  refine lv_if_ge (tgt := 18) hx hb dX19_list___9 (by decide) (fun h9 => absurd h9 (by decide)) (fun _ => ?_)
  refine lv_aload_n hx hb dX19_list___12 rfl (lv_at hl 0 rfl) ?_
  refine lv_iconst (v := 1) hx hb dX19_list___13 (by decide) ?_
  have hPc := hP.sub (ws' := [(h0, .inr (16, [.ref q_1, .ref q_12, .ref q_17, .ref q_22, .ref q_24, .ref q_26, .ref q_28, .ref q_29, .ref q_31, .ref q_33, .ref q_35, .int 0, .ref q_37, .ref q_39, .ref q_41, .ref q_43, .ref q_45, .ref q_47, .ref q_49, .ref q_51, .ref q_53, .ref q_55, .ref q_57, .int 0, .ref q_59, .ref q_61, .ref q_63, .int (-1), .int 0, .int 0, .int 0, .int 0, .ref q_65, .int 0, .ref q_68, .int 0, .int (-1), .int 0, .int 0, .ref q_70, .ref q_72]))]) [0] rfl
  have hDc := hD.sub (ws' := [(h0, .inr (16, [.ref q_1, .ref q_12, .ref q_17, .ref q_22, .ref q_24, .ref q_26, .ref q_28, .ref q_29, .ref q_31, .ref q_33, .ref q_35, .int 0, .ref q_37, .ref q_39, .ref q_41, .ref q_43, .ref q_45, .ref q_47, .ref q_49, .ref q_51, .ref q_53, .ref q_55, .ref q_57, .int 0, .ref q_59, .ref q_61, .ref q_63, .int (-1), .int 0, .int 0, .int 0, .int 0, .ref q_65, .int 0, .ref q_68, .int 0, .int (-1), .int 0, .int 0, .ref q_70, .ref q_72]))]) [0] (by decide) rfl
  have hKc := hK.sub (tys' := []) [] rfl
  have hFc := va_free (wc := [(h0, .inr (16, [.ref q_1, .ref q_12, .ref q_17, .ref q_22, .ref q_24, .ref q_26, .ref q_28, .ref q_29, .ref q_31, .ref q_33, .ref q_35, .int 0, .ref q_37, .ref q_39, .ref q_41, .ref q_43, .ref q_45, .ref q_47, .ref q_49, .ref q_51, .ref q_53, .ref q_55, .ref q_57, .int 0, .ref q_59, .ref q_61, .ref q_63, .int (-1), .int 0, .int 0, .int 0, .int 0, .ref q_65, .int 0, .ref q_68, .int 0, .int (-1), .int 0, .int 0, .ref q_70, .ref q_72]))]) hD hS hA [0] rfl
  refine va_calli (va_runV (As := [.int 1]) (rest := []) ⟨hx, hb, hml, hown, hts⟩ (c_X19_no l dC dI h0 q_1 q_12 q_17 q_22 q_24 q_26 q_28 q_29 q_31 q_33 q_35 q_37 q_39 q_41 q_43 q_45 q_47 q_49 q_51 q_53 q_55 q_57 q_59 q_61 q_63 q_65 q_68 q_70 q_72 1 H.size) (cwV 1 hts g_X19_list___X19_no rfl rfl rfl (by decide +kernel) ⟨(Nat.le_of_ble_eq_true rfl), (Nat.le_of_ble_eq_true rfl)⟩) ⟨fun a U g mk q => by obtain ⟨q0, q1, qP, qK, qD⟩ := q; exact ⟨q0, q1, qP, va_K.moved (u := U) (U := U.calling g mk a) (Vm.Alike.refl U.vm) qK, qD⟩, va_recv hKc hPc (ci := 16) (q0 := 0) rfl rfl, fun U hU hW => ⟨rfl, by rw [hU], by rw [hU]; exact hPc, va_K.moved hW.alike hKc, hDc.weaken (fun _ _ _ _ => trivial)⟩⟩ rfl rfl hl.1 rfl (lv_room (Nat.le_of_ble_eq_true rfl)) dX19_list___14 ⟨(Nat.le_of_ble_eq_true rfl), (Nat.le_of_ble_eq_true rfl)⟩) hS (fun q _ h => hFc q h) hFc (fun r_2001 u t H1 locs ht hvm hw hB hz1 hk1 hS => ?_)
  obtain ⟨hP1, hK1, hD1⟩ := hB
  rw [ht] at hP1
  have hK1 := va_K.moved hvm.symm hK1
  obtain ⟨hP, hD⟩ := va_join (wr := []) (w1 := [(h0, .inr (16, [.ref q_1, .ref q_12, .ref q_17, .ref q_22, .ref q_24, .ref q_26, .ref q_28, .ref q_29, .ref q_31, .ref q_33, .ref q_35, .int 0, .ref q_37, .ref q_39, .ref q_41, .ref q_43, .ref q_45, .ref q_47, .ref q_49, .ref q_51, .ref q_53, .ref q_55, .ref q_57, .int 0, .ref q_59, .ref q_61, .ref q_63, .int (-1), .int 0, .int 0, .int 0, .int 0, .ref q_65, .int 1, .ref q_68, .int 0, .int (-1), .int 0, .int 0, .ref q_70, .ref q_72]))]) hP hD [0] [] rfl rfl (by decide) (by decide) hk1 hFc hP1 hD1
  have hK := (hK.sub (tys' := []) [] rfl).app hK1
  generalize H1 = H at hP hS ⊢
  have hP : va_P (dC, dI) vwP [(h0, .inr (16, [.ref q_1, .ref q_12, .ref q_17, .ref q_22, .ref q_24, .ref q_26, .ref q_28, .ref q_29, .ref q_31, .ref q_33, .ref q_35, .int 0, .ref q_37, .ref q_39, .ref q_41, .ref q_43, .ref q_45, .ref q_47, .ref q_49, .ref q_51, .ref q_53, .ref q_55, .ref q_57, .int 0, .ref q_59, .ref q_61, .ref q_63, .int (-1), .int 0, .int 0, .int 0, .int 0, .ref q_65, .int 1, .ref q_68, .int 0, .int (-1), .int 0, .int 0, .ref q_70, .ref q_72]))] H := hP
  have hD : va_D A [(h0, .inr (16, [.ref q_1, .ref q_12, .ref q_17, .ref q_22, .ref q_24, .ref q_26, .ref q_28, .ref q_29, .ref q_31, .ref q_33, .ref q_35, .int 0, .ref q_37, .ref q_39, .ref q_41, .ref q_43, .ref q_45, .ref q_47, .ref q_49, .ref q_51, .ref q_53, .ref q_55, .ref q_57, .int 0, .ref q_59, .ref q_61, .ref q_63, .int (-1), .int 0, .int 0, .int 0, .int 0, .ref q_65, .int 1, .ref q_68, .int 0, .int (-1), .int 0, .int 0, .ref q_70, .ref q_72]))] := hD
  have hK : va_K (dC, dI) vwP [] s := hK
  refine W.widen (k := 0) (n := 0) (Nat.le_of_ble_eq_true rfl) (Nat.le_of_ble_eq_true rfl) ?_
  obtain rfl : r_2001 = 0 := hw
  refine W.widen (k := 0) (n := 0) (Nat.le_of_ble_eq_true rfl) (Nat.le_of_ble_eq_true rfl) ?_
  exact W.iret (v := 0) hx hb hr (fun t ht hW => ⟨⟨0, (), rfl, (fun h9 => absurd ((show kf_list = 1 by unfold kf_list; first | rfl | (split <;> first | rfl | (exfalso; omega))).symm.trans h9) (by decide)), 1, 0, (-1), 0, q_72, (show kf_list = 1 by unfold kf_list; first | rfl | (split <;> first | rfl | (exfalso; omega))).symm, by rw [ht]; exact hP, va_K.moved hW.alike hK, hD⟩, hS.F ht⟩) hS.2.2 dX19_list___17
theorem dX19_word__0 : decode cX19_word_ 0 = .ok (.aload_n 0, 1) := by decide +kernel
theorem dX19_word__1 : decode cX19_word_ 1 = .ok (.iconst 0, 1) := by decide +kernel
theorem dX19_word__2 : decode cX19_word_ 2 = .ok (.putfield 560, 3) := by decide +kernel
theorem dX19_word__5 : decode cX19_word_ 5 = .ok (.iload_n 1, 1) := by decide +kernel
theorem dX19_word__6 : decode cX19_word_ 6 = .ok (.ifCond .lt 11, 3) := by decide +kernel
theorem dX19_word__17 : decode cX19_word_ 17 = .ok (.aload_n 0, 1) := by decide +kernel
theorem dX19_word__18 : decode cX19_word_ 18 = .ok (.iconst 1, 1) := by decide +kernel
theorem dX19_word__19 : decode cX19_word_ 19 = .ok (.invokevirtual 565, 3) := by decide +kernel
theorem dX19_word__22 : decode cX19_word_ 22 = .ok (.i2l, 1) := by decide +kernel
theorem dX19_word__23 : decode cX19_word_ 23 = .ok (.lreturn, 1) := by decide +kernel
theorem dX19_word__9 : decode cX19_word_ 9 = .ok (.iload_n 1, 1) := by decide +kernel
theorem dX19_word__10 : decode cX19_word_ 10 = .ok (.aload_n 0, 1) := by decide +kernel
theorem dX19_word__11 : decode cX19_word_ 11 = .ok (.getfield 635, 3) := by decide +kernel
theorem dX19_word__14 : decode cX19_word_ 14 = .ok (.if_icmp .lt 10, 3) := by decide +kernel
def o_X19_word_ : List Cond := [.fieldLink RX19 560 "SsaForgeModel" "thrown" "I", .methodLink RX19 565 yX19_no, .instanceMethod yX19_no, .selects RX19 yX19_no yX19_no, .initialized RX19, .fieldLink RX19 635 "SsaForgeModel" "results" "I"]
def v_X19_word_ : List Cond := .code yX19_word_ cX19_word_ 5 (some .long) :: (o_X19_word_ ++ (wsX190 ++ (v_X19_no ++ [])))
theorem mow_X19_word_ : ∀ w ∈ o_X19_word_, w ∈ v_X19_word_ := fun _ h => List.mem_cons_of_mem _ (List.mem_append_left _ h)
theorem mem_X19_word__0 : ∀ w ∈ wsX190, w ∈ v_X19_word_ := fun _ h => List.mem_cons_of_mem _ (List.mem_append_right _ (List.mem_append_left _ h))
theorem mem_X19_word__1 : ∀ w ∈ v_X19_no, w ∈ v_X19_word_ := fun _ h => List.mem_cons_of_mem _ (List.mem_append_right _ (List.mem_append_right _ (List.mem_append_left _ h)))
set_option maxRecDepth 20000 in
theorem gw_X19_word_ : v_X19_word_.all goodWord = true := by decide +kernel
set_option maxRecDepth 20000 in
theorem g_X19_word__X19_no : GoodIn v_X19_word_ (wsV RX19 565 RX19 yX19_no v_X19_no) := goodIn_app (goodIn_sub (fun w h => mow_X19_word_ w (by revert w h; decide +kernel)) (by decide +kernel)) (goodIn_sub mem_X19_word__1 gw_X19_no)
set_option maxHeartbeats 4000000 in
set_option maxRecDepth 100000 in
theorem c_X19_word_ (l : Launch) (dC : Nat → ClassId) (dI : Nat → Nat → Nat) (h0 : Nat) (q_1 : Nat) (q_12 : Nat) (q_17 : Nat) (q_22 : Nat) (q_24 : Nat) (q_26 : Nat) (q_28 : Nat) (q_29 : Nat) (q_31 : Nat) (q_33 : Nat) (q_35 : Nat) (q_37 : Nat) (q_39 : Nat) (q_41 : Nat) (q_43 : Nat) (q_45 : Nat) (q_47 : Nat) (q_49 : Nat) (q_51 : Nat) (q_53 : Nat) (q_55 : Nat) (q_57 : Nat) (q_59 : Nat) (q_61 : Nat) (q_63 : Nat) (q_65 : Nat) (q_68 : Nat) (q_70 : Nat) (q_72 : Nat) (p0 : Int32) (sz : Nat) : Met l yX19_word_ v_X19_word_ ({ frames := 1, cells := 0, slots := 0, locals := 21 }) (va_Pc [.ref h0, .int p0] (fun U => U.heap.size = sz ∧ va_P (dC, dI) vwP [(h0, .inr (16, [.ref q_1, .ref q_12, .ref q_17, .ref q_22, .ref q_24, .ref q_26, .ref q_28, .ref q_29, .ref q_31, .ref q_33, .ref q_35, .int 0, .ref q_37, .ref q_39, .ref q_41, .ref q_43, .ref q_45, .ref q_47, .ref q_49, .ref q_51, .ref q_53, .ref q_55, .ref q_57, .int 0, .ref q_59, .ref q_61, .ref q_63, .int (-1), .int 0, .int 0, .int 0, .int 0, .ref q_65, .int 0, .ref q_68, .int 0, .int (-1), .int 0, .int 0, .ref q_70, .ref q_72]))] U.heap ∧ va_K (dC, dI) vwP [] U ∧ va_D (fun _ => True) [(h0, .inr (16, [.ref q_1, .ref q_12, .ref q_17, .ref q_22, .ref q_24, .ref q_26, .ref q_28, .ref q_29, .ref q_31, .ref q_33, .ref q_35, .int 0, .ref q_37, .ref q_39, .ref q_41, .ref q_43, .ref q_45, .ref q_47, .ref q_49, .ref q_51, .ref q_53, .ref q_55, .ref q_57, .int 0, .ref q_59, .ref q_61, .ref q_63, .int (-1), .int 0, .int 0, .int 0, .int 0, .ref q_65, .int 0, .ref q_68, .int 0, .int (-1), .int 0, .int 0, .ref q_70, .ref q_72]))])) (va_Ql (fun (r : Int64) (_ : Unit) => kf_word = 0 → r = vf_word) (fun (_ : Unit) (t : State) => ∃ (i_33 : Int32) (i_35 : Int32) (i_36 : Int32) (i_37 : Int32) (q_940 : Nat), (i_33 = kf_word) ∧ va_P (dC, dI) vwP [(h0, .inr (16, [.ref q_1, .ref q_12, .ref q_17, .ref q_22, .ref q_24, .ref q_26, .ref q_28, .ref q_29, .ref q_31, .ref q_33, .ref q_35, .int 0, .ref q_37, .ref q_39, .ref q_41, .ref q_43, .ref q_45, .ref q_47, .ref q_49, .ref q_51, .ref q_53, .ref q_55, .ref q_57, .int 0, .ref q_59, .ref q_61, .ref q_63, .int (-1), .int 0, .int 0, .int 0, .int 0, .ref q_65, .int i_33, .ref q_68, .int i_35, .int i_36, .int i_37, .int 0, .ref q_70, .ref q_940]))] t.heap ∧ va_K (dC, dI) vwP [] t ∧ va_D (va_A [(h0, .inr (16, [.ref q_1, .ref q_12, .ref q_17, .ref q_22, .ref q_24, .ref q_26, .ref q_28, .ref q_29, .ref q_31, .ref q_33, .ref q_35, .int 0, .ref q_37, .ref q_39, .ref q_41, .ref q_43, .ref q_45, .ref q_47, .ref q_49, .ref q_51, .ref q_53, .ref q_55, .ref q_57, .int 0, .ref q_59, .ref q_61, .ref q_63, .int (-1), .int 0, .int 0, .int 0, .int 0, .ref q_65, .int 0, .ref q_68, .int 0, .int (-1), .int 0, .int 0, .ref q_70, .ref q_72]))] sz) [(h0, .inr (16, [.ref q_1, .ref q_12, .ref q_17, .ref q_22, .ref q_24, .ref q_26, .ref q_28, .ref q_29, .ref q_31, .ref q_33, .ref q_35, .int 0, .ref q_37, .ref q_39, .ref q_41, .ref q_43, .ref q_45, .ref q_47, .ref q_49, .ref q_51, .ref q_53, .ref q_55, .ref q_57, .int 0, .ref q_59, .ref q_61, .ref q_63, .int (-1), .int 0, .int 0, .int 0, .int 0, .ref q_65, .int i_33, .ref q_68, .int i_35, .int i_36, .int i_37, .int 0, .ref q_70, .ref q_940]))]) (va_A [(h0, .inr (16, [.ref q_1, .ref q_12, .ref q_17, .ref q_22, .ref q_24, .ref q_26, .ref q_28, .ref q_29, .ref q_31, .ref q_33, .ref q_35, .int 0, .ref q_37, .ref q_39, .ref q_41, .ref q_43, .ref q_45, .ref q_47, .ref q_49, .ref q_51, .ref q_53, .ref q_55, .ref q_57, .int 0, .ref q_59, .ref q_61, .ref q_63, .int (-1), .int 0, .int 0, .int 0, .int 0, .ref q_65, .int 0, .ref q_68, .int 0, .int (-1), .int 0, .int 0, .ref q_70, .ref q_72]))] sz)) 0 0 (va_A [(h0, .inr (16, [.ref q_1, .ref q_12, .ref q_17, .ref q_22, .ref q_24, .ref q_26, .ref q_28, .ref q_29, .ref q_31, .ref q_33, .ref q_35, .int 0, .ref q_37, .ref q_39, .ref q_41, .ref q_43, .ref q_45, .ref q_47, .ref q_49, .ref q_51, .ref q_53, .ref q_55, .ref q_57, .int 0, .ref q_59, .ref q_61, .ref q_63, .int (-1), .int 0, .int 0, .int 0, .int 0, .ref q_65, .int 0, .ref q_68, .int 0, .int (-1), .int 0, .int 0, .ref q_70, .ref q_72]))] sz) := by
  refine Met.ofW (cc := cX19_word_) (maxL := 5) (ret := (some .long)) (by decide) rfl ?_
  intro p e s m args below meth c s₁ B hml hv
  obtain ⟨rfl, hsz, hP, hK, hD0⟩ := hv
  have hx := B.exec
  have hb := B.bytes
  have hr := B.returns
  have hts := atoms_spec (ws := v_X19_word_) B.pre
  have hown : s.vm.findClass RX19 = some m.cls := findClass_of_methodNamed B.named
  have hlocks := B.notSynchronized
  have ow : ∀ {k : Nat} {w : Cond}, o_X19_word_[k]? = some w → w.before ([.ref h0, .int p0] : List Value).toArray s = true := fun h => hts _ (mow_X19_word_ _ (List.mem_of_getElem? h))
  subst hsz
  have hD := hD0.self (sz := s.heap.size)
  generalize hAe : va_A [(h0, .inr (16, [.ref q_1, .ref q_12, .ref q_17, .ref q_22, .ref q_24, .ref q_26, .ref q_28, .ref q_29, .ref q_31, .ref q_33, .ref q_35, .int 0, .ref q_37, .ref q_39, .ref q_41, .ref q_43, .ref q_45, .ref q_47, .ref q_49, .ref q_51, .ref q_53, .ref q_55, .ref q_57, .int 0, .ref q_59, .ref q_61, .ref q_63, .int (-1), .int 0, .int 0, .int 0, .int 0, .ref q_65, .int 0, .ref q_68, .int 0, .int (-1), .int 0, .int 0, .ref q_70, .ref q_72]))] s.heap.size = A at hD ⊢
  have hA : ∀ q : Nat, s.heap.size ≤ q → A q := fun q h => by rw [← hAe]; exact Or.inr h
  have hS : va_S A s.heap s.heap [] := va_S.rf
  have hP : va_P (dC, dI) vwP [(h0, .inr (16, [.ref q_1, .ref q_12, .ref q_17, .ref q_22, .ref q_24, .ref q_26, .ref q_28, .ref q_29, .ref q_31, .ref q_33, .ref q_35, .int 0, .ref q_37, .ref q_39, .ref q_41, .ref q_43, .ref q_45, .ref q_47, .ref q_49, .ref q_51, .ref q_53, .ref q_55, .ref q_57, .int 0, .ref q_59, .ref q_61, .ref q_63, .int (-1), .int 0, .int 0, .int 0, .int 0, .ref q_65, .int 0, .ref q_68, .int 0, .int (-1), .int 0, .int 0, .ref q_70, .ref q_72]))] s.heap := hP
  have hl := lv_entry ([.ref h0, .int p0]) (n := 5) (Nat.le_of_ble_eq_true rfl)
  rw [lg_entry_eq]
  generalize (lg_sl ([.ref h0, .int p0]) ++ List.replicate (5 - (lg_sl ([.ref h0, .int p0])).length) Slot.unset).toArray = ls at hl ⊢
  have hl : lv_has ls 5 [(0, .ref h0), (1, .int p0)] := hl
  obtain ⟨H, hH⟩ : ∃ H, H = s.heap := ⟨_, rfl⟩
  rw [← hH] at hP
  have hS : va_S A s.heap H [] := by rw [hH]; exact hS
  rw [← hH]
  refine lv_aload_n hx hb dX19_word__0 rfl (lv_at hl 0 rfl) ?_
  refine lv_iconst (v := 0) hx hb dX19_word__1 (by decide) ?_
  refine va_put (D := (dC, dI)) (ci := 16) (v := .int 0) (ty := .int) (C := RX19) (T := TX19) (N := 41) hx hb hts mem_X19_word__0 tyX19 tyX19_ok nmX19 hown hK hP hD hS 0 rfl rfl 33 (by decide) (ow (k := 0) rfl) (fun _ h9 => h9) rfl (by decide +kernel) rfl rfl (Nat.le_of_ble_eq_true rfl) dX19_word__2 (fun H locs hP hD hS => ?_)
  have hP : va_P (dC, dI) vwP [(h0, .inr (16, [.ref q_1, .ref q_12, .ref q_17, .ref q_22, .ref q_24, .ref q_26, .ref q_28, .ref q_29, .ref q_31, .ref q_33, .ref q_35, .int 0, .ref q_37, .ref q_39, .ref q_41, .ref q_43, .ref q_45, .ref q_47, .ref q_49, .ref q_51, .ref q_53, .ref q_55, .ref q_57, .int 0, .ref q_59, .ref q_61, .ref q_63, .int (-1), .int 0, .int 0, .int 0, .int 0, .ref q_65, .int 0, .ref q_68, .int 0, .int (-1), .int 0, .int 0, .ref q_70, .ref q_72]))] H := hP
  have hD : va_D A [(h0, .inr (16, [.ref q_1, .ref q_12, .ref q_17, .ref q_22, .ref q_24, .ref q_26, .ref q_28, .ref q_29, .ref q_31, .ref q_33, .ref q_35, .int 0, .ref q_37, .ref q_39, .ref q_41, .ref q_43, .ref q_45, .ref q_47, .ref q_49, .ref q_51, .ref q_53, .ref q_55, .ref q_57, .int 0, .ref q_59, .ref q_61, .ref q_63, .int (-1), .int 0, .int 0, .int 0, .int 0, .ref q_65, .int 0, .ref q_68, .int 0, .int (-1), .int 0, .int 0, .ref q_70, .ref q_72]))] := hD
  refine lv_iload_n hx hb dX19_word__5 rfl (lv_at hl 1 rfl) ?_
  refine lv_if_lt (tgt := 17) hx hb dX19_word__6 (by decide) (fun b6 => ?_) (fun b6 => ?_)
  · refine lv_aload_n hx hb dX19_word__17 rfl (lv_at hl 0 rfl) ?_
    refine lv_iconst (v := 1) hx hb dX19_word__18 (by decide) ?_
    have hPc := hP.sub (ws' := [(h0, .inr (16, [.ref q_1, .ref q_12, .ref q_17, .ref q_22, .ref q_24, .ref q_26, .ref q_28, .ref q_29, .ref q_31, .ref q_33, .ref q_35, .int 0, .ref q_37, .ref q_39, .ref q_41, .ref q_43, .ref q_45, .ref q_47, .ref q_49, .ref q_51, .ref q_53, .ref q_55, .ref q_57, .int 0, .ref q_59, .ref q_61, .ref q_63, .int (-1), .int 0, .int 0, .int 0, .int 0, .ref q_65, .int 0, .ref q_68, .int 0, .int (-1), .int 0, .int 0, .ref q_70, .ref q_72]))]) [0] rfl
    have hDc := hD.sub (ws' := [(h0, .inr (16, [.ref q_1, .ref q_12, .ref q_17, .ref q_22, .ref q_24, .ref q_26, .ref q_28, .ref q_29, .ref q_31, .ref q_33, .ref q_35, .int 0, .ref q_37, .ref q_39, .ref q_41, .ref q_43, .ref q_45, .ref q_47, .ref q_49, .ref q_51, .ref q_53, .ref q_55, .ref q_57, .int 0, .ref q_59, .ref q_61, .ref q_63, .int (-1), .int 0, .int 0, .int 0, .int 0, .ref q_65, .int 0, .ref q_68, .int 0, .int (-1), .int 0, .int 0, .ref q_70, .ref q_72]))]) [0] (by decide) rfl
    have hKc := hK.sub (tys' := []) [] rfl
    have hFc := va_free (wc := [(h0, .inr (16, [.ref q_1, .ref q_12, .ref q_17, .ref q_22, .ref q_24, .ref q_26, .ref q_28, .ref q_29, .ref q_31, .ref q_33, .ref q_35, .int 0, .ref q_37, .ref q_39, .ref q_41, .ref q_43, .ref q_45, .ref q_47, .ref q_49, .ref q_51, .ref q_53, .ref q_55, .ref q_57, .int 0, .ref q_59, .ref q_61, .ref q_63, .int (-1), .int 0, .int 0, .int 0, .int 0, .ref q_65, .int 0, .ref q_68, .int 0, .int (-1), .int 0, .int 0, .ref q_70, .ref q_72]))]) hD hS hA [0] rfl
    refine va_calli (va_runV (As := [.int 1]) (rest := []) ⟨hx, hb, hml, hown, hts⟩ (c_X19_no l dC dI h0 q_1 q_12 q_17 q_22 q_24 q_26 q_28 q_29 q_31 q_33 q_35 q_37 q_39 q_41 q_43 q_45 q_47 q_49 q_51 q_53 q_55 q_57 q_59 q_61 q_63 q_65 q_68 q_70 q_72 1 H.size) (cwV 1 hts g_X19_word__X19_no rfl rfl rfl (by decide +kernel) ⟨(Nat.le_of_ble_eq_true rfl), (Nat.le_of_ble_eq_true rfl)⟩) ⟨fun a U g mk q => by obtain ⟨q0, q1, qP, qK, qD⟩ := q; exact ⟨q0, q1, qP, va_K.moved (u := U) (U := U.calling g mk a) (Vm.Alike.refl U.vm) qK, qD⟩, va_recv hKc hPc (ci := 16) (q0 := 0) rfl rfl, fun U hU hW => ⟨rfl, by rw [hU], by rw [hU]; exact hPc, va_K.moved hW.alike hKc, hDc.weaken (fun _ _ _ _ => trivial)⟩⟩ rfl rfl hl.1 rfl (lv_room (Nat.le_of_ble_eq_true rfl)) dX19_word__19 ⟨(Nat.le_of_ble_eq_true rfl), (Nat.le_of_ble_eq_true rfl)⟩) hS (fun q _ h => hFc q h) hFc (fun r_2001 u t H1 locs ht hvm hw hB hz1 hk1 hS => ?_)
    obtain ⟨hP1, hK1, hD1⟩ := hB
    rw [ht] at hP1
    have hK1 := va_K.moved hvm.symm hK1
    obtain ⟨hP, hD⟩ := va_join (wr := []) (w1 := [(h0, .inr (16, [.ref q_1, .ref q_12, .ref q_17, .ref q_22, .ref q_24, .ref q_26, .ref q_28, .ref q_29, .ref q_31, .ref q_33, .ref q_35, .int 0, .ref q_37, .ref q_39, .ref q_41, .ref q_43, .ref q_45, .ref q_47, .ref q_49, .ref q_51, .ref q_53, .ref q_55, .ref q_57, .int 0, .ref q_59, .ref q_61, .ref q_63, .int (-1), .int 0, .int 0, .int 0, .int 0, .ref q_65, .int 1, .ref q_68, .int 0, .int (-1), .int 0, .int 0, .ref q_70, .ref q_72]))]) hP hD [0] [] rfl rfl (by decide) (by decide) hk1 hFc hP1 hD1
    have hK := (hK.sub (tys' := []) [] rfl).app hK1
    generalize H1 = H at hP hS ⊢
    have hP : va_P (dC, dI) vwP [(h0, .inr (16, [.ref q_1, .ref q_12, .ref q_17, .ref q_22, .ref q_24, .ref q_26, .ref q_28, .ref q_29, .ref q_31, .ref q_33, .ref q_35, .int 0, .ref q_37, .ref q_39, .ref q_41, .ref q_43, .ref q_45, .ref q_47, .ref q_49, .ref q_51, .ref q_53, .ref q_55, .ref q_57, .int 0, .ref q_59, .ref q_61, .ref q_63, .int (-1), .int 0, .int 0, .int 0, .int 0, .ref q_65, .int 1, .ref q_68, .int 0, .int (-1), .int 0, .int 0, .ref q_70, .ref q_72]))] H := hP
    have hD : va_D A [(h0, .inr (16, [.ref q_1, .ref q_12, .ref q_17, .ref q_22, .ref q_24, .ref q_26, .ref q_28, .ref q_29, .ref q_31, .ref q_33, .ref q_35, .int 0, .ref q_37, .ref q_39, .ref q_41, .ref q_43, .ref q_45, .ref q_47, .ref q_49, .ref q_51, .ref q_53, .ref q_55, .ref q_57, .int 0, .ref q_59, .ref q_61, .ref q_63, .int (-1), .int 0, .int 0, .int 0, .int 0, .ref q_65, .int 1, .ref q_68, .int 0, .int (-1), .int 0, .int 0, .ref q_70, .ref q_72]))] := hD
    have hK : va_K (dC, dI) vwP [] s := hK
    refine W.widen (k := 0) (n := 0) (Nat.le_of_ble_eq_true rfl) (Nat.le_of_ble_eq_true rfl) ?_
    obtain rfl : r_2001 = 0 := hw
    refine lv_i2l hx hb dX19_word__22 rfl ?_
    have zb6 : p0.toInt < 0 := z_lt b6
    refine W.widen (k := 0) (n := 0) (Nat.le_of_ble_eq_true rfl) (Nat.le_of_ble_eq_true rfl) ?_
    exact W.lret (v := ((0 : Int32).toInt64)) hx hb hr (fun t ht hW => ⟨⟨((0 : Int32).toInt64), (), rfl, (fun h9 => absurd ((show kf_word = 1 by unfold kf_word; first | rfl | (split <;> first | rfl | (exfalso; omega))).symm.trans h9) (by decide)), 1, 0, (-1), 0, q_72, (show kf_word = 1 by unfold kf_word; first | rfl | (split <;> first | rfl | (exfalso; omega))).symm, by rw [ht]; exact hP, va_K.moved hW.alike hK, hD⟩, hS.F ht⟩) hS.2.2 dX19_word__23
  · refine lv_iload_n hx hb dX19_word__9 rfl (lv_at hl 1 rfl) ?_
    refine lv_aload_n hx hb dX19_word__10 rfl (lv_at hl 0 rfl) ?_
    refine va_get (D := (dC, dI)) (ci := 16) (v := .int 0) (C := RX19) (T := TX19) (N := 41) hx hb hts mem_X19_word__0 hown hK hP 0 rfl rfl 38 (by decide) (ow (k := 5) rfl) (fun _ h9 => h9) rfl dX19_word__11 ?_
    refine lv_icmp_lt (tgt := 24) hx hb dX19_word__14 (by decide) (fun h9 => absurd h9 b6) (fun _ => ?_)
    refine lv_aload_n hx hb dX19_word__17 rfl (lv_at hl 0 rfl) ?_
    refine lv_iconst (v := 1) hx hb dX19_word__18 (by decide) ?_
    have hPc := hP.sub (ws' := [(h0, .inr (16, [.ref q_1, .ref q_12, .ref q_17, .ref q_22, .ref q_24, .ref q_26, .ref q_28, .ref q_29, .ref q_31, .ref q_33, .ref q_35, .int 0, .ref q_37, .ref q_39, .ref q_41, .ref q_43, .ref q_45, .ref q_47, .ref q_49, .ref q_51, .ref q_53, .ref q_55, .ref q_57, .int 0, .ref q_59, .ref q_61, .ref q_63, .int (-1), .int 0, .int 0, .int 0, .int 0, .ref q_65, .int 0, .ref q_68, .int 0, .int (-1), .int 0, .int 0, .ref q_70, .ref q_72]))]) [0] rfl
    have hDc := hD.sub (ws' := [(h0, .inr (16, [.ref q_1, .ref q_12, .ref q_17, .ref q_22, .ref q_24, .ref q_26, .ref q_28, .ref q_29, .ref q_31, .ref q_33, .ref q_35, .int 0, .ref q_37, .ref q_39, .ref q_41, .ref q_43, .ref q_45, .ref q_47, .ref q_49, .ref q_51, .ref q_53, .ref q_55, .ref q_57, .int 0, .ref q_59, .ref q_61, .ref q_63, .int (-1), .int 0, .int 0, .int 0, .int 0, .ref q_65, .int 0, .ref q_68, .int 0, .int (-1), .int 0, .int 0, .ref q_70, .ref q_72]))]) [0] (by decide) rfl
    have hKc := hK.sub (tys' := []) [] rfl
    have hFc := va_free (wc := [(h0, .inr (16, [.ref q_1, .ref q_12, .ref q_17, .ref q_22, .ref q_24, .ref q_26, .ref q_28, .ref q_29, .ref q_31, .ref q_33, .ref q_35, .int 0, .ref q_37, .ref q_39, .ref q_41, .ref q_43, .ref q_45, .ref q_47, .ref q_49, .ref q_51, .ref q_53, .ref q_55, .ref q_57, .int 0, .ref q_59, .ref q_61, .ref q_63, .int (-1), .int 0, .int 0, .int 0, .int 0, .ref q_65, .int 0, .ref q_68, .int 0, .int (-1), .int 0, .int 0, .ref q_70, .ref q_72]))]) hD hS hA [0] rfl
    refine va_calli (va_runV (As := [.int 1]) (rest := []) ⟨hx, hb, hml, hown, hts⟩ (c_X19_no l dC dI h0 q_1 q_12 q_17 q_22 q_24 q_26 q_28 q_29 q_31 q_33 q_35 q_37 q_39 q_41 q_43 q_45 q_47 q_49 q_51 q_53 q_55 q_57 q_59 q_61 q_63 q_65 q_68 q_70 q_72 1 H.size) (cwV 1 hts g_X19_word__X19_no rfl rfl rfl (by decide +kernel) ⟨(Nat.le_of_ble_eq_true rfl), (Nat.le_of_ble_eq_true rfl)⟩) ⟨fun a U g mk q => by obtain ⟨q0, q1, qP, qK, qD⟩ := q; exact ⟨q0, q1, qP, va_K.moved (u := U) (U := U.calling g mk a) (Vm.Alike.refl U.vm) qK, qD⟩, va_recv hKc hPc (ci := 16) (q0 := 0) rfl rfl, fun U hU hW => ⟨rfl, by rw [hU], by rw [hU]; exact hPc, va_K.moved hW.alike hKc, hDc.weaken (fun _ _ _ _ => trivial)⟩⟩ rfl rfl hl.1 rfl (lv_room (Nat.le_of_ble_eq_true rfl)) dX19_word__19 ⟨(Nat.le_of_ble_eq_true rfl), (Nat.le_of_ble_eq_true rfl)⟩) hS (fun q _ h => hFc q h) hFc (fun r_2002 u t H1 locs ht hvm hw hB hz1 hk1 hS => ?_)
    obtain ⟨hP1, hK1, hD1⟩ := hB
    rw [ht] at hP1
    have hK1 := va_K.moved hvm.symm hK1
    obtain ⟨hP, hD⟩ := va_join (wr := []) (w1 := [(h0, .inr (16, [.ref q_1, .ref q_12, .ref q_17, .ref q_22, .ref q_24, .ref q_26, .ref q_28, .ref q_29, .ref q_31, .ref q_33, .ref q_35, .int 0, .ref q_37, .ref q_39, .ref q_41, .ref q_43, .ref q_45, .ref q_47, .ref q_49, .ref q_51, .ref q_53, .ref q_55, .ref q_57, .int 0, .ref q_59, .ref q_61, .ref q_63, .int (-1), .int 0, .int 0, .int 0, .int 0, .ref q_65, .int 1, .ref q_68, .int 0, .int (-1), .int 0, .int 0, .ref q_70, .ref q_72]))]) hP hD [0] [] rfl rfl (by decide) (by decide) hk1 hFc hP1 hD1
    have hK := (hK.sub (tys' := []) [] rfl).app hK1
    generalize H1 = H at hP hS ⊢
    have hP : va_P (dC, dI) vwP [(h0, .inr (16, [.ref q_1, .ref q_12, .ref q_17, .ref q_22, .ref q_24, .ref q_26, .ref q_28, .ref q_29, .ref q_31, .ref q_33, .ref q_35, .int 0, .ref q_37, .ref q_39, .ref q_41, .ref q_43, .ref q_45, .ref q_47, .ref q_49, .ref q_51, .ref q_53, .ref q_55, .ref q_57, .int 0, .ref q_59, .ref q_61, .ref q_63, .int (-1), .int 0, .int 0, .int 0, .int 0, .ref q_65, .int 1, .ref q_68, .int 0, .int (-1), .int 0, .int 0, .ref q_70, .ref q_72]))] H := hP
    have hD : va_D A [(h0, .inr (16, [.ref q_1, .ref q_12, .ref q_17, .ref q_22, .ref q_24, .ref q_26, .ref q_28, .ref q_29, .ref q_31, .ref q_33, .ref q_35, .int 0, .ref q_37, .ref q_39, .ref q_41, .ref q_43, .ref q_45, .ref q_47, .ref q_49, .ref q_51, .ref q_53, .ref q_55, .ref q_57, .int 0, .ref q_59, .ref q_61, .ref q_63, .int (-1), .int 0, .int 0, .int 0, .int 0, .ref q_65, .int 1, .ref q_68, .int 0, .int (-1), .int 0, .int 0, .ref q_70, .ref q_72]))] := hD
    have hK : va_K (dC, dI) vwP [] s := hK
    refine W.widen (k := 0) (n := 0) (Nat.le_of_ble_eq_true rfl) (Nat.le_of_ble_eq_true rfl) ?_
    obtain rfl : r_2002 = 0 := hw
    refine lv_i2l hx hb dX19_word__22 rfl ?_
    have zb6 : 0 ≤ p0.toInt := z_nlt b6
    refine W.widen (k := 0) (n := 0) (Nat.le_of_ble_eq_true rfl) (Nat.le_of_ble_eq_true rfl) ?_
    exact W.lret (v := ((0 : Int32).toInt64)) hx hb hr (fun t ht hW => ⟨⟨((0 : Int32).toInt64), (), rfl, (fun h9 => absurd ((show kf_word = 1 by unfold kf_word; first | rfl | (split <;> first | rfl | (exfalso; omega))).symm.trans h9) (by decide)), 1, 0, (-1), 0, q_72, (show kf_word = 1 by unfold kf_word; first | rfl | (split <;> first | rfl | (exfalso; omega))).symm, by rw [ht]; exact hP, va_K.moved hW.alike hK, hD⟩, hS.F ht⟩) hS.2.2 dX19_word__23
theorem dX19_thrown_0 : decode cX19_thrown 0 = .ok (.aload_n 0, 1) := by decide +kernel
theorem dX19_thrown_1 : decode cX19_thrown 1 = .ok (.getfield 560, 3) := by decide +kernel
theorem dX19_thrown_4 : decode cX19_thrown 4 = .ok (.ireturn, 1) := by decide +kernel
def o_X19_thrown : List Cond := [.fieldLink RX19 560 "SsaForgeModel" "thrown" "I"]
def v_X19_thrown : List Cond := .code yX19_thrown cX19_thrown 1 (some .int) :: (o_X19_thrown ++ (wsX190 ++ []))
theorem mow_X19_thrown : ∀ w ∈ o_X19_thrown, w ∈ v_X19_thrown := fun _ h => List.mem_cons_of_mem _ (List.mem_append_left _ h)
theorem mem_X19_thrown_0 : ∀ w ∈ wsX190, w ∈ v_X19_thrown := fun _ h => List.mem_cons_of_mem _ (List.mem_append_right _ (List.mem_append_left _ h))
set_option maxRecDepth 20000 in
theorem gw_X19_thrown : v_X19_thrown.all goodWord = true := by decide +kernel
set_option maxHeartbeats 4000000 in
set_option maxRecDepth 100000 in
theorem c_X19_thrown (l : Launch) (dC : Nat → ClassId) (dI : Nat → Nat → Nat) (h0 : Nat) (q_1 : Nat) (q_12 : Nat) (q_17 : Nat) (q_22 : Nat) (q_24 : Nat) (q_26 : Nat) (q_28 : Nat) (q_29 : Nat) (q_31 : Nat) (q_33 : Nat) (q_35 : Nat) (q_37 : Nat) (q_39 : Nat) (q_41 : Nat) (q_43 : Nat) (q_45 : Nat) (q_47 : Nat) (q_49 : Nat) (q_51 : Nat) (q_53 : Nat) (q_55 : Nat) (q_57 : Nat) (q_59 : Nat) (q_61 : Nat) (q_63 : Nat) (q_65 : Nat) (i_33 : Int32) (q_68 : Nat) (i_35 : Int32) (i_36 : Int32) (i_37 : Int32) (q_70 : Nat) (q_940 : Nat) (sz : Nat) : Met l yX19_thrown v_X19_thrown ({ frames := 0, cells := 0, slots := 0, locals := 0 }) (va_Pc [.ref h0] (fun U => U.heap.size = sz ∧ va_P (dC, dI) vwP [(h0, .inr (16, [.ref q_1, .ref q_12, .ref q_17, .ref q_22, .ref q_24, .ref q_26, .ref q_28, .ref q_29, .ref q_31, .ref q_33, .ref q_35, .int 0, .ref q_37, .ref q_39, .ref q_41, .ref q_43, .ref q_45, .ref q_47, .ref q_49, .ref q_51, .ref q_53, .ref q_55, .ref q_57, .int 0, .ref q_59, .ref q_61, .ref q_63, .int (-1), .int 0, .int 0, .int 0, .int 0, .ref q_65, .int i_33, .ref q_68, .int i_35, .int i_36, .int i_37, .int 0, .ref q_70, .ref q_940]))] U.heap ∧ va_K (dC, dI) vwP [] U ∧ va_D (fun _ => True) [(h0, .inr (16, [.ref q_1, .ref q_12, .ref q_17, .ref q_22, .ref q_24, .ref q_26, .ref q_28, .ref q_29, .ref q_31, .ref q_33, .ref q_35, .int 0, .ref q_37, .ref q_39, .ref q_41, .ref q_43, .ref q_45, .ref q_47, .ref q_49, .ref q_51, .ref q_53, .ref q_55, .ref q_57, .int 0, .ref q_59, .ref q_61, .ref q_63, .int (-1), .int 0, .int 0, .int 0, .int 0, .ref q_65, .int i_33, .ref q_68, .int i_35, .int i_36, .int i_37, .int 0, .ref q_70, .ref q_940]))])) (va_Qi (fun (r : Int32) (_ : Unit) => r = i_33) (fun (_ : Unit) (t : State) => va_P (dC, dI) vwP [] t.heap ∧ va_K (dC, dI) vwP [] t ∧ va_D (va_A [(h0, .inr (16, [.ref q_1, .ref q_12, .ref q_17, .ref q_22, .ref q_24, .ref q_26, .ref q_28, .ref q_29, .ref q_31, .ref q_33, .ref q_35, .int 0, .ref q_37, .ref q_39, .ref q_41, .ref q_43, .ref q_45, .ref q_47, .ref q_49, .ref q_51, .ref q_53, .ref q_55, .ref q_57, .int 0, .ref q_59, .ref q_61, .ref q_63, .int (-1), .int 0, .int 0, .int 0, .int 0, .ref q_65, .int i_33, .ref q_68, .int i_35, .int i_36, .int i_37, .int 0, .ref q_70, .ref q_940]))] sz) []) (va_A [(h0, .inr (16, [.ref q_1, .ref q_12, .ref q_17, .ref q_22, .ref q_24, .ref q_26, .ref q_28, .ref q_29, .ref q_31, .ref q_33, .ref q_35, .int 0, .ref q_37, .ref q_39, .ref q_41, .ref q_43, .ref q_45, .ref q_47, .ref q_49, .ref q_51, .ref q_53, .ref q_55, .ref q_57, .int 0, .ref q_59, .ref q_61, .ref q_63, .int (-1), .int 0, .int 0, .int 0, .int 0, .ref q_65, .int i_33, .ref q_68, .int i_35, .int i_36, .int i_37, .int 0, .ref q_70, .ref q_940]))] sz)) 0 0 (va_A [(h0, .inr (16, [.ref q_1, .ref q_12, .ref q_17, .ref q_22, .ref q_24, .ref q_26, .ref q_28, .ref q_29, .ref q_31, .ref q_33, .ref q_35, .int 0, .ref q_37, .ref q_39, .ref q_41, .ref q_43, .ref q_45, .ref q_47, .ref q_49, .ref q_51, .ref q_53, .ref q_55, .ref q_57, .int 0, .ref q_59, .ref q_61, .ref q_63, .int (-1), .int 0, .int 0, .int 0, .int 0, .ref q_65, .int i_33, .ref q_68, .int i_35, .int i_36, .int i_37, .int 0, .ref q_70, .ref q_940]))] sz) := by
  refine Met.ofW (cc := cX19_thrown) (maxL := 1) (ret := (some .int)) (by decide) rfl ?_
  intro p e s m args below meth c s₁ B hml hv
  obtain ⟨rfl, hsz, hP, hK, hD0⟩ := hv
  have hx := B.exec
  have hb := B.bytes
  have hr := B.returns
  have hts := atoms_spec (ws := v_X19_thrown) B.pre
  have hown : s.vm.findClass RX19 = some m.cls := findClass_of_methodNamed B.named
  have hlocks := B.notSynchronized
  have ow : ∀ {k : Nat} {w : Cond}, o_X19_thrown[k]? = some w → w.before ([.ref h0] : List Value).toArray s = true := fun h => hts _ (mow_X19_thrown _ (List.mem_of_getElem? h))
  subst hsz
  have hD := hD0.self (sz := s.heap.size)
  generalize hAe : va_A [(h0, .inr (16, [.ref q_1, .ref q_12, .ref q_17, .ref q_22, .ref q_24, .ref q_26, .ref q_28, .ref q_29, .ref q_31, .ref q_33, .ref q_35, .int 0, .ref q_37, .ref q_39, .ref q_41, .ref q_43, .ref q_45, .ref q_47, .ref q_49, .ref q_51, .ref q_53, .ref q_55, .ref q_57, .int 0, .ref q_59, .ref q_61, .ref q_63, .int (-1), .int 0, .int 0, .int 0, .int 0, .ref q_65, .int i_33, .ref q_68, .int i_35, .int i_36, .int i_37, .int 0, .ref q_70, .ref q_940]))] s.heap.size = A at hD ⊢
  have hA : ∀ q : Nat, s.heap.size ≤ q → A q := fun q h => by rw [← hAe]; exact Or.inr h
  have hS : va_S A s.heap s.heap [] := va_S.rf
  have hP : va_P (dC, dI) vwP [(h0, .inr (16, [.ref q_1, .ref q_12, .ref q_17, .ref q_22, .ref q_24, .ref q_26, .ref q_28, .ref q_29, .ref q_31, .ref q_33, .ref q_35, .int 0, .ref q_37, .ref q_39, .ref q_41, .ref q_43, .ref q_45, .ref q_47, .ref q_49, .ref q_51, .ref q_53, .ref q_55, .ref q_57, .int 0, .ref q_59, .ref q_61, .ref q_63, .int (-1), .int 0, .int 0, .int 0, .int 0, .ref q_65, .int i_33, .ref q_68, .int i_35, .int i_36, .int i_37, .int 0, .ref q_70, .ref q_940]))] s.heap := hP
  have hl := lv_entry ([.ref h0]) (n := 1) (Nat.le_of_ble_eq_true rfl)
  rw [lg_entry_eq]
  generalize (lg_sl ([.ref h0]) ++ List.replicate (1 - (lg_sl ([.ref h0])).length) Slot.unset).toArray = ls at hl ⊢
  have hl : lv_has ls 1 [(0, .ref h0)] := hl
  obtain ⟨H, hH⟩ : ∃ H, H = s.heap := ⟨_, rfl⟩
  rw [← hH] at hP
  have hS : va_S A s.heap H [] := by rw [hH]; exact hS
  rw [← hH]
  refine lv_aload_n hx hb dX19_thrown_0 rfl (lv_at hl 0 rfl) ?_
  refine va_get (D := (dC, dI)) (ci := 16) (v := .int i_33) (C := RX19) (T := TX19) (N := 41) hx hb hts mem_X19_thrown_0 hown hK hP 0 rfl rfl 33 (by decide) (ow (k := 0) rfl) (fun _ h9 => h9) rfl dX19_thrown_1 ?_
  have hP := hP.sub (ws' := []) [] rfl
  have hD := hD.sub (ws' := []) [] (by decide) rfl
  refine W.widen (k := 0) (n := 0) (Nat.le_of_ble_eq_true rfl) (Nat.le_of_ble_eq_true rfl) ?_
  exact W.iret (v := i_33) hx hb hr (fun t ht hW => ⟨⟨i_33, (), rfl, rfl, by rw [ht]; exact hP, va_K.moved hW.alike hK, hD⟩, hS.F ht⟩) hS.2.2 dX19_thrown_4
