theorem dX0_clear_0 : decode cX0_clear 0 = .ok (.aload_n 0, 1) := by decide +kernel
theorem dX0_clear_1 : decode cX0_clear 1 = .ok (.iconst 0, 1) := by decide +kernel
theorem dX0_clear_2 : decode cX0_clear 2 = .ok (.putfield 9, 3) := by decide +kernel
theorem dX0_clear_5 : decode cX0_clear 5 = .ok (.aload_n 0, 1) := by decide +kernel
theorem dX0_clear_6 : decode cX0_clear 6 = .ok (.iconst 0, 1) := by decide +kernel
theorem dX0_clear_7 : decode cX0_clear 7 = .ok (.putfield 15, 3) := by decide +kernel
theorem dX0_clear_10 : decode cX0_clear 10 = .ok (.aload_n 0, 1) := by decide +kernel
theorem dX0_clear_11 : decode cX0_clear 11 = .ok (.iconst 0, 1) := by decide +kernel
theorem dX0_clear_12 : decode cX0_clear 12 = .ok (.putfield 18, 3) := by decide +kernel
theorem dX0_clear_15 : decode cX0_clear 15 = .ok (.aload_n 0, 1) := by decide +kernel
theorem dX0_clear_16 : decode cX0_clear 16 = .ok (.iconst 0, 1) := by decide +kernel
theorem dX0_clear_17 : decode cX0_clear 17 = .ok (.putfield 21, 3) := by decide +kernel
theorem dX0_clear_20 : decode cX0_clear 20 = .ok (.aload_n 0, 1) := by decide +kernel
theorem dX0_clear_21 : decode cX0_clear 21 = .ok (.getfield 24, 3) := by decide +kernel
theorem dX0_clear_24 : decode cX0_clear 24 = .ok (.iconst 0, 1) := by decide +kernel
theorem dX0_clear_25 : decode cX0_clear 25 = .ok (.iconst 0, 1) := by decide +kernel
theorem dX0_clear_26 : decode cX0_clear 26 = .ok (.iastore, 1) := by decide +kernel
theorem dX0_clear_27 : decode cX0_clear 27 = .ok (.aload_n 0, 1) := by decide +kernel
theorem dX0_clear_28 : decode cX0_clear 28 = .ok (.getfield 59, 3) := by decide +kernel
theorem dX0_clear_31 : decode cX0_clear 31 = .ok (.iconst 0, 1) := by decide +kernel
theorem dX0_clear_32 : decode cX0_clear 32 = .ok (.iconst 0, 1) := by decide +kernel
theorem dX0_clear_33 : decode cX0_clear 33 = .ok (.iastore, 1) := by decide +kernel
theorem dX0_clear_34 : decode cX0_clear 34 = .ok (.return_, 1) := by decide +kernel
def o_X0_clear : List Cond := [.fieldLink RX0 9 "SsaForge$Code" "blocks" "I", .fieldLink RX0 15 "SsaForge$Code" "rows" "I", .fieldLink RX0 18 "SsaForge$Code" "phis" "I", .fieldLink RX0 21 "SsaForge$Code" "argCount" "I", .fieldLink RX0 24 "SsaForge$Code" "rowStart" "[I", .fieldLink RX0 59 "SsaForge$Code" "phiStart" "[I"]
def v_X0_clear : List Cond := .code yX0_clear cX0_clear 1 none :: (o_X0_clear ++ (wsX00 ++ []))
theorem mow_X0_clear : ∀ w ∈ o_X0_clear, w ∈ v_X0_clear := fun _ h => List.mem_cons_of_mem _ (List.mem_append_left _ h)
theorem mem_X0_clear_0 : ∀ w ∈ wsX00, w ∈ v_X0_clear := fun _ h => List.mem_cons_of_mem _ (List.mem_append_right _ (List.mem_append_left _ h))
set_option maxRecDepth 20000 in
theorem gw_X0_clear : v_X0_clear.all goodWord = true := by decide +kernel
set_option maxHeartbeats 4000000 in
set_option maxRecDepth 100000 in
theorem c_X0_clear (l : Launch) (dC : Nat → ClassId) (dI : Nat → Nat → Nat) (q_3 : Nat) (q_4 : Nat) (q_5 : Nat) (q_6 : Nat) (q_7 : Nat) (q_8 : Nat) (q_9 : Nat) (q_10 : Nat) (q_11 : Nat) (q_12 : Nat) (q_13 : Nat) (q_14 : Nat) (q_15 : Nat) (q_16 : Nat) (q_17 : Nat) (q_18 : Nat) (cA_19 : ClassId) (cA_20 : ClassId) (sz : Nat) : Met l yX0_clear v_X0_clear ({ frames := 0, cells := 0, slots := 0, locals := 0 }) (va_Pc [.ref q_3] (fun U => U.heap.size = sz ∧ va_P (dC, dI) vwP [(q_3, .inr (0, [.int 0, .int 0, .int 0, .int 0, .ref q_4, .ref q_5, .ref q_6, .ref q_7, .ref q_8, .ref q_9, .ref q_10, .ref q_11, .ref q_12, .ref q_13, .ref q_14, .ref q_15, .ref q_16, .ref q_17, .ref q_18])), (q_4, .inl (cA_19, 301, .inl (fun _ => 0))), (q_15, .inl (cA_20, 301, .inl (fun _ => 0)))] U.heap ∧ va_K (dC, dI) vwP [(cA_19, .int), (cA_20, .int)] U ∧ va_D (fun _ => True) [(q_3, .inr (0, [.int 0, .int 0, .int 0, .int 0, .ref q_4, .ref q_5, .ref q_6, .ref q_7, .ref q_8, .ref q_9, .ref q_10, .ref q_11, .ref q_12, .ref q_13, .ref q_14, .ref q_15, .ref q_16, .ref q_17, .ref q_18])), (q_4, .inl (cA_19, 301, .inl (fun _ => 0))), (q_15, .inl (cA_20, 301, .inl (fun _ => 0)))])) (va_Qv (fun _ : Unit => True) (fun (_ : Unit) (t : State) => ∃ (g0_9 : Nat → Int32) (g1_9 : Nat → Int32), va_P (dC, dI) vwP [(q_3, .inr (0, [.int 0, .int 0, .int 0, .int 0, .ref q_4, .ref q_5, .ref q_6, .ref q_7, .ref q_8, .ref q_9, .ref q_10, .ref q_11, .ref q_12, .ref q_13, .ref q_14, .ref q_15, .ref q_16, .ref q_17, .ref q_18])), (q_4, .inl (cA_19, 301, .inl g0_9)), (q_15, .inl (cA_20, 301, .inl g1_9))] t.heap ∧ va_K (dC, dI) vwP [(cA_19, .int), (cA_20, .int)] t ∧ va_D (va_A [(q_3, .inr (0, [.int 0, .int 0, .int 0, .int 0, .ref q_4, .ref q_5, .ref q_6, .ref q_7, .ref q_8, .ref q_9, .ref q_10, .ref q_11, .ref q_12, .ref q_13, .ref q_14, .ref q_15, .ref q_16, .ref q_17, .ref q_18])), (q_4, .inl (cA_19, 301, .inl (fun _ => 0))), (q_15, .inl (cA_20, 301, .inl (fun _ => 0)))] sz) [(q_3, .inr (0, [.int 0, .int 0, .int 0, .int 0, .ref q_4, .ref q_5, .ref q_6, .ref q_7, .ref q_8, .ref q_9, .ref q_10, .ref q_11, .ref q_12, .ref q_13, .ref q_14, .ref q_15, .ref q_16, .ref q_17, .ref q_18])), (q_4, .inl (cA_19, 301, .inl g0_9)), (q_15, .inl (cA_20, 301, .inl g1_9))]) (va_A [(q_3, .inr (0, [.int 0, .int 0, .int 0, .int 0, .ref q_4, .ref q_5, .ref q_6, .ref q_7, .ref q_8, .ref q_9, .ref q_10, .ref q_11, .ref q_12, .ref q_13, .ref q_14, .ref q_15, .ref q_16, .ref q_17, .ref q_18])), (q_4, .inl (cA_19, 301, .inl (fun _ => 0))), (q_15, .inl (cA_20, 301, .inl (fun _ => 0)))] sz)) 0 0 (va_A [(q_3, .inr (0, [.int 0, .int 0, .int 0, .int 0, .ref q_4, .ref q_5, .ref q_6, .ref q_7, .ref q_8, .ref q_9, .ref q_10, .ref q_11, .ref q_12, .ref q_13, .ref q_14, .ref q_15, .ref q_16, .ref q_17, .ref q_18])), (q_4, .inl (cA_19, 301, .inl (fun _ => 0))), (q_15, .inl (cA_20, 301, .inl (fun _ => 0)))] sz) := by
  refine Met.ofW (cc := cX0_clear) (maxL := 1) (ret := none) (by decide) rfl ?_
  intro p e s m args below meth c s₁ B hml hv
  obtain ⟨rfl, hsz, hP, hK, hD0⟩ := hv
  have hx := B.exec
  have hb := B.bytes
  have hr := B.returns
  have hts := atoms_spec (ws := v_X0_clear) B.pre
  have hown : s.vm.findClass RX0 = some m.cls := findClass_of_methodNamed B.named
  have hlocks := B.notSynchronized
  have ow : ∀ {k : Nat} {w : Cond}, o_X0_clear[k]? = some w → w.before ([.ref q_3] : List Value).toArray s = true := fun h => hts _ (mow_X0_clear _ (List.mem_of_getElem? h))
  subst hsz
  have hD := hD0.self (sz := s.heap.size)
  generalize hAe : va_A [(q_3, .inr (0, [.int 0, .int 0, .int 0, .int 0, .ref q_4, .ref q_5, .ref q_6, .ref q_7, .ref q_8, .ref q_9, .ref q_10, .ref q_11, .ref q_12, .ref q_13, .ref q_14, .ref q_15, .ref q_16, .ref q_17, .ref q_18])), (q_4, .inl (cA_19, 301, .inl (fun _ => 0))), (q_15, .inl (cA_20, 301, .inl (fun _ => 0)))] s.heap.size = A at hD ⊢
  have hA : ∀ q : Nat, s.heap.size ≤ q → A q := fun q h => by rw [← hAe]; exact Or.inr h
  have hS : va_S A s.heap s.heap [] := va_S.rf
  have hP : va_P (dC, dI) vwP [(q_3, .inr (0, [.int 0, .int 0, .int 0, .int 0, .ref q_4, .ref q_5, .ref q_6, .ref q_7, .ref q_8, .ref q_9, .ref q_10, .ref q_11, .ref q_12, .ref q_13, .ref q_14, .ref q_15, .ref q_16, .ref q_17, .ref q_18])), (q_4, .inl (cA_19, 301, .inl (fun _ => 0))), (q_15, .inl (cA_20, 301, .inl (fun _ => 0)))] s.heap := hP
  have hl := lv_entry ([.ref q_3]) (n := 1) (Nat.le_of_ble_eq_true rfl)
  rw [lg_entry_eq]
  generalize (lg_sl ([.ref q_3]) ++ List.replicate (1 - (lg_sl ([.ref q_3])).length) Slot.unset).toArray = ls at hl ⊢
  have hl : lv_has ls 1 [(0, .ref q_3)] := hl
  obtain ⟨H, hH⟩ : ∃ H, H = s.heap := ⟨_, rfl⟩
  rw [← hH] at hP
  have hS : va_S A s.heap H [] := by rw [hH]; exact hS
  rw [← hH]
  refine lv_aload_n hx hb dX0_clear_0 rfl (lv_at hl 0 rfl) ?_
  refine lv_iconst (v := 0) hx hb dX0_clear_1 (by decide) ?_
  refine va_put (D := (dC, dI)) (ci := 0) (v := .int 0) (ty := .int) (C := RX0) (T := TX0) (N := 19) hx hb hts mem_X0_clear_0 tyX0 tyX0_ok nmX0 hown hK hP hD hS 0 rfl rfl 0 (by decide) (ow (k := 0) rfl) (fun _ h9 => h9) rfl (by decide +kernel) rfl rfl (Nat.le_of_ble_eq_true rfl) dX0_clear_2 (fun H locs hP hD hS => ?_)
  have hP : va_P (dC, dI) vwP [(q_3, .inr (0, [.int 0, .int 0, .int 0, .int 0, .ref q_4, .ref q_5, .ref q_6, .ref q_7, .ref q_8, .ref q_9, .ref q_10, .ref q_11, .ref q_12, .ref q_13, .ref q_14, .ref q_15, .ref q_16, .ref q_17, .ref q_18])), (q_4, .inl (cA_19, 301, .inl (fun _ => 0))), (q_15, .inl (cA_20, 301, .inl (fun _ => 0)))] H := hP
  have hD : va_D A [(q_3, .inr (0, [.int 0, .int 0, .int 0, .int 0, .ref q_4, .ref q_5, .ref q_6, .ref q_7, .ref q_8, .ref q_9, .ref q_10, .ref q_11, .ref q_12, .ref q_13, .ref q_14, .ref q_15, .ref q_16, .ref q_17, .ref q_18])), (q_4, .inl (cA_19, 301, .inl (fun _ => 0))), (q_15, .inl (cA_20, 301, .inl (fun _ => 0)))] := hD
  refine lv_aload_n hx hb dX0_clear_5 rfl (lv_at hl 0 rfl) ?_
  refine lv_iconst (v := 0) hx hb dX0_clear_6 (by decide) ?_
  refine va_put (D := (dC, dI)) (ci := 0) (v := .int 0) (ty := .int) (C := RX0) (T := TX0) (N := 19) hx hb hts mem_X0_clear_0 tyX0 tyX0_ok nmX0 hown hK hP hD hS 0 rfl rfl 1 (by decide) (ow (k := 1) rfl) (fun _ h9 => h9) rfl (by decide +kernel) rfl rfl (Nat.le_of_ble_eq_true rfl) dX0_clear_7 (fun H locs hP hD hS => ?_)
  have hP : va_P (dC, dI) vwP [(q_3, .inr (0, [.int 0, .int 0, .int 0, .int 0, .ref q_4, .ref q_5, .ref q_6, .ref q_7, .ref q_8, .ref q_9, .ref q_10, .ref q_11, .ref q_12, .ref q_13, .ref q_14, .ref q_15, .ref q_16, .ref q_17, .ref q_18])), (q_4, .inl (cA_19, 301, .inl (fun _ => 0))), (q_15, .inl (cA_20, 301, .inl (fun _ => 0)))] H := hP
  have hD : va_D A [(q_3, .inr (0, [.int 0, .int 0, .int 0, .int 0, .ref q_4, .ref q_5, .ref q_6, .ref q_7, .ref q_8, .ref q_9, .ref q_10, .ref q_11, .ref q_12, .ref q_13, .ref q_14, .ref q_15, .ref q_16, .ref q_17, .ref q_18])), (q_4, .inl (cA_19, 301, .inl (fun _ => 0))), (q_15, .inl (cA_20, 301, .inl (fun _ => 0)))] := hD
  refine lv_aload_n hx hb dX0_clear_10 rfl (lv_at hl 0 rfl) ?_
  refine lv_iconst (v := 0) hx hb dX0_clear_11 (by decide) ?_
  refine va_put (D := (dC, dI)) (ci := 0) (v := .int 0) (ty := .int) (C := RX0) (T := TX0) (N := 19) hx hb hts mem_X0_clear_0 tyX0 tyX0_ok nmX0 hown hK hP hD hS 0 rfl rfl 2 (by decide) (ow (k := 2) rfl) (fun _ h9 => h9) rfl (by decide +kernel) rfl rfl (Nat.le_of_ble_eq_true rfl) dX0_clear_12 (fun H locs hP hD hS => ?_)
  have hP : va_P (dC, dI) vwP [(q_3, .inr (0, [.int 0, .int 0, .int 0, .int 0, .ref q_4, .ref q_5, .ref q_6, .ref q_7, .ref q_8, .ref q_9, .ref q_10, .ref q_11, .ref q_12, .ref q_13, .ref q_14, .ref q_15, .ref q_16, .ref q_17, .ref q_18])), (q_4, .inl (cA_19, 301, .inl (fun _ => 0))), (q_15, .inl (cA_20, 301, .inl (fun _ => 0)))] H := hP
  have hD : va_D A [(q_3, .inr (0, [.int 0, .int 0, .int 0, .int 0, .ref q_4, .ref q_5, .ref q_6, .ref q_7, .ref q_8, .ref q_9, .ref q_10, .ref q_11, .ref q_12, .ref q_13, .ref q_14, .ref q_15, .ref q_16, .ref q_17, .ref q_18])), (q_4, .inl (cA_19, 301, .inl (fun _ => 0))), (q_15, .inl (cA_20, 301, .inl (fun _ => 0)))] := hD
  refine lv_aload_n hx hb dX0_clear_15 rfl (lv_at hl 0 rfl) ?_
  refine lv_iconst (v := 0) hx hb dX0_clear_16 (by decide) ?_
  refine va_put (D := (dC, dI)) (ci := 0) (v := .int 0) (ty := .int) (C := RX0) (T := TX0) (N := 19) hx hb hts mem_X0_clear_0 tyX0 tyX0_ok nmX0 hown hK hP hD hS 0 rfl rfl 3 (by decide) (ow (k := 3) rfl) (fun _ h9 => h9) rfl (by decide +kernel) rfl rfl (Nat.le_of_ble_eq_true rfl) dX0_clear_17 (fun H locs hP hD hS => ?_)
  have hP : va_P (dC, dI) vwP [(q_3, .inr (0, [.int 0, .int 0, .int 0, .int 0, .ref q_4, .ref q_5, .ref q_6, .ref q_7, .ref q_8, .ref q_9, .ref q_10, .ref q_11, .ref q_12, .ref q_13, .ref q_14, .ref q_15, .ref q_16, .ref q_17, .ref q_18])), (q_4, .inl (cA_19, 301, .inl (fun _ => 0))), (q_15, .inl (cA_20, 301, .inl (fun _ => 0)))] H := hP
  have hD : va_D A [(q_3, .inr (0, [.int 0, .int 0, .int 0, .int 0, .ref q_4, .ref q_5, .ref q_6, .ref q_7, .ref q_8, .ref q_9, .ref q_10, .ref q_11, .ref q_12, .ref q_13, .ref q_14, .ref q_15, .ref q_16, .ref q_17, .ref q_18])), (q_4, .inl (cA_19, 301, .inl (fun _ => 0))), (q_15, .inl (cA_20, 301, .inl (fun _ => 0)))] := hD
  refine lv_aload_n hx hb dX0_clear_20 rfl (lv_at hl 0 rfl) ?_
  refine va_get (D := (dC, dI)) (ci := 0) (v := .ref q_4) (C := RX0) (T := TX0) (N := 19) hx hb hts mem_X0_clear_0 hown hK hP 0 rfl rfl 4 (by decide) (ow (k := 4) rfl) (fun _ h9 => h9) rfl dX0_clear_21 ?_
  refine lv_iconst (v := 0) hx hb dX0_clear_24 (by decide) ?_
  refine lv_iconst (v := 0) hx hb dX0_clear_25 (by decide) ?_
  refine va_iast hx hb hK hP hD hS 1 0 rfl rfl (show vp_in 0 301 by rw [vp_in_iff]; decide) dX0_clear_26 (fun H locs hP hD hS => ?_)
  have hP : va_P (dC, dI) vwP [(q_3, .inr (0, [.int 0, .int 0, .int 0, .int 0, .ref q_4, .ref q_5, .ref q_6, .ref q_7, .ref q_8, .ref q_9, .ref q_10, .ref q_11, .ref q_12, .ref q_13, .ref q_14, .ref q_15, .ref q_16, .ref q_17, .ref q_18])), (q_4, .inl (cA_19, 301, .inl (upd (fun _ => 0) (0 : Int32).toNatClampNeg 0))), (q_15, .inl (cA_20, 301, .inl (fun _ => 0)))] H := hP
  have hD : va_D A [(q_3, .inr (0, [.int 0, .int 0, .int 0, .int 0, .ref q_4, .ref q_5, .ref q_6, .ref q_7, .ref q_8, .ref q_9, .ref q_10, .ref q_11, .ref q_12, .ref q_13, .ref q_14, .ref q_15, .ref q_16, .ref q_17, .ref q_18])), (q_4, .inl (cA_19, 301, .inl (upd (fun _ => 0) (0 : Int32).toNatClampNeg 0))), (q_15, .inl (cA_20, 301, .inl (fun _ => 0)))] := hD
  generalize (upd (fun _ => 0) (0 : Int32).toNatClampNeg 0) = f_2001 at hP hD
  refine lv_aload_n hx hb dX0_clear_27 rfl (lv_at hl 0 rfl) ?_
  refine va_get (D := (dC, dI)) (ci := 0) (v := .ref q_15) (C := RX0) (T := TX0) (N := 19) hx hb hts mem_X0_clear_0 hown hK hP 0 rfl rfl 15 (by decide) (ow (k := 5) rfl) (fun _ h9 => h9) rfl dX0_clear_28 ?_
  refine lv_iconst (v := 0) hx hb dX0_clear_31 (by decide) ?_
  refine lv_iconst (v := 0) hx hb dX0_clear_32 (by decide) ?_
  refine va_iast hx hb hK hP hD hS 2 1 rfl rfl (show vp_in 0 301 by rw [vp_in_iff]; decide) dX0_clear_33 (fun H locs hP hD hS => ?_)
  have hP : va_P (dC, dI) vwP [(q_3, .inr (0, [.int 0, .int 0, .int 0, .int 0, .ref q_4, .ref q_5, .ref q_6, .ref q_7, .ref q_8, .ref q_9, .ref q_10, .ref q_11, .ref q_12, .ref q_13, .ref q_14, .ref q_15, .ref q_16, .ref q_17, .ref q_18])), (q_4, .inl (cA_19, 301, .inl f_2001)), (q_15, .inl (cA_20, 301, .inl (upd (fun _ => 0) (0 : Int32).toNatClampNeg 0)))] H := hP
  have hD : va_D A [(q_3, .inr (0, [.int 0, .int 0, .int 0, .int 0, .ref q_4, .ref q_5, .ref q_6, .ref q_7, .ref q_8, .ref q_9, .ref q_10, .ref q_11, .ref q_12, .ref q_13, .ref q_14, .ref q_15, .ref q_16, .ref q_17, .ref q_18])), (q_4, .inl (cA_19, 301, .inl f_2001)), (q_15, .inl (cA_20, 301, .inl (upd (fun _ => 0) (0 : Int32).toNatClampNeg 0)))] := hD
  generalize (upd (fun _ => 0) (0 : Int32).toNatClampNeg 0) = f_2002 at hP hD
  refine W.widen (k := 0) (n := 0) (Nat.le_of_ble_eq_true rfl) (Nat.le_of_ble_eq_true rfl) ?_
  exact W.vret hx hb hr (fun t ht hW => ⟨⟨(), rfl, trivial, f_2001, f_2002, by rw [ht]; exact hP, va_K.moved hW.alike hK, hD⟩, hS.F ht⟩) hS.2.2 dX0_clear_34
theorem dX7_begin_0 : decode cX7_begin 0 = .ok (.aload_n 0, 1) := by decide +kernel
theorem dX7_begin_1 : decode cX7_begin 1 = .ok (.aload_n 1, 1) := by decide +kernel
theorem dX7_begin_2 : decode cX7_begin 2 = .ok (.putfield 15, 3) := by decide +kernel
theorem dX7_begin_5 : decode cX7_begin 5 = .ok (.aload_n 0, 1) := by decide +kernel
theorem dX7_begin_6 : decode cX7_begin 6 = .ok (.iload_n 2, 1) := by decide +kernel
theorem dX7_begin_7 : decode cX7_begin 7 = .ok (.putfield 19, 3) := by decide +kernel
theorem dX7_begin_10 : decode cX7_begin 10 = .ok (.aload_n 0, 1) := by decide +kernel
theorem dX7_begin_11 : decode cX7_begin 11 = .ok (.aload_n 3, 1) := by decide +kernel
theorem dX7_begin_12 : decode cX7_begin 12 = .ok (.putfield 37, 3) := by decide +kernel
theorem dX7_begin_15 : decode cX7_begin 15 = .ok (.aload_n 0, 1) := by decide +kernel
theorem dX7_begin_16 : decode cX7_begin 16 = .ok (.iconst 0, 1) := by decide +kernel
theorem dX7_begin_17 : decode cX7_begin 17 = .ok (.putfield 22, 3) := by decide +kernel
theorem dX7_begin_20 : decode cX7_begin 20 = .ok (.aload_n 0, 1) := by decide +kernel
theorem dX7_begin_21 : decode cX7_begin 21 = .ok (.iconst 1, 1) := by decide +kernel
theorem dX7_begin_22 : decode cX7_begin 22 = .ok (.putfield 25, 3) := by decide +kernel
theorem dX7_begin_25 : decode cX7_begin 25 = .ok (.aload_n 0, 1) := by decide +kernel
theorem dX7_begin_26 : decode cX7_begin 26 = .ok (.iconst 0, 1) := by decide +kernel
theorem dX7_begin_27 : decode cX7_begin 27 = .ok (.putfield 34, 3) := by decide +kernel
theorem dX7_begin_30 : decode cX7_begin 30 = .ok (.aload_n 0, 1) := by decide +kernel
theorem dX7_begin_31 : decode cX7_begin 31 = .ok (.iconst 0, 1) := by decide +kernel
theorem dX7_begin_32 : decode cX7_begin 32 = .ok (.putfield 41, 3) := by decide +kernel
theorem dX7_begin_35 : decode cX7_begin 35 = .ok (.aload_n 0, 1) := by decide +kernel
theorem dX7_begin_36 : decode cX7_begin 36 = .ok (.iconst 0, 1) := by decide +kernel
theorem dX7_begin_37 : decode cX7_begin 37 = .ok (.putfield 44, 3) := by decide +kernel
theorem dX7_begin_40 : decode cX7_begin 40 = .ok (.aload_n 0, 1) := by decide +kernel
theorem dX7_begin_41 : decode cX7_begin 41 = .ok (.iconst (-1), 1) := by decide +kernel
theorem dX7_begin_42 : decode cX7_begin 42 = .ok (.putfield 60, 3) := by decide +kernel
theorem dX7_begin_45 : decode cX7_begin 45 = .ok (.aload_n 0, 1) := by decide +kernel
theorem dX7_begin_46 : decode cX7_begin 46 = .ok (.iconst 0, 1) := by decide +kernel
theorem dX7_begin_47 : decode cX7_begin 47 = .ok (.putfield 9, 3) := by decide +kernel
theorem dX7_begin_50 : decode cX7_begin 50 = .ok (.aload_n 3, 1) := by decide +kernel
theorem dX7_begin_51 : decode cX7_begin 51 = .ok (.invokevirtual 90, 3) := by decide +kernel
theorem dX7_begin_54 : decode cX7_begin 54 = .ok (.iconst 0, 1) := by decide +kernel
theorem dX7_begin_55 : decode cX7_begin 55 = .ok (.istore 4, 2) := by decide +kernel
theorem dX7_begin_57 : decode cX7_begin 57 = .ok (.iload 4, 2) := by decide +kernel
theorem dX7_begin_59 : decode cX7_begin 59 = .ok (.bipush 60, 2) := by decide +kernel
theorem dX7_begin_61 : decode cX7_begin 61 = .ok (.if_icmp .ge 25, 3) := by decide +kernel
theorem dX7_begin_64 : decode cX7_begin 64 = .ok (.aload_n 0, 1) := by decide +kernel
theorem dX7_begin_65 : decode cX7_begin 65 = .ok (.getfield 63, 3) := by decide +kernel
theorem dX7_begin_68 : decode cX7_begin 68 = .ok (.iload 4, 2) := by decide +kernel
theorem dX7_begin_70 : decode cX7_begin 70 = .ok (.iconst 0, 1) := by decide +kernel
theorem dX7_begin_71 : decode cX7_begin 71 = .ok (.bastore, 1) := by decide +kernel
theorem dX7_begin_72 : decode cX7_begin 72 = .ok (.aload_n 0, 1) := by decide +kernel
theorem dX7_begin_73 : decode cX7_begin 73 = .ok (.getfield 67, 3) := by decide +kernel
theorem dX7_begin_76 : decode cX7_begin 76 = .ok (.iload 4, 2) := by decide +kernel
theorem dX7_begin_78 : decode cX7_begin 78 = .ok (.iconst (-1), 1) := by decide +kernel
theorem dX7_begin_79 : decode cX7_begin 79 = .ok (.iastore, 1) := by decide +kernel
theorem dX7_begin_80 : decode cX7_begin 80 = .ok (.iinc 4 1, 3) := by decide +kernel
theorem dX7_begin_83 : decode cX7_begin 83 = .ok (.goto (-26), 3) := by decide +kernel
theorem dX7_begin_86 : decode cX7_begin 86 = .ok (.return_, 1) := by decide +kernel
def o_X7_begin : List Cond := [.fieldLink RX7 15 "SsaForge$Reader" "bytes" "[B", .fieldLink RX7 19 "SsaForge$Reader" "length" "I", .fieldLink RX7 37 "SsaForge$Reader" "code" "LSsaForge$Code;", .fieldLink RX7 22 "SsaForge$Reader" "at" "I", .fieldLink RX7 25 "SsaForge$Reader" "kind" "I", .fieldLink RX7 34 "SsaForge$Reader" "state" "I", .fieldLink RX7 41 "SsaForge$Reader" "rowCount" "I", .fieldLink RX7 44 "SsaForge$Reader" "blockCount" "I", .fieldLink RX7 60 "SsaForge$Reader" "brokenPlace" "I", .fieldLink RX7 9 "SsaForge$Reader" "reason" "I", .methodLink RX7 90 yX0_clear, .instanceMethod yX0_clear, .selects RX0 yX0_clear yX0_clear, .initialized RX0, .fieldLink RX7 63 "SsaForge$Reader" "labelled" "[Z", .fieldLink RX7 67 "SsaForge$Reader" "goalPlace" "[I"]
def v_X7_begin : List Cond := .code yX7_begin cX7_begin 5 none :: (o_X7_begin ++ (wsX70 ++ (v_X0_clear ++ [])))
theorem mow_X7_begin : ∀ w ∈ o_X7_begin, w ∈ v_X7_begin := fun _ h => List.mem_cons_of_mem _ (List.mem_append_left _ h)
theorem mem_X7_begin_0 : ∀ w ∈ wsX70, w ∈ v_X7_begin := fun _ h => List.mem_cons_of_mem _ (List.mem_append_right _ (List.mem_append_left _ h))
theorem mem_X7_begin_1 : ∀ w ∈ v_X0_clear, w ∈ v_X7_begin := fun _ h => List.mem_cons_of_mem _ (List.mem_append_right _ (List.mem_append_right _ (List.mem_append_left _ h)))
set_option maxRecDepth 20000 in
theorem gw_X7_begin : v_X7_begin.all goodWord = true := by decide +kernel
set_option maxRecDepth 20000 in
theorem g_X7_begin_X0_clear : GoodIn v_X7_begin (wsV RX7 90 RX0 yX0_clear v_X0_clear) := goodIn_app (goodIn_sub (fun w h => mow_X7_begin w (by revert w h; decide +kernel)) (by decide +kernel)) (goodIn_sub mem_X7_begin_1 gw_X0_clear)
set_option maxHeartbeats 4000000 in
set_option maxRecDepth 100000 in
theorem c_X7_begin (l : Launch) (dC : Nat → ClassId) (dI : Nat → Nat → Nat) (q_60 : Nat) (q_61 : Nat) (q_62 : Nat) (q_63 : Nat) (cA_64 : ClassId) (cA_65 : ClassId) (q_3 : Nat) (q_4 : Nat) (q_5 : Nat) (q_6 : Nat) (q_7 : Nat) (q_8 : Nat) (q_9 : Nat) (q_10 : Nat) (q_11 : Nat) (q_12 : Nat) (q_13 : Nat) (q_14 : Nat) (q_15 : Nat) (q_16 : Nat) (q_17 : Nat) (q_18 : Nat) (cA_19 : ClassId) (cA_20 : ClassId) (q_1 : Nat) (sz : Nat) : Met l yX7_begin v_X7_begin ({ frames := 1, cells := 0, slots := 0, locals := 20 }) (va_Pc [.ref q_60, .ref q_1, .int 0, .ref q_3] (fun U => U.heap.size = sz ∧ va_P (dC, dI) vwP [(q_60, .inr (7, [.int 0, .ref q_61, .int 0, .int 0, .int 1, .int 0, .int 0, .int 0, .null, .int 0, .int 0, .int 0, .int 0, .long 0, .int 0, .int (-1), .ref q_62, .ref q_63])), (q_62, .inl (cA_64, 60, .inl (fun _ => 0))), (q_63, .inl (cA_65, 60, .inl (fun _ => 0))), (q_3, .inr (0, [.int 0, .int 0, .int 0, .int 0, .ref q_4, .ref q_5, .ref q_6, .ref q_7, .ref q_8, .ref q_9, .ref q_10, .ref q_11, .ref q_12, .ref q_13, .ref q_14, .ref q_15, .ref q_16, .ref q_17, .ref q_18])), (q_4, .inl (cA_19, 301, .inl (fun _ => 0))), (q_15, .inl (cA_20, 301, .inl (fun _ => 0)))] U.heap ∧ va_K (dC, dI) vwP [(cA_19, .int), (cA_20, .int), (cA_64, .boolean), (cA_65, .int)] U ∧ va_D (fun _ => True) [(q_60, .inr (7, [.int 0, .ref q_61, .int 0, .int 0, .int 1, .int 0, .int 0, .int 0, .null, .int 0, .int 0, .int 0, .int 0, .long 0, .int 0, .int (-1), .ref q_62, .ref q_63])), (q_62, .inl (cA_64, 60, .inl (fun _ => 0))), (q_63, .inl (cA_65, 60, .inl (fun _ => 0))), (q_3, .inr (0, [.int 0, .int 0, .int 0, .int 0, .ref q_4, .ref q_5, .ref q_6, .ref q_7, .ref q_8, .ref q_9, .ref q_10, .ref q_11, .ref q_12, .ref q_13, .ref q_14, .ref q_15, .ref q_16, .ref q_17, .ref q_18])), (q_4, .inl (cA_19, 301, .inl (fun _ => 0))), (q_15, .inl (cA_20, 301, .inl (fun _ => 0)))])) (va_Qv (fun _ : Unit => True) (fun (_ : Unit) (t : State) => va_P (dC, dI) vwP [(q_60, .inr (7, [.int 0, .ref q_1, .int 0, .int 0, .int 1, .int 0, .int 0, .int 0, .ref q_3, .int 0, .int 0, .int 0, .int 0, .long 0, .int 0, .int (-1), .ref q_62, .ref q_63]))] t.heap ∧ va_K (dC, dI) vwP [] t ∧ va_D (va_A [(q_60, .inr (7, [.int 0, .ref q_61, .int 0, .int 0, .int 1, .int 0, .int 0, .int 0, .null, .int 0, .int 0, .int 0, .int 0, .long 0, .int 0, .int (-1), .ref q_62, .ref q_63])), (q_62, .inl (cA_64, 60, .inl (fun _ => 0))), (q_63, .inl (cA_65, 60, .inl (fun _ => 0))), (q_3, .inr (0, [.int 0, .int 0, .int 0, .int 0, .ref q_4, .ref q_5, .ref q_6, .ref q_7, .ref q_8, .ref q_9, .ref q_10, .ref q_11, .ref q_12, .ref q_13, .ref q_14, .ref q_15, .ref q_16, .ref q_17, .ref q_18])), (q_4, .inl (cA_19, 301, .inl (fun _ => 0))), (q_15, .inl (cA_20, 301, .inl (fun _ => 0)))] sz) [(q_60, .inr (7, [.int 0, .ref q_1, .int 0, .int 0, .int 1, .int 0, .int 0, .int 0, .ref q_3, .int 0, .int 0, .int 0, .int 0, .long 0, .int 0, .int (-1), .ref q_62, .ref q_63]))]) (va_A [(q_60, .inr (7, [.int 0, .ref q_61, .int 0, .int 0, .int 1, .int 0, .int 0, .int 0, .null, .int 0, .int 0, .int 0, .int 0, .long 0, .int 0, .int (-1), .ref q_62, .ref q_63])), (q_62, .inl (cA_64, 60, .inl (fun _ => 0))), (q_63, .inl (cA_65, 60, .inl (fun _ => 0))), (q_3, .inr (0, [.int 0, .int 0, .int 0, .int 0, .ref q_4, .ref q_5, .ref q_6, .ref q_7, .ref q_8, .ref q_9, .ref q_10, .ref q_11, .ref q_12, .ref q_13, .ref q_14, .ref q_15, .ref q_16, .ref q_17, .ref q_18])), (q_4, .inl (cA_19, 301, .inl (fun _ => 0))), (q_15, .inl (cA_20, 301, .inl (fun _ => 0)))] sz)) 0 0 (va_A [(q_60, .inr (7, [.int 0, .ref q_61, .int 0, .int 0, .int 1, .int 0, .int 0, .int 0, .null, .int 0, .int 0, .int 0, .int 0, .long 0, .int 0, .int (-1), .ref q_62, .ref q_63])), (q_62, .inl (cA_64, 60, .inl (fun _ => 0))), (q_63, .inl (cA_65, 60, .inl (fun _ => 0))), (q_3, .inr (0, [.int 0, .int 0, .int 0, .int 0, .ref q_4, .ref q_5, .ref q_6, .ref q_7, .ref q_8, .ref q_9, .ref q_10, .ref q_11, .ref q_12, .ref q_13, .ref q_14, .ref q_15, .ref q_16, .ref q_17, .ref q_18])), (q_4, .inl (cA_19, 301, .inl (fun _ => 0))), (q_15, .inl (cA_20, 301, .inl (fun _ => 0)))] sz) := by
  refine Met.ofW (cc := cX7_begin) (maxL := 5) (ret := none) (by decide) rfl ?_
  intro p e s m args below meth c s₁ B hml hv
  obtain ⟨rfl, hsz, hP, hK, hD0⟩ := hv
  have hx := B.exec
  have hb := B.bytes
  have hr := B.returns
  have hts := atoms_spec (ws := v_X7_begin) B.pre
  have hown : s.vm.findClass RX7 = some m.cls := findClass_of_methodNamed B.named
  have hlocks := B.notSynchronized
  have ow : ∀ {k : Nat} {w : Cond}, o_X7_begin[k]? = some w → w.before ([.ref q_60, .ref q_1, .int 0, .ref q_3] : List Value).toArray s = true := fun h => hts _ (mow_X7_begin _ (List.mem_of_getElem? h))
  subst hsz
  have hD := hD0.self (sz := s.heap.size)
  generalize hAe : va_A [(q_60, .inr (7, [.int 0, .ref q_61, .int 0, .int 0, .int 1, .int 0, .int 0, .int 0, .null, .int 0, .int 0, .int 0, .int 0, .long 0, .int 0, .int (-1), .ref q_62, .ref q_63])), (q_62, .inl (cA_64, 60, .inl (fun _ => 0))), (q_63, .inl (cA_65, 60, .inl (fun _ => 0))), (q_3, .inr (0, [.int 0, .int 0, .int 0, .int 0, .ref q_4, .ref q_5, .ref q_6, .ref q_7, .ref q_8, .ref q_9, .ref q_10, .ref q_11, .ref q_12, .ref q_13, .ref q_14, .ref q_15, .ref q_16, .ref q_17, .ref q_18])), (q_4, .inl (cA_19, 301, .inl (fun _ => 0))), (q_15, .inl (cA_20, 301, .inl (fun _ => 0)))] s.heap.size = A at hD ⊢
  have hA : ∀ q : Nat, s.heap.size ≤ q → A q := fun q h => by rw [← hAe]; exact Or.inr h
  have hS : va_S A s.heap s.heap [] := va_S.rf
  have hP : va_P (dC, dI) vwP [(q_60, .inr (7, [.int 0, .ref q_61, .int 0, .int 0, .int 1, .int 0, .int 0, .int 0, .null, .int 0, .int 0, .int 0, .int 0, .long 0, .int 0, .int (-1), .ref q_62, .ref q_63])), (q_62, .inl (cA_64, 60, .inl (fun _ => 0))), (q_63, .inl (cA_65, 60, .inl (fun _ => 0))), (q_3, .inr (0, [.int 0, .int 0, .int 0, .int 0, .ref q_4, .ref q_5, .ref q_6, .ref q_7, .ref q_8, .ref q_9, .ref q_10, .ref q_11, .ref q_12, .ref q_13, .ref q_14, .ref q_15, .ref q_16, .ref q_17, .ref q_18])), (q_4, .inl (cA_19, 301, .inl (fun _ => 0))), (q_15, .inl (cA_20, 301, .inl (fun _ => 0)))] s.heap := hP
  have hl := lv_entry ([.ref q_60, .ref q_1, .int 0, .ref q_3]) (n := 5) (Nat.le_of_ble_eq_true rfl)
  rw [lg_entry_eq]
  generalize (lg_sl ([.ref q_60, .ref q_1, .int 0, .ref q_3]) ++ List.replicate (5 - (lg_sl ([.ref q_60, .ref q_1, .int 0, .ref q_3])).length) Slot.unset).toArray = ls at hl ⊢
  have hl : lv_has ls 5 [(0, .ref q_60), (1, .ref q_1), (2, .int 0), (3, .ref q_3)] := hl
  obtain ⟨H, hH⟩ : ∃ H, H = s.heap := ⟨_, rfl⟩
  rw [← hH] at hP
  have hS : va_S A s.heap H [] := by rw [hH]; exact hS
  rw [← hH]
  refine lv_aload_n hx hb dX7_begin_0 rfl (lv_at hl 0 rfl) ?_
  refine lv_aload_n hx hb dX7_begin_1 rfl (lv_at hl 1 rfl) ?_
  refine va_put (D := (dC, dI)) (ci := 7) (v := .ref q_1) (ty := .array .byte) (C := RX7) (T := TX7) (N := 18) hx hb hts mem_X7_begin_0 tyX7 tyX7_ok nmX7 hown hK hP hD hS 0 rfl rfl 1 (by decide) (ow (k := 0) rfl) (fun _ h9 => h9) rfl (by decide +kernel) rfl rfl (Nat.le_of_ble_eq_true rfl) dX7_begin_2 (fun H locs hP hD hS => ?_)
  have hP : va_P (dC, dI) vwP [(q_60, .inr (7, [.int 0, .ref q_1, .int 0, .int 0, .int 1, .int 0, .int 0, .int 0, .null, .int 0, .int 0, .int 0, .int 0, .long 0, .int 0, .int (-1), .ref q_62, .ref q_63])), (q_62, .inl (cA_64, 60, .inl (fun _ => 0))), (q_63, .inl (cA_65, 60, .inl (fun _ => 0))), (q_3, .inr (0, [.int 0, .int 0, .int 0, .int 0, .ref q_4, .ref q_5, .ref q_6, .ref q_7, .ref q_8, .ref q_9, .ref q_10, .ref q_11, .ref q_12, .ref q_13, .ref q_14, .ref q_15, .ref q_16, .ref q_17, .ref q_18])), (q_4, .inl (cA_19, 301, .inl (fun _ => 0))), (q_15, .inl (cA_20, 301, .inl (fun _ => 0)))] H := hP
  have hD : va_D A [(q_60, .inr (7, [.int 0, .ref q_1, .int 0, .int 0, .int 1, .int 0, .int 0, .int 0, .null, .int 0, .int 0, .int 0, .int 0, .long 0, .int 0, .int (-1), .ref q_62, .ref q_63])), (q_62, .inl (cA_64, 60, .inl (fun _ => 0))), (q_63, .inl (cA_65, 60, .inl (fun _ => 0))), (q_3, .inr (0, [.int 0, .int 0, .int 0, .int 0, .ref q_4, .ref q_5, .ref q_6, .ref q_7, .ref q_8, .ref q_9, .ref q_10, .ref q_11, .ref q_12, .ref q_13, .ref q_14, .ref q_15, .ref q_16, .ref q_17, .ref q_18])), (q_4, .inl (cA_19, 301, .inl (fun _ => 0))), (q_15, .inl (cA_20, 301, .inl (fun _ => 0)))] := hD
  refine lv_aload_n hx hb dX7_begin_5 rfl (lv_at hl 0 rfl) ?_
  refine lv_iload_n hx hb dX7_begin_6 rfl (lv_at hl 2 rfl) ?_
  refine va_put (D := (dC, dI)) (ci := 7) (v := .int 0) (ty := .int) (C := RX7) (T := TX7) (N := 18) hx hb hts mem_X7_begin_0 tyX7 tyX7_ok nmX7 hown hK hP hD hS 0 rfl rfl 2 (by decide) (ow (k := 1) rfl) (fun _ h9 => h9) rfl (by decide +kernel) rfl rfl (Nat.le_of_ble_eq_true rfl) dX7_begin_7 (fun H locs hP hD hS => ?_)
  have hP : va_P (dC, dI) vwP [(q_60, .inr (7, [.int 0, .ref q_1, .int 0, .int 0, .int 1, .int 0, .int 0, .int 0, .null, .int 0, .int 0, .int 0, .int 0, .long 0, .int 0, .int (-1), .ref q_62, .ref q_63])), (q_62, .inl (cA_64, 60, .inl (fun _ => 0))), (q_63, .inl (cA_65, 60, .inl (fun _ => 0))), (q_3, .inr (0, [.int 0, .int 0, .int 0, .int 0, .ref q_4, .ref q_5, .ref q_6, .ref q_7, .ref q_8, .ref q_9, .ref q_10, .ref q_11, .ref q_12, .ref q_13, .ref q_14, .ref q_15, .ref q_16, .ref q_17, .ref q_18])), (q_4, .inl (cA_19, 301, .inl (fun _ => 0))), (q_15, .inl (cA_20, 301, .inl (fun _ => 0)))] H := hP
  have hD : va_D A [(q_60, .inr (7, [.int 0, .ref q_1, .int 0, .int 0, .int 1, .int 0, .int 0, .int 0, .null, .int 0, .int 0, .int 0, .int 0, .long 0, .int 0, .int (-1), .ref q_62, .ref q_63])), (q_62, .inl (cA_64, 60, .inl (fun _ => 0))), (q_63, .inl (cA_65, 60, .inl (fun _ => 0))), (q_3, .inr (0, [.int 0, .int 0, .int 0, .int 0, .ref q_4, .ref q_5, .ref q_6, .ref q_7, .ref q_8, .ref q_9, .ref q_10, .ref q_11, .ref q_12, .ref q_13, .ref q_14, .ref q_15, .ref q_16, .ref q_17, .ref q_18])), (q_4, .inl (cA_19, 301, .inl (fun _ => 0))), (q_15, .inl (cA_20, 301, .inl (fun _ => 0)))] := hD
  refine lv_aload_n hx hb dX7_begin_10 rfl (lv_at hl 0 rfl) ?_
  refine lv_aload_n hx hb dX7_begin_11 rfl (lv_at hl 3 rfl) ?_
  refine va_put (D := (dC, dI)) (ci := 7) (v := .ref q_3) (ty := .object "SsaForge$Code") (C := RX7) (T := TX7) (N := 18) hx hb hts mem_X7_begin_0 tyX7 tyX7_ok nmX7 hown hK hP hD hS 0 rfl rfl 8 (by decide) (ow (k := 2) rfl) (fun _ h9 => h9) rfl (by decide +kernel) rfl rfl (Nat.le_of_ble_eq_true rfl) dX7_begin_12 (fun H locs hP hD hS => ?_)
  have hP : va_P (dC, dI) vwP [(q_60, .inr (7, [.int 0, .ref q_1, .int 0, .int 0, .int 1, .int 0, .int 0, .int 0, .ref q_3, .int 0, .int 0, .int 0, .int 0, .long 0, .int 0, .int (-1), .ref q_62, .ref q_63])), (q_62, .inl (cA_64, 60, .inl (fun _ => 0))), (q_63, .inl (cA_65, 60, .inl (fun _ => 0))), (q_3, .inr (0, [.int 0, .int 0, .int 0, .int 0, .ref q_4, .ref q_5, .ref q_6, .ref q_7, .ref q_8, .ref q_9, .ref q_10, .ref q_11, .ref q_12, .ref q_13, .ref q_14, .ref q_15, .ref q_16, .ref q_17, .ref q_18])), (q_4, .inl (cA_19, 301, .inl (fun _ => 0))), (q_15, .inl (cA_20, 301, .inl (fun _ => 0)))] H := hP
  have hD : va_D A [(q_60, .inr (7, [.int 0, .ref q_1, .int 0, .int 0, .int 1, .int 0, .int 0, .int 0, .ref q_3, .int 0, .int 0, .int 0, .int 0, .long 0, .int 0, .int (-1), .ref q_62, .ref q_63])), (q_62, .inl (cA_64, 60, .inl (fun _ => 0))), (q_63, .inl (cA_65, 60, .inl (fun _ => 0))), (q_3, .inr (0, [.int 0, .int 0, .int 0, .int 0, .ref q_4, .ref q_5, .ref q_6, .ref q_7, .ref q_8, .ref q_9, .ref q_10, .ref q_11, .ref q_12, .ref q_13, .ref q_14, .ref q_15, .ref q_16, .ref q_17, .ref q_18])), (q_4, .inl (cA_19, 301, .inl (fun _ => 0))), (q_15, .inl (cA_20, 301, .inl (fun _ => 0)))] := hD
  refine lv_aload_n hx hb dX7_begin_15 rfl (lv_at hl 0 rfl) ?_
  refine lv_iconst (v := 0) hx hb dX7_begin_16 (by decide) ?_
  refine va_put (D := (dC, dI)) (ci := 7) (v := .int 0) (ty := .int) (C := RX7) (T := TX7) (N := 18) hx hb hts mem_X7_begin_0 tyX7 tyX7_ok nmX7 hown hK hP hD hS 0 rfl rfl 3 (by decide) (ow (k := 3) rfl) (fun _ h9 => h9) rfl (by decide +kernel) rfl rfl (Nat.le_of_ble_eq_true rfl) dX7_begin_17 (fun H locs hP hD hS => ?_)
  have hP : va_P (dC, dI) vwP [(q_60, .inr (7, [.int 0, .ref q_1, .int 0, .int 0, .int 1, .int 0, .int 0, .int 0, .ref q_3, .int 0, .int 0, .int 0, .int 0, .long 0, .int 0, .int (-1), .ref q_62, .ref q_63])), (q_62, .inl (cA_64, 60, .inl (fun _ => 0))), (q_63, .inl (cA_65, 60, .inl (fun _ => 0))), (q_3, .inr (0, [.int 0, .int 0, .int 0, .int 0, .ref q_4, .ref q_5, .ref q_6, .ref q_7, .ref q_8, .ref q_9, .ref q_10, .ref q_11, .ref q_12, .ref q_13, .ref q_14, .ref q_15, .ref q_16, .ref q_17, .ref q_18])), (q_4, .inl (cA_19, 301, .inl (fun _ => 0))), (q_15, .inl (cA_20, 301, .inl (fun _ => 0)))] H := hP
  have hD : va_D A [(q_60, .inr (7, [.int 0, .ref q_1, .int 0, .int 0, .int 1, .int 0, .int 0, .int 0, .ref q_3, .int 0, .int 0, .int 0, .int 0, .long 0, .int 0, .int (-1), .ref q_62, .ref q_63])), (q_62, .inl (cA_64, 60, .inl (fun _ => 0))), (q_63, .inl (cA_65, 60, .inl (fun _ => 0))), (q_3, .inr (0, [.int 0, .int 0, .int 0, .int 0, .ref q_4, .ref q_5, .ref q_6, .ref q_7, .ref q_8, .ref q_9, .ref q_10, .ref q_11, .ref q_12, .ref q_13, .ref q_14, .ref q_15, .ref q_16, .ref q_17, .ref q_18])), (q_4, .inl (cA_19, 301, .inl (fun _ => 0))), (q_15, .inl (cA_20, 301, .inl (fun _ => 0)))] := hD
  refine lv_aload_n hx hb dX7_begin_20 rfl (lv_at hl 0 rfl) ?_
  refine lv_iconst (v := 1) hx hb dX7_begin_21 (by decide) ?_
  refine va_put (D := (dC, dI)) (ci := 7) (v := .int 1) (ty := .int) (C := RX7) (T := TX7) (N := 18) hx hb hts mem_X7_begin_0 tyX7 tyX7_ok nmX7 hown hK hP hD hS 0 rfl rfl 4 (by decide) (ow (k := 4) rfl) (fun _ h9 => h9) rfl (by decide +kernel) rfl rfl (Nat.le_of_ble_eq_true rfl) dX7_begin_22 (fun H locs hP hD hS => ?_)
  have hP : va_P (dC, dI) vwP [(q_60, .inr (7, [.int 0, .ref q_1, .int 0, .int 0, .int 1, .int 0, .int 0, .int 0, .ref q_3, .int 0, .int 0, .int 0, .int 0, .long 0, .int 0, .int (-1), .ref q_62, .ref q_63])), (q_62, .inl (cA_64, 60, .inl (fun _ => 0))), (q_63, .inl (cA_65, 60, .inl (fun _ => 0))), (q_3, .inr (0, [.int 0, .int 0, .int 0, .int 0, .ref q_4, .ref q_5, .ref q_6, .ref q_7, .ref q_8, .ref q_9, .ref q_10, .ref q_11, .ref q_12, .ref q_13, .ref q_14, .ref q_15, .ref q_16, .ref q_17, .ref q_18])), (q_4, .inl (cA_19, 301, .inl (fun _ => 0))), (q_15, .inl (cA_20, 301, .inl (fun _ => 0)))] H := hP
  have hD : va_D A [(q_60, .inr (7, [.int 0, .ref q_1, .int 0, .int 0, .int 1, .int 0, .int 0, .int 0, .ref q_3, .int 0, .int 0, .int 0, .int 0, .long 0, .int 0, .int (-1), .ref q_62, .ref q_63])), (q_62, .inl (cA_64, 60, .inl (fun _ => 0))), (q_63, .inl (cA_65, 60, .inl (fun _ => 0))), (q_3, .inr (0, [.int 0, .int 0, .int 0, .int 0, .ref q_4, .ref q_5, .ref q_6, .ref q_7, .ref q_8, .ref q_9, .ref q_10, .ref q_11, .ref q_12, .ref q_13, .ref q_14, .ref q_15, .ref q_16, .ref q_17, .ref q_18])), (q_4, .inl (cA_19, 301, .inl (fun _ => 0))), (q_15, .inl (cA_20, 301, .inl (fun _ => 0)))] := hD
  refine lv_aload_n hx hb dX7_begin_25 rfl (lv_at hl 0 rfl) ?_
  refine lv_iconst (v := 0) hx hb dX7_begin_26 (by decide) ?_
  refine va_put (D := (dC, dI)) (ci := 7) (v := .int 0) (ty := .int) (C := RX7) (T := TX7) (N := 18) hx hb hts mem_X7_begin_0 tyX7 tyX7_ok nmX7 hown hK hP hD hS 0 rfl rfl 7 (by decide) (ow (k := 5) rfl) (fun _ h9 => h9) rfl (by decide +kernel) rfl rfl (Nat.le_of_ble_eq_true rfl) dX7_begin_27 (fun H locs hP hD hS => ?_)
  have hP : va_P (dC, dI) vwP [(q_60, .inr (7, [.int 0, .ref q_1, .int 0, .int 0, .int 1, .int 0, .int 0, .int 0, .ref q_3, .int 0, .int 0, .int 0, .int 0, .long 0, .int 0, .int (-1), .ref q_62, .ref q_63])), (q_62, .inl (cA_64, 60, .inl (fun _ => 0))), (q_63, .inl (cA_65, 60, .inl (fun _ => 0))), (q_3, .inr (0, [.int 0, .int 0, .int 0, .int 0, .ref q_4, .ref q_5, .ref q_6, .ref q_7, .ref q_8, .ref q_9, .ref q_10, .ref q_11, .ref q_12, .ref q_13, .ref q_14, .ref q_15, .ref q_16, .ref q_17, .ref q_18])), (q_4, .inl (cA_19, 301, .inl (fun _ => 0))), (q_15, .inl (cA_20, 301, .inl (fun _ => 0)))] H := hP
  have hD : va_D A [(q_60, .inr (7, [.int 0, .ref q_1, .int 0, .int 0, .int 1, .int 0, .int 0, .int 0, .ref q_3, .int 0, .int 0, .int 0, .int 0, .long 0, .int 0, .int (-1), .ref q_62, .ref q_63])), (q_62, .inl (cA_64, 60, .inl (fun _ => 0))), (q_63, .inl (cA_65, 60, .inl (fun _ => 0))), (q_3, .inr (0, [.int 0, .int 0, .int 0, .int 0, .ref q_4, .ref q_5, .ref q_6, .ref q_7, .ref q_8, .ref q_9, .ref q_10, .ref q_11, .ref q_12, .ref q_13, .ref q_14, .ref q_15, .ref q_16, .ref q_17, .ref q_18])), (q_4, .inl (cA_19, 301, .inl (fun _ => 0))), (q_15, .inl (cA_20, 301, .inl (fun _ => 0)))] := hD
  refine lv_aload_n hx hb dX7_begin_30 rfl (lv_at hl 0 rfl) ?_
  refine lv_iconst (v := 0) hx hb dX7_begin_31 (by decide) ?_
  refine va_put (D := (dC, dI)) (ci := 7) (v := .int 0) (ty := .int) (C := RX7) (T := TX7) (N := 18) hx hb hts mem_X7_begin_0 tyX7 tyX7_ok nmX7 hown hK hP hD hS 0 rfl rfl 9 (by decide) (ow (k := 6) rfl) (fun _ h9 => h9) rfl (by decide +kernel) rfl rfl (Nat.le_of_ble_eq_true rfl) dX7_begin_32 (fun H locs hP hD hS => ?_)
  have hP : va_P (dC, dI) vwP [(q_60, .inr (7, [.int 0, .ref q_1, .int 0, .int 0, .int 1, .int 0, .int 0, .int 0, .ref q_3, .int 0, .int 0, .int 0, .int 0, .long 0, .int 0, .int (-1), .ref q_62, .ref q_63])), (q_62, .inl (cA_64, 60, .inl (fun _ => 0))), (q_63, .inl (cA_65, 60, .inl (fun _ => 0))), (q_3, .inr (0, [.int 0, .int 0, .int 0, .int 0, .ref q_4, .ref q_5, .ref q_6, .ref q_7, .ref q_8, .ref q_9, .ref q_10, .ref q_11, .ref q_12, .ref q_13, .ref q_14, .ref q_15, .ref q_16, .ref q_17, .ref q_18])), (q_4, .inl (cA_19, 301, .inl (fun _ => 0))), (q_15, .inl (cA_20, 301, .inl (fun _ => 0)))] H := hP
  have hD : va_D A [(q_60, .inr (7, [.int 0, .ref q_1, .int 0, .int 0, .int 1, .int 0, .int 0, .int 0, .ref q_3, .int 0, .int 0, .int 0, .int 0, .long 0, .int 0, .int (-1), .ref q_62, .ref q_63])), (q_62, .inl (cA_64, 60, .inl (fun _ => 0))), (q_63, .inl (cA_65, 60, .inl (fun _ => 0))), (q_3, .inr (0, [.int 0, .int 0, .int 0, .int 0, .ref q_4, .ref q_5, .ref q_6, .ref q_7, .ref q_8, .ref q_9, .ref q_10, .ref q_11, .ref q_12, .ref q_13, .ref q_14, .ref q_15, .ref q_16, .ref q_17, .ref q_18])), (q_4, .inl (cA_19, 301, .inl (fun _ => 0))), (q_15, .inl (cA_20, 301, .inl (fun _ => 0)))] := hD
  refine lv_aload_n hx hb dX7_begin_35 rfl (lv_at hl 0 rfl) ?_
  refine lv_iconst (v := 0) hx hb dX7_begin_36 (by decide) ?_
  refine va_put (D := (dC, dI)) (ci := 7) (v := .int 0) (ty := .int) (C := RX7) (T := TX7) (N := 18) hx hb hts mem_X7_begin_0 tyX7 tyX7_ok nmX7 hown hK hP hD hS 0 rfl rfl 10 (by decide) (ow (k := 7) rfl) (fun _ h9 => h9) rfl (by decide +kernel) rfl rfl (Nat.le_of_ble_eq_true rfl) dX7_begin_37 (fun H locs hP hD hS => ?_)
  have hP : va_P (dC, dI) vwP [(q_60, .inr (7, [.int 0, .ref q_1, .int 0, .int 0, .int 1, .int 0, .int 0, .int 0, .ref q_3, .int 0, .int 0, .int 0, .int 0, .long 0, .int 0, .int (-1), .ref q_62, .ref q_63])), (q_62, .inl (cA_64, 60, .inl (fun _ => 0))), (q_63, .inl (cA_65, 60, .inl (fun _ => 0))), (q_3, .inr (0, [.int 0, .int 0, .int 0, .int 0, .ref q_4, .ref q_5, .ref q_6, .ref q_7, .ref q_8, .ref q_9, .ref q_10, .ref q_11, .ref q_12, .ref q_13, .ref q_14, .ref q_15, .ref q_16, .ref q_17, .ref q_18])), (q_4, .inl (cA_19, 301, .inl (fun _ => 0))), (q_15, .inl (cA_20, 301, .inl (fun _ => 0)))] H := hP
  have hD : va_D A [(q_60, .inr (7, [.int 0, .ref q_1, .int 0, .int 0, .int 1, .int 0, .int 0, .int 0, .ref q_3, .int 0, .int 0, .int 0, .int 0, .long 0, .int 0, .int (-1), .ref q_62, .ref q_63])), (q_62, .inl (cA_64, 60, .inl (fun _ => 0))), (q_63, .inl (cA_65, 60, .inl (fun _ => 0))), (q_3, .inr (0, [.int 0, .int 0, .int 0, .int 0, .ref q_4, .ref q_5, .ref q_6, .ref q_7, .ref q_8, .ref q_9, .ref q_10, .ref q_11, .ref q_12, .ref q_13, .ref q_14, .ref q_15, .ref q_16, .ref q_17, .ref q_18])), (q_4, .inl (cA_19, 301, .inl (fun _ => 0))), (q_15, .inl (cA_20, 301, .inl (fun _ => 0)))] := hD
  refine lv_aload_n hx hb dX7_begin_40 rfl (lv_at hl 0 rfl) ?_
  refine lv_iconst (v := (-1)) hx hb dX7_begin_41 (by decide) ?_
  refine va_put (D := (dC, dI)) (ci := 7) (v := .int (-1)) (ty := .int) (C := RX7) (T := TX7) (N := 18) hx hb hts mem_X7_begin_0 tyX7 tyX7_ok nmX7 hown hK hP hD hS 0 rfl rfl 15 (by decide) (ow (k := 8) rfl) (fun _ h9 => h9) rfl (by decide +kernel) rfl rfl (Nat.le_of_ble_eq_true rfl) dX7_begin_42 (fun H locs hP hD hS => ?_)
  have hP : va_P (dC, dI) vwP [(q_60, .inr (7, [.int 0, .ref q_1, .int 0, .int 0, .int 1, .int 0, .int 0, .int 0, .ref q_3, .int 0, .int 0, .int 0, .int 0, .long 0, .int 0, .int (-1), .ref q_62, .ref q_63])), (q_62, .inl (cA_64, 60, .inl (fun _ => 0))), (q_63, .inl (cA_65, 60, .inl (fun _ => 0))), (q_3, .inr (0, [.int 0, .int 0, .int 0, .int 0, .ref q_4, .ref q_5, .ref q_6, .ref q_7, .ref q_8, .ref q_9, .ref q_10, .ref q_11, .ref q_12, .ref q_13, .ref q_14, .ref q_15, .ref q_16, .ref q_17, .ref q_18])), (q_4, .inl (cA_19, 301, .inl (fun _ => 0))), (q_15, .inl (cA_20, 301, .inl (fun _ => 0)))] H := hP
  have hD : va_D A [(q_60, .inr (7, [.int 0, .ref q_1, .int 0, .int 0, .int 1, .int 0, .int 0, .int 0, .ref q_3, .int 0, .int 0, .int 0, .int 0, .long 0, .int 0, .int (-1), .ref q_62, .ref q_63])), (q_62, .inl (cA_64, 60, .inl (fun _ => 0))), (q_63, .inl (cA_65, 60, .inl (fun _ => 0))), (q_3, .inr (0, [.int 0, .int 0, .int 0, .int 0, .ref q_4, .ref q_5, .ref q_6, .ref q_7, .ref q_8, .ref q_9, .ref q_10, .ref q_11, .ref q_12, .ref q_13, .ref q_14, .ref q_15, .ref q_16, .ref q_17, .ref q_18])), (q_4, .inl (cA_19, 301, .inl (fun _ => 0))), (q_15, .inl (cA_20, 301, .inl (fun _ => 0)))] := hD
  refine lv_aload_n hx hb dX7_begin_45 rfl (lv_at hl 0 rfl) ?_
  refine lv_iconst (v := 0) hx hb dX7_begin_46 (by decide) ?_
  refine va_put (D := (dC, dI)) (ci := 7) (v := .int 0) (ty := .int) (C := RX7) (T := TX7) (N := 18) hx hb hts mem_X7_begin_0 tyX7 tyX7_ok nmX7 hown hK hP hD hS 0 rfl rfl 0 (by decide) (ow (k := 9) rfl) (fun _ h9 => h9) rfl (by decide +kernel) rfl rfl (Nat.le_of_ble_eq_true rfl) dX7_begin_47 (fun H locs hP hD hS => ?_)
  have hP : va_P (dC, dI) vwP [(q_60, .inr (7, [.int 0, .ref q_1, .int 0, .int 0, .int 1, .int 0, .int 0, .int 0, .ref q_3, .int 0, .int 0, .int 0, .int 0, .long 0, .int 0, .int (-1), .ref q_62, .ref q_63])), (q_62, .inl (cA_64, 60, .inl (fun _ => 0))), (q_63, .inl (cA_65, 60, .inl (fun _ => 0))), (q_3, .inr (0, [.int 0, .int 0, .int 0, .int 0, .ref q_4, .ref q_5, .ref q_6, .ref q_7, .ref q_8, .ref q_9, .ref q_10, .ref q_11, .ref q_12, .ref q_13, .ref q_14, .ref q_15, .ref q_16, .ref q_17, .ref q_18])), (q_4, .inl (cA_19, 301, .inl (fun _ => 0))), (q_15, .inl (cA_20, 301, .inl (fun _ => 0)))] H := hP
  have hD : va_D A [(q_60, .inr (7, [.int 0, .ref q_1, .int 0, .int 0, .int 1, .int 0, .int 0, .int 0, .ref q_3, .int 0, .int 0, .int 0, .int 0, .long 0, .int 0, .int (-1), .ref q_62, .ref q_63])), (q_62, .inl (cA_64, 60, .inl (fun _ => 0))), (q_63, .inl (cA_65, 60, .inl (fun _ => 0))), (q_3, .inr (0, [.int 0, .int 0, .int 0, .int 0, .ref q_4, .ref q_5, .ref q_6, .ref q_7, .ref q_8, .ref q_9, .ref q_10, .ref q_11, .ref q_12, .ref q_13, .ref q_14, .ref q_15, .ref q_16, .ref q_17, .ref q_18])), (q_4, .inl (cA_19, 301, .inl (fun _ => 0))), (q_15, .inl (cA_20, 301, .inl (fun _ => 0)))] := hD
  refine lv_aload_n hx hb dX7_begin_50 rfl (lv_at hl 3 rfl) ?_
  have hPc := hP.sub (ws' := [(q_3, .inr (0, [.int 0, .int 0, .int 0, .int 0, .ref q_4, .ref q_5, .ref q_6, .ref q_7, .ref q_8, .ref q_9, .ref q_10, .ref q_11, .ref q_12, .ref q_13, .ref q_14, .ref q_15, .ref q_16, .ref q_17, .ref q_18])), (q_4, .inl (cA_19, 301, .inl (fun _ => 0))), (q_15, .inl (cA_20, 301, .inl (fun _ => 0)))]) [3, 4, 5] rfl
  have hDc := hD.sub (ws' := [(q_3, .inr (0, [.int 0, .int 0, .int 0, .int 0, .ref q_4, .ref q_5, .ref q_6, .ref q_7, .ref q_8, .ref q_9, .ref q_10, .ref q_11, .ref q_12, .ref q_13, .ref q_14, .ref q_15, .ref q_16, .ref q_17, .ref q_18])), (q_4, .inl (cA_19, 301, .inl (fun _ => 0))), (q_15, .inl (cA_20, 301, .inl (fun _ => 0)))]) [3, 4, 5] (by decide) rfl
  have hKc := hK.sub (tys' := [(cA_19, .int), (cA_20, .int)]) [0, 1] rfl
  have hFc := va_free (wc := [(q_3, .inr (0, [.int 0, .int 0, .int 0, .int 0, .ref q_4, .ref q_5, .ref q_6, .ref q_7, .ref q_8, .ref q_9, .ref q_10, .ref q_11, .ref q_12, .ref q_13, .ref q_14, .ref q_15, .ref q_16, .ref q_17, .ref q_18])), (q_4, .inl (cA_19, 301, .inl (fun _ => 0))), (q_15, .inl (cA_20, 301, .inl (fun _ => 0)))]) hD hS hA [3, 4, 5] rfl
  refine va_callv (va_runV (As := []) (rest := []) ⟨hx, hb, hml, hown, hts⟩ (c_X0_clear l dC dI q_3 q_4 q_5 q_6 q_7 q_8 q_9 q_10 q_11 q_12 q_13 q_14 q_15 q_16 q_17 q_18 cA_19 cA_20 H.size) (cwV 0 hts g_X7_begin_X0_clear rfl rfl rfl (by decide +kernel) ⟨(Nat.le_of_ble_eq_true rfl), (Nat.le_of_ble_eq_true rfl)⟩) ⟨fun a U g mk q => by obtain ⟨q0, q1, qP, qK, qD⟩ := q; exact ⟨q0, q1, qP, va_K.moved (u := U) (U := U.calling g mk a) (Vm.Alike.refl U.vm) qK, qD⟩, va_recv hKc hPc (ci := 0) (q0 := 0) rfl rfl, fun U hU hW => ⟨rfl, by rw [hU], by rw [hU]; exact hPc, va_K.moved hW.alike hKc, hDc.weaken (fun _ _ _ _ => trivial)⟩⟩ rfl rfl hl.1 rfl (lv_room (Nat.le_of_ble_eq_true rfl)) dX7_begin_51 ⟨(Nat.le_of_ble_eq_true rfl), (Nat.le_of_ble_eq_true rfl)⟩) hS (fun q _ h => hFc q h) hFc (fun  u t H1 locs ht hvm hw hB hz1 hk1 hS => ?_)
  obtain ⟨g0_2001, g1_2002, hP1, hK1, hD1⟩ := hB
  rw [ht] at hP1
  have hK1 := va_K.moved hvm.symm hK1
  obtain ⟨hP, hD⟩ := va_join (wr := [(q_60, .inr (7, [.int 0, .ref q_1, .int 0, .int 0, .int 1, .int 0, .int 0, .int 0, .ref q_3, .int 0, .int 0, .int 0, .int 0, .long 0, .int 0, .int (-1), .ref q_62, .ref q_63])), (q_62, .inl (cA_64, 60, .inl (fun _ => 0))), (q_63, .inl (cA_65, 60, .inl (fun _ => 0)))]) (w1 := [(q_3, .inr (0, [.int 0, .int 0, .int 0, .int 0, .ref q_4, .ref q_5, .ref q_6, .ref q_7, .ref q_8, .ref q_9, .ref q_10, .ref q_11, .ref q_12, .ref q_13, .ref q_14, .ref q_15, .ref q_16, .ref q_17, .ref q_18])), (q_4, .inl (cA_19, 301, .inl g0_2001)), (q_15, .inl (cA_20, 301, .inl g1_2002))]) hP hD [3, 4, 5] [0, 1, 2] rfl rfl (by decide) (by decide) hk1 hFc hP1 hD1
  have hK := (hK.sub (tys' := [(cA_64, .boolean), (cA_65, .int)]) [2, 3] rfl).app hK1
  generalize H1 = H at hP hS ⊢
  have hP : va_P (dC, dI) vwP [(q_60, .inr (7, [.int 0, .ref q_1, .int 0, .int 0, .int 1, .int 0, .int 0, .int 0, .ref q_3, .int 0, .int 0, .int 0, .int 0, .long 0, .int 0, .int (-1), .ref q_62, .ref q_63])), (q_62, .inl (cA_64, 60, .inl (fun _ => 0))), (q_63, .inl (cA_65, 60, .inl (fun _ => 0))), (q_3, .inr (0, [.int 0, .int 0, .int 0, .int 0, .ref q_4, .ref q_5, .ref q_6, .ref q_7, .ref q_8, .ref q_9, .ref q_10, .ref q_11, .ref q_12, .ref q_13, .ref q_14, .ref q_15, .ref q_16, .ref q_17, .ref q_18])), (q_4, .inl (cA_19, 301, .inl g0_2001)), (q_15, .inl (cA_20, 301, .inl g1_2002))] H := hP
  have hD : va_D A [(q_60, .inr (7, [.int 0, .ref q_1, .int 0, .int 0, .int 1, .int 0, .int 0, .int 0, .ref q_3, .int 0, .int 0, .int 0, .int 0, .long 0, .int 0, .int (-1), .ref q_62, .ref q_63])), (q_62, .inl (cA_64, 60, .inl (fun _ => 0))), (q_63, .inl (cA_65, 60, .inl (fun _ => 0))), (q_3, .inr (0, [.int 0, .int 0, .int 0, .int 0, .ref q_4, .ref q_5, .ref q_6, .ref q_7, .ref q_8, .ref q_9, .ref q_10, .ref q_11, .ref q_12, .ref q_13, .ref q_14, .ref q_15, .ref q_16, .ref q_17, .ref q_18])), (q_4, .inl (cA_19, 301, .inl g0_2001)), (q_15, .inl (cA_20, 301, .inl g1_2002))] := hD
  have hK : va_K (dC, dI) vwP [(cA_64, .boolean), (cA_65, .int), (cA_19, .int), (cA_20, .int)] s := hK
  refine W.widen (k := 0) (n := 0) (Nat.le_of_ble_eq_true rfl) (Nat.le_of_ble_eq_true rfl) ?_
  refine lv_iconst (v := 0) hx hb dX7_begin_54 (by decide) ?_
  refine lv_istore (lv' := [(4, .int 0), (0, .ref q_60), (1, .ref q_1), (2, .int 0), (3, .ref q_3)]) hx hb dX7_begin_55 hl (by decide) rfl (fun ls hl => ?_)
  refine lv_iload hx hb dX7_begin_57 (lv_at hl 0 rfl) ?_
  refine lv_bipush (v := 60) hx hb dX7_begin_59 (by decide) ?_
  refine lv_icmp_ge (tgt := 86) hx hb dX7_begin_61 (by decide) (fun h9 => absurd h9 (by decide)) (fun _ => ?_)
  refine lv_aload_n hx hb dX7_begin_64 rfl (lv_at hl 1 rfl) ?_
  refine va_get (D := (dC, dI)) (ci := 7) (v := .ref q_62) (C := RX7) (T := TX7) (N := 18) hx hb hts mem_X7_begin_0 hown hK hP 0 rfl rfl 16 (by decide) (ow (k := 14) rfl) (fun _ h9 => h9) rfl dX7_begin_65 ?_
  refine lv_iload hx hb dX7_begin_68 (lv_at hl 0 rfl) ?_
  refine lv_iconst (v := 0) hx hb dX7_begin_70 (by decide) ?_
  refine va_zast hx hb hK hP hD hS 1 0 rfl rfl (show vp_in 0 60 by rw [vp_in_iff]; decide) dX7_begin_71 (fun H locs hP hD hS => ?_)
  have hP : va_P (dC, dI) vwP [(q_60, .inr (7, [.int 0, .ref q_1, .int 0, .int 0, .int 1, .int 0, .int 0, .int 0, .ref q_3, .int 0, .int 0, .int 0, .int 0, .long 0, .int 0, .int (-1), .ref q_62, .ref q_63])), (q_62, .inl (cA_64, 60, .inl (upd (fun _ => 0) (0 : Int32).toNatClampNeg (vp_nar .boolean 0)))), (q_63, .inl (cA_65, 60, .inl (fun _ => 0))), (q_3, .inr (0, [.int 0, .int 0, .int 0, .int 0, .ref q_4, .ref q_5, .ref q_6, .ref q_7, .ref q_8, .ref q_9, .ref q_10, .ref q_11, .ref q_12, .ref q_13, .ref q_14, .ref q_15, .ref q_16, .ref q_17, .ref q_18])), (q_4, .inl (cA_19, 301, .inl g0_2001)), (q_15, .inl (cA_20, 301, .inl g1_2002))] H := hP
  have hD : va_D A [(q_60, .inr (7, [.int 0, .ref q_1, .int 0, .int 0, .int 1, .int 0, .int 0, .int 0, .ref q_3, .int 0, .int 0, .int 0, .int 0, .long 0, .int 0, .int (-1), .ref q_62, .ref q_63])), (q_62, .inl (cA_64, 60, .inl (upd (fun _ => 0) (0 : Int32).toNatClampNeg (vp_nar .boolean 0)))), (q_63, .inl (cA_65, 60, .inl (fun _ => 0))), (q_3, .inr (0, [.int 0, .int 0, .int 0, .int 0, .ref q_4, .ref q_5, .ref q_6, .ref q_7, .ref q_8, .ref q_9, .ref q_10, .ref q_11, .ref q_12, .ref q_13, .ref q_14, .ref q_15, .ref q_16, .ref q_17, .ref q_18])), (q_4, .inl (cA_19, 301, .inl g0_2001)), (q_15, .inl (cA_20, 301, .inl g1_2002))] := hD
  generalize (upd (fun _ => 0) (0 : Int32).toNatClampNeg (vp_nar .boolean 0)) = f_2003 at hP hD
  refine lv_aload_n hx hb dX7_begin_72 rfl (lv_at hl 1 rfl) ?_
  refine va_get (D := (dC, dI)) (ci := 7) (v := .ref q_63) (C := RX7) (T := TX7) (N := 18) hx hb hts mem_X7_begin_0 hown hK hP 0 rfl rfl 17 (by decide) (ow (k := 15) rfl) (fun _ h9 => h9) rfl dX7_begin_73 ?_
  refine lv_iload hx hb dX7_begin_76 (lv_at hl 0 rfl) ?_
  refine lv_iconst (v := (-1)) hx hb dX7_begin_78 (by decide) ?_
  refine va_iast hx hb hK hP hD hS 2 1 rfl rfl (show vp_in 0 60 by rw [vp_in_iff]; decide) dX7_begin_79 (fun H locs hP hD hS => ?_)
  have hP : va_P (dC, dI) vwP [(q_60, .inr (7, [.int 0, .ref q_1, .int 0, .int 0, .int 1, .int 0, .int 0, .int 0, .ref q_3, .int 0, .int 0, .int 0, .int 0, .long 0, .int 0, .int (-1), .ref q_62, .ref q_63])), (q_62, .inl (cA_64, 60, .inl f_2003)), (q_63, .inl (cA_65, 60, .inl (upd (fun _ => 0) (0 : Int32).toNatClampNeg (-1)))), (q_3, .inr (0, [.int 0, .int 0, .int 0, .int 0, .ref q_4, .ref q_5, .ref q_6, .ref q_7, .ref q_8, .ref q_9, .ref q_10, .ref q_11, .ref q_12, .ref q_13, .ref q_14, .ref q_15, .ref q_16, .ref q_17, .ref q_18])), (q_4, .inl (cA_19, 301, .inl g0_2001)), (q_15, .inl (cA_20, 301, .inl g1_2002))] H := hP
  have hD : va_D A [(q_60, .inr (7, [.int 0, .ref q_1, .int 0, .int 0, .int 1, .int 0, .int 0, .int 0, .ref q_3, .int 0, .int 0, .int 0, .int 0, .long 0, .int 0, .int (-1), .ref q_62, .ref q_63])), (q_62, .inl (cA_64, 60, .inl f_2003)), (q_63, .inl (cA_65, 60, .inl (upd (fun _ => 0) (0 : Int32).toNatClampNeg (-1)))), (q_3, .inr (0, [.int 0, .int 0, .int 0, .int 0, .ref q_4, .ref q_5, .ref q_6, .ref q_7, .ref q_8, .ref q_9, .ref q_10, .ref q_11, .ref q_12, .ref q_13, .ref q_14, .ref q_15, .ref q_16, .ref q_17, .ref q_18])), (q_4, .inl (cA_19, 301, .inl g0_2001)), (q_15, .inl (cA_20, 301, .inl g1_2002))] := hD
  generalize (upd (fun _ => 0) (0 : Int32).toNatClampNeg (-1)) = f_2004 at hP hD
  refine lv_iinc (v := 1) (lv' := [(4, .int 1), (0, .ref q_60), (1, .ref q_1), (2, .int 0), (3, .ref q_3)]) hx hb dX7_begin_80 hl (k := 0) rfl (by decide) (by decide) rfl (fun ls hl => ?_)
  refine lv_goto (tgt := 57) hx hb dX7_begin_83 (by decide) ?_
  refine lv_iload hx hb dX7_begin_57 (lv_at hl 0 rfl) ?_
  refine lv_bipush (v := 60) hx hb dX7_begin_59 (by decide) ?_
  refine lv_icmp_ge (tgt := 86) hx hb dX7_begin_61 (by decide) (fun h9 => absurd h9 (by decide)) (fun _ => ?_)
  refine lv_aload_n hx hb dX7_begin_64 rfl (lv_at hl 1 rfl) ?_
  refine va_get (D := (dC, dI)) (ci := 7) (v := .ref q_62) (C := RX7) (T := TX7) (N := 18) hx hb hts mem_X7_begin_0 hown hK hP 0 rfl rfl 16 (by decide) (ow (k := 14) rfl) (fun _ h9 => h9) rfl dX7_begin_65 ?_
  refine lv_iload hx hb dX7_begin_68 (lv_at hl 0 rfl) ?_
  refine lv_iconst (v := 0) hx hb dX7_begin_70 (by decide) ?_
  refine va_zast hx hb hK hP hD hS 1 0 rfl rfl (show vp_in 1 60 by rw [vp_in_iff]; decide) dX7_begin_71 (fun H locs hP hD hS => ?_)
  have hP : va_P (dC, dI) vwP [(q_60, .inr (7, [.int 0, .ref q_1, .int 0, .int 0, .int 1, .int 0, .int 0, .int 0, .ref q_3, .int 0, .int 0, .int 0, .int 0, .long 0, .int 0, .int (-1), .ref q_62, .ref q_63])), (q_62, .inl (cA_64, 60, .inl (upd f_2003 (1 : Int32).toNatClampNeg (vp_nar .boolean 0)))), (q_63, .inl (cA_65, 60, .inl f_2004)), (q_3, .inr (0, [.int 0, .int 0, .int 0, .int 0, .ref q_4, .ref q_5, .ref q_6, .ref q_7, .ref q_8, .ref q_9, .ref q_10, .ref q_11, .ref q_12, .ref q_13, .ref q_14, .ref q_15, .ref q_16, .ref q_17, .ref q_18])), (q_4, .inl (cA_19, 301, .inl g0_2001)), (q_15, .inl (cA_20, 301, .inl g1_2002))] H := hP
  have hD : va_D A [(q_60, .inr (7, [.int 0, .ref q_1, .int 0, .int 0, .int 1, .int 0, .int 0, .int 0, .ref q_3, .int 0, .int 0, .int 0, .int 0, .long 0, .int 0, .int (-1), .ref q_62, .ref q_63])), (q_62, .inl (cA_64, 60, .inl (upd f_2003 (1 : Int32).toNatClampNeg (vp_nar .boolean 0)))), (q_63, .inl (cA_65, 60, .inl f_2004)), (q_3, .inr (0, [.int 0, .int 0, .int 0, .int 0, .ref q_4, .ref q_5, .ref q_6, .ref q_7, .ref q_8, .ref q_9, .ref q_10, .ref q_11, .ref q_12, .ref q_13, .ref q_14, .ref q_15, .ref q_16, .ref q_17, .ref q_18])), (q_4, .inl (cA_19, 301, .inl g0_2001)), (q_15, .inl (cA_20, 301, .inl g1_2002))] := hD
  generalize (upd f_2003 (1 : Int32).toNatClampNeg (vp_nar .boolean 0)) = f_2005 at hP hD
  refine lv_aload_n hx hb dX7_begin_72 rfl (lv_at hl 1 rfl) ?_
  refine va_get (D := (dC, dI)) (ci := 7) (v := .ref q_63) (C := RX7) (T := TX7) (N := 18) hx hb hts mem_X7_begin_0 hown hK hP 0 rfl rfl 17 (by decide) (ow (k := 15) rfl) (fun _ h9 => h9) rfl dX7_begin_73 ?_
  refine lv_iload hx hb dX7_begin_76 (lv_at hl 0 rfl) ?_
  refine lv_iconst (v := (-1)) hx hb dX7_begin_78 (by decide) ?_
  refine va_iast hx hb hK hP hD hS 2 1 rfl rfl (show vp_in 1 60 by rw [vp_in_iff]; decide) dX7_begin_79 (fun H locs hP hD hS => ?_)
  have hP : va_P (dC, dI) vwP [(q_60, .inr (7, [.int 0, .ref q_1, .int 0, .int 0, .int 1, .int 0, .int 0, .int 0, .ref q_3, .int 0, .int 0, .int 0, .int 0, .long 0, .int 0, .int (-1), .ref q_62, .ref q_63])), (q_62, .inl (cA_64, 60, .inl f_2005)), (q_63, .inl (cA_65, 60, .inl (upd f_2004 (1 : Int32).toNatClampNeg (-1)))), (q_3, .inr (0, [.int 0, .int 0, .int 0, .int 0, .ref q_4, .ref q_5, .ref q_6, .ref q_7, .ref q_8, .ref q_9, .ref q_10, .ref q_11, .ref q_12, .ref q_13, .ref q_14, .ref q_15, .ref q_16, .ref q_17, .ref q_18])), (q_4, .inl (cA_19, 301, .inl g0_2001)), (q_15, .inl (cA_20, 301, .inl g1_2002))] H := hP
  have hD : va_D A [(q_60, .inr (7, [.int 0, .ref q_1, .int 0, .int 0, .int 1, .int 0, .int 0, .int 0, .ref q_3, .int 0, .int 0, .int 0, .int 0, .long 0, .int 0, .int (-1), .ref q_62, .ref q_63])), (q_62, .inl (cA_64, 60, .inl f_2005)), (q_63, .inl (cA_65, 60, .inl (upd f_2004 (1 : Int32).toNatClampNeg (-1)))), (q_3, .inr (0, [.int 0, .int 0, .int 0, .int 0, .ref q_4, .ref q_5, .ref q_6, .ref q_7, .ref q_8, .ref q_9, .ref q_10, .ref q_11, .ref q_12, .ref q_13, .ref q_14, .ref q_15, .ref q_16, .ref q_17, .ref q_18])), (q_4, .inl (cA_19, 301, .inl g0_2001)), (q_15, .inl (cA_20, 301, .inl g1_2002))] := hD
  generalize (upd f_2004 (1 : Int32).toNatClampNeg (-1)) = f_2006 at hP hD
  refine lv_iinc (v := 2) (lv' := [(4, .int 2), (0, .ref q_60), (1, .ref q_1), (2, .int 0), (3, .ref q_3)]) hx hb dX7_begin_80 hl (k := 0) rfl (by decide) (by decide) rfl (fun ls hl => ?_)
  refine lv_goto (tgt := 57) hx hb dX7_begin_83 (by decide) ?_
  refine lv_iload hx hb dX7_begin_57 (lv_at hl 0 rfl) ?_
  refine lv_bipush (v := 60) hx hb dX7_begin_59 (by decide) ?_
  refine lv_icmp_ge (tgt := 86) hx hb dX7_begin_61 (by decide) (fun h9 => absurd h9 (by decide)) (fun _ => ?_)
  refine lv_aload_n hx hb dX7_begin_64 rfl (lv_at hl 1 rfl) ?_
  refine va_get (D := (dC, dI)) (ci := 7) (v := .ref q_62) (C := RX7) (T := TX7) (N := 18) hx hb hts mem_X7_begin_0 hown hK hP 0 rfl rfl 16 (by decide) (ow (k := 14) rfl) (fun _ h9 => h9) rfl dX7_begin_65 ?_
  refine lv_iload hx hb dX7_begin_68 (lv_at hl 0 rfl) ?_
  refine lv_iconst (v := 0) hx hb dX7_begin_70 (by decide) ?_
  refine va_zast hx hb hK hP hD hS 1 0 rfl rfl (show vp_in 2 60 by rw [vp_in_iff]; decide) dX7_begin_71 (fun H locs hP hD hS => ?_)
  have hP : va_P (dC, dI) vwP [(q_60, .inr (7, [.int 0, .ref q_1, .int 0, .int 0, .int 1, .int 0, .int 0, .int 0, .ref q_3, .int 0, .int 0, .int 0, .int 0, .long 0, .int 0, .int (-1), .ref q_62, .ref q_63])), (q_62, .inl (cA_64, 60, .inl (upd f_2005 (2 : Int32).toNatClampNeg (vp_nar .boolean 0)))), (q_63, .inl (cA_65, 60, .inl f_2006)), (q_3, .inr (0, [.int 0, .int 0, .int 0, .int 0, .ref q_4, .ref q_5, .ref q_6, .ref q_7, .ref q_8, .ref q_9, .ref q_10, .ref q_11, .ref q_12, .ref q_13, .ref q_14, .ref q_15, .ref q_16, .ref q_17, .ref q_18])), (q_4, .inl (cA_19, 301, .inl g0_2001)), (q_15, .inl (cA_20, 301, .inl g1_2002))] H := hP
  have hD : va_D A [(q_60, .inr (7, [.int 0, .ref q_1, .int 0, .int 0, .int 1, .int 0, .int 0, .int 0, .ref q_3, .int 0, .int 0, .int 0, .int 0, .long 0, .int 0, .int (-1), .ref q_62, .ref q_63])), (q_62, .inl (cA_64, 60, .inl (upd f_2005 (2 : Int32).toNatClampNeg (vp_nar .boolean 0)))), (q_63, .inl (cA_65, 60, .inl f_2006)), (q_3, .inr (0, [.int 0, .int 0, .int 0, .int 0, .ref q_4, .ref q_5, .ref q_6, .ref q_7, .ref q_8, .ref q_9, .ref q_10, .ref q_11, .ref q_12, .ref q_13, .ref q_14, .ref q_15, .ref q_16, .ref q_17, .ref q_18])), (q_4, .inl (cA_19, 301, .inl g0_2001)), (q_15, .inl (cA_20, 301, .inl g1_2002))] := hD
  generalize (upd f_2005 (2 : Int32).toNatClampNeg (vp_nar .boolean 0)) = f_2007 at hP hD
  refine lv_aload_n hx hb dX7_begin_72 rfl (lv_at hl 1 rfl) ?_
  refine va_get (D := (dC, dI)) (ci := 7) (v := .ref q_63) (C := RX7) (T := TX7) (N := 18) hx hb hts mem_X7_begin_0 hown hK hP 0 rfl rfl 17 (by decide) (ow (k := 15) rfl) (fun _ h9 => h9) rfl dX7_begin_73 ?_
  refine lv_iload hx hb dX7_begin_76 (lv_at hl 0 rfl) ?_
  refine lv_iconst (v := (-1)) hx hb dX7_begin_78 (by decide) ?_
  refine va_iast hx hb hK hP hD hS 2 1 rfl rfl (show vp_in 2 60 by rw [vp_in_iff]; decide) dX7_begin_79 (fun H locs hP hD hS => ?_)
  have hP : va_P (dC, dI) vwP [(q_60, .inr (7, [.int 0, .ref q_1, .int 0, .int 0, .int 1, .int 0, .int 0, .int 0, .ref q_3, .int 0, .int 0, .int 0, .int 0, .long 0, .int 0, .int (-1), .ref q_62, .ref q_63])), (q_62, .inl (cA_64, 60, .inl f_2007)), (q_63, .inl (cA_65, 60, .inl (upd f_2006 (2 : Int32).toNatClampNeg (-1)))), (q_3, .inr (0, [.int 0, .int 0, .int 0, .int 0, .ref q_4, .ref q_5, .ref q_6, .ref q_7, .ref q_8, .ref q_9, .ref q_10, .ref q_11, .ref q_12, .ref q_13, .ref q_14, .ref q_15, .ref q_16, .ref q_17, .ref q_18])), (q_4, .inl (cA_19, 301, .inl g0_2001)), (q_15, .inl (cA_20, 301, .inl g1_2002))] H := hP
  have hD : va_D A [(q_60, .inr (7, [.int 0, .ref q_1, .int 0, .int 0, .int 1, .int 0, .int 0, .int 0, .ref q_3, .int 0, .int 0, .int 0, .int 0, .long 0, .int 0, .int (-1), .ref q_62, .ref q_63])), (q_62, .inl (cA_64, 60, .inl f_2007)), (q_63, .inl (cA_65, 60, .inl (upd f_2006 (2 : Int32).toNatClampNeg (-1)))), (q_3, .inr (0, [.int 0, .int 0, .int 0, .int 0, .ref q_4, .ref q_5, .ref q_6, .ref q_7, .ref q_8, .ref q_9, .ref q_10, .ref q_11, .ref q_12, .ref q_13, .ref q_14, .ref q_15, .ref q_16, .ref q_17, .ref q_18])), (q_4, .inl (cA_19, 301, .inl g0_2001)), (q_15, .inl (cA_20, 301, .inl g1_2002))] := hD
  generalize (upd f_2006 (2 : Int32).toNatClampNeg (-1)) = f_2008 at hP hD
  refine lv_iinc (v := 3) (lv' := [(4, .int 3), (0, .ref q_60), (1, .ref q_1), (2, .int 0), (3, .ref q_3)]) hx hb dX7_begin_80 hl (k := 0) rfl (by decide) (by decide) rfl (fun ls hl => ?_)
  refine lv_goto (tgt := 57) hx hb dX7_begin_83 (by decide) ?_
  refine lv_iload hx hb dX7_begin_57 (lv_at hl 0 rfl) ?_
  refine lv_bipush (v := 60) hx hb dX7_begin_59 (by decide) ?_
  refine lv_icmp_ge (tgt := 86) hx hb dX7_begin_61 (by decide) (fun h9 => absurd h9 (by decide)) (fun _ => ?_)
  refine lv_aload_n hx hb dX7_begin_64 rfl (lv_at hl 1 rfl) ?_
  refine va_get (D := (dC, dI)) (ci := 7) (v := .ref q_62) (C := RX7) (T := TX7) (N := 18) hx hb hts mem_X7_begin_0 hown hK hP 0 rfl rfl 16 (by decide) (ow (k := 14) rfl) (fun _ h9 => h9) rfl dX7_begin_65 ?_
  refine lv_iload hx hb dX7_begin_68 (lv_at hl 0 rfl) ?_
  refine lv_iconst (v := 0) hx hb dX7_begin_70 (by decide) ?_
  refine va_zast hx hb hK hP hD hS 1 0 rfl rfl (show vp_in 3 60 by rw [vp_in_iff]; decide) dX7_begin_71 (fun H locs hP hD hS => ?_)
  have hP : va_P (dC, dI) vwP [(q_60, .inr (7, [.int 0, .ref q_1, .int 0, .int 0, .int 1, .int 0, .int 0, .int 0, .ref q_3, .int 0, .int 0, .int 0, .int 0, .long 0, .int 0, .int (-1), .ref q_62, .ref q_63])), (q_62, .inl (cA_64, 60, .inl (upd f_2007 (3 : Int32).toNatClampNeg (vp_nar .boolean 0)))), (q_63, .inl (cA_65, 60, .inl f_2008)), (q_3, .inr (0, [.int 0, .int 0, .int 0, .int 0, .ref q_4, .ref q_5, .ref q_6, .ref q_7, .ref q_8, .ref q_9, .ref q_10, .ref q_11, .ref q_12, .ref q_13, .ref q_14, .ref q_15, .ref q_16, .ref q_17, .ref q_18])), (q_4, .inl (cA_19, 301, .inl g0_2001)), (q_15, .inl (cA_20, 301, .inl g1_2002))] H := hP
  have hD : va_D A [(q_60, .inr (7, [.int 0, .ref q_1, .int 0, .int 0, .int 1, .int 0, .int 0, .int 0, .ref q_3, .int 0, .int 0, .int 0, .int 0, .long 0, .int 0, .int (-1), .ref q_62, .ref q_63])), (q_62, .inl (cA_64, 60, .inl (upd f_2007 (3 : Int32).toNatClampNeg (vp_nar .boolean 0)))), (q_63, .inl (cA_65, 60, .inl f_2008)), (q_3, .inr (0, [.int 0, .int 0, .int 0, .int 0, .ref q_4, .ref q_5, .ref q_6, .ref q_7, .ref q_8, .ref q_9, .ref q_10, .ref q_11, .ref q_12, .ref q_13, .ref q_14, .ref q_15, .ref q_16, .ref q_17, .ref q_18])), (q_4, .inl (cA_19, 301, .inl g0_2001)), (q_15, .inl (cA_20, 301, .inl g1_2002))] := hD
  generalize (upd f_2007 (3 : Int32).toNatClampNeg (vp_nar .boolean 0)) = f_2009 at hP hD
  refine lv_aload_n hx hb dX7_begin_72 rfl (lv_at hl 1 rfl) ?_
  refine va_get (D := (dC, dI)) (ci := 7) (v := .ref q_63) (C := RX7) (T := TX7) (N := 18) hx hb hts mem_X7_begin_0 hown hK hP 0 rfl rfl 17 (by decide) (ow (k := 15) rfl) (fun _ h9 => h9) rfl dX7_begin_73 ?_
  refine lv_iload hx hb dX7_begin_76 (lv_at hl 0 rfl) ?_
  refine lv_iconst (v := (-1)) hx hb dX7_begin_78 (by decide) ?_
  refine va_iast hx hb hK hP hD hS 2 1 rfl rfl (show vp_in 3 60 by rw [vp_in_iff]; decide) dX7_begin_79 (fun H locs hP hD hS => ?_)
  have hP : va_P (dC, dI) vwP [(q_60, .inr (7, [.int 0, .ref q_1, .int 0, .int 0, .int 1, .int 0, .int 0, .int 0, .ref q_3, .int 0, .int 0, .int 0, .int 0, .long 0, .int 0, .int (-1), .ref q_62, .ref q_63])), (q_62, .inl (cA_64, 60, .inl f_2009)), (q_63, .inl (cA_65, 60, .inl (upd f_2008 (3 : Int32).toNatClampNeg (-1)))), (q_3, .inr (0, [.int 0, .int 0, .int 0, .int 0, .ref q_4, .ref q_5, .ref q_6, .ref q_7, .ref q_8, .ref q_9, .ref q_10, .ref q_11, .ref q_12, .ref q_13, .ref q_14, .ref q_15, .ref q_16, .ref q_17, .ref q_18])), (q_4, .inl (cA_19, 301, .inl g0_2001)), (q_15, .inl (cA_20, 301, .inl g1_2002))] H := hP
  have hD : va_D A [(q_60, .inr (7, [.int 0, .ref q_1, .int 0, .int 0, .int 1, .int 0, .int 0, .int 0, .ref q_3, .int 0, .int 0, .int 0, .int 0, .long 0, .int 0, .int (-1), .ref q_62, .ref q_63])), (q_62, .inl (cA_64, 60, .inl f_2009)), (q_63, .inl (cA_65, 60, .inl (upd f_2008 (3 : Int32).toNatClampNeg (-1)))), (q_3, .inr (0, [.int 0, .int 0, .int 0, .int 0, .ref q_4, .ref q_5, .ref q_6, .ref q_7, .ref q_8, .ref q_9, .ref q_10, .ref q_11, .ref q_12, .ref q_13, .ref q_14, .ref q_15, .ref q_16, .ref q_17, .ref q_18])), (q_4, .inl (cA_19, 301, .inl g0_2001)), (q_15, .inl (cA_20, 301, .inl g1_2002))] := hD
  generalize (upd f_2008 (3 : Int32).toNatClampNeg (-1)) = f_2010 at hP hD
  refine lv_iinc (v := 4) (lv' := [(4, .int 4), (0, .ref q_60), (1, .ref q_1), (2, .int 0), (3, .ref q_3)]) hx hb dX7_begin_80 hl (k := 0) rfl (by decide) (by decide) rfl (fun ls hl => ?_)
  refine lv_goto (tgt := 57) hx hb dX7_begin_83 (by decide) ?_
  refine lv_iload hx hb dX7_begin_57 (lv_at hl 0 rfl) ?_
  refine lv_bipush (v := 60) hx hb dX7_begin_59 (by decide) ?_
  refine lv_icmp_ge (tgt := 86) hx hb dX7_begin_61 (by decide) (fun h9 => absurd h9 (by decide)) (fun _ => ?_)
  refine lv_aload_n hx hb dX7_begin_64 rfl (lv_at hl 1 rfl) ?_
  refine va_get (D := (dC, dI)) (ci := 7) (v := .ref q_62) (C := RX7) (T := TX7) (N := 18) hx hb hts mem_X7_begin_0 hown hK hP 0 rfl rfl 16 (by decide) (ow (k := 14) rfl) (fun _ h9 => h9) rfl dX7_begin_65 ?_
  refine lv_iload hx hb dX7_begin_68 (lv_at hl 0 rfl) ?_
  refine lv_iconst (v := 0) hx hb dX7_begin_70 (by decide) ?_
  refine va_zast hx hb hK hP hD hS 1 0 rfl rfl (show vp_in 4 60 by rw [vp_in_iff]; decide) dX7_begin_71 (fun H locs hP hD hS => ?_)
  have hP : va_P (dC, dI) vwP [(q_60, .inr (7, [.int 0, .ref q_1, .int 0, .int 0, .int 1, .int 0, .int 0, .int 0, .ref q_3, .int 0, .int 0, .int 0, .int 0, .long 0, .int 0, .int (-1), .ref q_62, .ref q_63])), (q_62, .inl (cA_64, 60, .inl (upd f_2009 (4 : Int32).toNatClampNeg (vp_nar .boolean 0)))), (q_63, .inl (cA_65, 60, .inl f_2010)), (q_3, .inr (0, [.int 0, .int 0, .int 0, .int 0, .ref q_4, .ref q_5, .ref q_6, .ref q_7, .ref q_8, .ref q_9, .ref q_10, .ref q_11, .ref q_12, .ref q_13, .ref q_14, .ref q_15, .ref q_16, .ref q_17, .ref q_18])), (q_4, .inl (cA_19, 301, .inl g0_2001)), (q_15, .inl (cA_20, 301, .inl g1_2002))] H := hP
  have hD : va_D A [(q_60, .inr (7, [.int 0, .ref q_1, .int 0, .int 0, .int 1, .int 0, .int 0, .int 0, .ref q_3, .int 0, .int 0, .int 0, .int 0, .long 0, .int 0, .int (-1), .ref q_62, .ref q_63])), (q_62, .inl (cA_64, 60, .inl (upd f_2009 (4 : Int32).toNatClampNeg (vp_nar .boolean 0)))), (q_63, .inl (cA_65, 60, .inl f_2010)), (q_3, .inr (0, [.int 0, .int 0, .int 0, .int 0, .ref q_4, .ref q_5, .ref q_6, .ref q_7, .ref q_8, .ref q_9, .ref q_10, .ref q_11, .ref q_12, .ref q_13, .ref q_14, .ref q_15, .ref q_16, .ref q_17, .ref q_18])), (q_4, .inl (cA_19, 301, .inl g0_2001)), (q_15, .inl (cA_20, 301, .inl g1_2002))] := hD
  generalize (upd f_2009 (4 : Int32).toNatClampNeg (vp_nar .boolean 0)) = f_2011 at hP hD
  refine lv_aload_n hx hb dX7_begin_72 rfl (lv_at hl 1 rfl) ?_
  refine va_get (D := (dC, dI)) (ci := 7) (v := .ref q_63) (C := RX7) (T := TX7) (N := 18) hx hb hts mem_X7_begin_0 hown hK hP 0 rfl rfl 17 (by decide) (ow (k := 15) rfl) (fun _ h9 => h9) rfl dX7_begin_73 ?_
  refine lv_iload hx hb dX7_begin_76 (lv_at hl 0 rfl) ?_
  refine lv_iconst (v := (-1)) hx hb dX7_begin_78 (by decide) ?_
  refine va_iast hx hb hK hP hD hS 2 1 rfl rfl (show vp_in 4 60 by rw [vp_in_iff]; decide) dX7_begin_79 (fun H locs hP hD hS => ?_)
  have hP : va_P (dC, dI) vwP [(q_60, .inr (7, [.int 0, .ref q_1, .int 0, .int 0, .int 1, .int 0, .int 0, .int 0, .ref q_3, .int 0, .int 0, .int 0, .int 0, .long 0, .int 0, .int (-1), .ref q_62, .ref q_63])), (q_62, .inl (cA_64, 60, .inl f_2011)), (q_63, .inl (cA_65, 60, .inl (upd f_2010 (4 : Int32).toNatClampNeg (-1)))), (q_3, .inr (0, [.int 0, .int 0, .int 0, .int 0, .ref q_4, .ref q_5, .ref q_6, .ref q_7, .ref q_8, .ref q_9, .ref q_10, .ref q_11, .ref q_12, .ref q_13, .ref q_14, .ref q_15, .ref q_16, .ref q_17, .ref q_18])), (q_4, .inl (cA_19, 301, .inl g0_2001)), (q_15, .inl (cA_20, 301, .inl g1_2002))] H := hP
  have hD : va_D A [(q_60, .inr (7, [.int 0, .ref q_1, .int 0, .int 0, .int 1, .int 0, .int 0, .int 0, .ref q_3, .int 0, .int 0, .int 0, .int 0, .long 0, .int 0, .int (-1), .ref q_62, .ref q_63])), (q_62, .inl (cA_64, 60, .inl f_2011)), (q_63, .inl (cA_65, 60, .inl (upd f_2010 (4 : Int32).toNatClampNeg (-1)))), (q_3, .inr (0, [.int 0, .int 0, .int 0, .int 0, .ref q_4, .ref q_5, .ref q_6, .ref q_7, .ref q_8, .ref q_9, .ref q_10, .ref q_11, .ref q_12, .ref q_13, .ref q_14, .ref q_15, .ref q_16, .ref q_17, .ref q_18])), (q_4, .inl (cA_19, 301, .inl g0_2001)), (q_15, .inl (cA_20, 301, .inl g1_2002))] := hD
  generalize (upd f_2010 (4 : Int32).toNatClampNeg (-1)) = f_2012 at hP hD
  refine lv_iinc (v := 5) (lv' := [(4, .int 5), (0, .ref q_60), (1, .ref q_1), (2, .int 0), (3, .ref q_3)]) hx hb dX7_begin_80 hl (k := 0) rfl (by decide) (by decide) rfl (fun ls hl => ?_)
  refine lv_goto (tgt := 57) hx hb dX7_begin_83 (by decide) ?_
  refine lv_iload hx hb dX7_begin_57 (lv_at hl 0 rfl) ?_
  refine lv_bipush (v := 60) hx hb dX7_begin_59 (by decide) ?_
  refine lv_icmp_ge (tgt := 86) hx hb dX7_begin_61 (by decide) (fun h9 => absurd h9 (by decide)) (fun _ => ?_)
  refine lv_aload_n hx hb dX7_begin_64 rfl (lv_at hl 1 rfl) ?_
  refine va_get (D := (dC, dI)) (ci := 7) (v := .ref q_62) (C := RX7) (T := TX7) (N := 18) hx hb hts mem_X7_begin_0 hown hK hP 0 rfl rfl 16 (by decide) (ow (k := 14) rfl) (fun _ h9 => h9) rfl dX7_begin_65 ?_
  refine lv_iload hx hb dX7_begin_68 (lv_at hl 0 rfl) ?_
  refine lv_iconst (v := 0) hx hb dX7_begin_70 (by decide) ?_
  refine va_zast hx hb hK hP hD hS 1 0 rfl rfl (show vp_in 5 60 by rw [vp_in_iff]; decide) dX7_begin_71 (fun H locs hP hD hS => ?_)
  have hP : va_P (dC, dI) vwP [(q_60, .inr (7, [.int 0, .ref q_1, .int 0, .int 0, .int 1, .int 0, .int 0, .int 0, .ref q_3, .int 0, .int 0, .int 0, .int 0, .long 0, .int 0, .int (-1), .ref q_62, .ref q_63])), (q_62, .inl (cA_64, 60, .inl (upd f_2011 (5 : Int32).toNatClampNeg (vp_nar .boolean 0)))), (q_63, .inl (cA_65, 60, .inl f_2012)), (q_3, .inr (0, [.int 0, .int 0, .int 0, .int 0, .ref q_4, .ref q_5, .ref q_6, .ref q_7, .ref q_8, .ref q_9, .ref q_10, .ref q_11, .ref q_12, .ref q_13, .ref q_14, .ref q_15, .ref q_16, .ref q_17, .ref q_18])), (q_4, .inl (cA_19, 301, .inl g0_2001)), (q_15, .inl (cA_20, 301, .inl g1_2002))] H := hP
  have hD : va_D A [(q_60, .inr (7, [.int 0, .ref q_1, .int 0, .int 0, .int 1, .int 0, .int 0, .int 0, .ref q_3, .int 0, .int 0, .int 0, .int 0, .long 0, .int 0, .int (-1), .ref q_62, .ref q_63])), (q_62, .inl (cA_64, 60, .inl (upd f_2011 (5 : Int32).toNatClampNeg (vp_nar .boolean 0)))), (q_63, .inl (cA_65, 60, .inl f_2012)), (q_3, .inr (0, [.int 0, .int 0, .int 0, .int 0, .ref q_4, .ref q_5, .ref q_6, .ref q_7, .ref q_8, .ref q_9, .ref q_10, .ref q_11, .ref q_12, .ref q_13, .ref q_14, .ref q_15, .ref q_16, .ref q_17, .ref q_18])), (q_4, .inl (cA_19, 301, .inl g0_2001)), (q_15, .inl (cA_20, 301, .inl g1_2002))] := hD
  generalize (upd f_2011 (5 : Int32).toNatClampNeg (vp_nar .boolean 0)) = f_2013 at hP hD
  refine lv_aload_n hx hb dX7_begin_72 rfl (lv_at hl 1 rfl) ?_
  refine va_get (D := (dC, dI)) (ci := 7) (v := .ref q_63) (C := RX7) (T := TX7) (N := 18) hx hb hts mem_X7_begin_0 hown hK hP 0 rfl rfl 17 (by decide) (ow (k := 15) rfl) (fun _ h9 => h9) rfl dX7_begin_73 ?_
  refine lv_iload hx hb dX7_begin_76 (lv_at hl 0 rfl) ?_
  refine lv_iconst (v := (-1)) hx hb dX7_begin_78 (by decide) ?_
  refine va_iast hx hb hK hP hD hS 2 1 rfl rfl (show vp_in 5 60 by rw [vp_in_iff]; decide) dX7_begin_79 (fun H locs hP hD hS => ?_)
  have hP : va_P (dC, dI) vwP [(q_60, .inr (7, [.int 0, .ref q_1, .int 0, .int 0, .int 1, .int 0, .int 0, .int 0, .ref q_3, .int 0, .int 0, .int 0, .int 0, .long 0, .int 0, .int (-1), .ref q_62, .ref q_63])), (q_62, .inl (cA_64, 60, .inl f_2013)), (q_63, .inl (cA_65, 60, .inl (upd f_2012 (5 : Int32).toNatClampNeg (-1)))), (q_3, .inr (0, [.int 0, .int 0, .int 0, .int 0, .ref q_4, .ref q_5, .ref q_6, .ref q_7, .ref q_8, .ref q_9, .ref q_10, .ref q_11, .ref q_12, .ref q_13, .ref q_14, .ref q_15, .ref q_16, .ref q_17, .ref q_18])), (q_4, .inl (cA_19, 301, .inl g0_2001)), (q_15, .inl (cA_20, 301, .inl g1_2002))] H := hP
  have hD : va_D A [(q_60, .inr (7, [.int 0, .ref q_1, .int 0, .int 0, .int 1, .int 0, .int 0, .int 0, .ref q_3, .int 0, .int 0, .int 0, .int 0, .long 0, .int 0, .int (-1), .ref q_62, .ref q_63])), (q_62, .inl (cA_64, 60, .inl f_2013)), (q_63, .inl (cA_65, 60, .inl (upd f_2012 (5 : Int32).toNatClampNeg (-1)))), (q_3, .inr (0, [.int 0, .int 0, .int 0, .int 0, .ref q_4, .ref q_5, .ref q_6, .ref q_7, .ref q_8, .ref q_9, .ref q_10, .ref q_11, .ref q_12, .ref q_13, .ref q_14, .ref q_15, .ref q_16, .ref q_17, .ref q_18])), (q_4, .inl (cA_19, 301, .inl g0_2001)), (q_15, .inl (cA_20, 301, .inl g1_2002))] := hD
  generalize (upd f_2012 (5 : Int32).toNatClampNeg (-1)) = f_2014 at hP hD
  refine lv_iinc (v := 6) (lv' := [(4, .int 6), (0, .ref q_60), (1, .ref q_1), (2, .int 0), (3, .ref q_3)]) hx hb dX7_begin_80 hl (k := 0) rfl (by decide) (by decide) rfl (fun ls hl => ?_)
  refine lv_goto (tgt := 57) hx hb dX7_begin_83 (by decide) ?_
  refine lv_iload hx hb dX7_begin_57 (lv_at hl 0 rfl) ?_
  refine lv_bipush (v := 60) hx hb dX7_begin_59 (by decide) ?_
  refine lv_icmp_ge (tgt := 86) hx hb dX7_begin_61 (by decide) (fun h9 => absurd h9 (by decide)) (fun _ => ?_)
  refine lv_aload_n hx hb dX7_begin_64 rfl (lv_at hl 1 rfl) ?_
  refine va_get (D := (dC, dI)) (ci := 7) (v := .ref q_62) (C := RX7) (T := TX7) (N := 18) hx hb hts mem_X7_begin_0 hown hK hP 0 rfl rfl 16 (by decide) (ow (k := 14) rfl) (fun _ h9 => h9) rfl dX7_begin_65 ?_
  refine lv_iload hx hb dX7_begin_68 (lv_at hl 0 rfl) ?_
  refine lv_iconst (v := 0) hx hb dX7_begin_70 (by decide) ?_
  refine va_zast hx hb hK hP hD hS 1 0 rfl rfl (show vp_in 6 60 by rw [vp_in_iff]; decide) dX7_begin_71 (fun H locs hP hD hS => ?_)
  have hP : va_P (dC, dI) vwP [(q_60, .inr (7, [.int 0, .ref q_1, .int 0, .int 0, .int 1, .int 0, .int 0, .int 0, .ref q_3, .int 0, .int 0, .int 0, .int 0, .long 0, .int 0, .int (-1), .ref q_62, .ref q_63])), (q_62, .inl (cA_64, 60, .inl (upd f_2013 (6 : Int32).toNatClampNeg (vp_nar .boolean 0)))), (q_63, .inl (cA_65, 60, .inl f_2014)), (q_3, .inr (0, [.int 0, .int 0, .int 0, .int 0, .ref q_4, .ref q_5, .ref q_6, .ref q_7, .ref q_8, .ref q_9, .ref q_10, .ref q_11, .ref q_12, .ref q_13, .ref q_14, .ref q_15, .ref q_16, .ref q_17, .ref q_18])), (q_4, .inl (cA_19, 301, .inl g0_2001)), (q_15, .inl (cA_20, 301, .inl g1_2002))] H := hP
  have hD : va_D A [(q_60, .inr (7, [.int 0, .ref q_1, .int 0, .int 0, .int 1, .int 0, .int 0, .int 0, .ref q_3, .int 0, .int 0, .int 0, .int 0, .long 0, .int 0, .int (-1), .ref q_62, .ref q_63])), (q_62, .inl (cA_64, 60, .inl (upd f_2013 (6 : Int32).toNatClampNeg (vp_nar .boolean 0)))), (q_63, .inl (cA_65, 60, .inl f_2014)), (q_3, .inr (0, [.int 0, .int 0, .int 0, .int 0, .ref q_4, .ref q_5, .ref q_6, .ref q_7, .ref q_8, .ref q_9, .ref q_10, .ref q_11, .ref q_12, .ref q_13, .ref q_14, .ref q_15, .ref q_16, .ref q_17, .ref q_18])), (q_4, .inl (cA_19, 301, .inl g0_2001)), (q_15, .inl (cA_20, 301, .inl g1_2002))] := hD
  generalize (upd f_2013 (6 : Int32).toNatClampNeg (vp_nar .boolean 0)) = f_2015 at hP hD
  refine lv_aload_n hx hb dX7_begin_72 rfl (lv_at hl 1 rfl) ?_
  refine va_get (D := (dC, dI)) (ci := 7) (v := .ref q_63) (C := RX7) (T := TX7) (N := 18) hx hb hts mem_X7_begin_0 hown hK hP 0 rfl rfl 17 (by decide) (ow (k := 15) rfl) (fun _ h9 => h9) rfl dX7_begin_73 ?_
  refine lv_iload hx hb dX7_begin_76 (lv_at hl 0 rfl) ?_
  refine lv_iconst (v := (-1)) hx hb dX7_begin_78 (by decide) ?_
  refine va_iast hx hb hK hP hD hS 2 1 rfl rfl (show vp_in 6 60 by rw [vp_in_iff]; decide) dX7_begin_79 (fun H locs hP hD hS => ?_)
  have hP : va_P (dC, dI) vwP [(q_60, .inr (7, [.int 0, .ref q_1, .int 0, .int 0, .int 1, .int 0, .int 0, .int 0, .ref q_3, .int 0, .int 0, .int 0, .int 0, .long 0, .int 0, .int (-1), .ref q_62, .ref q_63])), (q_62, .inl (cA_64, 60, .inl f_2015)), (q_63, .inl (cA_65, 60, .inl (upd f_2014 (6 : Int32).toNatClampNeg (-1)))), (q_3, .inr (0, [.int 0, .int 0, .int 0, .int 0, .ref q_4, .ref q_5, .ref q_6, .ref q_7, .ref q_8, .ref q_9, .ref q_10, .ref q_11, .ref q_12, .ref q_13, .ref q_14, .ref q_15, .ref q_16, .ref q_17, .ref q_18])), (q_4, .inl (cA_19, 301, .inl g0_2001)), (q_15, .inl (cA_20, 301, .inl g1_2002))] H := hP
  have hD : va_D A [(q_60, .inr (7, [.int 0, .ref q_1, .int 0, .int 0, .int 1, .int 0, .int 0, .int 0, .ref q_3, .int 0, .int 0, .int 0, .int 0, .long 0, .int 0, .int (-1), .ref q_62, .ref q_63])), (q_62, .inl (cA_64, 60, .inl f_2015)), (q_63, .inl (cA_65, 60, .inl (upd f_2014 (6 : Int32).toNatClampNeg (-1)))), (q_3, .inr (0, [.int 0, .int 0, .int 0, .int 0, .ref q_4, .ref q_5, .ref q_6, .ref q_7, .ref q_8, .ref q_9, .ref q_10, .ref q_11, .ref q_12, .ref q_13, .ref q_14, .ref q_15, .ref q_16, .ref q_17, .ref q_18])), (q_4, .inl (cA_19, 301, .inl g0_2001)), (q_15, .inl (cA_20, 301, .inl g1_2002))] := hD
  generalize (upd f_2014 (6 : Int32).toNatClampNeg (-1)) = f_2016 at hP hD
  refine lv_iinc (v := 7) (lv' := [(4, .int 7), (0, .ref q_60), (1, .ref q_1), (2, .int 0), (3, .ref q_3)]) hx hb dX7_begin_80 hl (k := 0) rfl (by decide) (by decide) rfl (fun ls hl => ?_)
  refine lv_goto (tgt := 57) hx hb dX7_begin_83 (by decide) ?_
  refine lv_iload hx hb dX7_begin_57 (lv_at hl 0 rfl) ?_
  refine lv_bipush (v := 60) hx hb dX7_begin_59 (by decide) ?_
  refine lv_icmp_ge (tgt := 86) hx hb dX7_begin_61 (by decide) (fun h9 => absurd h9 (by decide)) (fun _ => ?_)
  refine lv_aload_n hx hb dX7_begin_64 rfl (lv_at hl 1 rfl) ?_
  refine va_get (D := (dC, dI)) (ci := 7) (v := .ref q_62) (C := RX7) (T := TX7) (N := 18) hx hb hts mem_X7_begin_0 hown hK hP 0 rfl rfl 16 (by decide) (ow (k := 14) rfl) (fun _ h9 => h9) rfl dX7_begin_65 ?_
  refine lv_iload hx hb dX7_begin_68 (lv_at hl 0 rfl) ?_
  refine lv_iconst (v := 0) hx hb dX7_begin_70 (by decide) ?_
  refine va_zast hx hb hK hP hD hS 1 0 rfl rfl (show vp_in 7 60 by rw [vp_in_iff]; decide) dX7_begin_71 (fun H locs hP hD hS => ?_)
  have hP : va_P (dC, dI) vwP [(q_60, .inr (7, [.int 0, .ref q_1, .int 0, .int 0, .int 1, .int 0, .int 0, .int 0, .ref q_3, .int 0, .int 0, .int 0, .int 0, .long 0, .int 0, .int (-1), .ref q_62, .ref q_63])), (q_62, .inl (cA_64, 60, .inl (upd f_2015 (7 : Int32).toNatClampNeg (vp_nar .boolean 0)))), (q_63, .inl (cA_65, 60, .inl f_2016)), (q_3, .inr (0, [.int 0, .int 0, .int 0, .int 0, .ref q_4, .ref q_5, .ref q_6, .ref q_7, .ref q_8, .ref q_9, .ref q_10, .ref q_11, .ref q_12, .ref q_13, .ref q_14, .ref q_15, .ref q_16, .ref q_17, .ref q_18])), (q_4, .inl (cA_19, 301, .inl g0_2001)), (q_15, .inl (cA_20, 301, .inl g1_2002))] H := hP
  have hD : va_D A [(q_60, .inr (7, [.int 0, .ref q_1, .int 0, .int 0, .int 1, .int 0, .int 0, .int 0, .ref q_3, .int 0, .int 0, .int 0, .int 0, .long 0, .int 0, .int (-1), .ref q_62, .ref q_63])), (q_62, .inl (cA_64, 60, .inl (upd f_2015 (7 : Int32).toNatClampNeg (vp_nar .boolean 0)))), (q_63, .inl (cA_65, 60, .inl f_2016)), (q_3, .inr (0, [.int 0, .int 0, .int 0, .int 0, .ref q_4, .ref q_5, .ref q_6, .ref q_7, .ref q_8, .ref q_9, .ref q_10, .ref q_11, .ref q_12, .ref q_13, .ref q_14, .ref q_15, .ref q_16, .ref q_17, .ref q_18])), (q_4, .inl (cA_19, 301, .inl g0_2001)), (q_15, .inl (cA_20, 301, .inl g1_2002))] := hD
  generalize (upd f_2015 (7 : Int32).toNatClampNeg (vp_nar .boolean 0)) = f_2017 at hP hD
  refine lv_aload_n hx hb dX7_begin_72 rfl (lv_at hl 1 rfl) ?_
  refine va_get (D := (dC, dI)) (ci := 7) (v := .ref q_63) (C := RX7) (T := TX7) (N := 18) hx hb hts mem_X7_begin_0 hown hK hP 0 rfl rfl 17 (by decide) (ow (k := 15) rfl) (fun _ h9 => h9) rfl dX7_begin_73 ?_
  refine lv_iload hx hb dX7_begin_76 (lv_at hl 0 rfl) ?_
  refine lv_iconst (v := (-1)) hx hb dX7_begin_78 (by decide) ?_
  refine va_iast hx hb hK hP hD hS 2 1 rfl rfl (show vp_in 7 60 by rw [vp_in_iff]; decide) dX7_begin_79 (fun H locs hP hD hS => ?_)
  have hP : va_P (dC, dI) vwP [(q_60, .inr (7, [.int 0, .ref q_1, .int 0, .int 0, .int 1, .int 0, .int 0, .int 0, .ref q_3, .int 0, .int 0, .int 0, .int 0, .long 0, .int 0, .int (-1), .ref q_62, .ref q_63])), (q_62, .inl (cA_64, 60, .inl f_2017)), (q_63, .inl (cA_65, 60, .inl (upd f_2016 (7 : Int32).toNatClampNeg (-1)))), (q_3, .inr (0, [.int 0, .int 0, .int 0, .int 0, .ref q_4, .ref q_5, .ref q_6, .ref q_7, .ref q_8, .ref q_9, .ref q_10, .ref q_11, .ref q_12, .ref q_13, .ref q_14, .ref q_15, .ref q_16, .ref q_17, .ref q_18])), (q_4, .inl (cA_19, 301, .inl g0_2001)), (q_15, .inl (cA_20, 301, .inl g1_2002))] H := hP
  have hD : va_D A [(q_60, .inr (7, [.int 0, .ref q_1, .int 0, .int 0, .int 1, .int 0, .int 0, .int 0, .ref q_3, .int 0, .int 0, .int 0, .int 0, .long 0, .int 0, .int (-1), .ref q_62, .ref q_63])), (q_62, .inl (cA_64, 60, .inl f_2017)), (q_63, .inl (cA_65, 60, .inl (upd f_2016 (7 : Int32).toNatClampNeg (-1)))), (q_3, .inr (0, [.int 0, .int 0, .int 0, .int 0, .ref q_4, .ref q_5, .ref q_6, .ref q_7, .ref q_8, .ref q_9, .ref q_10, .ref q_11, .ref q_12, .ref q_13, .ref q_14, .ref q_15, .ref q_16, .ref q_17, .ref q_18])), (q_4, .inl (cA_19, 301, .inl g0_2001)), (q_15, .inl (cA_20, 301, .inl g1_2002))] := hD
  generalize (upd f_2016 (7 : Int32).toNatClampNeg (-1)) = f_2018 at hP hD
  refine lv_iinc (v := 8) (lv' := [(4, .int 8), (0, .ref q_60), (1, .ref q_1), (2, .int 0), (3, .ref q_3)]) hx hb dX7_begin_80 hl (k := 0) rfl (by decide) (by decide) rfl (fun ls hl => ?_)
  refine lv_goto (tgt := 57) hx hb dX7_begin_83 (by decide) ?_
  refine lv_iload hx hb dX7_begin_57 (lv_at hl 0 rfl) ?_
  refine lv_bipush (v := 60) hx hb dX7_begin_59 (by decide) ?_
  refine lv_icmp_ge (tgt := 86) hx hb dX7_begin_61 (by decide) (fun h9 => absurd h9 (by decide)) (fun _ => ?_)
  refine lv_aload_n hx hb dX7_begin_64 rfl (lv_at hl 1 rfl) ?_
  refine va_get (D := (dC, dI)) (ci := 7) (v := .ref q_62) (C := RX7) (T := TX7) (N := 18) hx hb hts mem_X7_begin_0 hown hK hP 0 rfl rfl 16 (by decide) (ow (k := 14) rfl) (fun _ h9 => h9) rfl dX7_begin_65 ?_
  refine lv_iload hx hb dX7_begin_68 (lv_at hl 0 rfl) ?_
  refine lv_iconst (v := 0) hx hb dX7_begin_70 (by decide) ?_
  refine va_zast hx hb hK hP hD hS 1 0 rfl rfl (show vp_in 8 60 by rw [vp_in_iff]; decide) dX7_begin_71 (fun H locs hP hD hS => ?_)
  have hP : va_P (dC, dI) vwP [(q_60, .inr (7, [.int 0, .ref q_1, .int 0, .int 0, .int 1, .int 0, .int 0, .int 0, .ref q_3, .int 0, .int 0, .int 0, .int 0, .long 0, .int 0, .int (-1), .ref q_62, .ref q_63])), (q_62, .inl (cA_64, 60, .inl (upd f_2017 (8 : Int32).toNatClampNeg (vp_nar .boolean 0)))), (q_63, .inl (cA_65, 60, .inl f_2018)), (q_3, .inr (0, [.int 0, .int 0, .int 0, .int 0, .ref q_4, .ref q_5, .ref q_6, .ref q_7, .ref q_8, .ref q_9, .ref q_10, .ref q_11, .ref q_12, .ref q_13, .ref q_14, .ref q_15, .ref q_16, .ref q_17, .ref q_18])), (q_4, .inl (cA_19, 301, .inl g0_2001)), (q_15, .inl (cA_20, 301, .inl g1_2002))] H := hP
  have hD : va_D A [(q_60, .inr (7, [.int 0, .ref q_1, .int 0, .int 0, .int 1, .int 0, .int 0, .int 0, .ref q_3, .int 0, .int 0, .int 0, .int 0, .long 0, .int 0, .int (-1), .ref q_62, .ref q_63])), (q_62, .inl (cA_64, 60, .inl (upd f_2017 (8 : Int32).toNatClampNeg (vp_nar .boolean 0)))), (q_63, .inl (cA_65, 60, .inl f_2018)), (q_3, .inr (0, [.int 0, .int 0, .int 0, .int 0, .ref q_4, .ref q_5, .ref q_6, .ref q_7, .ref q_8, .ref q_9, .ref q_10, .ref q_11, .ref q_12, .ref q_13, .ref q_14, .ref q_15, .ref q_16, .ref q_17, .ref q_18])), (q_4, .inl (cA_19, 301, .inl g0_2001)), (q_15, .inl (cA_20, 301, .inl g1_2002))] := hD
  generalize (upd f_2017 (8 : Int32).toNatClampNeg (vp_nar .boolean 0)) = f_2019 at hP hD
  refine lv_aload_n hx hb dX7_begin_72 rfl (lv_at hl 1 rfl) ?_
  refine va_get (D := (dC, dI)) (ci := 7) (v := .ref q_63) (C := RX7) (T := TX7) (N := 18) hx hb hts mem_X7_begin_0 hown hK hP 0 rfl rfl 17 (by decide) (ow (k := 15) rfl) (fun _ h9 => h9) rfl dX7_begin_73 ?_
  refine lv_iload hx hb dX7_begin_76 (lv_at hl 0 rfl) ?_
  refine lv_iconst (v := (-1)) hx hb dX7_begin_78 (by decide) ?_
  refine va_iast hx hb hK hP hD hS 2 1 rfl rfl (show vp_in 8 60 by rw [vp_in_iff]; decide) dX7_begin_79 (fun H locs hP hD hS => ?_)
  have hP : va_P (dC, dI) vwP [(q_60, .inr (7, [.int 0, .ref q_1, .int 0, .int 0, .int 1, .int 0, .int 0, .int 0, .ref q_3, .int 0, .int 0, .int 0, .int 0, .long 0, .int 0, .int (-1), .ref q_62, .ref q_63])), (q_62, .inl (cA_64, 60, .inl f_2019)), (q_63, .inl (cA_65, 60, .inl (upd f_2018 (8 : Int32).toNatClampNeg (-1)))), (q_3, .inr (0, [.int 0, .int 0, .int 0, .int 0, .ref q_4, .ref q_5, .ref q_6, .ref q_7, .ref q_8, .ref q_9, .ref q_10, .ref q_11, .ref q_12, .ref q_13, .ref q_14, .ref q_15, .ref q_16, .ref q_17, .ref q_18])), (q_4, .inl (cA_19, 301, .inl g0_2001)), (q_15, .inl (cA_20, 301, .inl g1_2002))] H := hP
  have hD : va_D A [(q_60, .inr (7, [.int 0, .ref q_1, .int 0, .int 0, .int 1, .int 0, .int 0, .int 0, .ref q_3, .int 0, .int 0, .int 0, .int 0, .long 0, .int 0, .int (-1), .ref q_62, .ref q_63])), (q_62, .inl (cA_64, 60, .inl f_2019)), (q_63, .inl (cA_65, 60, .inl (upd f_2018 (8 : Int32).toNatClampNeg (-1)))), (q_3, .inr (0, [.int 0, .int 0, .int 0, .int 0, .ref q_4, .ref q_5, .ref q_6, .ref q_7, .ref q_8, .ref q_9, .ref q_10, .ref q_11, .ref q_12, .ref q_13, .ref q_14, .ref q_15, .ref q_16, .ref q_17, .ref q_18])), (q_4, .inl (cA_19, 301, .inl g0_2001)), (q_15, .inl (cA_20, 301, .inl g1_2002))] := hD
  generalize (upd f_2018 (8 : Int32).toNatClampNeg (-1)) = f_2020 at hP hD
  refine lv_iinc (v := 9) (lv' := [(4, .int 9), (0, .ref q_60), (1, .ref q_1), (2, .int 0), (3, .ref q_3)]) hx hb dX7_begin_80 hl (k := 0) rfl (by decide) (by decide) rfl (fun ls hl => ?_)
  refine lv_goto (tgt := 57) hx hb dX7_begin_83 (by decide) ?_
  refine lv_iload hx hb dX7_begin_57 (lv_at hl 0 rfl) ?_
  refine lv_bipush (v := 60) hx hb dX7_begin_59 (by decide) ?_
  refine lv_icmp_ge (tgt := 86) hx hb dX7_begin_61 (by decide) (fun h9 => absurd h9 (by decide)) (fun _ => ?_)
  refine lv_aload_n hx hb dX7_begin_64 rfl (lv_at hl 1 rfl) ?_
  refine va_get (D := (dC, dI)) (ci := 7) (v := .ref q_62) (C := RX7) (T := TX7) (N := 18) hx hb hts mem_X7_begin_0 hown hK hP 0 rfl rfl 16 (by decide) (ow (k := 14) rfl) (fun _ h9 => h9) rfl dX7_begin_65 ?_
  refine lv_iload hx hb dX7_begin_68 (lv_at hl 0 rfl) ?_
  refine lv_iconst (v := 0) hx hb dX7_begin_70 (by decide) ?_
  refine va_zast hx hb hK hP hD hS 1 0 rfl rfl (show vp_in 9 60 by rw [vp_in_iff]; decide) dX7_begin_71 (fun H locs hP hD hS => ?_)
  have hP : va_P (dC, dI) vwP [(q_60, .inr (7, [.int 0, .ref q_1, .int 0, .int 0, .int 1, .int 0, .int 0, .int 0, .ref q_3, .int 0, .int 0, .int 0, .int 0, .long 0, .int 0, .int (-1), .ref q_62, .ref q_63])), (q_62, .inl (cA_64, 60, .inl (upd f_2019 (9 : Int32).toNatClampNeg (vp_nar .boolean 0)))), (q_63, .inl (cA_65, 60, .inl f_2020)), (q_3, .inr (0, [.int 0, .int 0, .int 0, .int 0, .ref q_4, .ref q_5, .ref q_6, .ref q_7, .ref q_8, .ref q_9, .ref q_10, .ref q_11, .ref q_12, .ref q_13, .ref q_14, .ref q_15, .ref q_16, .ref q_17, .ref q_18])), (q_4, .inl (cA_19, 301, .inl g0_2001)), (q_15, .inl (cA_20, 301, .inl g1_2002))] H := hP
  have hD : va_D A [(q_60, .inr (7, [.int 0, .ref q_1, .int 0, .int 0, .int 1, .int 0, .int 0, .int 0, .ref q_3, .int 0, .int 0, .int 0, .int 0, .long 0, .int 0, .int (-1), .ref q_62, .ref q_63])), (q_62, .inl (cA_64, 60, .inl (upd f_2019 (9 : Int32).toNatClampNeg (vp_nar .boolean 0)))), (q_63, .inl (cA_65, 60, .inl f_2020)), (q_3, .inr (0, [.int 0, .int 0, .int 0, .int 0, .ref q_4, .ref q_5, .ref q_6, .ref q_7, .ref q_8, .ref q_9, .ref q_10, .ref q_11, .ref q_12, .ref q_13, .ref q_14, .ref q_15, .ref q_16, .ref q_17, .ref q_18])), (q_4, .inl (cA_19, 301, .inl g0_2001)), (q_15, .inl (cA_20, 301, .inl g1_2002))] := hD
  generalize (upd f_2019 (9 : Int32).toNatClampNeg (vp_nar .boolean 0)) = f_2021 at hP hD
  refine lv_aload_n hx hb dX7_begin_72 rfl (lv_at hl 1 rfl) ?_
  refine va_get (D := (dC, dI)) (ci := 7) (v := .ref q_63) (C := RX7) (T := TX7) (N := 18) hx hb hts mem_X7_begin_0 hown hK hP 0 rfl rfl 17 (by decide) (ow (k := 15) rfl) (fun _ h9 => h9) rfl dX7_begin_73 ?_
  refine lv_iload hx hb dX7_begin_76 (lv_at hl 0 rfl) ?_
  refine lv_iconst (v := (-1)) hx hb dX7_begin_78 (by decide) ?_
  refine va_iast hx hb hK hP hD hS 2 1 rfl rfl (show vp_in 9 60 by rw [vp_in_iff]; decide) dX7_begin_79 (fun H locs hP hD hS => ?_)
  have hP : va_P (dC, dI) vwP [(q_60, .inr (7, [.int 0, .ref q_1, .int 0, .int 0, .int 1, .int 0, .int 0, .int 0, .ref q_3, .int 0, .int 0, .int 0, .int 0, .long 0, .int 0, .int (-1), .ref q_62, .ref q_63])), (q_62, .inl (cA_64, 60, .inl f_2021)), (q_63, .inl (cA_65, 60, .inl (upd f_2020 (9 : Int32).toNatClampNeg (-1)))), (q_3, .inr (0, [.int 0, .int 0, .int 0, .int 0, .ref q_4, .ref q_5, .ref q_6, .ref q_7, .ref q_8, .ref q_9, .ref q_10, .ref q_11, .ref q_12, .ref q_13, .ref q_14, .ref q_15, .ref q_16, .ref q_17, .ref q_18])), (q_4, .inl (cA_19, 301, .inl g0_2001)), (q_15, .inl (cA_20, 301, .inl g1_2002))] H := hP
  have hD : va_D A [(q_60, .inr (7, [.int 0, .ref q_1, .int 0, .int 0, .int 1, .int 0, .int 0, .int 0, .ref q_3, .int 0, .int 0, .int 0, .int 0, .long 0, .int 0, .int (-1), .ref q_62, .ref q_63])), (q_62, .inl (cA_64, 60, .inl f_2021)), (q_63, .inl (cA_65, 60, .inl (upd f_2020 (9 : Int32).toNatClampNeg (-1)))), (q_3, .inr (0, [.int 0, .int 0, .int 0, .int 0, .ref q_4, .ref q_5, .ref q_6, .ref q_7, .ref q_8, .ref q_9, .ref q_10, .ref q_11, .ref q_12, .ref q_13, .ref q_14, .ref q_15, .ref q_16, .ref q_17, .ref q_18])), (q_4, .inl (cA_19, 301, .inl g0_2001)), (q_15, .inl (cA_20, 301, .inl g1_2002))] := hD
  generalize (upd f_2020 (9 : Int32).toNatClampNeg (-1)) = f_2022 at hP hD
  refine lv_iinc (v := 10) (lv' := [(4, .int 10), (0, .ref q_60), (1, .ref q_1), (2, .int 0), (3, .ref q_3)]) hx hb dX7_begin_80 hl (k := 0) rfl (by decide) (by decide) rfl (fun ls hl => ?_)
  refine lv_goto (tgt := 57) hx hb dX7_begin_83 (by decide) ?_
  refine lv_iload hx hb dX7_begin_57 (lv_at hl 0 rfl) ?_
  refine lv_bipush (v := 60) hx hb dX7_begin_59 (by decide) ?_
  refine lv_icmp_ge (tgt := 86) hx hb dX7_begin_61 (by decide) (fun h9 => absurd h9 (by decide)) (fun _ => ?_)
  refine lv_aload_n hx hb dX7_begin_64 rfl (lv_at hl 1 rfl) ?_
  refine va_get (D := (dC, dI)) (ci := 7) (v := .ref q_62) (C := RX7) (T := TX7) (N := 18) hx hb hts mem_X7_begin_0 hown hK hP 0 rfl rfl 16 (by decide) (ow (k := 14) rfl) (fun _ h9 => h9) rfl dX7_begin_65 ?_
  refine lv_iload hx hb dX7_begin_68 (lv_at hl 0 rfl) ?_
  refine lv_iconst (v := 0) hx hb dX7_begin_70 (by decide) ?_
  refine va_zast hx hb hK hP hD hS 1 0 rfl rfl (show vp_in 10 60 by rw [vp_in_iff]; decide) dX7_begin_71 (fun H locs hP hD hS => ?_)
  have hP : va_P (dC, dI) vwP [(q_60, .inr (7, [.int 0, .ref q_1, .int 0, .int 0, .int 1, .int 0, .int 0, .int 0, .ref q_3, .int 0, .int 0, .int 0, .int 0, .long 0, .int 0, .int (-1), .ref q_62, .ref q_63])), (q_62, .inl (cA_64, 60, .inl (upd f_2021 (10 : Int32).toNatClampNeg (vp_nar .boolean 0)))), (q_63, .inl (cA_65, 60, .inl f_2022)), (q_3, .inr (0, [.int 0, .int 0, .int 0, .int 0, .ref q_4, .ref q_5, .ref q_6, .ref q_7, .ref q_8, .ref q_9, .ref q_10, .ref q_11, .ref q_12, .ref q_13, .ref q_14, .ref q_15, .ref q_16, .ref q_17, .ref q_18])), (q_4, .inl (cA_19, 301, .inl g0_2001)), (q_15, .inl (cA_20, 301, .inl g1_2002))] H := hP
  have hD : va_D A [(q_60, .inr (7, [.int 0, .ref q_1, .int 0, .int 0, .int 1, .int 0, .int 0, .int 0, .ref q_3, .int 0, .int 0, .int 0, .int 0, .long 0, .int 0, .int (-1), .ref q_62, .ref q_63])), (q_62, .inl (cA_64, 60, .inl (upd f_2021 (10 : Int32).toNatClampNeg (vp_nar .boolean 0)))), (q_63, .inl (cA_65, 60, .inl f_2022)), (q_3, .inr (0, [.int 0, .int 0, .int 0, .int 0, .ref q_4, .ref q_5, .ref q_6, .ref q_7, .ref q_8, .ref q_9, .ref q_10, .ref q_11, .ref q_12, .ref q_13, .ref q_14, .ref q_15, .ref q_16, .ref q_17, .ref q_18])), (q_4, .inl (cA_19, 301, .inl g0_2001)), (q_15, .inl (cA_20, 301, .inl g1_2002))] := hD
  generalize (upd f_2021 (10 : Int32).toNatClampNeg (vp_nar .boolean 0)) = f_2023 at hP hD
  refine lv_aload_n hx hb dX7_begin_72 rfl (lv_at hl 1 rfl) ?_
  refine va_get (D := (dC, dI)) (ci := 7) (v := .ref q_63) (C := RX7) (T := TX7) (N := 18) hx hb hts mem_X7_begin_0 hown hK hP 0 rfl rfl 17 (by decide) (ow (k := 15) rfl) (fun _ h9 => h9) rfl dX7_begin_73 ?_
  refine lv_iload hx hb dX7_begin_76 (lv_at hl 0 rfl) ?_
  refine lv_iconst (v := (-1)) hx hb dX7_begin_78 (by decide) ?_
  refine va_iast hx hb hK hP hD hS 2 1 rfl rfl (show vp_in 10 60 by rw [vp_in_iff]; decide) dX7_begin_79 (fun H locs hP hD hS => ?_)
  have hP : va_P (dC, dI) vwP [(q_60, .inr (7, [.int 0, .ref q_1, .int 0, .int 0, .int 1, .int 0, .int 0, .int 0, .ref q_3, .int 0, .int 0, .int 0, .int 0, .long 0, .int 0, .int (-1), .ref q_62, .ref q_63])), (q_62, .inl (cA_64, 60, .inl f_2023)), (q_63, .inl (cA_65, 60, .inl (upd f_2022 (10 : Int32).toNatClampNeg (-1)))), (q_3, .inr (0, [.int 0, .int 0, .int 0, .int 0, .ref q_4, .ref q_5, .ref q_6, .ref q_7, .ref q_8, .ref q_9, .ref q_10, .ref q_11, .ref q_12, .ref q_13, .ref q_14, .ref q_15, .ref q_16, .ref q_17, .ref q_18])), (q_4, .inl (cA_19, 301, .inl g0_2001)), (q_15, .inl (cA_20, 301, .inl g1_2002))] H := hP
  have hD : va_D A [(q_60, .inr (7, [.int 0, .ref q_1, .int 0, .int 0, .int 1, .int 0, .int 0, .int 0, .ref q_3, .int 0, .int 0, .int 0, .int 0, .long 0, .int 0, .int (-1), .ref q_62, .ref q_63])), (q_62, .inl (cA_64, 60, .inl f_2023)), (q_63, .inl (cA_65, 60, .inl (upd f_2022 (10 : Int32).toNatClampNeg (-1)))), (q_3, .inr (0, [.int 0, .int 0, .int 0, .int 0, .ref q_4, .ref q_5, .ref q_6, .ref q_7, .ref q_8, .ref q_9, .ref q_10, .ref q_11, .ref q_12, .ref q_13, .ref q_14, .ref q_15, .ref q_16, .ref q_17, .ref q_18])), (q_4, .inl (cA_19, 301, .inl g0_2001)), (q_15, .inl (cA_20, 301, .inl g1_2002))] := hD
  generalize (upd f_2022 (10 : Int32).toNatClampNeg (-1)) = f_2024 at hP hD
  refine lv_iinc (v := 11) (lv' := [(4, .int 11), (0, .ref q_60), (1, .ref q_1), (2, .int 0), (3, .ref q_3)]) hx hb dX7_begin_80 hl (k := 0) rfl (by decide) (by decide) rfl (fun ls hl => ?_)
  refine lv_goto (tgt := 57) hx hb dX7_begin_83 (by decide) ?_
  refine lv_iload hx hb dX7_begin_57 (lv_at hl 0 rfl) ?_
  refine lv_bipush (v := 60) hx hb dX7_begin_59 (by decide) ?_
  refine lv_icmp_ge (tgt := 86) hx hb dX7_begin_61 (by decide) (fun h9 => absurd h9 (by decide)) (fun _ => ?_)
  refine lv_aload_n hx hb dX7_begin_64 rfl (lv_at hl 1 rfl) ?_
  refine va_get (D := (dC, dI)) (ci := 7) (v := .ref q_62) (C := RX7) (T := TX7) (N := 18) hx hb hts mem_X7_begin_0 hown hK hP 0 rfl rfl 16 (by decide) (ow (k := 14) rfl) (fun _ h9 => h9) rfl dX7_begin_65 ?_
  refine lv_iload hx hb dX7_begin_68 (lv_at hl 0 rfl) ?_
  refine lv_iconst (v := 0) hx hb dX7_begin_70 (by decide) ?_
  refine va_zast hx hb hK hP hD hS 1 0 rfl rfl (show vp_in 11 60 by rw [vp_in_iff]; decide) dX7_begin_71 (fun H locs hP hD hS => ?_)
  have hP : va_P (dC, dI) vwP [(q_60, .inr (7, [.int 0, .ref q_1, .int 0, .int 0, .int 1, .int 0, .int 0, .int 0, .ref q_3, .int 0, .int 0, .int 0, .int 0, .long 0, .int 0, .int (-1), .ref q_62, .ref q_63])), (q_62, .inl (cA_64, 60, .inl (upd f_2023 (11 : Int32).toNatClampNeg (vp_nar .boolean 0)))), (q_63, .inl (cA_65, 60, .inl f_2024)), (q_3, .inr (0, [.int 0, .int 0, .int 0, .int 0, .ref q_4, .ref q_5, .ref q_6, .ref q_7, .ref q_8, .ref q_9, .ref q_10, .ref q_11, .ref q_12, .ref q_13, .ref q_14, .ref q_15, .ref q_16, .ref q_17, .ref q_18])), (q_4, .inl (cA_19, 301, .inl g0_2001)), (q_15, .inl (cA_20, 301, .inl g1_2002))] H := hP
  have hD : va_D A [(q_60, .inr (7, [.int 0, .ref q_1, .int 0, .int 0, .int 1, .int 0, .int 0, .int 0, .ref q_3, .int 0, .int 0, .int 0, .int 0, .long 0, .int 0, .int (-1), .ref q_62, .ref q_63])), (q_62, .inl (cA_64, 60, .inl (upd f_2023 (11 : Int32).toNatClampNeg (vp_nar .boolean 0)))), (q_63, .inl (cA_65, 60, .inl f_2024)), (q_3, .inr (0, [.int 0, .int 0, .int 0, .int 0, .ref q_4, .ref q_5, .ref q_6, .ref q_7, .ref q_8, .ref q_9, .ref q_10, .ref q_11, .ref q_12, .ref q_13, .ref q_14, .ref q_15, .ref q_16, .ref q_17, .ref q_18])), (q_4, .inl (cA_19, 301, .inl g0_2001)), (q_15, .inl (cA_20, 301, .inl g1_2002))] := hD
  generalize (upd f_2023 (11 : Int32).toNatClampNeg (vp_nar .boolean 0)) = f_2025 at hP hD
  refine lv_aload_n hx hb dX7_begin_72 rfl (lv_at hl 1 rfl) ?_
  refine va_get (D := (dC, dI)) (ci := 7) (v := .ref q_63) (C := RX7) (T := TX7) (N := 18) hx hb hts mem_X7_begin_0 hown hK hP 0 rfl rfl 17 (by decide) (ow (k := 15) rfl) (fun _ h9 => h9) rfl dX7_begin_73 ?_
  refine lv_iload hx hb dX7_begin_76 (lv_at hl 0 rfl) ?_
  refine lv_iconst (v := (-1)) hx hb dX7_begin_78 (by decide) ?_
  refine va_iast hx hb hK hP hD hS 2 1 rfl rfl (show vp_in 11 60 by rw [vp_in_iff]; decide) dX7_begin_79 (fun H locs hP hD hS => ?_)
  have hP : va_P (dC, dI) vwP [(q_60, .inr (7, [.int 0, .ref q_1, .int 0, .int 0, .int 1, .int 0, .int 0, .int 0, .ref q_3, .int 0, .int 0, .int 0, .int 0, .long 0, .int 0, .int (-1), .ref q_62, .ref q_63])), (q_62, .inl (cA_64, 60, .inl f_2025)), (q_63, .inl (cA_65, 60, .inl (upd f_2024 (11 : Int32).toNatClampNeg (-1)))), (q_3, .inr (0, [.int 0, .int 0, .int 0, .int 0, .ref q_4, .ref q_5, .ref q_6, .ref q_7, .ref q_8, .ref q_9, .ref q_10, .ref q_11, .ref q_12, .ref q_13, .ref q_14, .ref q_15, .ref q_16, .ref q_17, .ref q_18])), (q_4, .inl (cA_19, 301, .inl g0_2001)), (q_15, .inl (cA_20, 301, .inl g1_2002))] H := hP
  have hD : va_D A [(q_60, .inr (7, [.int 0, .ref q_1, .int 0, .int 0, .int 1, .int 0, .int 0, .int 0, .ref q_3, .int 0, .int 0, .int 0, .int 0, .long 0, .int 0, .int (-1), .ref q_62, .ref q_63])), (q_62, .inl (cA_64, 60, .inl f_2025)), (q_63, .inl (cA_65, 60, .inl (upd f_2024 (11 : Int32).toNatClampNeg (-1)))), (q_3, .inr (0, [.int 0, .int 0, .int 0, .int 0, .ref q_4, .ref q_5, .ref q_6, .ref q_7, .ref q_8, .ref q_9, .ref q_10, .ref q_11, .ref q_12, .ref q_13, .ref q_14, .ref q_15, .ref q_16, .ref q_17, .ref q_18])), (q_4, .inl (cA_19, 301, .inl g0_2001)), (q_15, .inl (cA_20, 301, .inl g1_2002))] := hD
  generalize (upd f_2024 (11 : Int32).toNatClampNeg (-1)) = f_2026 at hP hD
  refine lv_iinc (v := 12) (lv' := [(4, .int 12), (0, .ref q_60), (1, .ref q_1), (2, .int 0), (3, .ref q_3)]) hx hb dX7_begin_80 hl (k := 0) rfl (by decide) (by decide) rfl (fun ls hl => ?_)
  refine lv_goto (tgt := 57) hx hb dX7_begin_83 (by decide) ?_
  refine lv_iload hx hb dX7_begin_57 (lv_at hl 0 rfl) ?_
  refine lv_bipush (v := 60) hx hb dX7_begin_59 (by decide) ?_
  refine lv_icmp_ge (tgt := 86) hx hb dX7_begin_61 (by decide) (fun h9 => absurd h9 (by decide)) (fun _ => ?_)
  refine lv_aload_n hx hb dX7_begin_64 rfl (lv_at hl 1 rfl) ?_
  refine va_get (D := (dC, dI)) (ci := 7) (v := .ref q_62) (C := RX7) (T := TX7) (N := 18) hx hb hts mem_X7_begin_0 hown hK hP 0 rfl rfl 16 (by decide) (ow (k := 14) rfl) (fun _ h9 => h9) rfl dX7_begin_65 ?_
  refine lv_iload hx hb dX7_begin_68 (lv_at hl 0 rfl) ?_
  refine lv_iconst (v := 0) hx hb dX7_begin_70 (by decide) ?_
  refine va_zast hx hb hK hP hD hS 1 0 rfl rfl (show vp_in 12 60 by rw [vp_in_iff]; decide) dX7_begin_71 (fun H locs hP hD hS => ?_)
  have hP : va_P (dC, dI) vwP [(q_60, .inr (7, [.int 0, .ref q_1, .int 0, .int 0, .int 1, .int 0, .int 0, .int 0, .ref q_3, .int 0, .int 0, .int 0, .int 0, .long 0, .int 0, .int (-1), .ref q_62, .ref q_63])), (q_62, .inl (cA_64, 60, .inl (upd f_2025 (12 : Int32).toNatClampNeg (vp_nar .boolean 0)))), (q_63, .inl (cA_65, 60, .inl f_2026)), (q_3, .inr (0, [.int 0, .int 0, .int 0, .int 0, .ref q_4, .ref q_5, .ref q_6, .ref q_7, .ref q_8, .ref q_9, .ref q_10, .ref q_11, .ref q_12, .ref q_13, .ref q_14, .ref q_15, .ref q_16, .ref q_17, .ref q_18])), (q_4, .inl (cA_19, 301, .inl g0_2001)), (q_15, .inl (cA_20, 301, .inl g1_2002))] H := hP
  have hD : va_D A [(q_60, .inr (7, [.int 0, .ref q_1, .int 0, .int 0, .int 1, .int 0, .int 0, .int 0, .ref q_3, .int 0, .int 0, .int 0, .int 0, .long 0, .int 0, .int (-1), .ref q_62, .ref q_63])), (q_62, .inl (cA_64, 60, .inl (upd f_2025 (12 : Int32).toNatClampNeg (vp_nar .boolean 0)))), (q_63, .inl (cA_65, 60, .inl f_2026)), (q_3, .inr (0, [.int 0, .int 0, .int 0, .int 0, .ref q_4, .ref q_5, .ref q_6, .ref q_7, .ref q_8, .ref q_9, .ref q_10, .ref q_11, .ref q_12, .ref q_13, .ref q_14, .ref q_15, .ref q_16, .ref q_17, .ref q_18])), (q_4, .inl (cA_19, 301, .inl g0_2001)), (q_15, .inl (cA_20, 301, .inl g1_2002))] := hD
  generalize (upd f_2025 (12 : Int32).toNatClampNeg (vp_nar .boolean 0)) = f_2027 at hP hD
  refine lv_aload_n hx hb dX7_begin_72 rfl (lv_at hl 1 rfl) ?_
  refine va_get (D := (dC, dI)) (ci := 7) (v := .ref q_63) (C := RX7) (T := TX7) (N := 18) hx hb hts mem_X7_begin_0 hown hK hP 0 rfl rfl 17 (by decide) (ow (k := 15) rfl) (fun _ h9 => h9) rfl dX7_begin_73 ?_
  refine lv_iload hx hb dX7_begin_76 (lv_at hl 0 rfl) ?_
  refine lv_iconst (v := (-1)) hx hb dX7_begin_78 (by decide) ?_
  refine va_iast hx hb hK hP hD hS 2 1 rfl rfl (show vp_in 12 60 by rw [vp_in_iff]; decide) dX7_begin_79 (fun H locs hP hD hS => ?_)
  have hP : va_P (dC, dI) vwP [(q_60, .inr (7, [.int 0, .ref q_1, .int 0, .int 0, .int 1, .int 0, .int 0, .int 0, .ref q_3, .int 0, .int 0, .int 0, .int 0, .long 0, .int 0, .int (-1), .ref q_62, .ref q_63])), (q_62, .inl (cA_64, 60, .inl f_2027)), (q_63, .inl (cA_65, 60, .inl (upd f_2026 (12 : Int32).toNatClampNeg (-1)))), (q_3, .inr (0, [.int 0, .int 0, .int 0, .int 0, .ref q_4, .ref q_5, .ref q_6, .ref q_7, .ref q_8, .ref q_9, .ref q_10, .ref q_11, .ref q_12, .ref q_13, .ref q_14, .ref q_15, .ref q_16, .ref q_17, .ref q_18])), (q_4, .inl (cA_19, 301, .inl g0_2001)), (q_15, .inl (cA_20, 301, .inl g1_2002))] H := hP
  have hD : va_D A [(q_60, .inr (7, [.int 0, .ref q_1, .int 0, .int 0, .int 1, .int 0, .int 0, .int 0, .ref q_3, .int 0, .int 0, .int 0, .int 0, .long 0, .int 0, .int (-1), .ref q_62, .ref q_63])), (q_62, .inl (cA_64, 60, .inl f_2027)), (q_63, .inl (cA_65, 60, .inl (upd f_2026 (12 : Int32).toNatClampNeg (-1)))), (q_3, .inr (0, [.int 0, .int 0, .int 0, .int 0, .ref q_4, .ref q_5, .ref q_6, .ref q_7, .ref q_8, .ref q_9, .ref q_10, .ref q_11, .ref q_12, .ref q_13, .ref q_14, .ref q_15, .ref q_16, .ref q_17, .ref q_18])), (q_4, .inl (cA_19, 301, .inl g0_2001)), (q_15, .inl (cA_20, 301, .inl g1_2002))] := hD
  generalize (upd f_2026 (12 : Int32).toNatClampNeg (-1)) = f_2028 at hP hD
  refine lv_iinc (v := 13) (lv' := [(4, .int 13), (0, .ref q_60), (1, .ref q_1), (2, .int 0), (3, .ref q_3)]) hx hb dX7_begin_80 hl (k := 0) rfl (by decide) (by decide) rfl (fun ls hl => ?_)
  refine lv_goto (tgt := 57) hx hb dX7_begin_83 (by decide) ?_
  refine lv_iload hx hb dX7_begin_57 (lv_at hl 0 rfl) ?_
  refine lv_bipush (v := 60) hx hb dX7_begin_59 (by decide) ?_
  refine lv_icmp_ge (tgt := 86) hx hb dX7_begin_61 (by decide) (fun h9 => absurd h9 (by decide)) (fun _ => ?_)
  refine lv_aload_n hx hb dX7_begin_64 rfl (lv_at hl 1 rfl) ?_
  refine va_get (D := (dC, dI)) (ci := 7) (v := .ref q_62) (C := RX7) (T := TX7) (N := 18) hx hb hts mem_X7_begin_0 hown hK hP 0 rfl rfl 16 (by decide) (ow (k := 14) rfl) (fun _ h9 => h9) rfl dX7_begin_65 ?_
  refine lv_iload hx hb dX7_begin_68 (lv_at hl 0 rfl) ?_
  refine lv_iconst (v := 0) hx hb dX7_begin_70 (by decide) ?_
  refine va_zast hx hb hK hP hD hS 1 0 rfl rfl (show vp_in 13 60 by rw [vp_in_iff]; decide) dX7_begin_71 (fun H locs hP hD hS => ?_)
  have hP : va_P (dC, dI) vwP [(q_60, .inr (7, [.int 0, .ref q_1, .int 0, .int 0, .int 1, .int 0, .int 0, .int 0, .ref q_3, .int 0, .int 0, .int 0, .int 0, .long 0, .int 0, .int (-1), .ref q_62, .ref q_63])), (q_62, .inl (cA_64, 60, .inl (upd f_2027 (13 : Int32).toNatClampNeg (vp_nar .boolean 0)))), (q_63, .inl (cA_65, 60, .inl f_2028)), (q_3, .inr (0, [.int 0, .int 0, .int 0, .int 0, .ref q_4, .ref q_5, .ref q_6, .ref q_7, .ref q_8, .ref q_9, .ref q_10, .ref q_11, .ref q_12, .ref q_13, .ref q_14, .ref q_15, .ref q_16, .ref q_17, .ref q_18])), (q_4, .inl (cA_19, 301, .inl g0_2001)), (q_15, .inl (cA_20, 301, .inl g1_2002))] H := hP
  have hD : va_D A [(q_60, .inr (7, [.int 0, .ref q_1, .int 0, .int 0, .int 1, .int 0, .int 0, .int 0, .ref q_3, .int 0, .int 0, .int 0, .int 0, .long 0, .int 0, .int (-1), .ref q_62, .ref q_63])), (q_62, .inl (cA_64, 60, .inl (upd f_2027 (13 : Int32).toNatClampNeg (vp_nar .boolean 0)))), (q_63, .inl (cA_65, 60, .inl f_2028)), (q_3, .inr (0, [.int 0, .int 0, .int 0, .int 0, .ref q_4, .ref q_5, .ref q_6, .ref q_7, .ref q_8, .ref q_9, .ref q_10, .ref q_11, .ref q_12, .ref q_13, .ref q_14, .ref q_15, .ref q_16, .ref q_17, .ref q_18])), (q_4, .inl (cA_19, 301, .inl g0_2001)), (q_15, .inl (cA_20, 301, .inl g1_2002))] := hD
  generalize (upd f_2027 (13 : Int32).toNatClampNeg (vp_nar .boolean 0)) = f_2029 at hP hD
  refine lv_aload_n hx hb dX7_begin_72 rfl (lv_at hl 1 rfl) ?_
  refine va_get (D := (dC, dI)) (ci := 7) (v := .ref q_63) (C := RX7) (T := TX7) (N := 18) hx hb hts mem_X7_begin_0 hown hK hP 0 rfl rfl 17 (by decide) (ow (k := 15) rfl) (fun _ h9 => h9) rfl dX7_begin_73 ?_
  refine lv_iload hx hb dX7_begin_76 (lv_at hl 0 rfl) ?_
  refine lv_iconst (v := (-1)) hx hb dX7_begin_78 (by decide) ?_
  refine va_iast hx hb hK hP hD hS 2 1 rfl rfl (show vp_in 13 60 by rw [vp_in_iff]; decide) dX7_begin_79 (fun H locs hP hD hS => ?_)
  have hP : va_P (dC, dI) vwP [(q_60, .inr (7, [.int 0, .ref q_1, .int 0, .int 0, .int 1, .int 0, .int 0, .int 0, .ref q_3, .int 0, .int 0, .int 0, .int 0, .long 0, .int 0, .int (-1), .ref q_62, .ref q_63])), (q_62, .inl (cA_64, 60, .inl f_2029)), (q_63, .inl (cA_65, 60, .inl (upd f_2028 (13 : Int32).toNatClampNeg (-1)))), (q_3, .inr (0, [.int 0, .int 0, .int 0, .int 0, .ref q_4, .ref q_5, .ref q_6, .ref q_7, .ref q_8, .ref q_9, .ref q_10, .ref q_11, .ref q_12, .ref q_13, .ref q_14, .ref q_15, .ref q_16, .ref q_17, .ref q_18])), (q_4, .inl (cA_19, 301, .inl g0_2001)), (q_15, .inl (cA_20, 301, .inl g1_2002))] H := hP
  have hD : va_D A [(q_60, .inr (7, [.int 0, .ref q_1, .int 0, .int 0, .int 1, .int 0, .int 0, .int 0, .ref q_3, .int 0, .int 0, .int 0, .int 0, .long 0, .int 0, .int (-1), .ref q_62, .ref q_63])), (q_62, .inl (cA_64, 60, .inl f_2029)), (q_63, .inl (cA_65, 60, .inl (upd f_2028 (13 : Int32).toNatClampNeg (-1)))), (q_3, .inr (0, [.int 0, .int 0, .int 0, .int 0, .ref q_4, .ref q_5, .ref q_6, .ref q_7, .ref q_8, .ref q_9, .ref q_10, .ref q_11, .ref q_12, .ref q_13, .ref q_14, .ref q_15, .ref q_16, .ref q_17, .ref q_18])), (q_4, .inl (cA_19, 301, .inl g0_2001)), (q_15, .inl (cA_20, 301, .inl g1_2002))] := hD
  generalize (upd f_2028 (13 : Int32).toNatClampNeg (-1)) = f_2030 at hP hD
  refine lv_iinc (v := 14) (lv' := [(4, .int 14), (0, .ref q_60), (1, .ref q_1), (2, .int 0), (3, .ref q_3)]) hx hb dX7_begin_80 hl (k := 0) rfl (by decide) (by decide) rfl (fun ls hl => ?_)
  refine lv_goto (tgt := 57) hx hb dX7_begin_83 (by decide) ?_
  refine lv_iload hx hb dX7_begin_57 (lv_at hl 0 rfl) ?_
  refine lv_bipush (v := 60) hx hb dX7_begin_59 (by decide) ?_
  refine lv_icmp_ge (tgt := 86) hx hb dX7_begin_61 (by decide) (fun h9 => absurd h9 (by decide)) (fun _ => ?_)
  refine lv_aload_n hx hb dX7_begin_64 rfl (lv_at hl 1 rfl) ?_
  refine va_get (D := (dC, dI)) (ci := 7) (v := .ref q_62) (C := RX7) (T := TX7) (N := 18) hx hb hts mem_X7_begin_0 hown hK hP 0 rfl rfl 16 (by decide) (ow (k := 14) rfl) (fun _ h9 => h9) rfl dX7_begin_65 ?_
  refine lv_iload hx hb dX7_begin_68 (lv_at hl 0 rfl) ?_
  refine lv_iconst (v := 0) hx hb dX7_begin_70 (by decide) ?_
  refine va_zast hx hb hK hP hD hS 1 0 rfl rfl (show vp_in 14 60 by rw [vp_in_iff]; decide) dX7_begin_71 (fun H locs hP hD hS => ?_)
  have hP : va_P (dC, dI) vwP [(q_60, .inr (7, [.int 0, .ref q_1, .int 0, .int 0, .int 1, .int 0, .int 0, .int 0, .ref q_3, .int 0, .int 0, .int 0, .int 0, .long 0, .int 0, .int (-1), .ref q_62, .ref q_63])), (q_62, .inl (cA_64, 60, .inl (upd f_2029 (14 : Int32).toNatClampNeg (vp_nar .boolean 0)))), (q_63, .inl (cA_65, 60, .inl f_2030)), (q_3, .inr (0, [.int 0, .int 0, .int 0, .int 0, .ref q_4, .ref q_5, .ref q_6, .ref q_7, .ref q_8, .ref q_9, .ref q_10, .ref q_11, .ref q_12, .ref q_13, .ref q_14, .ref q_15, .ref q_16, .ref q_17, .ref q_18])), (q_4, .inl (cA_19, 301, .inl g0_2001)), (q_15, .inl (cA_20, 301, .inl g1_2002))] H := hP
  have hD : va_D A [(q_60, .inr (7, [.int 0, .ref q_1, .int 0, .int 0, .int 1, .int 0, .int 0, .int 0, .ref q_3, .int 0, .int 0, .int 0, .int 0, .long 0, .int 0, .int (-1), .ref q_62, .ref q_63])), (q_62, .inl (cA_64, 60, .inl (upd f_2029 (14 : Int32).toNatClampNeg (vp_nar .boolean 0)))), (q_63, .inl (cA_65, 60, .inl f_2030)), (q_3, .inr (0, [.int 0, .int 0, .int 0, .int 0, .ref q_4, .ref q_5, .ref q_6, .ref q_7, .ref q_8, .ref q_9, .ref q_10, .ref q_11, .ref q_12, .ref q_13, .ref q_14, .ref q_15, .ref q_16, .ref q_17, .ref q_18])), (q_4, .inl (cA_19, 301, .inl g0_2001)), (q_15, .inl (cA_20, 301, .inl g1_2002))] := hD
  generalize (upd f_2029 (14 : Int32).toNatClampNeg (vp_nar .boolean 0)) = f_2031 at hP hD
  refine lv_aload_n hx hb dX7_begin_72 rfl (lv_at hl 1 rfl) ?_
  refine va_get (D := (dC, dI)) (ci := 7) (v := .ref q_63) (C := RX7) (T := TX7) (N := 18) hx hb hts mem_X7_begin_0 hown hK hP 0 rfl rfl 17 (by decide) (ow (k := 15) rfl) (fun _ h9 => h9) rfl dX7_begin_73 ?_
  refine lv_iload hx hb dX7_begin_76 (lv_at hl 0 rfl) ?_
  refine lv_iconst (v := (-1)) hx hb dX7_begin_78 (by decide) ?_
  refine va_iast hx hb hK hP hD hS 2 1 rfl rfl (show vp_in 14 60 by rw [vp_in_iff]; decide) dX7_begin_79 (fun H locs hP hD hS => ?_)
  have hP : va_P (dC, dI) vwP [(q_60, .inr (7, [.int 0, .ref q_1, .int 0, .int 0, .int 1, .int 0, .int 0, .int 0, .ref q_3, .int 0, .int 0, .int 0, .int 0, .long 0, .int 0, .int (-1), .ref q_62, .ref q_63])), (q_62, .inl (cA_64, 60, .inl f_2031)), (q_63, .inl (cA_65, 60, .inl (upd f_2030 (14 : Int32).toNatClampNeg (-1)))), (q_3, .inr (0, [.int 0, .int 0, .int 0, .int 0, .ref q_4, .ref q_5, .ref q_6, .ref q_7, .ref q_8, .ref q_9, .ref q_10, .ref q_11, .ref q_12, .ref q_13, .ref q_14, .ref q_15, .ref q_16, .ref q_17, .ref q_18])), (q_4, .inl (cA_19, 301, .inl g0_2001)), (q_15, .inl (cA_20, 301, .inl g1_2002))] H := hP
  have hD : va_D A [(q_60, .inr (7, [.int 0, .ref q_1, .int 0, .int 0, .int 1, .int 0, .int 0, .int 0, .ref q_3, .int 0, .int 0, .int 0, .int 0, .long 0, .int 0, .int (-1), .ref q_62, .ref q_63])), (q_62, .inl (cA_64, 60, .inl f_2031)), (q_63, .inl (cA_65, 60, .inl (upd f_2030 (14 : Int32).toNatClampNeg (-1)))), (q_3, .inr (0, [.int 0, .int 0, .int 0, .int 0, .ref q_4, .ref q_5, .ref q_6, .ref q_7, .ref q_8, .ref q_9, .ref q_10, .ref q_11, .ref q_12, .ref q_13, .ref q_14, .ref q_15, .ref q_16, .ref q_17, .ref q_18])), (q_4, .inl (cA_19, 301, .inl g0_2001)), (q_15, .inl (cA_20, 301, .inl g1_2002))] := hD
  generalize (upd f_2030 (14 : Int32).toNatClampNeg (-1)) = f_2032 at hP hD
  refine lv_iinc (v := 15) (lv' := [(4, .int 15), (0, .ref q_60), (1, .ref q_1), (2, .int 0), (3, .ref q_3)]) hx hb dX7_begin_80 hl (k := 0) rfl (by decide) (by decide) rfl (fun ls hl => ?_)
  refine lv_goto (tgt := 57) hx hb dX7_begin_83 (by decide) ?_
  refine lv_iload hx hb dX7_begin_57 (lv_at hl 0 rfl) ?_
  refine lv_bipush (v := 60) hx hb dX7_begin_59 (by decide) ?_
  refine lv_icmp_ge (tgt := 86) hx hb dX7_begin_61 (by decide) (fun h9 => absurd h9 (by decide)) (fun _ => ?_)
  refine lv_aload_n hx hb dX7_begin_64 rfl (lv_at hl 1 rfl) ?_
  refine va_get (D := (dC, dI)) (ci := 7) (v := .ref q_62) (C := RX7) (T := TX7) (N := 18) hx hb hts mem_X7_begin_0 hown hK hP 0 rfl rfl 16 (by decide) (ow (k := 14) rfl) (fun _ h9 => h9) rfl dX7_begin_65 ?_
  refine lv_iload hx hb dX7_begin_68 (lv_at hl 0 rfl) ?_
  refine lv_iconst (v := 0) hx hb dX7_begin_70 (by decide) ?_
  refine va_zast hx hb hK hP hD hS 1 0 rfl rfl (show vp_in 15 60 by rw [vp_in_iff]; decide) dX7_begin_71 (fun H locs hP hD hS => ?_)
  have hP : va_P (dC, dI) vwP [(q_60, .inr (7, [.int 0, .ref q_1, .int 0, .int 0, .int 1, .int 0, .int 0, .int 0, .ref q_3, .int 0, .int 0, .int 0, .int 0, .long 0, .int 0, .int (-1), .ref q_62, .ref q_63])), (q_62, .inl (cA_64, 60, .inl (upd f_2031 (15 : Int32).toNatClampNeg (vp_nar .boolean 0)))), (q_63, .inl (cA_65, 60, .inl f_2032)), (q_3, .inr (0, [.int 0, .int 0, .int 0, .int 0, .ref q_4, .ref q_5, .ref q_6, .ref q_7, .ref q_8, .ref q_9, .ref q_10, .ref q_11, .ref q_12, .ref q_13, .ref q_14, .ref q_15, .ref q_16, .ref q_17, .ref q_18])), (q_4, .inl (cA_19, 301, .inl g0_2001)), (q_15, .inl (cA_20, 301, .inl g1_2002))] H := hP
  have hD : va_D A [(q_60, .inr (7, [.int 0, .ref q_1, .int 0, .int 0, .int 1, .int 0, .int 0, .int 0, .ref q_3, .int 0, .int 0, .int 0, .int 0, .long 0, .int 0, .int (-1), .ref q_62, .ref q_63])), (q_62, .inl (cA_64, 60, .inl (upd f_2031 (15 : Int32).toNatClampNeg (vp_nar .boolean 0)))), (q_63, .inl (cA_65, 60, .inl f_2032)), (q_3, .inr (0, [.int 0, .int 0, .int 0, .int 0, .ref q_4, .ref q_5, .ref q_6, .ref q_7, .ref q_8, .ref q_9, .ref q_10, .ref q_11, .ref q_12, .ref q_13, .ref q_14, .ref q_15, .ref q_16, .ref q_17, .ref q_18])), (q_4, .inl (cA_19, 301, .inl g0_2001)), (q_15, .inl (cA_20, 301, .inl g1_2002))] := hD
  generalize (upd f_2031 (15 : Int32).toNatClampNeg (vp_nar .boolean 0)) = f_2033 at hP hD
  refine lv_aload_n hx hb dX7_begin_72 rfl (lv_at hl 1 rfl) ?_
  refine va_get (D := (dC, dI)) (ci := 7) (v := .ref q_63) (C := RX7) (T := TX7) (N := 18) hx hb hts mem_X7_begin_0 hown hK hP 0 rfl rfl 17 (by decide) (ow (k := 15) rfl) (fun _ h9 => h9) rfl dX7_begin_73 ?_
  refine lv_iload hx hb dX7_begin_76 (lv_at hl 0 rfl) ?_
  refine lv_iconst (v := (-1)) hx hb dX7_begin_78 (by decide) ?_
  refine va_iast hx hb hK hP hD hS 2 1 rfl rfl (show vp_in 15 60 by rw [vp_in_iff]; decide) dX7_begin_79 (fun H locs hP hD hS => ?_)
  have hP : va_P (dC, dI) vwP [(q_60, .inr (7, [.int 0, .ref q_1, .int 0, .int 0, .int 1, .int 0, .int 0, .int 0, .ref q_3, .int 0, .int 0, .int 0, .int 0, .long 0, .int 0, .int (-1), .ref q_62, .ref q_63])), (q_62, .inl (cA_64, 60, .inl f_2033)), (q_63, .inl (cA_65, 60, .inl (upd f_2032 (15 : Int32).toNatClampNeg (-1)))), (q_3, .inr (0, [.int 0, .int 0, .int 0, .int 0, .ref q_4, .ref q_5, .ref q_6, .ref q_7, .ref q_8, .ref q_9, .ref q_10, .ref q_11, .ref q_12, .ref q_13, .ref q_14, .ref q_15, .ref q_16, .ref q_17, .ref q_18])), (q_4, .inl (cA_19, 301, .inl g0_2001)), (q_15, .inl (cA_20, 301, .inl g1_2002))] H := hP
  have hD : va_D A [(q_60, .inr (7, [.int 0, .ref q_1, .int 0, .int 0, .int 1, .int 0, .int 0, .int 0, .ref q_3, .int 0, .int 0, .int 0, .int 0, .long 0, .int 0, .int (-1), .ref q_62, .ref q_63])), (q_62, .inl (cA_64, 60, .inl f_2033)), (q_63, .inl (cA_65, 60, .inl (upd f_2032 (15 : Int32).toNatClampNeg (-1)))), (q_3, .inr (0, [.int 0, .int 0, .int 0, .int 0, .ref q_4, .ref q_5, .ref q_6, .ref q_7, .ref q_8, .ref q_9, .ref q_10, .ref q_11, .ref q_12, .ref q_13, .ref q_14, .ref q_15, .ref q_16, .ref q_17, .ref q_18])), (q_4, .inl (cA_19, 301, .inl g0_2001)), (q_15, .inl (cA_20, 301, .inl g1_2002))] := hD
  generalize (upd f_2032 (15 : Int32).toNatClampNeg (-1)) = f_2034 at hP hD
  refine lv_iinc (v := 16) (lv' := [(4, .int 16), (0, .ref q_60), (1, .ref q_1), (2, .int 0), (3, .ref q_3)]) hx hb dX7_begin_80 hl (k := 0) rfl (by decide) (by decide) rfl (fun ls hl => ?_)
  refine lv_goto (tgt := 57) hx hb dX7_begin_83 (by decide) ?_
  refine lv_iload hx hb dX7_begin_57 (lv_at hl 0 rfl) ?_
  refine lv_bipush (v := 60) hx hb dX7_begin_59 (by decide) ?_
  refine lv_icmp_ge (tgt := 86) hx hb dX7_begin_61 (by decide) (fun h9 => absurd h9 (by decide)) (fun _ => ?_)
  refine lv_aload_n hx hb dX7_begin_64 rfl (lv_at hl 1 rfl) ?_
  refine va_get (D := (dC, dI)) (ci := 7) (v := .ref q_62) (C := RX7) (T := TX7) (N := 18) hx hb hts mem_X7_begin_0 hown hK hP 0 rfl rfl 16 (by decide) (ow (k := 14) rfl) (fun _ h9 => h9) rfl dX7_begin_65 ?_
  refine lv_iload hx hb dX7_begin_68 (lv_at hl 0 rfl) ?_
  refine lv_iconst (v := 0) hx hb dX7_begin_70 (by decide) ?_
  refine va_zast hx hb hK hP hD hS 1 0 rfl rfl (show vp_in 16 60 by rw [vp_in_iff]; decide) dX7_begin_71 (fun H locs hP hD hS => ?_)
  have hP : va_P (dC, dI) vwP [(q_60, .inr (7, [.int 0, .ref q_1, .int 0, .int 0, .int 1, .int 0, .int 0, .int 0, .ref q_3, .int 0, .int 0, .int 0, .int 0, .long 0, .int 0, .int (-1), .ref q_62, .ref q_63])), (q_62, .inl (cA_64, 60, .inl (upd f_2033 (16 : Int32).toNatClampNeg (vp_nar .boolean 0)))), (q_63, .inl (cA_65, 60, .inl f_2034)), (q_3, .inr (0, [.int 0, .int 0, .int 0, .int 0, .ref q_4, .ref q_5, .ref q_6, .ref q_7, .ref q_8, .ref q_9, .ref q_10, .ref q_11, .ref q_12, .ref q_13, .ref q_14, .ref q_15, .ref q_16, .ref q_17, .ref q_18])), (q_4, .inl (cA_19, 301, .inl g0_2001)), (q_15, .inl (cA_20, 301, .inl g1_2002))] H := hP
  have hD : va_D A [(q_60, .inr (7, [.int 0, .ref q_1, .int 0, .int 0, .int 1, .int 0, .int 0, .int 0, .ref q_3, .int 0, .int 0, .int 0, .int 0, .long 0, .int 0, .int (-1), .ref q_62, .ref q_63])), (q_62, .inl (cA_64, 60, .inl (upd f_2033 (16 : Int32).toNatClampNeg (vp_nar .boolean 0)))), (q_63, .inl (cA_65, 60, .inl f_2034)), (q_3, .inr (0, [.int 0, .int 0, .int 0, .int 0, .ref q_4, .ref q_5, .ref q_6, .ref q_7, .ref q_8, .ref q_9, .ref q_10, .ref q_11, .ref q_12, .ref q_13, .ref q_14, .ref q_15, .ref q_16, .ref q_17, .ref q_18])), (q_4, .inl (cA_19, 301, .inl g0_2001)), (q_15, .inl (cA_20, 301, .inl g1_2002))] := hD
  generalize (upd f_2033 (16 : Int32).toNatClampNeg (vp_nar .boolean 0)) = f_2035 at hP hD
  refine lv_aload_n hx hb dX7_begin_72 rfl (lv_at hl 1 rfl) ?_
  refine va_get (D := (dC, dI)) (ci := 7) (v := .ref q_63) (C := RX7) (T := TX7) (N := 18) hx hb hts mem_X7_begin_0 hown hK hP 0 rfl rfl 17 (by decide) (ow (k := 15) rfl) (fun _ h9 => h9) rfl dX7_begin_73 ?_
  refine lv_iload hx hb dX7_begin_76 (lv_at hl 0 rfl) ?_
  refine lv_iconst (v := (-1)) hx hb dX7_begin_78 (by decide) ?_
  refine va_iast hx hb hK hP hD hS 2 1 rfl rfl (show vp_in 16 60 by rw [vp_in_iff]; decide) dX7_begin_79 (fun H locs hP hD hS => ?_)
  have hP : va_P (dC, dI) vwP [(q_60, .inr (7, [.int 0, .ref q_1, .int 0, .int 0, .int 1, .int 0, .int 0, .int 0, .ref q_3, .int 0, .int 0, .int 0, .int 0, .long 0, .int 0, .int (-1), .ref q_62, .ref q_63])), (q_62, .inl (cA_64, 60, .inl f_2035)), (q_63, .inl (cA_65, 60, .inl (upd f_2034 (16 : Int32).toNatClampNeg (-1)))), (q_3, .inr (0, [.int 0, .int 0, .int 0, .int 0, .ref q_4, .ref q_5, .ref q_6, .ref q_7, .ref q_8, .ref q_9, .ref q_10, .ref q_11, .ref q_12, .ref q_13, .ref q_14, .ref q_15, .ref q_16, .ref q_17, .ref q_18])), (q_4, .inl (cA_19, 301, .inl g0_2001)), (q_15, .inl (cA_20, 301, .inl g1_2002))] H := hP
  have hD : va_D A [(q_60, .inr (7, [.int 0, .ref q_1, .int 0, .int 0, .int 1, .int 0, .int 0, .int 0, .ref q_3, .int 0, .int 0, .int 0, .int 0, .long 0, .int 0, .int (-1), .ref q_62, .ref q_63])), (q_62, .inl (cA_64, 60, .inl f_2035)), (q_63, .inl (cA_65, 60, .inl (upd f_2034 (16 : Int32).toNatClampNeg (-1)))), (q_3, .inr (0, [.int 0, .int 0, .int 0, .int 0, .ref q_4, .ref q_5, .ref q_6, .ref q_7, .ref q_8, .ref q_9, .ref q_10, .ref q_11, .ref q_12, .ref q_13, .ref q_14, .ref q_15, .ref q_16, .ref q_17, .ref q_18])), (q_4, .inl (cA_19, 301, .inl g0_2001)), (q_15, .inl (cA_20, 301, .inl g1_2002))] := hD
  generalize (upd f_2034 (16 : Int32).toNatClampNeg (-1)) = f_2036 at hP hD
  refine lv_iinc (v := 17) (lv' := [(4, .int 17), (0, .ref q_60), (1, .ref q_1), (2, .int 0), (3, .ref q_3)]) hx hb dX7_begin_80 hl (k := 0) rfl (by decide) (by decide) rfl (fun ls hl => ?_)
  refine lv_goto (tgt := 57) hx hb dX7_begin_83 (by decide) ?_
  refine lv_iload hx hb dX7_begin_57 (lv_at hl 0 rfl) ?_
  refine lv_bipush (v := 60) hx hb dX7_begin_59 (by decide) ?_
  refine lv_icmp_ge (tgt := 86) hx hb dX7_begin_61 (by decide) (fun h9 => absurd h9 (by decide)) (fun _ => ?_)
  refine lv_aload_n hx hb dX7_begin_64 rfl (lv_at hl 1 rfl) ?_
  refine va_get (D := (dC, dI)) (ci := 7) (v := .ref q_62) (C := RX7) (T := TX7) (N := 18) hx hb hts mem_X7_begin_0 hown hK hP 0 rfl rfl 16 (by decide) (ow (k := 14) rfl) (fun _ h9 => h9) rfl dX7_begin_65 ?_
  refine lv_iload hx hb dX7_begin_68 (lv_at hl 0 rfl) ?_
  refine lv_iconst (v := 0) hx hb dX7_begin_70 (by decide) ?_
  refine va_zast hx hb hK hP hD hS 1 0 rfl rfl (show vp_in 17 60 by rw [vp_in_iff]; decide) dX7_begin_71 (fun H locs hP hD hS => ?_)
  have hP : va_P (dC, dI) vwP [(q_60, .inr (7, [.int 0, .ref q_1, .int 0, .int 0, .int 1, .int 0, .int 0, .int 0, .ref q_3, .int 0, .int 0, .int 0, .int 0, .long 0, .int 0, .int (-1), .ref q_62, .ref q_63])), (q_62, .inl (cA_64, 60, .inl (upd f_2035 (17 : Int32).toNatClampNeg (vp_nar .boolean 0)))), (q_63, .inl (cA_65, 60, .inl f_2036)), (q_3, .inr (0, [.int 0, .int 0, .int 0, .int 0, .ref q_4, .ref q_5, .ref q_6, .ref q_7, .ref q_8, .ref q_9, .ref q_10, .ref q_11, .ref q_12, .ref q_13, .ref q_14, .ref q_15, .ref q_16, .ref q_17, .ref q_18])), (q_4, .inl (cA_19, 301, .inl g0_2001)), (q_15, .inl (cA_20, 301, .inl g1_2002))] H := hP
  have hD : va_D A [(q_60, .inr (7, [.int 0, .ref q_1, .int 0, .int 0, .int 1, .int 0, .int 0, .int 0, .ref q_3, .int 0, .int 0, .int 0, .int 0, .long 0, .int 0, .int (-1), .ref q_62, .ref q_63])), (q_62, .inl (cA_64, 60, .inl (upd f_2035 (17 : Int32).toNatClampNeg (vp_nar .boolean 0)))), (q_63, .inl (cA_65, 60, .inl f_2036)), (q_3, .inr (0, [.int 0, .int 0, .int 0, .int 0, .ref q_4, .ref q_5, .ref q_6, .ref q_7, .ref q_8, .ref q_9, .ref q_10, .ref q_11, .ref q_12, .ref q_13, .ref q_14, .ref q_15, .ref q_16, .ref q_17, .ref q_18])), (q_4, .inl (cA_19, 301, .inl g0_2001)), (q_15, .inl (cA_20, 301, .inl g1_2002))] := hD
  generalize (upd f_2035 (17 : Int32).toNatClampNeg (vp_nar .boolean 0)) = f_2037 at hP hD
  refine lv_aload_n hx hb dX7_begin_72 rfl (lv_at hl 1 rfl) ?_
  refine va_get (D := (dC, dI)) (ci := 7) (v := .ref q_63) (C := RX7) (T := TX7) (N := 18) hx hb hts mem_X7_begin_0 hown hK hP 0 rfl rfl 17 (by decide) (ow (k := 15) rfl) (fun _ h9 => h9) rfl dX7_begin_73 ?_
  refine lv_iload hx hb dX7_begin_76 (lv_at hl 0 rfl) ?_
  refine lv_iconst (v := (-1)) hx hb dX7_begin_78 (by decide) ?_
  refine va_iast hx hb hK hP hD hS 2 1 rfl rfl (show vp_in 17 60 by rw [vp_in_iff]; decide) dX7_begin_79 (fun H locs hP hD hS => ?_)
  have hP : va_P (dC, dI) vwP [(q_60, .inr (7, [.int 0, .ref q_1, .int 0, .int 0, .int 1, .int 0, .int 0, .int 0, .ref q_3, .int 0, .int 0, .int 0, .int 0, .long 0, .int 0, .int (-1), .ref q_62, .ref q_63])), (q_62, .inl (cA_64, 60, .inl f_2037)), (q_63, .inl (cA_65, 60, .inl (upd f_2036 (17 : Int32).toNatClampNeg (-1)))), (q_3, .inr (0, [.int 0, .int 0, .int 0, .int 0, .ref q_4, .ref q_5, .ref q_6, .ref q_7, .ref q_8, .ref q_9, .ref q_10, .ref q_11, .ref q_12, .ref q_13, .ref q_14, .ref q_15, .ref q_16, .ref q_17, .ref q_18])), (q_4, .inl (cA_19, 301, .inl g0_2001)), (q_15, .inl (cA_20, 301, .inl g1_2002))] H := hP
  have hD : va_D A [(q_60, .inr (7, [.int 0, .ref q_1, .int 0, .int 0, .int 1, .int 0, .int 0, .int 0, .ref q_3, .int 0, .int 0, .int 0, .int 0, .long 0, .int 0, .int (-1), .ref q_62, .ref q_63])), (q_62, .inl (cA_64, 60, .inl f_2037)), (q_63, .inl (cA_65, 60, .inl (upd f_2036 (17 : Int32).toNatClampNeg (-1)))), (q_3, .inr (0, [.int 0, .int 0, .int 0, .int 0, .ref q_4, .ref q_5, .ref q_6, .ref q_7, .ref q_8, .ref q_9, .ref q_10, .ref q_11, .ref q_12, .ref q_13, .ref q_14, .ref q_15, .ref q_16, .ref q_17, .ref q_18])), (q_4, .inl (cA_19, 301, .inl g0_2001)), (q_15, .inl (cA_20, 301, .inl g1_2002))] := hD
  generalize (upd f_2036 (17 : Int32).toNatClampNeg (-1)) = f_2038 at hP hD
  refine lv_iinc (v := 18) (lv' := [(4, .int 18), (0, .ref q_60), (1, .ref q_1), (2, .int 0), (3, .ref q_3)]) hx hb dX7_begin_80 hl (k := 0) rfl (by decide) (by decide) rfl (fun ls hl => ?_)
  refine lv_goto (tgt := 57) hx hb dX7_begin_83 (by decide) ?_
  refine lv_iload hx hb dX7_begin_57 (lv_at hl 0 rfl) ?_
  refine lv_bipush (v := 60) hx hb dX7_begin_59 (by decide) ?_
  refine lv_icmp_ge (tgt := 86) hx hb dX7_begin_61 (by decide) (fun h9 => absurd h9 (by decide)) (fun _ => ?_)
  refine lv_aload_n hx hb dX7_begin_64 rfl (lv_at hl 1 rfl) ?_
  refine va_get (D := (dC, dI)) (ci := 7) (v := .ref q_62) (C := RX7) (T := TX7) (N := 18) hx hb hts mem_X7_begin_0 hown hK hP 0 rfl rfl 16 (by decide) (ow (k := 14) rfl) (fun _ h9 => h9) rfl dX7_begin_65 ?_
  refine lv_iload hx hb dX7_begin_68 (lv_at hl 0 rfl) ?_
  refine lv_iconst (v := 0) hx hb dX7_begin_70 (by decide) ?_
  refine va_zast hx hb hK hP hD hS 1 0 rfl rfl (show vp_in 18 60 by rw [vp_in_iff]; decide) dX7_begin_71 (fun H locs hP hD hS => ?_)
  have hP : va_P (dC, dI) vwP [(q_60, .inr (7, [.int 0, .ref q_1, .int 0, .int 0, .int 1, .int 0, .int 0, .int 0, .ref q_3, .int 0, .int 0, .int 0, .int 0, .long 0, .int 0, .int (-1), .ref q_62, .ref q_63])), (q_62, .inl (cA_64, 60, .inl (upd f_2037 (18 : Int32).toNatClampNeg (vp_nar .boolean 0)))), (q_63, .inl (cA_65, 60, .inl f_2038)), (q_3, .inr (0, [.int 0, .int 0, .int 0, .int 0, .ref q_4, .ref q_5, .ref q_6, .ref q_7, .ref q_8, .ref q_9, .ref q_10, .ref q_11, .ref q_12, .ref q_13, .ref q_14, .ref q_15, .ref q_16, .ref q_17, .ref q_18])), (q_4, .inl (cA_19, 301, .inl g0_2001)), (q_15, .inl (cA_20, 301, .inl g1_2002))] H := hP
  have hD : va_D A [(q_60, .inr (7, [.int 0, .ref q_1, .int 0, .int 0, .int 1, .int 0, .int 0, .int 0, .ref q_3, .int 0, .int 0, .int 0, .int 0, .long 0, .int 0, .int (-1), .ref q_62, .ref q_63])), (q_62, .inl (cA_64, 60, .inl (upd f_2037 (18 : Int32).toNatClampNeg (vp_nar .boolean 0)))), (q_63, .inl (cA_65, 60, .inl f_2038)), (q_3, .inr (0, [.int 0, .int 0, .int 0, .int 0, .ref q_4, .ref q_5, .ref q_6, .ref q_7, .ref q_8, .ref q_9, .ref q_10, .ref q_11, .ref q_12, .ref q_13, .ref q_14, .ref q_15, .ref q_16, .ref q_17, .ref q_18])), (q_4, .inl (cA_19, 301, .inl g0_2001)), (q_15, .inl (cA_20, 301, .inl g1_2002))] := hD
  generalize (upd f_2037 (18 : Int32).toNatClampNeg (vp_nar .boolean 0)) = f_2039 at hP hD
  refine lv_aload_n hx hb dX7_begin_72 rfl (lv_at hl 1 rfl) ?_
  refine va_get (D := (dC, dI)) (ci := 7) (v := .ref q_63) (C := RX7) (T := TX7) (N := 18) hx hb hts mem_X7_begin_0 hown hK hP 0 rfl rfl 17 (by decide) (ow (k := 15) rfl) (fun _ h9 => h9) rfl dX7_begin_73 ?_
  refine lv_iload hx hb dX7_begin_76 (lv_at hl 0 rfl) ?_
  refine lv_iconst (v := (-1)) hx hb dX7_begin_78 (by decide) ?_
  refine va_iast hx hb hK hP hD hS 2 1 rfl rfl (show vp_in 18 60 by rw [vp_in_iff]; decide) dX7_begin_79 (fun H locs hP hD hS => ?_)
  have hP : va_P (dC, dI) vwP [(q_60, .inr (7, [.int 0, .ref q_1, .int 0, .int 0, .int 1, .int 0, .int 0, .int 0, .ref q_3, .int 0, .int 0, .int 0, .int 0, .long 0, .int 0, .int (-1), .ref q_62, .ref q_63])), (q_62, .inl (cA_64, 60, .inl f_2039)), (q_63, .inl (cA_65, 60, .inl (upd f_2038 (18 : Int32).toNatClampNeg (-1)))), (q_3, .inr (0, [.int 0, .int 0, .int 0, .int 0, .ref q_4, .ref q_5, .ref q_6, .ref q_7, .ref q_8, .ref q_9, .ref q_10, .ref q_11, .ref q_12, .ref q_13, .ref q_14, .ref q_15, .ref q_16, .ref q_17, .ref q_18])), (q_4, .inl (cA_19, 301, .inl g0_2001)), (q_15, .inl (cA_20, 301, .inl g1_2002))] H := hP
  have hD : va_D A [(q_60, .inr (7, [.int 0, .ref q_1, .int 0, .int 0, .int 1, .int 0, .int 0, .int 0, .ref q_3, .int 0, .int 0, .int 0, .int 0, .long 0, .int 0, .int (-1), .ref q_62, .ref q_63])), (q_62, .inl (cA_64, 60, .inl f_2039)), (q_63, .inl (cA_65, 60, .inl (upd f_2038 (18 : Int32).toNatClampNeg (-1)))), (q_3, .inr (0, [.int 0, .int 0, .int 0, .int 0, .ref q_4, .ref q_5, .ref q_6, .ref q_7, .ref q_8, .ref q_9, .ref q_10, .ref q_11, .ref q_12, .ref q_13, .ref q_14, .ref q_15, .ref q_16, .ref q_17, .ref q_18])), (q_4, .inl (cA_19, 301, .inl g0_2001)), (q_15, .inl (cA_20, 301, .inl g1_2002))] := hD
  generalize (upd f_2038 (18 : Int32).toNatClampNeg (-1)) = f_2040 at hP hD
  refine lv_iinc (v := 19) (lv' := [(4, .int 19), (0, .ref q_60), (1, .ref q_1), (2, .int 0), (3, .ref q_3)]) hx hb dX7_begin_80 hl (k := 0) rfl (by decide) (by decide) rfl (fun ls hl => ?_)
  refine lv_goto (tgt := 57) hx hb dX7_begin_83 (by decide) ?_
  refine lv_iload hx hb dX7_begin_57 (lv_at hl 0 rfl) ?_
  refine lv_bipush (v := 60) hx hb dX7_begin_59 (by decide) ?_
  refine lv_icmp_ge (tgt := 86) hx hb dX7_begin_61 (by decide) (fun h9 => absurd h9 (by decide)) (fun _ => ?_)
  refine lv_aload_n hx hb dX7_begin_64 rfl (lv_at hl 1 rfl) ?_
  refine va_get (D := (dC, dI)) (ci := 7) (v := .ref q_62) (C := RX7) (T := TX7) (N := 18) hx hb hts mem_X7_begin_0 hown hK hP 0 rfl rfl 16 (by decide) (ow (k := 14) rfl) (fun _ h9 => h9) rfl dX7_begin_65 ?_
  refine lv_iload hx hb dX7_begin_68 (lv_at hl 0 rfl) ?_
  refine lv_iconst (v := 0) hx hb dX7_begin_70 (by decide) ?_
  refine va_zast hx hb hK hP hD hS 1 0 rfl rfl (show vp_in 19 60 by rw [vp_in_iff]; decide) dX7_begin_71 (fun H locs hP hD hS => ?_)
  have hP : va_P (dC, dI) vwP [(q_60, .inr (7, [.int 0, .ref q_1, .int 0, .int 0, .int 1, .int 0, .int 0, .int 0, .ref q_3, .int 0, .int 0, .int 0, .int 0, .long 0, .int 0, .int (-1), .ref q_62, .ref q_63])), (q_62, .inl (cA_64, 60, .inl (upd f_2039 (19 : Int32).toNatClampNeg (vp_nar .boolean 0)))), (q_63, .inl (cA_65, 60, .inl f_2040)), (q_3, .inr (0, [.int 0, .int 0, .int 0, .int 0, .ref q_4, .ref q_5, .ref q_6, .ref q_7, .ref q_8, .ref q_9, .ref q_10, .ref q_11, .ref q_12, .ref q_13, .ref q_14, .ref q_15, .ref q_16, .ref q_17, .ref q_18])), (q_4, .inl (cA_19, 301, .inl g0_2001)), (q_15, .inl (cA_20, 301, .inl g1_2002))] H := hP
  have hD : va_D A [(q_60, .inr (7, [.int 0, .ref q_1, .int 0, .int 0, .int 1, .int 0, .int 0, .int 0, .ref q_3, .int 0, .int 0, .int 0, .int 0, .long 0, .int 0, .int (-1), .ref q_62, .ref q_63])), (q_62, .inl (cA_64, 60, .inl (upd f_2039 (19 : Int32).toNatClampNeg (vp_nar .boolean 0)))), (q_63, .inl (cA_65, 60, .inl f_2040)), (q_3, .inr (0, [.int 0, .int 0, .int 0, .int 0, .ref q_4, .ref q_5, .ref q_6, .ref q_7, .ref q_8, .ref q_9, .ref q_10, .ref q_11, .ref q_12, .ref q_13, .ref q_14, .ref q_15, .ref q_16, .ref q_17, .ref q_18])), (q_4, .inl (cA_19, 301, .inl g0_2001)), (q_15, .inl (cA_20, 301, .inl g1_2002))] := hD
  generalize (upd f_2039 (19 : Int32).toNatClampNeg (vp_nar .boolean 0)) = f_2041 at hP hD
  refine lv_aload_n hx hb dX7_begin_72 rfl (lv_at hl 1 rfl) ?_
  refine va_get (D := (dC, dI)) (ci := 7) (v := .ref q_63) (C := RX7) (T := TX7) (N := 18) hx hb hts mem_X7_begin_0 hown hK hP 0 rfl rfl 17 (by decide) (ow (k := 15) rfl) (fun _ h9 => h9) rfl dX7_begin_73 ?_
  refine lv_iload hx hb dX7_begin_76 (lv_at hl 0 rfl) ?_
  refine lv_iconst (v := (-1)) hx hb dX7_begin_78 (by decide) ?_
  refine va_iast hx hb hK hP hD hS 2 1 rfl rfl (show vp_in 19 60 by rw [vp_in_iff]; decide) dX7_begin_79 (fun H locs hP hD hS => ?_)
  have hP : va_P (dC, dI) vwP [(q_60, .inr (7, [.int 0, .ref q_1, .int 0, .int 0, .int 1, .int 0, .int 0, .int 0, .ref q_3, .int 0, .int 0, .int 0, .int 0, .long 0, .int 0, .int (-1), .ref q_62, .ref q_63])), (q_62, .inl (cA_64, 60, .inl f_2041)), (q_63, .inl (cA_65, 60, .inl (upd f_2040 (19 : Int32).toNatClampNeg (-1)))), (q_3, .inr (0, [.int 0, .int 0, .int 0, .int 0, .ref q_4, .ref q_5, .ref q_6, .ref q_7, .ref q_8, .ref q_9, .ref q_10, .ref q_11, .ref q_12, .ref q_13, .ref q_14, .ref q_15, .ref q_16, .ref q_17, .ref q_18])), (q_4, .inl (cA_19, 301, .inl g0_2001)), (q_15, .inl (cA_20, 301, .inl g1_2002))] H := hP
  have hD : va_D A [(q_60, .inr (7, [.int 0, .ref q_1, .int 0, .int 0, .int 1, .int 0, .int 0, .int 0, .ref q_3, .int 0, .int 0, .int 0, .int 0, .long 0, .int 0, .int (-1), .ref q_62, .ref q_63])), (q_62, .inl (cA_64, 60, .inl f_2041)), (q_63, .inl (cA_65, 60, .inl (upd f_2040 (19 : Int32).toNatClampNeg (-1)))), (q_3, .inr (0, [.int 0, .int 0, .int 0, .int 0, .ref q_4, .ref q_5, .ref q_6, .ref q_7, .ref q_8, .ref q_9, .ref q_10, .ref q_11, .ref q_12, .ref q_13, .ref q_14, .ref q_15, .ref q_16, .ref q_17, .ref q_18])), (q_4, .inl (cA_19, 301, .inl g0_2001)), (q_15, .inl (cA_20, 301, .inl g1_2002))] := hD
  generalize (upd f_2040 (19 : Int32).toNatClampNeg (-1)) = f_2042 at hP hD
  refine lv_iinc (v := 20) (lv' := [(4, .int 20), (0, .ref q_60), (1, .ref q_1), (2, .int 0), (3, .ref q_3)]) hx hb dX7_begin_80 hl (k := 0) rfl (by decide) (by decide) rfl (fun ls hl => ?_)
  refine lv_goto (tgt := 57) hx hb dX7_begin_83 (by decide) ?_
  refine lv_iload hx hb dX7_begin_57 (lv_at hl 0 rfl) ?_
  refine lv_bipush (v := 60) hx hb dX7_begin_59 (by decide) ?_
  refine lv_icmp_ge (tgt := 86) hx hb dX7_begin_61 (by decide) (fun h9 => absurd h9 (by decide)) (fun _ => ?_)
  refine lv_aload_n hx hb dX7_begin_64 rfl (lv_at hl 1 rfl) ?_
  refine va_get (D := (dC, dI)) (ci := 7) (v := .ref q_62) (C := RX7) (T := TX7) (N := 18) hx hb hts mem_X7_begin_0 hown hK hP 0 rfl rfl 16 (by decide) (ow (k := 14) rfl) (fun _ h9 => h9) rfl dX7_begin_65 ?_
  refine lv_iload hx hb dX7_begin_68 (lv_at hl 0 rfl) ?_
  refine lv_iconst (v := 0) hx hb dX7_begin_70 (by decide) ?_
  refine va_zast hx hb hK hP hD hS 1 0 rfl rfl (show vp_in 20 60 by rw [vp_in_iff]; decide) dX7_begin_71 (fun H locs hP hD hS => ?_)
  have hP : va_P (dC, dI) vwP [(q_60, .inr (7, [.int 0, .ref q_1, .int 0, .int 0, .int 1, .int 0, .int 0, .int 0, .ref q_3, .int 0, .int 0, .int 0, .int 0, .long 0, .int 0, .int (-1), .ref q_62, .ref q_63])), (q_62, .inl (cA_64, 60, .inl (upd f_2041 (20 : Int32).toNatClampNeg (vp_nar .boolean 0)))), (q_63, .inl (cA_65, 60, .inl f_2042)), (q_3, .inr (0, [.int 0, .int 0, .int 0, .int 0, .ref q_4, .ref q_5, .ref q_6, .ref q_7, .ref q_8, .ref q_9, .ref q_10, .ref q_11, .ref q_12, .ref q_13, .ref q_14, .ref q_15, .ref q_16, .ref q_17, .ref q_18])), (q_4, .inl (cA_19, 301, .inl g0_2001)), (q_15, .inl (cA_20, 301, .inl g1_2002))] H := hP
  have hD : va_D A [(q_60, .inr (7, [.int 0, .ref q_1, .int 0, .int 0, .int 1, .int 0, .int 0, .int 0, .ref q_3, .int 0, .int 0, .int 0, .int 0, .long 0, .int 0, .int (-1), .ref q_62, .ref q_63])), (q_62, .inl (cA_64, 60, .inl (upd f_2041 (20 : Int32).toNatClampNeg (vp_nar .boolean 0)))), (q_63, .inl (cA_65, 60, .inl f_2042)), (q_3, .inr (0, [.int 0, .int 0, .int 0, .int 0, .ref q_4, .ref q_5, .ref q_6, .ref q_7, .ref q_8, .ref q_9, .ref q_10, .ref q_11, .ref q_12, .ref q_13, .ref q_14, .ref q_15, .ref q_16, .ref q_17, .ref q_18])), (q_4, .inl (cA_19, 301, .inl g0_2001)), (q_15, .inl (cA_20, 301, .inl g1_2002))] := hD
  generalize (upd f_2041 (20 : Int32).toNatClampNeg (vp_nar .boolean 0)) = f_2043 at hP hD
  refine lv_aload_n hx hb dX7_begin_72 rfl (lv_at hl 1 rfl) ?_
  refine va_get (D := (dC, dI)) (ci := 7) (v := .ref q_63) (C := RX7) (T := TX7) (N := 18) hx hb hts mem_X7_begin_0 hown hK hP 0 rfl rfl 17 (by decide) (ow (k := 15) rfl) (fun _ h9 => h9) rfl dX7_begin_73 ?_
  refine lv_iload hx hb dX7_begin_76 (lv_at hl 0 rfl) ?_
  refine lv_iconst (v := (-1)) hx hb dX7_begin_78 (by decide) ?_
  refine va_iast hx hb hK hP hD hS 2 1 rfl rfl (show vp_in 20 60 by rw [vp_in_iff]; decide) dX7_begin_79 (fun H locs hP hD hS => ?_)
  have hP : va_P (dC, dI) vwP [(q_60, .inr (7, [.int 0, .ref q_1, .int 0, .int 0, .int 1, .int 0, .int 0, .int 0, .ref q_3, .int 0, .int 0, .int 0, .int 0, .long 0, .int 0, .int (-1), .ref q_62, .ref q_63])), (q_62, .inl (cA_64, 60, .inl f_2043)), (q_63, .inl (cA_65, 60, .inl (upd f_2042 (20 : Int32).toNatClampNeg (-1)))), (q_3, .inr (0, [.int 0, .int 0, .int 0, .int 0, .ref q_4, .ref q_5, .ref q_6, .ref q_7, .ref q_8, .ref q_9, .ref q_10, .ref q_11, .ref q_12, .ref q_13, .ref q_14, .ref q_15, .ref q_16, .ref q_17, .ref q_18])), (q_4, .inl (cA_19, 301, .inl g0_2001)), (q_15, .inl (cA_20, 301, .inl g1_2002))] H := hP
  have hD : va_D A [(q_60, .inr (7, [.int 0, .ref q_1, .int 0, .int 0, .int 1, .int 0, .int 0, .int 0, .ref q_3, .int 0, .int 0, .int 0, .int 0, .long 0, .int 0, .int (-1), .ref q_62, .ref q_63])), (q_62, .inl (cA_64, 60, .inl f_2043)), (q_63, .inl (cA_65, 60, .inl (upd f_2042 (20 : Int32).toNatClampNeg (-1)))), (q_3, .inr (0, [.int 0, .int 0, .int 0, .int 0, .ref q_4, .ref q_5, .ref q_6, .ref q_7, .ref q_8, .ref q_9, .ref q_10, .ref q_11, .ref q_12, .ref q_13, .ref q_14, .ref q_15, .ref q_16, .ref q_17, .ref q_18])), (q_4, .inl (cA_19, 301, .inl g0_2001)), (q_15, .inl (cA_20, 301, .inl g1_2002))] := hD
  generalize (upd f_2042 (20 : Int32).toNatClampNeg (-1)) = f_2044 at hP hD
  refine lv_iinc (v := 21) (lv' := [(4, .int 21), (0, .ref q_60), (1, .ref q_1), (2, .int 0), (3, .ref q_3)]) hx hb dX7_begin_80 hl (k := 0) rfl (by decide) (by decide) rfl (fun ls hl => ?_)
  refine lv_goto (tgt := 57) hx hb dX7_begin_83 (by decide) ?_
  refine lv_iload hx hb dX7_begin_57 (lv_at hl 0 rfl) ?_
  refine lv_bipush (v := 60) hx hb dX7_begin_59 (by decide) ?_
  refine lv_icmp_ge (tgt := 86) hx hb dX7_begin_61 (by decide) (fun h9 => absurd h9 (by decide)) (fun _ => ?_)
  refine lv_aload_n hx hb dX7_begin_64 rfl (lv_at hl 1 rfl) ?_
  refine va_get (D := (dC, dI)) (ci := 7) (v := .ref q_62) (C := RX7) (T := TX7) (N := 18) hx hb hts mem_X7_begin_0 hown hK hP 0 rfl rfl 16 (by decide) (ow (k := 14) rfl) (fun _ h9 => h9) rfl dX7_begin_65 ?_
  refine lv_iload hx hb dX7_begin_68 (lv_at hl 0 rfl) ?_
  refine lv_iconst (v := 0) hx hb dX7_begin_70 (by decide) ?_
  refine va_zast hx hb hK hP hD hS 1 0 rfl rfl (show vp_in 21 60 by rw [vp_in_iff]; decide) dX7_begin_71 (fun H locs hP hD hS => ?_)
  have hP : va_P (dC, dI) vwP [(q_60, .inr (7, [.int 0, .ref q_1, .int 0, .int 0, .int 1, .int 0, .int 0, .int 0, .ref q_3, .int 0, .int 0, .int 0, .int 0, .long 0, .int 0, .int (-1), .ref q_62, .ref q_63])), (q_62, .inl (cA_64, 60, .inl (upd f_2043 (21 : Int32).toNatClampNeg (vp_nar .boolean 0)))), (q_63, .inl (cA_65, 60, .inl f_2044)), (q_3, .inr (0, [.int 0, .int 0, .int 0, .int 0, .ref q_4, .ref q_5, .ref q_6, .ref q_7, .ref q_8, .ref q_9, .ref q_10, .ref q_11, .ref q_12, .ref q_13, .ref q_14, .ref q_15, .ref q_16, .ref q_17, .ref q_18])), (q_4, .inl (cA_19, 301, .inl g0_2001)), (q_15, .inl (cA_20, 301, .inl g1_2002))] H := hP
  have hD : va_D A [(q_60, .inr (7, [.int 0, .ref q_1, .int 0, .int 0, .int 1, .int 0, .int 0, .int 0, .ref q_3, .int 0, .int 0, .int 0, .int 0, .long 0, .int 0, .int (-1), .ref q_62, .ref q_63])), (q_62, .inl (cA_64, 60, .inl (upd f_2043 (21 : Int32).toNatClampNeg (vp_nar .boolean 0)))), (q_63, .inl (cA_65, 60, .inl f_2044)), (q_3, .inr (0, [.int 0, .int 0, .int 0, .int 0, .ref q_4, .ref q_5, .ref q_6, .ref q_7, .ref q_8, .ref q_9, .ref q_10, .ref q_11, .ref q_12, .ref q_13, .ref q_14, .ref q_15, .ref q_16, .ref q_17, .ref q_18])), (q_4, .inl (cA_19, 301, .inl g0_2001)), (q_15, .inl (cA_20, 301, .inl g1_2002))] := hD
  generalize (upd f_2043 (21 : Int32).toNatClampNeg (vp_nar .boolean 0)) = f_2045 at hP hD
  refine lv_aload_n hx hb dX7_begin_72 rfl (lv_at hl 1 rfl) ?_
  refine va_get (D := (dC, dI)) (ci := 7) (v := .ref q_63) (C := RX7) (T := TX7) (N := 18) hx hb hts mem_X7_begin_0 hown hK hP 0 rfl rfl 17 (by decide) (ow (k := 15) rfl) (fun _ h9 => h9) rfl dX7_begin_73 ?_
  refine lv_iload hx hb dX7_begin_76 (lv_at hl 0 rfl) ?_
  refine lv_iconst (v := (-1)) hx hb dX7_begin_78 (by decide) ?_
  refine va_iast hx hb hK hP hD hS 2 1 rfl rfl (show vp_in 21 60 by rw [vp_in_iff]; decide) dX7_begin_79 (fun H locs hP hD hS => ?_)
  have hP : va_P (dC, dI) vwP [(q_60, .inr (7, [.int 0, .ref q_1, .int 0, .int 0, .int 1, .int 0, .int 0, .int 0, .ref q_3, .int 0, .int 0, .int 0, .int 0, .long 0, .int 0, .int (-1), .ref q_62, .ref q_63])), (q_62, .inl (cA_64, 60, .inl f_2045)), (q_63, .inl (cA_65, 60, .inl (upd f_2044 (21 : Int32).toNatClampNeg (-1)))), (q_3, .inr (0, [.int 0, .int 0, .int 0, .int 0, .ref q_4, .ref q_5, .ref q_6, .ref q_7, .ref q_8, .ref q_9, .ref q_10, .ref q_11, .ref q_12, .ref q_13, .ref q_14, .ref q_15, .ref q_16, .ref q_17, .ref q_18])), (q_4, .inl (cA_19, 301, .inl g0_2001)), (q_15, .inl (cA_20, 301, .inl g1_2002))] H := hP
  have hD : va_D A [(q_60, .inr (7, [.int 0, .ref q_1, .int 0, .int 0, .int 1, .int 0, .int 0, .int 0, .ref q_3, .int 0, .int 0, .int 0, .int 0, .long 0, .int 0, .int (-1), .ref q_62, .ref q_63])), (q_62, .inl (cA_64, 60, .inl f_2045)), (q_63, .inl (cA_65, 60, .inl (upd f_2044 (21 : Int32).toNatClampNeg (-1)))), (q_3, .inr (0, [.int 0, .int 0, .int 0, .int 0, .ref q_4, .ref q_5, .ref q_6, .ref q_7, .ref q_8, .ref q_9, .ref q_10, .ref q_11, .ref q_12, .ref q_13, .ref q_14, .ref q_15, .ref q_16, .ref q_17, .ref q_18])), (q_4, .inl (cA_19, 301, .inl g0_2001)), (q_15, .inl (cA_20, 301, .inl g1_2002))] := hD
  generalize (upd f_2044 (21 : Int32).toNatClampNeg (-1)) = f_2046 at hP hD
  refine lv_iinc (v := 22) (lv' := [(4, .int 22), (0, .ref q_60), (1, .ref q_1), (2, .int 0), (3, .ref q_3)]) hx hb dX7_begin_80 hl (k := 0) rfl (by decide) (by decide) rfl (fun ls hl => ?_)
  refine lv_goto (tgt := 57) hx hb dX7_begin_83 (by decide) ?_
  refine lv_iload hx hb dX7_begin_57 (lv_at hl 0 rfl) ?_
  refine lv_bipush (v := 60) hx hb dX7_begin_59 (by decide) ?_
  refine lv_icmp_ge (tgt := 86) hx hb dX7_begin_61 (by decide) (fun h9 => absurd h9 (by decide)) (fun _ => ?_)
  refine lv_aload_n hx hb dX7_begin_64 rfl (lv_at hl 1 rfl) ?_
  refine va_get (D := (dC, dI)) (ci := 7) (v := .ref q_62) (C := RX7) (T := TX7) (N := 18) hx hb hts mem_X7_begin_0 hown hK hP 0 rfl rfl 16 (by decide) (ow (k := 14) rfl) (fun _ h9 => h9) rfl dX7_begin_65 ?_
  refine lv_iload hx hb dX7_begin_68 (lv_at hl 0 rfl) ?_
  refine lv_iconst (v := 0) hx hb dX7_begin_70 (by decide) ?_
  refine va_zast hx hb hK hP hD hS 1 0 rfl rfl (show vp_in 22 60 by rw [vp_in_iff]; decide) dX7_begin_71 (fun H locs hP hD hS => ?_)
  have hP : va_P (dC, dI) vwP [(q_60, .inr (7, [.int 0, .ref q_1, .int 0, .int 0, .int 1, .int 0, .int 0, .int 0, .ref q_3, .int 0, .int 0, .int 0, .int 0, .long 0, .int 0, .int (-1), .ref q_62, .ref q_63])), (q_62, .inl (cA_64, 60, .inl (upd f_2045 (22 : Int32).toNatClampNeg (vp_nar .boolean 0)))), (q_63, .inl (cA_65, 60, .inl f_2046)), (q_3, .inr (0, [.int 0, .int 0, .int 0, .int 0, .ref q_4, .ref q_5, .ref q_6, .ref q_7, .ref q_8, .ref q_9, .ref q_10, .ref q_11, .ref q_12, .ref q_13, .ref q_14, .ref q_15, .ref q_16, .ref q_17, .ref q_18])), (q_4, .inl (cA_19, 301, .inl g0_2001)), (q_15, .inl (cA_20, 301, .inl g1_2002))] H := hP
  have hD : va_D A [(q_60, .inr (7, [.int 0, .ref q_1, .int 0, .int 0, .int 1, .int 0, .int 0, .int 0, .ref q_3, .int 0, .int 0, .int 0, .int 0, .long 0, .int 0, .int (-1), .ref q_62, .ref q_63])), (q_62, .inl (cA_64, 60, .inl (upd f_2045 (22 : Int32).toNatClampNeg (vp_nar .boolean 0)))), (q_63, .inl (cA_65, 60, .inl f_2046)), (q_3, .inr (0, [.int 0, .int 0, .int 0, .int 0, .ref q_4, .ref q_5, .ref q_6, .ref q_7, .ref q_8, .ref q_9, .ref q_10, .ref q_11, .ref q_12, .ref q_13, .ref q_14, .ref q_15, .ref q_16, .ref q_17, .ref q_18])), (q_4, .inl (cA_19, 301, .inl g0_2001)), (q_15, .inl (cA_20, 301, .inl g1_2002))] := hD
  generalize (upd f_2045 (22 : Int32).toNatClampNeg (vp_nar .boolean 0)) = f_2047 at hP hD
  refine lv_aload_n hx hb dX7_begin_72 rfl (lv_at hl 1 rfl) ?_
  refine va_get (D := (dC, dI)) (ci := 7) (v := .ref q_63) (C := RX7) (T := TX7) (N := 18) hx hb hts mem_X7_begin_0 hown hK hP 0 rfl rfl 17 (by decide) (ow (k := 15) rfl) (fun _ h9 => h9) rfl dX7_begin_73 ?_
  refine lv_iload hx hb dX7_begin_76 (lv_at hl 0 rfl) ?_
  refine lv_iconst (v := (-1)) hx hb dX7_begin_78 (by decide) ?_
  refine va_iast hx hb hK hP hD hS 2 1 rfl rfl (show vp_in 22 60 by rw [vp_in_iff]; decide) dX7_begin_79 (fun H locs hP hD hS => ?_)
  have hP : va_P (dC, dI) vwP [(q_60, .inr (7, [.int 0, .ref q_1, .int 0, .int 0, .int 1, .int 0, .int 0, .int 0, .ref q_3, .int 0, .int 0, .int 0, .int 0, .long 0, .int 0, .int (-1), .ref q_62, .ref q_63])), (q_62, .inl (cA_64, 60, .inl f_2047)), (q_63, .inl (cA_65, 60, .inl (upd f_2046 (22 : Int32).toNatClampNeg (-1)))), (q_3, .inr (0, [.int 0, .int 0, .int 0, .int 0, .ref q_4, .ref q_5, .ref q_6, .ref q_7, .ref q_8, .ref q_9, .ref q_10, .ref q_11, .ref q_12, .ref q_13, .ref q_14, .ref q_15, .ref q_16, .ref q_17, .ref q_18])), (q_4, .inl (cA_19, 301, .inl g0_2001)), (q_15, .inl (cA_20, 301, .inl g1_2002))] H := hP
  have hD : va_D A [(q_60, .inr (7, [.int 0, .ref q_1, .int 0, .int 0, .int 1, .int 0, .int 0, .int 0, .ref q_3, .int 0, .int 0, .int 0, .int 0, .long 0, .int 0, .int (-1), .ref q_62, .ref q_63])), (q_62, .inl (cA_64, 60, .inl f_2047)), (q_63, .inl (cA_65, 60, .inl (upd f_2046 (22 : Int32).toNatClampNeg (-1)))), (q_3, .inr (0, [.int 0, .int 0, .int 0, .int 0, .ref q_4, .ref q_5, .ref q_6, .ref q_7, .ref q_8, .ref q_9, .ref q_10, .ref q_11, .ref q_12, .ref q_13, .ref q_14, .ref q_15, .ref q_16, .ref q_17, .ref q_18])), (q_4, .inl (cA_19, 301, .inl g0_2001)), (q_15, .inl (cA_20, 301, .inl g1_2002))] := hD
  generalize (upd f_2046 (22 : Int32).toNatClampNeg (-1)) = f_2048 at hP hD
  refine lv_iinc (v := 23) (lv' := [(4, .int 23), (0, .ref q_60), (1, .ref q_1), (2, .int 0), (3, .ref q_3)]) hx hb dX7_begin_80 hl (k := 0) rfl (by decide) (by decide) rfl (fun ls hl => ?_)
  refine lv_goto (tgt := 57) hx hb dX7_begin_83 (by decide) ?_
  refine lv_iload hx hb dX7_begin_57 (lv_at hl 0 rfl) ?_
  refine lv_bipush (v := 60) hx hb dX7_begin_59 (by decide) ?_
  refine lv_icmp_ge (tgt := 86) hx hb dX7_begin_61 (by decide) (fun h9 => absurd h9 (by decide)) (fun _ => ?_)
  refine lv_aload_n hx hb dX7_begin_64 rfl (lv_at hl 1 rfl) ?_
  refine va_get (D := (dC, dI)) (ci := 7) (v := .ref q_62) (C := RX7) (T := TX7) (N := 18) hx hb hts mem_X7_begin_0 hown hK hP 0 rfl rfl 16 (by decide) (ow (k := 14) rfl) (fun _ h9 => h9) rfl dX7_begin_65 ?_
  refine lv_iload hx hb dX7_begin_68 (lv_at hl 0 rfl) ?_
  refine lv_iconst (v := 0) hx hb dX7_begin_70 (by decide) ?_
  refine va_zast hx hb hK hP hD hS 1 0 rfl rfl (show vp_in 23 60 by rw [vp_in_iff]; decide) dX7_begin_71 (fun H locs hP hD hS => ?_)
  have hP : va_P (dC, dI) vwP [(q_60, .inr (7, [.int 0, .ref q_1, .int 0, .int 0, .int 1, .int 0, .int 0, .int 0, .ref q_3, .int 0, .int 0, .int 0, .int 0, .long 0, .int 0, .int (-1), .ref q_62, .ref q_63])), (q_62, .inl (cA_64, 60, .inl (upd f_2047 (23 : Int32).toNatClampNeg (vp_nar .boolean 0)))), (q_63, .inl (cA_65, 60, .inl f_2048)), (q_3, .inr (0, [.int 0, .int 0, .int 0, .int 0, .ref q_4, .ref q_5, .ref q_6, .ref q_7, .ref q_8, .ref q_9, .ref q_10, .ref q_11, .ref q_12, .ref q_13, .ref q_14, .ref q_15, .ref q_16, .ref q_17, .ref q_18])), (q_4, .inl (cA_19, 301, .inl g0_2001)), (q_15, .inl (cA_20, 301, .inl g1_2002))] H := hP
  have hD : va_D A [(q_60, .inr (7, [.int 0, .ref q_1, .int 0, .int 0, .int 1, .int 0, .int 0, .int 0, .ref q_3, .int 0, .int 0, .int 0, .int 0, .long 0, .int 0, .int (-1), .ref q_62, .ref q_63])), (q_62, .inl (cA_64, 60, .inl (upd f_2047 (23 : Int32).toNatClampNeg (vp_nar .boolean 0)))), (q_63, .inl (cA_65, 60, .inl f_2048)), (q_3, .inr (0, [.int 0, .int 0, .int 0, .int 0, .ref q_4, .ref q_5, .ref q_6, .ref q_7, .ref q_8, .ref q_9, .ref q_10, .ref q_11, .ref q_12, .ref q_13, .ref q_14, .ref q_15, .ref q_16, .ref q_17, .ref q_18])), (q_4, .inl (cA_19, 301, .inl g0_2001)), (q_15, .inl (cA_20, 301, .inl g1_2002))] := hD
  generalize (upd f_2047 (23 : Int32).toNatClampNeg (vp_nar .boolean 0)) = f_2049 at hP hD
  refine lv_aload_n hx hb dX7_begin_72 rfl (lv_at hl 1 rfl) ?_
  refine va_get (D := (dC, dI)) (ci := 7) (v := .ref q_63) (C := RX7) (T := TX7) (N := 18) hx hb hts mem_X7_begin_0 hown hK hP 0 rfl rfl 17 (by decide) (ow (k := 15) rfl) (fun _ h9 => h9) rfl dX7_begin_73 ?_
  refine lv_iload hx hb dX7_begin_76 (lv_at hl 0 rfl) ?_
  refine lv_iconst (v := (-1)) hx hb dX7_begin_78 (by decide) ?_
  refine va_iast hx hb hK hP hD hS 2 1 rfl rfl (show vp_in 23 60 by rw [vp_in_iff]; decide) dX7_begin_79 (fun H locs hP hD hS => ?_)
  have hP : va_P (dC, dI) vwP [(q_60, .inr (7, [.int 0, .ref q_1, .int 0, .int 0, .int 1, .int 0, .int 0, .int 0, .ref q_3, .int 0, .int 0, .int 0, .int 0, .long 0, .int 0, .int (-1), .ref q_62, .ref q_63])), (q_62, .inl (cA_64, 60, .inl f_2049)), (q_63, .inl (cA_65, 60, .inl (upd f_2048 (23 : Int32).toNatClampNeg (-1)))), (q_3, .inr (0, [.int 0, .int 0, .int 0, .int 0, .ref q_4, .ref q_5, .ref q_6, .ref q_7, .ref q_8, .ref q_9, .ref q_10, .ref q_11, .ref q_12, .ref q_13, .ref q_14, .ref q_15, .ref q_16, .ref q_17, .ref q_18])), (q_4, .inl (cA_19, 301, .inl g0_2001)), (q_15, .inl (cA_20, 301, .inl g1_2002))] H := hP
  have hD : va_D A [(q_60, .inr (7, [.int 0, .ref q_1, .int 0, .int 0, .int 1, .int 0, .int 0, .int 0, .ref q_3, .int 0, .int 0, .int 0, .int 0, .long 0, .int 0, .int (-1), .ref q_62, .ref q_63])), (q_62, .inl (cA_64, 60, .inl f_2049)), (q_63, .inl (cA_65, 60, .inl (upd f_2048 (23 : Int32).toNatClampNeg (-1)))), (q_3, .inr (0, [.int 0, .int 0, .int 0, .int 0, .ref q_4, .ref q_5, .ref q_6, .ref q_7, .ref q_8, .ref q_9, .ref q_10, .ref q_11, .ref q_12, .ref q_13, .ref q_14, .ref q_15, .ref q_16, .ref q_17, .ref q_18])), (q_4, .inl (cA_19, 301, .inl g0_2001)), (q_15, .inl (cA_20, 301, .inl g1_2002))] := hD
  generalize (upd f_2048 (23 : Int32).toNatClampNeg (-1)) = f_2050 at hP hD
  refine lv_iinc (v := 24) (lv' := [(4, .int 24), (0, .ref q_60), (1, .ref q_1), (2, .int 0), (3, .ref q_3)]) hx hb dX7_begin_80 hl (k := 0) rfl (by decide) (by decide) rfl (fun ls hl => ?_)
  refine lv_goto (tgt := 57) hx hb dX7_begin_83 (by decide) ?_
  refine lv_iload hx hb dX7_begin_57 (lv_at hl 0 rfl) ?_
  refine lv_bipush (v := 60) hx hb dX7_begin_59 (by decide) ?_
  refine lv_icmp_ge (tgt := 86) hx hb dX7_begin_61 (by decide) (fun h9 => absurd h9 (by decide)) (fun _ => ?_)
  refine lv_aload_n hx hb dX7_begin_64 rfl (lv_at hl 1 rfl) ?_
  refine va_get (D := (dC, dI)) (ci := 7) (v := .ref q_62) (C := RX7) (T := TX7) (N := 18) hx hb hts mem_X7_begin_0 hown hK hP 0 rfl rfl 16 (by decide) (ow (k := 14) rfl) (fun _ h9 => h9) rfl dX7_begin_65 ?_
  refine lv_iload hx hb dX7_begin_68 (lv_at hl 0 rfl) ?_
  refine lv_iconst (v := 0) hx hb dX7_begin_70 (by decide) ?_
  refine va_zast hx hb hK hP hD hS 1 0 rfl rfl (show vp_in 24 60 by rw [vp_in_iff]; decide) dX7_begin_71 (fun H locs hP hD hS => ?_)
  have hP : va_P (dC, dI) vwP [(q_60, .inr (7, [.int 0, .ref q_1, .int 0, .int 0, .int 1, .int 0, .int 0, .int 0, .ref q_3, .int 0, .int 0, .int 0, .int 0, .long 0, .int 0, .int (-1), .ref q_62, .ref q_63])), (q_62, .inl (cA_64, 60, .inl (upd f_2049 (24 : Int32).toNatClampNeg (vp_nar .boolean 0)))), (q_63, .inl (cA_65, 60, .inl f_2050)), (q_3, .inr (0, [.int 0, .int 0, .int 0, .int 0, .ref q_4, .ref q_5, .ref q_6, .ref q_7, .ref q_8, .ref q_9, .ref q_10, .ref q_11, .ref q_12, .ref q_13, .ref q_14, .ref q_15, .ref q_16, .ref q_17, .ref q_18])), (q_4, .inl (cA_19, 301, .inl g0_2001)), (q_15, .inl (cA_20, 301, .inl g1_2002))] H := hP
  have hD : va_D A [(q_60, .inr (7, [.int 0, .ref q_1, .int 0, .int 0, .int 1, .int 0, .int 0, .int 0, .ref q_3, .int 0, .int 0, .int 0, .int 0, .long 0, .int 0, .int (-1), .ref q_62, .ref q_63])), (q_62, .inl (cA_64, 60, .inl (upd f_2049 (24 : Int32).toNatClampNeg (vp_nar .boolean 0)))), (q_63, .inl (cA_65, 60, .inl f_2050)), (q_3, .inr (0, [.int 0, .int 0, .int 0, .int 0, .ref q_4, .ref q_5, .ref q_6, .ref q_7, .ref q_8, .ref q_9, .ref q_10, .ref q_11, .ref q_12, .ref q_13, .ref q_14, .ref q_15, .ref q_16, .ref q_17, .ref q_18])), (q_4, .inl (cA_19, 301, .inl g0_2001)), (q_15, .inl (cA_20, 301, .inl g1_2002))] := hD
  generalize (upd f_2049 (24 : Int32).toNatClampNeg (vp_nar .boolean 0)) = f_2051 at hP hD
  refine lv_aload_n hx hb dX7_begin_72 rfl (lv_at hl 1 rfl) ?_
  refine va_get (D := (dC, dI)) (ci := 7) (v := .ref q_63) (C := RX7) (T := TX7) (N := 18) hx hb hts mem_X7_begin_0 hown hK hP 0 rfl rfl 17 (by decide) (ow (k := 15) rfl) (fun _ h9 => h9) rfl dX7_begin_73 ?_
  refine lv_iload hx hb dX7_begin_76 (lv_at hl 0 rfl) ?_
  refine lv_iconst (v := (-1)) hx hb dX7_begin_78 (by decide) ?_
  refine va_iast hx hb hK hP hD hS 2 1 rfl rfl (show vp_in 24 60 by rw [vp_in_iff]; decide) dX7_begin_79 (fun H locs hP hD hS => ?_)
  have hP : va_P (dC, dI) vwP [(q_60, .inr (7, [.int 0, .ref q_1, .int 0, .int 0, .int 1, .int 0, .int 0, .int 0, .ref q_3, .int 0, .int 0, .int 0, .int 0, .long 0, .int 0, .int (-1), .ref q_62, .ref q_63])), (q_62, .inl (cA_64, 60, .inl f_2051)), (q_63, .inl (cA_65, 60, .inl (upd f_2050 (24 : Int32).toNatClampNeg (-1)))), (q_3, .inr (0, [.int 0, .int 0, .int 0, .int 0, .ref q_4, .ref q_5, .ref q_6, .ref q_7, .ref q_8, .ref q_9, .ref q_10, .ref q_11, .ref q_12, .ref q_13, .ref q_14, .ref q_15, .ref q_16, .ref q_17, .ref q_18])), (q_4, .inl (cA_19, 301, .inl g0_2001)), (q_15, .inl (cA_20, 301, .inl g1_2002))] H := hP
  have hD : va_D A [(q_60, .inr (7, [.int 0, .ref q_1, .int 0, .int 0, .int 1, .int 0, .int 0, .int 0, .ref q_3, .int 0, .int 0, .int 0, .int 0, .long 0, .int 0, .int (-1), .ref q_62, .ref q_63])), (q_62, .inl (cA_64, 60, .inl f_2051)), (q_63, .inl (cA_65, 60, .inl (upd f_2050 (24 : Int32).toNatClampNeg (-1)))), (q_3, .inr (0, [.int 0, .int 0, .int 0, .int 0, .ref q_4, .ref q_5, .ref q_6, .ref q_7, .ref q_8, .ref q_9, .ref q_10, .ref q_11, .ref q_12, .ref q_13, .ref q_14, .ref q_15, .ref q_16, .ref q_17, .ref q_18])), (q_4, .inl (cA_19, 301, .inl g0_2001)), (q_15, .inl (cA_20, 301, .inl g1_2002))] := hD
  generalize (upd f_2050 (24 : Int32).toNatClampNeg (-1)) = f_2052 at hP hD
  refine lv_iinc (v := 25) (lv' := [(4, .int 25), (0, .ref q_60), (1, .ref q_1), (2, .int 0), (3, .ref q_3)]) hx hb dX7_begin_80 hl (k := 0) rfl (by decide) (by decide) rfl (fun ls hl => ?_)
  refine lv_goto (tgt := 57) hx hb dX7_begin_83 (by decide) ?_
  refine lv_iload hx hb dX7_begin_57 (lv_at hl 0 rfl) ?_
  refine lv_bipush (v := 60) hx hb dX7_begin_59 (by decide) ?_
  refine lv_icmp_ge (tgt := 86) hx hb dX7_begin_61 (by decide) (fun h9 => absurd h9 (by decide)) (fun _ => ?_)
  refine lv_aload_n hx hb dX7_begin_64 rfl (lv_at hl 1 rfl) ?_
  refine va_get (D := (dC, dI)) (ci := 7) (v := .ref q_62) (C := RX7) (T := TX7) (N := 18) hx hb hts mem_X7_begin_0 hown hK hP 0 rfl rfl 16 (by decide) (ow (k := 14) rfl) (fun _ h9 => h9) rfl dX7_begin_65 ?_
  refine lv_iload hx hb dX7_begin_68 (lv_at hl 0 rfl) ?_
  refine lv_iconst (v := 0) hx hb dX7_begin_70 (by decide) ?_
  refine va_zast hx hb hK hP hD hS 1 0 rfl rfl (show vp_in 25 60 by rw [vp_in_iff]; decide) dX7_begin_71 (fun H locs hP hD hS => ?_)
  have hP : va_P (dC, dI) vwP [(q_60, .inr (7, [.int 0, .ref q_1, .int 0, .int 0, .int 1, .int 0, .int 0, .int 0, .ref q_3, .int 0, .int 0, .int 0, .int 0, .long 0, .int 0, .int (-1), .ref q_62, .ref q_63])), (q_62, .inl (cA_64, 60, .inl (upd f_2051 (25 : Int32).toNatClampNeg (vp_nar .boolean 0)))), (q_63, .inl (cA_65, 60, .inl f_2052)), (q_3, .inr (0, [.int 0, .int 0, .int 0, .int 0, .ref q_4, .ref q_5, .ref q_6, .ref q_7, .ref q_8, .ref q_9, .ref q_10, .ref q_11, .ref q_12, .ref q_13, .ref q_14, .ref q_15, .ref q_16, .ref q_17, .ref q_18])), (q_4, .inl (cA_19, 301, .inl g0_2001)), (q_15, .inl (cA_20, 301, .inl g1_2002))] H := hP
  have hD : va_D A [(q_60, .inr (7, [.int 0, .ref q_1, .int 0, .int 0, .int 1, .int 0, .int 0, .int 0, .ref q_3, .int 0, .int 0, .int 0, .int 0, .long 0, .int 0, .int (-1), .ref q_62, .ref q_63])), (q_62, .inl (cA_64, 60, .inl (upd f_2051 (25 : Int32).toNatClampNeg (vp_nar .boolean 0)))), (q_63, .inl (cA_65, 60, .inl f_2052)), (q_3, .inr (0, [.int 0, .int 0, .int 0, .int 0, .ref q_4, .ref q_5, .ref q_6, .ref q_7, .ref q_8, .ref q_9, .ref q_10, .ref q_11, .ref q_12, .ref q_13, .ref q_14, .ref q_15, .ref q_16, .ref q_17, .ref q_18])), (q_4, .inl (cA_19, 301, .inl g0_2001)), (q_15, .inl (cA_20, 301, .inl g1_2002))] := hD
  generalize (upd f_2051 (25 : Int32).toNatClampNeg (vp_nar .boolean 0)) = f_2053 at hP hD
  refine lv_aload_n hx hb dX7_begin_72 rfl (lv_at hl 1 rfl) ?_
  refine va_get (D := (dC, dI)) (ci := 7) (v := .ref q_63) (C := RX7) (T := TX7) (N := 18) hx hb hts mem_X7_begin_0 hown hK hP 0 rfl rfl 17 (by decide) (ow (k := 15) rfl) (fun _ h9 => h9) rfl dX7_begin_73 ?_
  refine lv_iload hx hb dX7_begin_76 (lv_at hl 0 rfl) ?_
  refine lv_iconst (v := (-1)) hx hb dX7_begin_78 (by decide) ?_
  refine va_iast hx hb hK hP hD hS 2 1 rfl rfl (show vp_in 25 60 by rw [vp_in_iff]; decide) dX7_begin_79 (fun H locs hP hD hS => ?_)
  have hP : va_P (dC, dI) vwP [(q_60, .inr (7, [.int 0, .ref q_1, .int 0, .int 0, .int 1, .int 0, .int 0, .int 0, .ref q_3, .int 0, .int 0, .int 0, .int 0, .long 0, .int 0, .int (-1), .ref q_62, .ref q_63])), (q_62, .inl (cA_64, 60, .inl f_2053)), (q_63, .inl (cA_65, 60, .inl (upd f_2052 (25 : Int32).toNatClampNeg (-1)))), (q_3, .inr (0, [.int 0, .int 0, .int 0, .int 0, .ref q_4, .ref q_5, .ref q_6, .ref q_7, .ref q_8, .ref q_9, .ref q_10, .ref q_11, .ref q_12, .ref q_13, .ref q_14, .ref q_15, .ref q_16, .ref q_17, .ref q_18])), (q_4, .inl (cA_19, 301, .inl g0_2001)), (q_15, .inl (cA_20, 301, .inl g1_2002))] H := hP
  have hD : va_D A [(q_60, .inr (7, [.int 0, .ref q_1, .int 0, .int 0, .int 1, .int 0, .int 0, .int 0, .ref q_3, .int 0, .int 0, .int 0, .int 0, .long 0, .int 0, .int (-1), .ref q_62, .ref q_63])), (q_62, .inl (cA_64, 60, .inl f_2053)), (q_63, .inl (cA_65, 60, .inl (upd f_2052 (25 : Int32).toNatClampNeg (-1)))), (q_3, .inr (0, [.int 0, .int 0, .int 0, .int 0, .ref q_4, .ref q_5, .ref q_6, .ref q_7, .ref q_8, .ref q_9, .ref q_10, .ref q_11, .ref q_12, .ref q_13, .ref q_14, .ref q_15, .ref q_16, .ref q_17, .ref q_18])), (q_4, .inl (cA_19, 301, .inl g0_2001)), (q_15, .inl (cA_20, 301, .inl g1_2002))] := hD
  generalize (upd f_2052 (25 : Int32).toNatClampNeg (-1)) = f_2054 at hP hD
  refine lv_iinc (v := 26) (lv' := [(4, .int 26), (0, .ref q_60), (1, .ref q_1), (2, .int 0), (3, .ref q_3)]) hx hb dX7_begin_80 hl (k := 0) rfl (by decide) (by decide) rfl (fun ls hl => ?_)
  refine lv_goto (tgt := 57) hx hb dX7_begin_83 (by decide) ?_
  refine lv_iload hx hb dX7_begin_57 (lv_at hl 0 rfl) ?_
  refine lv_bipush (v := 60) hx hb dX7_begin_59 (by decide) ?_
  refine lv_icmp_ge (tgt := 86) hx hb dX7_begin_61 (by decide) (fun h9 => absurd h9 (by decide)) (fun _ => ?_)
  refine lv_aload_n hx hb dX7_begin_64 rfl (lv_at hl 1 rfl) ?_
  refine va_get (D := (dC, dI)) (ci := 7) (v := .ref q_62) (C := RX7) (T := TX7) (N := 18) hx hb hts mem_X7_begin_0 hown hK hP 0 rfl rfl 16 (by decide) (ow (k := 14) rfl) (fun _ h9 => h9) rfl dX7_begin_65 ?_
  refine lv_iload hx hb dX7_begin_68 (lv_at hl 0 rfl) ?_
  refine lv_iconst (v := 0) hx hb dX7_begin_70 (by decide) ?_
  refine va_zast hx hb hK hP hD hS 1 0 rfl rfl (show vp_in 26 60 by rw [vp_in_iff]; decide) dX7_begin_71 (fun H locs hP hD hS => ?_)
  have hP : va_P (dC, dI) vwP [(q_60, .inr (7, [.int 0, .ref q_1, .int 0, .int 0, .int 1, .int 0, .int 0, .int 0, .ref q_3, .int 0, .int 0, .int 0, .int 0, .long 0, .int 0, .int (-1), .ref q_62, .ref q_63])), (q_62, .inl (cA_64, 60, .inl (upd f_2053 (26 : Int32).toNatClampNeg (vp_nar .boolean 0)))), (q_63, .inl (cA_65, 60, .inl f_2054)), (q_3, .inr (0, [.int 0, .int 0, .int 0, .int 0, .ref q_4, .ref q_5, .ref q_6, .ref q_7, .ref q_8, .ref q_9, .ref q_10, .ref q_11, .ref q_12, .ref q_13, .ref q_14, .ref q_15, .ref q_16, .ref q_17, .ref q_18])), (q_4, .inl (cA_19, 301, .inl g0_2001)), (q_15, .inl (cA_20, 301, .inl g1_2002))] H := hP
  have hD : va_D A [(q_60, .inr (7, [.int 0, .ref q_1, .int 0, .int 0, .int 1, .int 0, .int 0, .int 0, .ref q_3, .int 0, .int 0, .int 0, .int 0, .long 0, .int 0, .int (-1), .ref q_62, .ref q_63])), (q_62, .inl (cA_64, 60, .inl (upd f_2053 (26 : Int32).toNatClampNeg (vp_nar .boolean 0)))), (q_63, .inl (cA_65, 60, .inl f_2054)), (q_3, .inr (0, [.int 0, .int 0, .int 0, .int 0, .ref q_4, .ref q_5, .ref q_6, .ref q_7, .ref q_8, .ref q_9, .ref q_10, .ref q_11, .ref q_12, .ref q_13, .ref q_14, .ref q_15, .ref q_16, .ref q_17, .ref q_18])), (q_4, .inl (cA_19, 301, .inl g0_2001)), (q_15, .inl (cA_20, 301, .inl g1_2002))] := hD
  generalize (upd f_2053 (26 : Int32).toNatClampNeg (vp_nar .boolean 0)) = f_2055 at hP hD
  refine lv_aload_n hx hb dX7_begin_72 rfl (lv_at hl 1 rfl) ?_
  refine va_get (D := (dC, dI)) (ci := 7) (v := .ref q_63) (C := RX7) (T := TX7) (N := 18) hx hb hts mem_X7_begin_0 hown hK hP 0 rfl rfl 17 (by decide) (ow (k := 15) rfl) (fun _ h9 => h9) rfl dX7_begin_73 ?_
  refine lv_iload hx hb dX7_begin_76 (lv_at hl 0 rfl) ?_
  refine lv_iconst (v := (-1)) hx hb dX7_begin_78 (by decide) ?_
  refine va_iast hx hb hK hP hD hS 2 1 rfl rfl (show vp_in 26 60 by rw [vp_in_iff]; decide) dX7_begin_79 (fun H locs hP hD hS => ?_)
  have hP : va_P (dC, dI) vwP [(q_60, .inr (7, [.int 0, .ref q_1, .int 0, .int 0, .int 1, .int 0, .int 0, .int 0, .ref q_3, .int 0, .int 0, .int 0, .int 0, .long 0, .int 0, .int (-1), .ref q_62, .ref q_63])), (q_62, .inl (cA_64, 60, .inl f_2055)), (q_63, .inl (cA_65, 60, .inl (upd f_2054 (26 : Int32).toNatClampNeg (-1)))), (q_3, .inr (0, [.int 0, .int 0, .int 0, .int 0, .ref q_4, .ref q_5, .ref q_6, .ref q_7, .ref q_8, .ref q_9, .ref q_10, .ref q_11, .ref q_12, .ref q_13, .ref q_14, .ref q_15, .ref q_16, .ref q_17, .ref q_18])), (q_4, .inl (cA_19, 301, .inl g0_2001)), (q_15, .inl (cA_20, 301, .inl g1_2002))] H := hP
  have hD : va_D A [(q_60, .inr (7, [.int 0, .ref q_1, .int 0, .int 0, .int 1, .int 0, .int 0, .int 0, .ref q_3, .int 0, .int 0, .int 0, .int 0, .long 0, .int 0, .int (-1), .ref q_62, .ref q_63])), (q_62, .inl (cA_64, 60, .inl f_2055)), (q_63, .inl (cA_65, 60, .inl (upd f_2054 (26 : Int32).toNatClampNeg (-1)))), (q_3, .inr (0, [.int 0, .int 0, .int 0, .int 0, .ref q_4, .ref q_5, .ref q_6, .ref q_7, .ref q_8, .ref q_9, .ref q_10, .ref q_11, .ref q_12, .ref q_13, .ref q_14, .ref q_15, .ref q_16, .ref q_17, .ref q_18])), (q_4, .inl (cA_19, 301, .inl g0_2001)), (q_15, .inl (cA_20, 301, .inl g1_2002))] := hD
  generalize (upd f_2054 (26 : Int32).toNatClampNeg (-1)) = f_2056 at hP hD
  refine lv_iinc (v := 27) (lv' := [(4, .int 27), (0, .ref q_60), (1, .ref q_1), (2, .int 0), (3, .ref q_3)]) hx hb dX7_begin_80 hl (k := 0) rfl (by decide) (by decide) rfl (fun ls hl => ?_)
  refine lv_goto (tgt := 57) hx hb dX7_begin_83 (by decide) ?_
  refine lv_iload hx hb dX7_begin_57 (lv_at hl 0 rfl) ?_
  refine lv_bipush (v := 60) hx hb dX7_begin_59 (by decide) ?_
  refine lv_icmp_ge (tgt := 86) hx hb dX7_begin_61 (by decide) (fun h9 => absurd h9 (by decide)) (fun _ => ?_)
  refine lv_aload_n hx hb dX7_begin_64 rfl (lv_at hl 1 rfl) ?_
  refine va_get (D := (dC, dI)) (ci := 7) (v := .ref q_62) (C := RX7) (T := TX7) (N := 18) hx hb hts mem_X7_begin_0 hown hK hP 0 rfl rfl 16 (by decide) (ow (k := 14) rfl) (fun _ h9 => h9) rfl dX7_begin_65 ?_
  refine lv_iload hx hb dX7_begin_68 (lv_at hl 0 rfl) ?_
  refine lv_iconst (v := 0) hx hb dX7_begin_70 (by decide) ?_
  refine va_zast hx hb hK hP hD hS 1 0 rfl rfl (show vp_in 27 60 by rw [vp_in_iff]; decide) dX7_begin_71 (fun H locs hP hD hS => ?_)
  have hP : va_P (dC, dI) vwP [(q_60, .inr (7, [.int 0, .ref q_1, .int 0, .int 0, .int 1, .int 0, .int 0, .int 0, .ref q_3, .int 0, .int 0, .int 0, .int 0, .long 0, .int 0, .int (-1), .ref q_62, .ref q_63])), (q_62, .inl (cA_64, 60, .inl (upd f_2055 (27 : Int32).toNatClampNeg (vp_nar .boolean 0)))), (q_63, .inl (cA_65, 60, .inl f_2056)), (q_3, .inr (0, [.int 0, .int 0, .int 0, .int 0, .ref q_4, .ref q_5, .ref q_6, .ref q_7, .ref q_8, .ref q_9, .ref q_10, .ref q_11, .ref q_12, .ref q_13, .ref q_14, .ref q_15, .ref q_16, .ref q_17, .ref q_18])), (q_4, .inl (cA_19, 301, .inl g0_2001)), (q_15, .inl (cA_20, 301, .inl g1_2002))] H := hP
  have hD : va_D A [(q_60, .inr (7, [.int 0, .ref q_1, .int 0, .int 0, .int 1, .int 0, .int 0, .int 0, .ref q_3, .int 0, .int 0, .int 0, .int 0, .long 0, .int 0, .int (-1), .ref q_62, .ref q_63])), (q_62, .inl (cA_64, 60, .inl (upd f_2055 (27 : Int32).toNatClampNeg (vp_nar .boolean 0)))), (q_63, .inl (cA_65, 60, .inl f_2056)), (q_3, .inr (0, [.int 0, .int 0, .int 0, .int 0, .ref q_4, .ref q_5, .ref q_6, .ref q_7, .ref q_8, .ref q_9, .ref q_10, .ref q_11, .ref q_12, .ref q_13, .ref q_14, .ref q_15, .ref q_16, .ref q_17, .ref q_18])), (q_4, .inl (cA_19, 301, .inl g0_2001)), (q_15, .inl (cA_20, 301, .inl g1_2002))] := hD
  generalize (upd f_2055 (27 : Int32).toNatClampNeg (vp_nar .boolean 0)) = f_2057 at hP hD
  refine lv_aload_n hx hb dX7_begin_72 rfl (lv_at hl 1 rfl) ?_
  refine va_get (D := (dC, dI)) (ci := 7) (v := .ref q_63) (C := RX7) (T := TX7) (N := 18) hx hb hts mem_X7_begin_0 hown hK hP 0 rfl rfl 17 (by decide) (ow (k := 15) rfl) (fun _ h9 => h9) rfl dX7_begin_73 ?_
  refine lv_iload hx hb dX7_begin_76 (lv_at hl 0 rfl) ?_
  refine lv_iconst (v := (-1)) hx hb dX7_begin_78 (by decide) ?_
  refine va_iast hx hb hK hP hD hS 2 1 rfl rfl (show vp_in 27 60 by rw [vp_in_iff]; decide) dX7_begin_79 (fun H locs hP hD hS => ?_)
  have hP : va_P (dC, dI) vwP [(q_60, .inr (7, [.int 0, .ref q_1, .int 0, .int 0, .int 1, .int 0, .int 0, .int 0, .ref q_3, .int 0, .int 0, .int 0, .int 0, .long 0, .int 0, .int (-1), .ref q_62, .ref q_63])), (q_62, .inl (cA_64, 60, .inl f_2057)), (q_63, .inl (cA_65, 60, .inl (upd f_2056 (27 : Int32).toNatClampNeg (-1)))), (q_3, .inr (0, [.int 0, .int 0, .int 0, .int 0, .ref q_4, .ref q_5, .ref q_6, .ref q_7, .ref q_8, .ref q_9, .ref q_10, .ref q_11, .ref q_12, .ref q_13, .ref q_14, .ref q_15, .ref q_16, .ref q_17, .ref q_18])), (q_4, .inl (cA_19, 301, .inl g0_2001)), (q_15, .inl (cA_20, 301, .inl g1_2002))] H := hP
  have hD : va_D A [(q_60, .inr (7, [.int 0, .ref q_1, .int 0, .int 0, .int 1, .int 0, .int 0, .int 0, .ref q_3, .int 0, .int 0, .int 0, .int 0, .long 0, .int 0, .int (-1), .ref q_62, .ref q_63])), (q_62, .inl (cA_64, 60, .inl f_2057)), (q_63, .inl (cA_65, 60, .inl (upd f_2056 (27 : Int32).toNatClampNeg (-1)))), (q_3, .inr (0, [.int 0, .int 0, .int 0, .int 0, .ref q_4, .ref q_5, .ref q_6, .ref q_7, .ref q_8, .ref q_9, .ref q_10, .ref q_11, .ref q_12, .ref q_13, .ref q_14, .ref q_15, .ref q_16, .ref q_17, .ref q_18])), (q_4, .inl (cA_19, 301, .inl g0_2001)), (q_15, .inl (cA_20, 301, .inl g1_2002))] := hD
  generalize (upd f_2056 (27 : Int32).toNatClampNeg (-1)) = f_2058 at hP hD
  refine lv_iinc (v := 28) (lv' := [(4, .int 28), (0, .ref q_60), (1, .ref q_1), (2, .int 0), (3, .ref q_3)]) hx hb dX7_begin_80 hl (k := 0) rfl (by decide) (by decide) rfl (fun ls hl => ?_)
  refine lv_goto (tgt := 57) hx hb dX7_begin_83 (by decide) ?_
  refine lv_iload hx hb dX7_begin_57 (lv_at hl 0 rfl) ?_
  refine lv_bipush (v := 60) hx hb dX7_begin_59 (by decide) ?_
  refine lv_icmp_ge (tgt := 86) hx hb dX7_begin_61 (by decide) (fun h9 => absurd h9 (by decide)) (fun _ => ?_)
  refine lv_aload_n hx hb dX7_begin_64 rfl (lv_at hl 1 rfl) ?_
  refine va_get (D := (dC, dI)) (ci := 7) (v := .ref q_62) (C := RX7) (T := TX7) (N := 18) hx hb hts mem_X7_begin_0 hown hK hP 0 rfl rfl 16 (by decide) (ow (k := 14) rfl) (fun _ h9 => h9) rfl dX7_begin_65 ?_
  refine lv_iload hx hb dX7_begin_68 (lv_at hl 0 rfl) ?_
  refine lv_iconst (v := 0) hx hb dX7_begin_70 (by decide) ?_
  refine va_zast hx hb hK hP hD hS 1 0 rfl rfl (show vp_in 28 60 by rw [vp_in_iff]; decide) dX7_begin_71 (fun H locs hP hD hS => ?_)
  have hP : va_P (dC, dI) vwP [(q_60, .inr (7, [.int 0, .ref q_1, .int 0, .int 0, .int 1, .int 0, .int 0, .int 0, .ref q_3, .int 0, .int 0, .int 0, .int 0, .long 0, .int 0, .int (-1), .ref q_62, .ref q_63])), (q_62, .inl (cA_64, 60, .inl (upd f_2057 (28 : Int32).toNatClampNeg (vp_nar .boolean 0)))), (q_63, .inl (cA_65, 60, .inl f_2058)), (q_3, .inr (0, [.int 0, .int 0, .int 0, .int 0, .ref q_4, .ref q_5, .ref q_6, .ref q_7, .ref q_8, .ref q_9, .ref q_10, .ref q_11, .ref q_12, .ref q_13, .ref q_14, .ref q_15, .ref q_16, .ref q_17, .ref q_18])), (q_4, .inl (cA_19, 301, .inl g0_2001)), (q_15, .inl (cA_20, 301, .inl g1_2002))] H := hP
  have hD : va_D A [(q_60, .inr (7, [.int 0, .ref q_1, .int 0, .int 0, .int 1, .int 0, .int 0, .int 0, .ref q_3, .int 0, .int 0, .int 0, .int 0, .long 0, .int 0, .int (-1), .ref q_62, .ref q_63])), (q_62, .inl (cA_64, 60, .inl (upd f_2057 (28 : Int32).toNatClampNeg (vp_nar .boolean 0)))), (q_63, .inl (cA_65, 60, .inl f_2058)), (q_3, .inr (0, [.int 0, .int 0, .int 0, .int 0, .ref q_4, .ref q_5, .ref q_6, .ref q_7, .ref q_8, .ref q_9, .ref q_10, .ref q_11, .ref q_12, .ref q_13, .ref q_14, .ref q_15, .ref q_16, .ref q_17, .ref q_18])), (q_4, .inl (cA_19, 301, .inl g0_2001)), (q_15, .inl (cA_20, 301, .inl g1_2002))] := hD
  generalize (upd f_2057 (28 : Int32).toNatClampNeg (vp_nar .boolean 0)) = f_2059 at hP hD
  refine lv_aload_n hx hb dX7_begin_72 rfl (lv_at hl 1 rfl) ?_
  refine va_get (D := (dC, dI)) (ci := 7) (v := .ref q_63) (C := RX7) (T := TX7) (N := 18) hx hb hts mem_X7_begin_0 hown hK hP 0 rfl rfl 17 (by decide) (ow (k := 15) rfl) (fun _ h9 => h9) rfl dX7_begin_73 ?_
  refine lv_iload hx hb dX7_begin_76 (lv_at hl 0 rfl) ?_
  refine lv_iconst (v := (-1)) hx hb dX7_begin_78 (by decide) ?_
  refine va_iast hx hb hK hP hD hS 2 1 rfl rfl (show vp_in 28 60 by rw [vp_in_iff]; decide) dX7_begin_79 (fun H locs hP hD hS => ?_)
  have hP : va_P (dC, dI) vwP [(q_60, .inr (7, [.int 0, .ref q_1, .int 0, .int 0, .int 1, .int 0, .int 0, .int 0, .ref q_3, .int 0, .int 0, .int 0, .int 0, .long 0, .int 0, .int (-1), .ref q_62, .ref q_63])), (q_62, .inl (cA_64, 60, .inl f_2059)), (q_63, .inl (cA_65, 60, .inl (upd f_2058 (28 : Int32).toNatClampNeg (-1)))), (q_3, .inr (0, [.int 0, .int 0, .int 0, .int 0, .ref q_4, .ref q_5, .ref q_6, .ref q_7, .ref q_8, .ref q_9, .ref q_10, .ref q_11, .ref q_12, .ref q_13, .ref q_14, .ref q_15, .ref q_16, .ref q_17, .ref q_18])), (q_4, .inl (cA_19, 301, .inl g0_2001)), (q_15, .inl (cA_20, 301, .inl g1_2002))] H := hP
  have hD : va_D A [(q_60, .inr (7, [.int 0, .ref q_1, .int 0, .int 0, .int 1, .int 0, .int 0, .int 0, .ref q_3, .int 0, .int 0, .int 0, .int 0, .long 0, .int 0, .int (-1), .ref q_62, .ref q_63])), (q_62, .inl (cA_64, 60, .inl f_2059)), (q_63, .inl (cA_65, 60, .inl (upd f_2058 (28 : Int32).toNatClampNeg (-1)))), (q_3, .inr (0, [.int 0, .int 0, .int 0, .int 0, .ref q_4, .ref q_5, .ref q_6, .ref q_7, .ref q_8, .ref q_9, .ref q_10, .ref q_11, .ref q_12, .ref q_13, .ref q_14, .ref q_15, .ref q_16, .ref q_17, .ref q_18])), (q_4, .inl (cA_19, 301, .inl g0_2001)), (q_15, .inl (cA_20, 301, .inl g1_2002))] := hD
  generalize (upd f_2058 (28 : Int32).toNatClampNeg (-1)) = f_2060 at hP hD
  refine lv_iinc (v := 29) (lv' := [(4, .int 29), (0, .ref q_60), (1, .ref q_1), (2, .int 0), (3, .ref q_3)]) hx hb dX7_begin_80 hl (k := 0) rfl (by decide) (by decide) rfl (fun ls hl => ?_)
  refine lv_goto (tgt := 57) hx hb dX7_begin_83 (by decide) ?_
  refine lv_iload hx hb dX7_begin_57 (lv_at hl 0 rfl) ?_
  refine lv_bipush (v := 60) hx hb dX7_begin_59 (by decide) ?_
  refine lv_icmp_ge (tgt := 86) hx hb dX7_begin_61 (by decide) (fun h9 => absurd h9 (by decide)) (fun _ => ?_)
  refine lv_aload_n hx hb dX7_begin_64 rfl (lv_at hl 1 rfl) ?_
  refine va_get (D := (dC, dI)) (ci := 7) (v := .ref q_62) (C := RX7) (T := TX7) (N := 18) hx hb hts mem_X7_begin_0 hown hK hP 0 rfl rfl 16 (by decide) (ow (k := 14) rfl) (fun _ h9 => h9) rfl dX7_begin_65 ?_
  refine lv_iload hx hb dX7_begin_68 (lv_at hl 0 rfl) ?_
  refine lv_iconst (v := 0) hx hb dX7_begin_70 (by decide) ?_
  refine va_zast hx hb hK hP hD hS 1 0 rfl rfl (show vp_in 29 60 by rw [vp_in_iff]; decide) dX7_begin_71 (fun H locs hP hD hS => ?_)
  have hP : va_P (dC, dI) vwP [(q_60, .inr (7, [.int 0, .ref q_1, .int 0, .int 0, .int 1, .int 0, .int 0, .int 0, .ref q_3, .int 0, .int 0, .int 0, .int 0, .long 0, .int 0, .int (-1), .ref q_62, .ref q_63])), (q_62, .inl (cA_64, 60, .inl (upd f_2059 (29 : Int32).toNatClampNeg (vp_nar .boolean 0)))), (q_63, .inl (cA_65, 60, .inl f_2060)), (q_3, .inr (0, [.int 0, .int 0, .int 0, .int 0, .ref q_4, .ref q_5, .ref q_6, .ref q_7, .ref q_8, .ref q_9, .ref q_10, .ref q_11, .ref q_12, .ref q_13, .ref q_14, .ref q_15, .ref q_16, .ref q_17, .ref q_18])), (q_4, .inl (cA_19, 301, .inl g0_2001)), (q_15, .inl (cA_20, 301, .inl g1_2002))] H := hP
  have hD : va_D A [(q_60, .inr (7, [.int 0, .ref q_1, .int 0, .int 0, .int 1, .int 0, .int 0, .int 0, .ref q_3, .int 0, .int 0, .int 0, .int 0, .long 0, .int 0, .int (-1), .ref q_62, .ref q_63])), (q_62, .inl (cA_64, 60, .inl (upd f_2059 (29 : Int32).toNatClampNeg (vp_nar .boolean 0)))), (q_63, .inl (cA_65, 60, .inl f_2060)), (q_3, .inr (0, [.int 0, .int 0, .int 0, .int 0, .ref q_4, .ref q_5, .ref q_6, .ref q_7, .ref q_8, .ref q_9, .ref q_10, .ref q_11, .ref q_12, .ref q_13, .ref q_14, .ref q_15, .ref q_16, .ref q_17, .ref q_18])), (q_4, .inl (cA_19, 301, .inl g0_2001)), (q_15, .inl (cA_20, 301, .inl g1_2002))] := hD
  generalize (upd f_2059 (29 : Int32).toNatClampNeg (vp_nar .boolean 0)) = f_2061 at hP hD
  refine lv_aload_n hx hb dX7_begin_72 rfl (lv_at hl 1 rfl) ?_
  refine va_get (D := (dC, dI)) (ci := 7) (v := .ref q_63) (C := RX7) (T := TX7) (N := 18) hx hb hts mem_X7_begin_0 hown hK hP 0 rfl rfl 17 (by decide) (ow (k := 15) rfl) (fun _ h9 => h9) rfl dX7_begin_73 ?_
  refine lv_iload hx hb dX7_begin_76 (lv_at hl 0 rfl) ?_
  refine lv_iconst (v := (-1)) hx hb dX7_begin_78 (by decide) ?_
  refine va_iast hx hb hK hP hD hS 2 1 rfl rfl (show vp_in 29 60 by rw [vp_in_iff]; decide) dX7_begin_79 (fun H locs hP hD hS => ?_)
  have hP : va_P (dC, dI) vwP [(q_60, .inr (7, [.int 0, .ref q_1, .int 0, .int 0, .int 1, .int 0, .int 0, .int 0, .ref q_3, .int 0, .int 0, .int 0, .int 0, .long 0, .int 0, .int (-1), .ref q_62, .ref q_63])), (q_62, .inl (cA_64, 60, .inl f_2061)), (q_63, .inl (cA_65, 60, .inl (upd f_2060 (29 : Int32).toNatClampNeg (-1)))), (q_3, .inr (0, [.int 0, .int 0, .int 0, .int 0, .ref q_4, .ref q_5, .ref q_6, .ref q_7, .ref q_8, .ref q_9, .ref q_10, .ref q_11, .ref q_12, .ref q_13, .ref q_14, .ref q_15, .ref q_16, .ref q_17, .ref q_18])), (q_4, .inl (cA_19, 301, .inl g0_2001)), (q_15, .inl (cA_20, 301, .inl g1_2002))] H := hP
  have hD : va_D A [(q_60, .inr (7, [.int 0, .ref q_1, .int 0, .int 0, .int 1, .int 0, .int 0, .int 0, .ref q_3, .int 0, .int 0, .int 0, .int 0, .long 0, .int 0, .int (-1), .ref q_62, .ref q_63])), (q_62, .inl (cA_64, 60, .inl f_2061)), (q_63, .inl (cA_65, 60, .inl (upd f_2060 (29 : Int32).toNatClampNeg (-1)))), (q_3, .inr (0, [.int 0, .int 0, .int 0, .int 0, .ref q_4, .ref q_5, .ref q_6, .ref q_7, .ref q_8, .ref q_9, .ref q_10, .ref q_11, .ref q_12, .ref q_13, .ref q_14, .ref q_15, .ref q_16, .ref q_17, .ref q_18])), (q_4, .inl (cA_19, 301, .inl g0_2001)), (q_15, .inl (cA_20, 301, .inl g1_2002))] := hD
  generalize (upd f_2060 (29 : Int32).toNatClampNeg (-1)) = f_2062 at hP hD
  refine lv_iinc (v := 30) (lv' := [(4, .int 30), (0, .ref q_60), (1, .ref q_1), (2, .int 0), (3, .ref q_3)]) hx hb dX7_begin_80 hl (k := 0) rfl (by decide) (by decide) rfl (fun ls hl => ?_)
  refine lv_goto (tgt := 57) hx hb dX7_begin_83 (by decide) ?_
  refine lv_iload hx hb dX7_begin_57 (lv_at hl 0 rfl) ?_
  refine lv_bipush (v := 60) hx hb dX7_begin_59 (by decide) ?_
  refine lv_icmp_ge (tgt := 86) hx hb dX7_begin_61 (by decide) (fun h9 => absurd h9 (by decide)) (fun _ => ?_)
  refine lv_aload_n hx hb dX7_begin_64 rfl (lv_at hl 1 rfl) ?_
  refine va_get (D := (dC, dI)) (ci := 7) (v := .ref q_62) (C := RX7) (T := TX7) (N := 18) hx hb hts mem_X7_begin_0 hown hK hP 0 rfl rfl 16 (by decide) (ow (k := 14) rfl) (fun _ h9 => h9) rfl dX7_begin_65 ?_
  refine lv_iload hx hb dX7_begin_68 (lv_at hl 0 rfl) ?_
  refine lv_iconst (v := 0) hx hb dX7_begin_70 (by decide) ?_
  refine va_zast hx hb hK hP hD hS 1 0 rfl rfl (show vp_in 30 60 by rw [vp_in_iff]; decide) dX7_begin_71 (fun H locs hP hD hS => ?_)
  have hP : va_P (dC, dI) vwP [(q_60, .inr (7, [.int 0, .ref q_1, .int 0, .int 0, .int 1, .int 0, .int 0, .int 0, .ref q_3, .int 0, .int 0, .int 0, .int 0, .long 0, .int 0, .int (-1), .ref q_62, .ref q_63])), (q_62, .inl (cA_64, 60, .inl (upd f_2061 (30 : Int32).toNatClampNeg (vp_nar .boolean 0)))), (q_63, .inl (cA_65, 60, .inl f_2062)), (q_3, .inr (0, [.int 0, .int 0, .int 0, .int 0, .ref q_4, .ref q_5, .ref q_6, .ref q_7, .ref q_8, .ref q_9, .ref q_10, .ref q_11, .ref q_12, .ref q_13, .ref q_14, .ref q_15, .ref q_16, .ref q_17, .ref q_18])), (q_4, .inl (cA_19, 301, .inl g0_2001)), (q_15, .inl (cA_20, 301, .inl g1_2002))] H := hP
  have hD : va_D A [(q_60, .inr (7, [.int 0, .ref q_1, .int 0, .int 0, .int 1, .int 0, .int 0, .int 0, .ref q_3, .int 0, .int 0, .int 0, .int 0, .long 0, .int 0, .int (-1), .ref q_62, .ref q_63])), (q_62, .inl (cA_64, 60, .inl (upd f_2061 (30 : Int32).toNatClampNeg (vp_nar .boolean 0)))), (q_63, .inl (cA_65, 60, .inl f_2062)), (q_3, .inr (0, [.int 0, .int 0, .int 0, .int 0, .ref q_4, .ref q_5, .ref q_6, .ref q_7, .ref q_8, .ref q_9, .ref q_10, .ref q_11, .ref q_12, .ref q_13, .ref q_14, .ref q_15, .ref q_16, .ref q_17, .ref q_18])), (q_4, .inl (cA_19, 301, .inl g0_2001)), (q_15, .inl (cA_20, 301, .inl g1_2002))] := hD
  generalize (upd f_2061 (30 : Int32).toNatClampNeg (vp_nar .boolean 0)) = f_2063 at hP hD
  refine lv_aload_n hx hb dX7_begin_72 rfl (lv_at hl 1 rfl) ?_
  refine va_get (D := (dC, dI)) (ci := 7) (v := .ref q_63) (C := RX7) (T := TX7) (N := 18) hx hb hts mem_X7_begin_0 hown hK hP 0 rfl rfl 17 (by decide) (ow (k := 15) rfl) (fun _ h9 => h9) rfl dX7_begin_73 ?_
  refine lv_iload hx hb dX7_begin_76 (lv_at hl 0 rfl) ?_
  refine lv_iconst (v := (-1)) hx hb dX7_begin_78 (by decide) ?_
  refine va_iast hx hb hK hP hD hS 2 1 rfl rfl (show vp_in 30 60 by rw [vp_in_iff]; decide) dX7_begin_79 (fun H locs hP hD hS => ?_)
  have hP : va_P (dC, dI) vwP [(q_60, .inr (7, [.int 0, .ref q_1, .int 0, .int 0, .int 1, .int 0, .int 0, .int 0, .ref q_3, .int 0, .int 0, .int 0, .int 0, .long 0, .int 0, .int (-1), .ref q_62, .ref q_63])), (q_62, .inl (cA_64, 60, .inl f_2063)), (q_63, .inl (cA_65, 60, .inl (upd f_2062 (30 : Int32).toNatClampNeg (-1)))), (q_3, .inr (0, [.int 0, .int 0, .int 0, .int 0, .ref q_4, .ref q_5, .ref q_6, .ref q_7, .ref q_8, .ref q_9, .ref q_10, .ref q_11, .ref q_12, .ref q_13, .ref q_14, .ref q_15, .ref q_16, .ref q_17, .ref q_18])), (q_4, .inl (cA_19, 301, .inl g0_2001)), (q_15, .inl (cA_20, 301, .inl g1_2002))] H := hP
  have hD : va_D A [(q_60, .inr (7, [.int 0, .ref q_1, .int 0, .int 0, .int 1, .int 0, .int 0, .int 0, .ref q_3, .int 0, .int 0, .int 0, .int 0, .long 0, .int 0, .int (-1), .ref q_62, .ref q_63])), (q_62, .inl (cA_64, 60, .inl f_2063)), (q_63, .inl (cA_65, 60, .inl (upd f_2062 (30 : Int32).toNatClampNeg (-1)))), (q_3, .inr (0, [.int 0, .int 0, .int 0, .int 0, .ref q_4, .ref q_5, .ref q_6, .ref q_7, .ref q_8, .ref q_9, .ref q_10, .ref q_11, .ref q_12, .ref q_13, .ref q_14, .ref q_15, .ref q_16, .ref q_17, .ref q_18])), (q_4, .inl (cA_19, 301, .inl g0_2001)), (q_15, .inl (cA_20, 301, .inl g1_2002))] := hD
  generalize (upd f_2062 (30 : Int32).toNatClampNeg (-1)) = f_2064 at hP hD
  refine lv_iinc (v := 31) (lv' := [(4, .int 31), (0, .ref q_60), (1, .ref q_1), (2, .int 0), (3, .ref q_3)]) hx hb dX7_begin_80 hl (k := 0) rfl (by decide) (by decide) rfl (fun ls hl => ?_)
  refine lv_goto (tgt := 57) hx hb dX7_begin_83 (by decide) ?_
  refine lv_iload hx hb dX7_begin_57 (lv_at hl 0 rfl) ?_
  refine lv_bipush (v := 60) hx hb dX7_begin_59 (by decide) ?_
  refine lv_icmp_ge (tgt := 86) hx hb dX7_begin_61 (by decide) (fun h9 => absurd h9 (by decide)) (fun _ => ?_)
  refine lv_aload_n hx hb dX7_begin_64 rfl (lv_at hl 1 rfl) ?_
  refine va_get (D := (dC, dI)) (ci := 7) (v := .ref q_62) (C := RX7) (T := TX7) (N := 18) hx hb hts mem_X7_begin_0 hown hK hP 0 rfl rfl 16 (by decide) (ow (k := 14) rfl) (fun _ h9 => h9) rfl dX7_begin_65 ?_
  refine lv_iload hx hb dX7_begin_68 (lv_at hl 0 rfl) ?_
  refine lv_iconst (v := 0) hx hb dX7_begin_70 (by decide) ?_
  refine va_zast hx hb hK hP hD hS 1 0 rfl rfl (show vp_in 31 60 by rw [vp_in_iff]; decide) dX7_begin_71 (fun H locs hP hD hS => ?_)
  have hP : va_P (dC, dI) vwP [(q_60, .inr (7, [.int 0, .ref q_1, .int 0, .int 0, .int 1, .int 0, .int 0, .int 0, .ref q_3, .int 0, .int 0, .int 0, .int 0, .long 0, .int 0, .int (-1), .ref q_62, .ref q_63])), (q_62, .inl (cA_64, 60, .inl (upd f_2063 (31 : Int32).toNatClampNeg (vp_nar .boolean 0)))), (q_63, .inl (cA_65, 60, .inl f_2064)), (q_3, .inr (0, [.int 0, .int 0, .int 0, .int 0, .ref q_4, .ref q_5, .ref q_6, .ref q_7, .ref q_8, .ref q_9, .ref q_10, .ref q_11, .ref q_12, .ref q_13, .ref q_14, .ref q_15, .ref q_16, .ref q_17, .ref q_18])), (q_4, .inl (cA_19, 301, .inl g0_2001)), (q_15, .inl (cA_20, 301, .inl g1_2002))] H := hP
  have hD : va_D A [(q_60, .inr (7, [.int 0, .ref q_1, .int 0, .int 0, .int 1, .int 0, .int 0, .int 0, .ref q_3, .int 0, .int 0, .int 0, .int 0, .long 0, .int 0, .int (-1), .ref q_62, .ref q_63])), (q_62, .inl (cA_64, 60, .inl (upd f_2063 (31 : Int32).toNatClampNeg (vp_nar .boolean 0)))), (q_63, .inl (cA_65, 60, .inl f_2064)), (q_3, .inr (0, [.int 0, .int 0, .int 0, .int 0, .ref q_4, .ref q_5, .ref q_6, .ref q_7, .ref q_8, .ref q_9, .ref q_10, .ref q_11, .ref q_12, .ref q_13, .ref q_14, .ref q_15, .ref q_16, .ref q_17, .ref q_18])), (q_4, .inl (cA_19, 301, .inl g0_2001)), (q_15, .inl (cA_20, 301, .inl g1_2002))] := hD
  generalize (upd f_2063 (31 : Int32).toNatClampNeg (vp_nar .boolean 0)) = f_2065 at hP hD
  refine lv_aload_n hx hb dX7_begin_72 rfl (lv_at hl 1 rfl) ?_
  refine va_get (D := (dC, dI)) (ci := 7) (v := .ref q_63) (C := RX7) (T := TX7) (N := 18) hx hb hts mem_X7_begin_0 hown hK hP 0 rfl rfl 17 (by decide) (ow (k := 15) rfl) (fun _ h9 => h9) rfl dX7_begin_73 ?_
  refine lv_iload hx hb dX7_begin_76 (lv_at hl 0 rfl) ?_
  refine lv_iconst (v := (-1)) hx hb dX7_begin_78 (by decide) ?_
  refine va_iast hx hb hK hP hD hS 2 1 rfl rfl (show vp_in 31 60 by rw [vp_in_iff]; decide) dX7_begin_79 (fun H locs hP hD hS => ?_)
  have hP : va_P (dC, dI) vwP [(q_60, .inr (7, [.int 0, .ref q_1, .int 0, .int 0, .int 1, .int 0, .int 0, .int 0, .ref q_3, .int 0, .int 0, .int 0, .int 0, .long 0, .int 0, .int (-1), .ref q_62, .ref q_63])), (q_62, .inl (cA_64, 60, .inl f_2065)), (q_63, .inl (cA_65, 60, .inl (upd f_2064 (31 : Int32).toNatClampNeg (-1)))), (q_3, .inr (0, [.int 0, .int 0, .int 0, .int 0, .ref q_4, .ref q_5, .ref q_6, .ref q_7, .ref q_8, .ref q_9, .ref q_10, .ref q_11, .ref q_12, .ref q_13, .ref q_14, .ref q_15, .ref q_16, .ref q_17, .ref q_18])), (q_4, .inl (cA_19, 301, .inl g0_2001)), (q_15, .inl (cA_20, 301, .inl g1_2002))] H := hP
  have hD : va_D A [(q_60, .inr (7, [.int 0, .ref q_1, .int 0, .int 0, .int 1, .int 0, .int 0, .int 0, .ref q_3, .int 0, .int 0, .int 0, .int 0, .long 0, .int 0, .int (-1), .ref q_62, .ref q_63])), (q_62, .inl (cA_64, 60, .inl f_2065)), (q_63, .inl (cA_65, 60, .inl (upd f_2064 (31 : Int32).toNatClampNeg (-1)))), (q_3, .inr (0, [.int 0, .int 0, .int 0, .int 0, .ref q_4, .ref q_5, .ref q_6, .ref q_7, .ref q_8, .ref q_9, .ref q_10, .ref q_11, .ref q_12, .ref q_13, .ref q_14, .ref q_15, .ref q_16, .ref q_17, .ref q_18])), (q_4, .inl (cA_19, 301, .inl g0_2001)), (q_15, .inl (cA_20, 301, .inl g1_2002))] := hD
  generalize (upd f_2064 (31 : Int32).toNatClampNeg (-1)) = f_2066 at hP hD
  refine lv_iinc (v := 32) (lv' := [(4, .int 32), (0, .ref q_60), (1, .ref q_1), (2, .int 0), (3, .ref q_3)]) hx hb dX7_begin_80 hl (k := 0) rfl (by decide) (by decide) rfl (fun ls hl => ?_)
  refine lv_goto (tgt := 57) hx hb dX7_begin_83 (by decide) ?_
  refine lv_iload hx hb dX7_begin_57 (lv_at hl 0 rfl) ?_
  refine lv_bipush (v := 60) hx hb dX7_begin_59 (by decide) ?_
  refine lv_icmp_ge (tgt := 86) hx hb dX7_begin_61 (by decide) (fun h9 => absurd h9 (by decide)) (fun _ => ?_)
  refine lv_aload_n hx hb dX7_begin_64 rfl (lv_at hl 1 rfl) ?_
  refine va_get (D := (dC, dI)) (ci := 7) (v := .ref q_62) (C := RX7) (T := TX7) (N := 18) hx hb hts mem_X7_begin_0 hown hK hP 0 rfl rfl 16 (by decide) (ow (k := 14) rfl) (fun _ h9 => h9) rfl dX7_begin_65 ?_
  refine lv_iload hx hb dX7_begin_68 (lv_at hl 0 rfl) ?_
  refine lv_iconst (v := 0) hx hb dX7_begin_70 (by decide) ?_
  refine va_zast hx hb hK hP hD hS 1 0 rfl rfl (show vp_in 32 60 by rw [vp_in_iff]; decide) dX7_begin_71 (fun H locs hP hD hS => ?_)
  have hP : va_P (dC, dI) vwP [(q_60, .inr (7, [.int 0, .ref q_1, .int 0, .int 0, .int 1, .int 0, .int 0, .int 0, .ref q_3, .int 0, .int 0, .int 0, .int 0, .long 0, .int 0, .int (-1), .ref q_62, .ref q_63])), (q_62, .inl (cA_64, 60, .inl (upd f_2065 (32 : Int32).toNatClampNeg (vp_nar .boolean 0)))), (q_63, .inl (cA_65, 60, .inl f_2066)), (q_3, .inr (0, [.int 0, .int 0, .int 0, .int 0, .ref q_4, .ref q_5, .ref q_6, .ref q_7, .ref q_8, .ref q_9, .ref q_10, .ref q_11, .ref q_12, .ref q_13, .ref q_14, .ref q_15, .ref q_16, .ref q_17, .ref q_18])), (q_4, .inl (cA_19, 301, .inl g0_2001)), (q_15, .inl (cA_20, 301, .inl g1_2002))] H := hP
  have hD : va_D A [(q_60, .inr (7, [.int 0, .ref q_1, .int 0, .int 0, .int 1, .int 0, .int 0, .int 0, .ref q_3, .int 0, .int 0, .int 0, .int 0, .long 0, .int 0, .int (-1), .ref q_62, .ref q_63])), (q_62, .inl (cA_64, 60, .inl (upd f_2065 (32 : Int32).toNatClampNeg (vp_nar .boolean 0)))), (q_63, .inl (cA_65, 60, .inl f_2066)), (q_3, .inr (0, [.int 0, .int 0, .int 0, .int 0, .ref q_4, .ref q_5, .ref q_6, .ref q_7, .ref q_8, .ref q_9, .ref q_10, .ref q_11, .ref q_12, .ref q_13, .ref q_14, .ref q_15, .ref q_16, .ref q_17, .ref q_18])), (q_4, .inl (cA_19, 301, .inl g0_2001)), (q_15, .inl (cA_20, 301, .inl g1_2002))] := hD
  generalize (upd f_2065 (32 : Int32).toNatClampNeg (vp_nar .boolean 0)) = f_2067 at hP hD
  refine lv_aload_n hx hb dX7_begin_72 rfl (lv_at hl 1 rfl) ?_
  refine va_get (D := (dC, dI)) (ci := 7) (v := .ref q_63) (C := RX7) (T := TX7) (N := 18) hx hb hts mem_X7_begin_0 hown hK hP 0 rfl rfl 17 (by decide) (ow (k := 15) rfl) (fun _ h9 => h9) rfl dX7_begin_73 ?_
  refine lv_iload hx hb dX7_begin_76 (lv_at hl 0 rfl) ?_
  refine lv_iconst (v := (-1)) hx hb dX7_begin_78 (by decide) ?_
  refine va_iast hx hb hK hP hD hS 2 1 rfl rfl (show vp_in 32 60 by rw [vp_in_iff]; decide) dX7_begin_79 (fun H locs hP hD hS => ?_)
  have hP : va_P (dC, dI) vwP [(q_60, .inr (7, [.int 0, .ref q_1, .int 0, .int 0, .int 1, .int 0, .int 0, .int 0, .ref q_3, .int 0, .int 0, .int 0, .int 0, .long 0, .int 0, .int (-1), .ref q_62, .ref q_63])), (q_62, .inl (cA_64, 60, .inl f_2067)), (q_63, .inl (cA_65, 60, .inl (upd f_2066 (32 : Int32).toNatClampNeg (-1)))), (q_3, .inr (0, [.int 0, .int 0, .int 0, .int 0, .ref q_4, .ref q_5, .ref q_6, .ref q_7, .ref q_8, .ref q_9, .ref q_10, .ref q_11, .ref q_12, .ref q_13, .ref q_14, .ref q_15, .ref q_16, .ref q_17, .ref q_18])), (q_4, .inl (cA_19, 301, .inl g0_2001)), (q_15, .inl (cA_20, 301, .inl g1_2002))] H := hP
  have hD : va_D A [(q_60, .inr (7, [.int 0, .ref q_1, .int 0, .int 0, .int 1, .int 0, .int 0, .int 0, .ref q_3, .int 0, .int 0, .int 0, .int 0, .long 0, .int 0, .int (-1), .ref q_62, .ref q_63])), (q_62, .inl (cA_64, 60, .inl f_2067)), (q_63, .inl (cA_65, 60, .inl (upd f_2066 (32 : Int32).toNatClampNeg (-1)))), (q_3, .inr (0, [.int 0, .int 0, .int 0, .int 0, .ref q_4, .ref q_5, .ref q_6, .ref q_7, .ref q_8, .ref q_9, .ref q_10, .ref q_11, .ref q_12, .ref q_13, .ref q_14, .ref q_15, .ref q_16, .ref q_17, .ref q_18])), (q_4, .inl (cA_19, 301, .inl g0_2001)), (q_15, .inl (cA_20, 301, .inl g1_2002))] := hD
  generalize (upd f_2066 (32 : Int32).toNatClampNeg (-1)) = f_2068 at hP hD
  refine lv_iinc (v := 33) (lv' := [(4, .int 33), (0, .ref q_60), (1, .ref q_1), (2, .int 0), (3, .ref q_3)]) hx hb dX7_begin_80 hl (k := 0) rfl (by decide) (by decide) rfl (fun ls hl => ?_)
  refine lv_goto (tgt := 57) hx hb dX7_begin_83 (by decide) ?_
  refine lv_iload hx hb dX7_begin_57 (lv_at hl 0 rfl) ?_
  refine lv_bipush (v := 60) hx hb dX7_begin_59 (by decide) ?_
  refine lv_icmp_ge (tgt := 86) hx hb dX7_begin_61 (by decide) (fun h9 => absurd h9 (by decide)) (fun _ => ?_)
  refine lv_aload_n hx hb dX7_begin_64 rfl (lv_at hl 1 rfl) ?_
  refine va_get (D := (dC, dI)) (ci := 7) (v := .ref q_62) (C := RX7) (T := TX7) (N := 18) hx hb hts mem_X7_begin_0 hown hK hP 0 rfl rfl 16 (by decide) (ow (k := 14) rfl) (fun _ h9 => h9) rfl dX7_begin_65 ?_
  refine lv_iload hx hb dX7_begin_68 (lv_at hl 0 rfl) ?_
  refine lv_iconst (v := 0) hx hb dX7_begin_70 (by decide) ?_
  refine va_zast hx hb hK hP hD hS 1 0 rfl rfl (show vp_in 33 60 by rw [vp_in_iff]; decide) dX7_begin_71 (fun H locs hP hD hS => ?_)
  have hP : va_P (dC, dI) vwP [(q_60, .inr (7, [.int 0, .ref q_1, .int 0, .int 0, .int 1, .int 0, .int 0, .int 0, .ref q_3, .int 0, .int 0, .int 0, .int 0, .long 0, .int 0, .int (-1), .ref q_62, .ref q_63])), (q_62, .inl (cA_64, 60, .inl (upd f_2067 (33 : Int32).toNatClampNeg (vp_nar .boolean 0)))), (q_63, .inl (cA_65, 60, .inl f_2068)), (q_3, .inr (0, [.int 0, .int 0, .int 0, .int 0, .ref q_4, .ref q_5, .ref q_6, .ref q_7, .ref q_8, .ref q_9, .ref q_10, .ref q_11, .ref q_12, .ref q_13, .ref q_14, .ref q_15, .ref q_16, .ref q_17, .ref q_18])), (q_4, .inl (cA_19, 301, .inl g0_2001)), (q_15, .inl (cA_20, 301, .inl g1_2002))] H := hP
  have hD : va_D A [(q_60, .inr (7, [.int 0, .ref q_1, .int 0, .int 0, .int 1, .int 0, .int 0, .int 0, .ref q_3, .int 0, .int 0, .int 0, .int 0, .long 0, .int 0, .int (-1), .ref q_62, .ref q_63])), (q_62, .inl (cA_64, 60, .inl (upd f_2067 (33 : Int32).toNatClampNeg (vp_nar .boolean 0)))), (q_63, .inl (cA_65, 60, .inl f_2068)), (q_3, .inr (0, [.int 0, .int 0, .int 0, .int 0, .ref q_4, .ref q_5, .ref q_6, .ref q_7, .ref q_8, .ref q_9, .ref q_10, .ref q_11, .ref q_12, .ref q_13, .ref q_14, .ref q_15, .ref q_16, .ref q_17, .ref q_18])), (q_4, .inl (cA_19, 301, .inl g0_2001)), (q_15, .inl (cA_20, 301, .inl g1_2002))] := hD
  generalize (upd f_2067 (33 : Int32).toNatClampNeg (vp_nar .boolean 0)) = f_2069 at hP hD
  refine lv_aload_n hx hb dX7_begin_72 rfl (lv_at hl 1 rfl) ?_
  refine va_get (D := (dC, dI)) (ci := 7) (v := .ref q_63) (C := RX7) (T := TX7) (N := 18) hx hb hts mem_X7_begin_0 hown hK hP 0 rfl rfl 17 (by decide) (ow (k := 15) rfl) (fun _ h9 => h9) rfl dX7_begin_73 ?_
  refine lv_iload hx hb dX7_begin_76 (lv_at hl 0 rfl) ?_
  refine lv_iconst (v := (-1)) hx hb dX7_begin_78 (by decide) ?_
  refine va_iast hx hb hK hP hD hS 2 1 rfl rfl (show vp_in 33 60 by rw [vp_in_iff]; decide) dX7_begin_79 (fun H locs hP hD hS => ?_)
  have hP : va_P (dC, dI) vwP [(q_60, .inr (7, [.int 0, .ref q_1, .int 0, .int 0, .int 1, .int 0, .int 0, .int 0, .ref q_3, .int 0, .int 0, .int 0, .int 0, .long 0, .int 0, .int (-1), .ref q_62, .ref q_63])), (q_62, .inl (cA_64, 60, .inl f_2069)), (q_63, .inl (cA_65, 60, .inl (upd f_2068 (33 : Int32).toNatClampNeg (-1)))), (q_3, .inr (0, [.int 0, .int 0, .int 0, .int 0, .ref q_4, .ref q_5, .ref q_6, .ref q_7, .ref q_8, .ref q_9, .ref q_10, .ref q_11, .ref q_12, .ref q_13, .ref q_14, .ref q_15, .ref q_16, .ref q_17, .ref q_18])), (q_4, .inl (cA_19, 301, .inl g0_2001)), (q_15, .inl (cA_20, 301, .inl g1_2002))] H := hP
  have hD : va_D A [(q_60, .inr (7, [.int 0, .ref q_1, .int 0, .int 0, .int 1, .int 0, .int 0, .int 0, .ref q_3, .int 0, .int 0, .int 0, .int 0, .long 0, .int 0, .int (-1), .ref q_62, .ref q_63])), (q_62, .inl (cA_64, 60, .inl f_2069)), (q_63, .inl (cA_65, 60, .inl (upd f_2068 (33 : Int32).toNatClampNeg (-1)))), (q_3, .inr (0, [.int 0, .int 0, .int 0, .int 0, .ref q_4, .ref q_5, .ref q_6, .ref q_7, .ref q_8, .ref q_9, .ref q_10, .ref q_11, .ref q_12, .ref q_13, .ref q_14, .ref q_15, .ref q_16, .ref q_17, .ref q_18])), (q_4, .inl (cA_19, 301, .inl g0_2001)), (q_15, .inl (cA_20, 301, .inl g1_2002))] := hD
  generalize (upd f_2068 (33 : Int32).toNatClampNeg (-1)) = f_2070 at hP hD
  refine lv_iinc (v := 34) (lv' := [(4, .int 34), (0, .ref q_60), (1, .ref q_1), (2, .int 0), (3, .ref q_3)]) hx hb dX7_begin_80 hl (k := 0) rfl (by decide) (by decide) rfl (fun ls hl => ?_)
  refine lv_goto (tgt := 57) hx hb dX7_begin_83 (by decide) ?_
  refine lv_iload hx hb dX7_begin_57 (lv_at hl 0 rfl) ?_
  refine lv_bipush (v := 60) hx hb dX7_begin_59 (by decide) ?_
  refine lv_icmp_ge (tgt := 86) hx hb dX7_begin_61 (by decide) (fun h9 => absurd h9 (by decide)) (fun _ => ?_)
  refine lv_aload_n hx hb dX7_begin_64 rfl (lv_at hl 1 rfl) ?_
  refine va_get (D := (dC, dI)) (ci := 7) (v := .ref q_62) (C := RX7) (T := TX7) (N := 18) hx hb hts mem_X7_begin_0 hown hK hP 0 rfl rfl 16 (by decide) (ow (k := 14) rfl) (fun _ h9 => h9) rfl dX7_begin_65 ?_
  refine lv_iload hx hb dX7_begin_68 (lv_at hl 0 rfl) ?_
  refine lv_iconst (v := 0) hx hb dX7_begin_70 (by decide) ?_
  refine va_zast hx hb hK hP hD hS 1 0 rfl rfl (show vp_in 34 60 by rw [vp_in_iff]; decide) dX7_begin_71 (fun H locs hP hD hS => ?_)
  have hP : va_P (dC, dI) vwP [(q_60, .inr (7, [.int 0, .ref q_1, .int 0, .int 0, .int 1, .int 0, .int 0, .int 0, .ref q_3, .int 0, .int 0, .int 0, .int 0, .long 0, .int 0, .int (-1), .ref q_62, .ref q_63])), (q_62, .inl (cA_64, 60, .inl (upd f_2069 (34 : Int32).toNatClampNeg (vp_nar .boolean 0)))), (q_63, .inl (cA_65, 60, .inl f_2070)), (q_3, .inr (0, [.int 0, .int 0, .int 0, .int 0, .ref q_4, .ref q_5, .ref q_6, .ref q_7, .ref q_8, .ref q_9, .ref q_10, .ref q_11, .ref q_12, .ref q_13, .ref q_14, .ref q_15, .ref q_16, .ref q_17, .ref q_18])), (q_4, .inl (cA_19, 301, .inl g0_2001)), (q_15, .inl (cA_20, 301, .inl g1_2002))] H := hP
  have hD : va_D A [(q_60, .inr (7, [.int 0, .ref q_1, .int 0, .int 0, .int 1, .int 0, .int 0, .int 0, .ref q_3, .int 0, .int 0, .int 0, .int 0, .long 0, .int 0, .int (-1), .ref q_62, .ref q_63])), (q_62, .inl (cA_64, 60, .inl (upd f_2069 (34 : Int32).toNatClampNeg (vp_nar .boolean 0)))), (q_63, .inl (cA_65, 60, .inl f_2070)), (q_3, .inr (0, [.int 0, .int 0, .int 0, .int 0, .ref q_4, .ref q_5, .ref q_6, .ref q_7, .ref q_8, .ref q_9, .ref q_10, .ref q_11, .ref q_12, .ref q_13, .ref q_14, .ref q_15, .ref q_16, .ref q_17, .ref q_18])), (q_4, .inl (cA_19, 301, .inl g0_2001)), (q_15, .inl (cA_20, 301, .inl g1_2002))] := hD
  generalize (upd f_2069 (34 : Int32).toNatClampNeg (vp_nar .boolean 0)) = f_2071 at hP hD
  refine lv_aload_n hx hb dX7_begin_72 rfl (lv_at hl 1 rfl) ?_
  refine va_get (D := (dC, dI)) (ci := 7) (v := .ref q_63) (C := RX7) (T := TX7) (N := 18) hx hb hts mem_X7_begin_0 hown hK hP 0 rfl rfl 17 (by decide) (ow (k := 15) rfl) (fun _ h9 => h9) rfl dX7_begin_73 ?_
  refine lv_iload hx hb dX7_begin_76 (lv_at hl 0 rfl) ?_
  refine lv_iconst (v := (-1)) hx hb dX7_begin_78 (by decide) ?_
  refine va_iast hx hb hK hP hD hS 2 1 rfl rfl (show vp_in 34 60 by rw [vp_in_iff]; decide) dX7_begin_79 (fun H locs hP hD hS => ?_)
  have hP : va_P (dC, dI) vwP [(q_60, .inr (7, [.int 0, .ref q_1, .int 0, .int 0, .int 1, .int 0, .int 0, .int 0, .ref q_3, .int 0, .int 0, .int 0, .int 0, .long 0, .int 0, .int (-1), .ref q_62, .ref q_63])), (q_62, .inl (cA_64, 60, .inl f_2071)), (q_63, .inl (cA_65, 60, .inl (upd f_2070 (34 : Int32).toNatClampNeg (-1)))), (q_3, .inr (0, [.int 0, .int 0, .int 0, .int 0, .ref q_4, .ref q_5, .ref q_6, .ref q_7, .ref q_8, .ref q_9, .ref q_10, .ref q_11, .ref q_12, .ref q_13, .ref q_14, .ref q_15, .ref q_16, .ref q_17, .ref q_18])), (q_4, .inl (cA_19, 301, .inl g0_2001)), (q_15, .inl (cA_20, 301, .inl g1_2002))] H := hP
  have hD : va_D A [(q_60, .inr (7, [.int 0, .ref q_1, .int 0, .int 0, .int 1, .int 0, .int 0, .int 0, .ref q_3, .int 0, .int 0, .int 0, .int 0, .long 0, .int 0, .int (-1), .ref q_62, .ref q_63])), (q_62, .inl (cA_64, 60, .inl f_2071)), (q_63, .inl (cA_65, 60, .inl (upd f_2070 (34 : Int32).toNatClampNeg (-1)))), (q_3, .inr (0, [.int 0, .int 0, .int 0, .int 0, .ref q_4, .ref q_5, .ref q_6, .ref q_7, .ref q_8, .ref q_9, .ref q_10, .ref q_11, .ref q_12, .ref q_13, .ref q_14, .ref q_15, .ref q_16, .ref q_17, .ref q_18])), (q_4, .inl (cA_19, 301, .inl g0_2001)), (q_15, .inl (cA_20, 301, .inl g1_2002))] := hD
  generalize (upd f_2070 (34 : Int32).toNatClampNeg (-1)) = f_2072 at hP hD
  refine lv_iinc (v := 35) (lv' := [(4, .int 35), (0, .ref q_60), (1, .ref q_1), (2, .int 0), (3, .ref q_3)]) hx hb dX7_begin_80 hl (k := 0) rfl (by decide) (by decide) rfl (fun ls hl => ?_)
  refine lv_goto (tgt := 57) hx hb dX7_begin_83 (by decide) ?_
  refine lv_iload hx hb dX7_begin_57 (lv_at hl 0 rfl) ?_
  refine lv_bipush (v := 60) hx hb dX7_begin_59 (by decide) ?_
  refine lv_icmp_ge (tgt := 86) hx hb dX7_begin_61 (by decide) (fun h9 => absurd h9 (by decide)) (fun _ => ?_)
  refine lv_aload_n hx hb dX7_begin_64 rfl (lv_at hl 1 rfl) ?_
  refine va_get (D := (dC, dI)) (ci := 7) (v := .ref q_62) (C := RX7) (T := TX7) (N := 18) hx hb hts mem_X7_begin_0 hown hK hP 0 rfl rfl 16 (by decide) (ow (k := 14) rfl) (fun _ h9 => h9) rfl dX7_begin_65 ?_
  refine lv_iload hx hb dX7_begin_68 (lv_at hl 0 rfl) ?_
  refine lv_iconst (v := 0) hx hb dX7_begin_70 (by decide) ?_
  refine va_zast hx hb hK hP hD hS 1 0 rfl rfl (show vp_in 35 60 by rw [vp_in_iff]; decide) dX7_begin_71 (fun H locs hP hD hS => ?_)
  have hP : va_P (dC, dI) vwP [(q_60, .inr (7, [.int 0, .ref q_1, .int 0, .int 0, .int 1, .int 0, .int 0, .int 0, .ref q_3, .int 0, .int 0, .int 0, .int 0, .long 0, .int 0, .int (-1), .ref q_62, .ref q_63])), (q_62, .inl (cA_64, 60, .inl (upd f_2071 (35 : Int32).toNatClampNeg (vp_nar .boolean 0)))), (q_63, .inl (cA_65, 60, .inl f_2072)), (q_3, .inr (0, [.int 0, .int 0, .int 0, .int 0, .ref q_4, .ref q_5, .ref q_6, .ref q_7, .ref q_8, .ref q_9, .ref q_10, .ref q_11, .ref q_12, .ref q_13, .ref q_14, .ref q_15, .ref q_16, .ref q_17, .ref q_18])), (q_4, .inl (cA_19, 301, .inl g0_2001)), (q_15, .inl (cA_20, 301, .inl g1_2002))] H := hP
  have hD : va_D A [(q_60, .inr (7, [.int 0, .ref q_1, .int 0, .int 0, .int 1, .int 0, .int 0, .int 0, .ref q_3, .int 0, .int 0, .int 0, .int 0, .long 0, .int 0, .int (-1), .ref q_62, .ref q_63])), (q_62, .inl (cA_64, 60, .inl (upd f_2071 (35 : Int32).toNatClampNeg (vp_nar .boolean 0)))), (q_63, .inl (cA_65, 60, .inl f_2072)), (q_3, .inr (0, [.int 0, .int 0, .int 0, .int 0, .ref q_4, .ref q_5, .ref q_6, .ref q_7, .ref q_8, .ref q_9, .ref q_10, .ref q_11, .ref q_12, .ref q_13, .ref q_14, .ref q_15, .ref q_16, .ref q_17, .ref q_18])), (q_4, .inl (cA_19, 301, .inl g0_2001)), (q_15, .inl (cA_20, 301, .inl g1_2002))] := hD
  generalize (upd f_2071 (35 : Int32).toNatClampNeg (vp_nar .boolean 0)) = f_2073 at hP hD
  refine lv_aload_n hx hb dX7_begin_72 rfl (lv_at hl 1 rfl) ?_
  refine va_get (D := (dC, dI)) (ci := 7) (v := .ref q_63) (C := RX7) (T := TX7) (N := 18) hx hb hts mem_X7_begin_0 hown hK hP 0 rfl rfl 17 (by decide) (ow (k := 15) rfl) (fun _ h9 => h9) rfl dX7_begin_73 ?_
  refine lv_iload hx hb dX7_begin_76 (lv_at hl 0 rfl) ?_
  refine lv_iconst (v := (-1)) hx hb dX7_begin_78 (by decide) ?_
  refine va_iast hx hb hK hP hD hS 2 1 rfl rfl (show vp_in 35 60 by rw [vp_in_iff]; decide) dX7_begin_79 (fun H locs hP hD hS => ?_)
  have hP : va_P (dC, dI) vwP [(q_60, .inr (7, [.int 0, .ref q_1, .int 0, .int 0, .int 1, .int 0, .int 0, .int 0, .ref q_3, .int 0, .int 0, .int 0, .int 0, .long 0, .int 0, .int (-1), .ref q_62, .ref q_63])), (q_62, .inl (cA_64, 60, .inl f_2073)), (q_63, .inl (cA_65, 60, .inl (upd f_2072 (35 : Int32).toNatClampNeg (-1)))), (q_3, .inr (0, [.int 0, .int 0, .int 0, .int 0, .ref q_4, .ref q_5, .ref q_6, .ref q_7, .ref q_8, .ref q_9, .ref q_10, .ref q_11, .ref q_12, .ref q_13, .ref q_14, .ref q_15, .ref q_16, .ref q_17, .ref q_18])), (q_4, .inl (cA_19, 301, .inl g0_2001)), (q_15, .inl (cA_20, 301, .inl g1_2002))] H := hP
  have hD : va_D A [(q_60, .inr (7, [.int 0, .ref q_1, .int 0, .int 0, .int 1, .int 0, .int 0, .int 0, .ref q_3, .int 0, .int 0, .int 0, .int 0, .long 0, .int 0, .int (-1), .ref q_62, .ref q_63])), (q_62, .inl (cA_64, 60, .inl f_2073)), (q_63, .inl (cA_65, 60, .inl (upd f_2072 (35 : Int32).toNatClampNeg (-1)))), (q_3, .inr (0, [.int 0, .int 0, .int 0, .int 0, .ref q_4, .ref q_5, .ref q_6, .ref q_7, .ref q_8, .ref q_9, .ref q_10, .ref q_11, .ref q_12, .ref q_13, .ref q_14, .ref q_15, .ref q_16, .ref q_17, .ref q_18])), (q_4, .inl (cA_19, 301, .inl g0_2001)), (q_15, .inl (cA_20, 301, .inl g1_2002))] := hD
  generalize (upd f_2072 (35 : Int32).toNatClampNeg (-1)) = f_2074 at hP hD
  refine lv_iinc (v := 36) (lv' := [(4, .int 36), (0, .ref q_60), (1, .ref q_1), (2, .int 0), (3, .ref q_3)]) hx hb dX7_begin_80 hl (k := 0) rfl (by decide) (by decide) rfl (fun ls hl => ?_)
  refine lv_goto (tgt := 57) hx hb dX7_begin_83 (by decide) ?_
  refine lv_iload hx hb dX7_begin_57 (lv_at hl 0 rfl) ?_
  refine lv_bipush (v := 60) hx hb dX7_begin_59 (by decide) ?_
  refine lv_icmp_ge (tgt := 86) hx hb dX7_begin_61 (by decide) (fun h9 => absurd h9 (by decide)) (fun _ => ?_)
  refine lv_aload_n hx hb dX7_begin_64 rfl (lv_at hl 1 rfl) ?_
  refine va_get (D := (dC, dI)) (ci := 7) (v := .ref q_62) (C := RX7) (T := TX7) (N := 18) hx hb hts mem_X7_begin_0 hown hK hP 0 rfl rfl 16 (by decide) (ow (k := 14) rfl) (fun _ h9 => h9) rfl dX7_begin_65 ?_
  refine lv_iload hx hb dX7_begin_68 (lv_at hl 0 rfl) ?_
  refine lv_iconst (v := 0) hx hb dX7_begin_70 (by decide) ?_
  refine va_zast hx hb hK hP hD hS 1 0 rfl rfl (show vp_in 36 60 by rw [vp_in_iff]; decide) dX7_begin_71 (fun H locs hP hD hS => ?_)
  have hP : va_P (dC, dI) vwP [(q_60, .inr (7, [.int 0, .ref q_1, .int 0, .int 0, .int 1, .int 0, .int 0, .int 0, .ref q_3, .int 0, .int 0, .int 0, .int 0, .long 0, .int 0, .int (-1), .ref q_62, .ref q_63])), (q_62, .inl (cA_64, 60, .inl (upd f_2073 (36 : Int32).toNatClampNeg (vp_nar .boolean 0)))), (q_63, .inl (cA_65, 60, .inl f_2074)), (q_3, .inr (0, [.int 0, .int 0, .int 0, .int 0, .ref q_4, .ref q_5, .ref q_6, .ref q_7, .ref q_8, .ref q_9, .ref q_10, .ref q_11, .ref q_12, .ref q_13, .ref q_14, .ref q_15, .ref q_16, .ref q_17, .ref q_18])), (q_4, .inl (cA_19, 301, .inl g0_2001)), (q_15, .inl (cA_20, 301, .inl g1_2002))] H := hP
  have hD : va_D A [(q_60, .inr (7, [.int 0, .ref q_1, .int 0, .int 0, .int 1, .int 0, .int 0, .int 0, .ref q_3, .int 0, .int 0, .int 0, .int 0, .long 0, .int 0, .int (-1), .ref q_62, .ref q_63])), (q_62, .inl (cA_64, 60, .inl (upd f_2073 (36 : Int32).toNatClampNeg (vp_nar .boolean 0)))), (q_63, .inl (cA_65, 60, .inl f_2074)), (q_3, .inr (0, [.int 0, .int 0, .int 0, .int 0, .ref q_4, .ref q_5, .ref q_6, .ref q_7, .ref q_8, .ref q_9, .ref q_10, .ref q_11, .ref q_12, .ref q_13, .ref q_14, .ref q_15, .ref q_16, .ref q_17, .ref q_18])), (q_4, .inl (cA_19, 301, .inl g0_2001)), (q_15, .inl (cA_20, 301, .inl g1_2002))] := hD
  generalize (upd f_2073 (36 : Int32).toNatClampNeg (vp_nar .boolean 0)) = f_2075 at hP hD
  refine lv_aload_n hx hb dX7_begin_72 rfl (lv_at hl 1 rfl) ?_
  refine va_get (D := (dC, dI)) (ci := 7) (v := .ref q_63) (C := RX7) (T := TX7) (N := 18) hx hb hts mem_X7_begin_0 hown hK hP 0 rfl rfl 17 (by decide) (ow (k := 15) rfl) (fun _ h9 => h9) rfl dX7_begin_73 ?_
  refine lv_iload hx hb dX7_begin_76 (lv_at hl 0 rfl) ?_
  refine lv_iconst (v := (-1)) hx hb dX7_begin_78 (by decide) ?_
  refine va_iast hx hb hK hP hD hS 2 1 rfl rfl (show vp_in 36 60 by rw [vp_in_iff]; decide) dX7_begin_79 (fun H locs hP hD hS => ?_)
  have hP : va_P (dC, dI) vwP [(q_60, .inr (7, [.int 0, .ref q_1, .int 0, .int 0, .int 1, .int 0, .int 0, .int 0, .ref q_3, .int 0, .int 0, .int 0, .int 0, .long 0, .int 0, .int (-1), .ref q_62, .ref q_63])), (q_62, .inl (cA_64, 60, .inl f_2075)), (q_63, .inl (cA_65, 60, .inl (upd f_2074 (36 : Int32).toNatClampNeg (-1)))), (q_3, .inr (0, [.int 0, .int 0, .int 0, .int 0, .ref q_4, .ref q_5, .ref q_6, .ref q_7, .ref q_8, .ref q_9, .ref q_10, .ref q_11, .ref q_12, .ref q_13, .ref q_14, .ref q_15, .ref q_16, .ref q_17, .ref q_18])), (q_4, .inl (cA_19, 301, .inl g0_2001)), (q_15, .inl (cA_20, 301, .inl g1_2002))] H := hP
  have hD : va_D A [(q_60, .inr (7, [.int 0, .ref q_1, .int 0, .int 0, .int 1, .int 0, .int 0, .int 0, .ref q_3, .int 0, .int 0, .int 0, .int 0, .long 0, .int 0, .int (-1), .ref q_62, .ref q_63])), (q_62, .inl (cA_64, 60, .inl f_2075)), (q_63, .inl (cA_65, 60, .inl (upd f_2074 (36 : Int32).toNatClampNeg (-1)))), (q_3, .inr (0, [.int 0, .int 0, .int 0, .int 0, .ref q_4, .ref q_5, .ref q_6, .ref q_7, .ref q_8, .ref q_9, .ref q_10, .ref q_11, .ref q_12, .ref q_13, .ref q_14, .ref q_15, .ref q_16, .ref q_17, .ref q_18])), (q_4, .inl (cA_19, 301, .inl g0_2001)), (q_15, .inl (cA_20, 301, .inl g1_2002))] := hD
  generalize (upd f_2074 (36 : Int32).toNatClampNeg (-1)) = f_2076 at hP hD
  refine lv_iinc (v := 37) (lv' := [(4, .int 37), (0, .ref q_60), (1, .ref q_1), (2, .int 0), (3, .ref q_3)]) hx hb dX7_begin_80 hl (k := 0) rfl (by decide) (by decide) rfl (fun ls hl => ?_)
  refine lv_goto (tgt := 57) hx hb dX7_begin_83 (by decide) ?_
  refine lv_iload hx hb dX7_begin_57 (lv_at hl 0 rfl) ?_
  refine lv_bipush (v := 60) hx hb dX7_begin_59 (by decide) ?_
  refine lv_icmp_ge (tgt := 86) hx hb dX7_begin_61 (by decide) (fun h9 => absurd h9 (by decide)) (fun _ => ?_)
  refine lv_aload_n hx hb dX7_begin_64 rfl (lv_at hl 1 rfl) ?_
  refine va_get (D := (dC, dI)) (ci := 7) (v := .ref q_62) (C := RX7) (T := TX7) (N := 18) hx hb hts mem_X7_begin_0 hown hK hP 0 rfl rfl 16 (by decide) (ow (k := 14) rfl) (fun _ h9 => h9) rfl dX7_begin_65 ?_
  refine lv_iload hx hb dX7_begin_68 (lv_at hl 0 rfl) ?_
  refine lv_iconst (v := 0) hx hb dX7_begin_70 (by decide) ?_
  refine va_zast hx hb hK hP hD hS 1 0 rfl rfl (show vp_in 37 60 by rw [vp_in_iff]; decide) dX7_begin_71 (fun H locs hP hD hS => ?_)
  have hP : va_P (dC, dI) vwP [(q_60, .inr (7, [.int 0, .ref q_1, .int 0, .int 0, .int 1, .int 0, .int 0, .int 0, .ref q_3, .int 0, .int 0, .int 0, .int 0, .long 0, .int 0, .int (-1), .ref q_62, .ref q_63])), (q_62, .inl (cA_64, 60, .inl (upd f_2075 (37 : Int32).toNatClampNeg (vp_nar .boolean 0)))), (q_63, .inl (cA_65, 60, .inl f_2076)), (q_3, .inr (0, [.int 0, .int 0, .int 0, .int 0, .ref q_4, .ref q_5, .ref q_6, .ref q_7, .ref q_8, .ref q_9, .ref q_10, .ref q_11, .ref q_12, .ref q_13, .ref q_14, .ref q_15, .ref q_16, .ref q_17, .ref q_18])), (q_4, .inl (cA_19, 301, .inl g0_2001)), (q_15, .inl (cA_20, 301, .inl g1_2002))] H := hP
  have hD : va_D A [(q_60, .inr (7, [.int 0, .ref q_1, .int 0, .int 0, .int 1, .int 0, .int 0, .int 0, .ref q_3, .int 0, .int 0, .int 0, .int 0, .long 0, .int 0, .int (-1), .ref q_62, .ref q_63])), (q_62, .inl (cA_64, 60, .inl (upd f_2075 (37 : Int32).toNatClampNeg (vp_nar .boolean 0)))), (q_63, .inl (cA_65, 60, .inl f_2076)), (q_3, .inr (0, [.int 0, .int 0, .int 0, .int 0, .ref q_4, .ref q_5, .ref q_6, .ref q_7, .ref q_8, .ref q_9, .ref q_10, .ref q_11, .ref q_12, .ref q_13, .ref q_14, .ref q_15, .ref q_16, .ref q_17, .ref q_18])), (q_4, .inl (cA_19, 301, .inl g0_2001)), (q_15, .inl (cA_20, 301, .inl g1_2002))] := hD
  generalize (upd f_2075 (37 : Int32).toNatClampNeg (vp_nar .boolean 0)) = f_2077 at hP hD
  refine lv_aload_n hx hb dX7_begin_72 rfl (lv_at hl 1 rfl) ?_
  refine va_get (D := (dC, dI)) (ci := 7) (v := .ref q_63) (C := RX7) (T := TX7) (N := 18) hx hb hts mem_X7_begin_0 hown hK hP 0 rfl rfl 17 (by decide) (ow (k := 15) rfl) (fun _ h9 => h9) rfl dX7_begin_73 ?_
  refine lv_iload hx hb dX7_begin_76 (lv_at hl 0 rfl) ?_
  refine lv_iconst (v := (-1)) hx hb dX7_begin_78 (by decide) ?_
  refine va_iast hx hb hK hP hD hS 2 1 rfl rfl (show vp_in 37 60 by rw [vp_in_iff]; decide) dX7_begin_79 (fun H locs hP hD hS => ?_)
  have hP : va_P (dC, dI) vwP [(q_60, .inr (7, [.int 0, .ref q_1, .int 0, .int 0, .int 1, .int 0, .int 0, .int 0, .ref q_3, .int 0, .int 0, .int 0, .int 0, .long 0, .int 0, .int (-1), .ref q_62, .ref q_63])), (q_62, .inl (cA_64, 60, .inl f_2077)), (q_63, .inl (cA_65, 60, .inl (upd f_2076 (37 : Int32).toNatClampNeg (-1)))), (q_3, .inr (0, [.int 0, .int 0, .int 0, .int 0, .ref q_4, .ref q_5, .ref q_6, .ref q_7, .ref q_8, .ref q_9, .ref q_10, .ref q_11, .ref q_12, .ref q_13, .ref q_14, .ref q_15, .ref q_16, .ref q_17, .ref q_18])), (q_4, .inl (cA_19, 301, .inl g0_2001)), (q_15, .inl (cA_20, 301, .inl g1_2002))] H := hP
  have hD : va_D A [(q_60, .inr (7, [.int 0, .ref q_1, .int 0, .int 0, .int 1, .int 0, .int 0, .int 0, .ref q_3, .int 0, .int 0, .int 0, .int 0, .long 0, .int 0, .int (-1), .ref q_62, .ref q_63])), (q_62, .inl (cA_64, 60, .inl f_2077)), (q_63, .inl (cA_65, 60, .inl (upd f_2076 (37 : Int32).toNatClampNeg (-1)))), (q_3, .inr (0, [.int 0, .int 0, .int 0, .int 0, .ref q_4, .ref q_5, .ref q_6, .ref q_7, .ref q_8, .ref q_9, .ref q_10, .ref q_11, .ref q_12, .ref q_13, .ref q_14, .ref q_15, .ref q_16, .ref q_17, .ref q_18])), (q_4, .inl (cA_19, 301, .inl g0_2001)), (q_15, .inl (cA_20, 301, .inl g1_2002))] := hD
  generalize (upd f_2076 (37 : Int32).toNatClampNeg (-1)) = f_2078 at hP hD
  refine lv_iinc (v := 38) (lv' := [(4, .int 38), (0, .ref q_60), (1, .ref q_1), (2, .int 0), (3, .ref q_3)]) hx hb dX7_begin_80 hl (k := 0) rfl (by decide) (by decide) rfl (fun ls hl => ?_)
  refine lv_goto (tgt := 57) hx hb dX7_begin_83 (by decide) ?_
  refine lv_iload hx hb dX7_begin_57 (lv_at hl 0 rfl) ?_
  refine lv_bipush (v := 60) hx hb dX7_begin_59 (by decide) ?_
  refine lv_icmp_ge (tgt := 86) hx hb dX7_begin_61 (by decide) (fun h9 => absurd h9 (by decide)) (fun _ => ?_)
  refine lv_aload_n hx hb dX7_begin_64 rfl (lv_at hl 1 rfl) ?_
  refine va_get (D := (dC, dI)) (ci := 7) (v := .ref q_62) (C := RX7) (T := TX7) (N := 18) hx hb hts mem_X7_begin_0 hown hK hP 0 rfl rfl 16 (by decide) (ow (k := 14) rfl) (fun _ h9 => h9) rfl dX7_begin_65 ?_
  refine lv_iload hx hb dX7_begin_68 (lv_at hl 0 rfl) ?_
  refine lv_iconst (v := 0) hx hb dX7_begin_70 (by decide) ?_
  refine va_zast hx hb hK hP hD hS 1 0 rfl rfl (show vp_in 38 60 by rw [vp_in_iff]; decide) dX7_begin_71 (fun H locs hP hD hS => ?_)
  have hP : va_P (dC, dI) vwP [(q_60, .inr (7, [.int 0, .ref q_1, .int 0, .int 0, .int 1, .int 0, .int 0, .int 0, .ref q_3, .int 0, .int 0, .int 0, .int 0, .long 0, .int 0, .int (-1), .ref q_62, .ref q_63])), (q_62, .inl (cA_64, 60, .inl (upd f_2077 (38 : Int32).toNatClampNeg (vp_nar .boolean 0)))), (q_63, .inl (cA_65, 60, .inl f_2078)), (q_3, .inr (0, [.int 0, .int 0, .int 0, .int 0, .ref q_4, .ref q_5, .ref q_6, .ref q_7, .ref q_8, .ref q_9, .ref q_10, .ref q_11, .ref q_12, .ref q_13, .ref q_14, .ref q_15, .ref q_16, .ref q_17, .ref q_18])), (q_4, .inl (cA_19, 301, .inl g0_2001)), (q_15, .inl (cA_20, 301, .inl g1_2002))] H := hP
  have hD : va_D A [(q_60, .inr (7, [.int 0, .ref q_1, .int 0, .int 0, .int 1, .int 0, .int 0, .int 0, .ref q_3, .int 0, .int 0, .int 0, .int 0, .long 0, .int 0, .int (-1), .ref q_62, .ref q_63])), (q_62, .inl (cA_64, 60, .inl (upd f_2077 (38 : Int32).toNatClampNeg (vp_nar .boolean 0)))), (q_63, .inl (cA_65, 60, .inl f_2078)), (q_3, .inr (0, [.int 0, .int 0, .int 0, .int 0, .ref q_4, .ref q_5, .ref q_6, .ref q_7, .ref q_8, .ref q_9, .ref q_10, .ref q_11, .ref q_12, .ref q_13, .ref q_14, .ref q_15, .ref q_16, .ref q_17, .ref q_18])), (q_4, .inl (cA_19, 301, .inl g0_2001)), (q_15, .inl (cA_20, 301, .inl g1_2002))] := hD
  generalize (upd f_2077 (38 : Int32).toNatClampNeg (vp_nar .boolean 0)) = f_2079 at hP hD
  refine lv_aload_n hx hb dX7_begin_72 rfl (lv_at hl 1 rfl) ?_
  refine va_get (D := (dC, dI)) (ci := 7) (v := .ref q_63) (C := RX7) (T := TX7) (N := 18) hx hb hts mem_X7_begin_0 hown hK hP 0 rfl rfl 17 (by decide) (ow (k := 15) rfl) (fun _ h9 => h9) rfl dX7_begin_73 ?_
  refine lv_iload hx hb dX7_begin_76 (lv_at hl 0 rfl) ?_
  refine lv_iconst (v := (-1)) hx hb dX7_begin_78 (by decide) ?_
  refine va_iast hx hb hK hP hD hS 2 1 rfl rfl (show vp_in 38 60 by rw [vp_in_iff]; decide) dX7_begin_79 (fun H locs hP hD hS => ?_)
  have hP : va_P (dC, dI) vwP [(q_60, .inr (7, [.int 0, .ref q_1, .int 0, .int 0, .int 1, .int 0, .int 0, .int 0, .ref q_3, .int 0, .int 0, .int 0, .int 0, .long 0, .int 0, .int (-1), .ref q_62, .ref q_63])), (q_62, .inl (cA_64, 60, .inl f_2079)), (q_63, .inl (cA_65, 60, .inl (upd f_2078 (38 : Int32).toNatClampNeg (-1)))), (q_3, .inr (0, [.int 0, .int 0, .int 0, .int 0, .ref q_4, .ref q_5, .ref q_6, .ref q_7, .ref q_8, .ref q_9, .ref q_10, .ref q_11, .ref q_12, .ref q_13, .ref q_14, .ref q_15, .ref q_16, .ref q_17, .ref q_18])), (q_4, .inl (cA_19, 301, .inl g0_2001)), (q_15, .inl (cA_20, 301, .inl g1_2002))] H := hP
  have hD : va_D A [(q_60, .inr (7, [.int 0, .ref q_1, .int 0, .int 0, .int 1, .int 0, .int 0, .int 0, .ref q_3, .int 0, .int 0, .int 0, .int 0, .long 0, .int 0, .int (-1), .ref q_62, .ref q_63])), (q_62, .inl (cA_64, 60, .inl f_2079)), (q_63, .inl (cA_65, 60, .inl (upd f_2078 (38 : Int32).toNatClampNeg (-1)))), (q_3, .inr (0, [.int 0, .int 0, .int 0, .int 0, .ref q_4, .ref q_5, .ref q_6, .ref q_7, .ref q_8, .ref q_9, .ref q_10, .ref q_11, .ref q_12, .ref q_13, .ref q_14, .ref q_15, .ref q_16, .ref q_17, .ref q_18])), (q_4, .inl (cA_19, 301, .inl g0_2001)), (q_15, .inl (cA_20, 301, .inl g1_2002))] := hD
  generalize (upd f_2078 (38 : Int32).toNatClampNeg (-1)) = f_2080 at hP hD
  refine lv_iinc (v := 39) (lv' := [(4, .int 39), (0, .ref q_60), (1, .ref q_1), (2, .int 0), (3, .ref q_3)]) hx hb dX7_begin_80 hl (k := 0) rfl (by decide) (by decide) rfl (fun ls hl => ?_)
  refine lv_goto (tgt := 57) hx hb dX7_begin_83 (by decide) ?_
  refine lv_iload hx hb dX7_begin_57 (lv_at hl 0 rfl) ?_
  refine lv_bipush (v := 60) hx hb dX7_begin_59 (by decide) ?_
  refine lv_icmp_ge (tgt := 86) hx hb dX7_begin_61 (by decide) (fun h9 => absurd h9 (by decide)) (fun _ => ?_)
  refine lv_aload_n hx hb dX7_begin_64 rfl (lv_at hl 1 rfl) ?_
  refine va_get (D := (dC, dI)) (ci := 7) (v := .ref q_62) (C := RX7) (T := TX7) (N := 18) hx hb hts mem_X7_begin_0 hown hK hP 0 rfl rfl 16 (by decide) (ow (k := 14) rfl) (fun _ h9 => h9) rfl dX7_begin_65 ?_
  refine lv_iload hx hb dX7_begin_68 (lv_at hl 0 rfl) ?_
  refine lv_iconst (v := 0) hx hb dX7_begin_70 (by decide) ?_
  refine va_zast hx hb hK hP hD hS 1 0 rfl rfl (show vp_in 39 60 by rw [vp_in_iff]; decide) dX7_begin_71 (fun H locs hP hD hS => ?_)
  have hP : va_P (dC, dI) vwP [(q_60, .inr (7, [.int 0, .ref q_1, .int 0, .int 0, .int 1, .int 0, .int 0, .int 0, .ref q_3, .int 0, .int 0, .int 0, .int 0, .long 0, .int 0, .int (-1), .ref q_62, .ref q_63])), (q_62, .inl (cA_64, 60, .inl (upd f_2079 (39 : Int32).toNatClampNeg (vp_nar .boolean 0)))), (q_63, .inl (cA_65, 60, .inl f_2080)), (q_3, .inr (0, [.int 0, .int 0, .int 0, .int 0, .ref q_4, .ref q_5, .ref q_6, .ref q_7, .ref q_8, .ref q_9, .ref q_10, .ref q_11, .ref q_12, .ref q_13, .ref q_14, .ref q_15, .ref q_16, .ref q_17, .ref q_18])), (q_4, .inl (cA_19, 301, .inl g0_2001)), (q_15, .inl (cA_20, 301, .inl g1_2002))] H := hP
  have hD : va_D A [(q_60, .inr (7, [.int 0, .ref q_1, .int 0, .int 0, .int 1, .int 0, .int 0, .int 0, .ref q_3, .int 0, .int 0, .int 0, .int 0, .long 0, .int 0, .int (-1), .ref q_62, .ref q_63])), (q_62, .inl (cA_64, 60, .inl (upd f_2079 (39 : Int32).toNatClampNeg (vp_nar .boolean 0)))), (q_63, .inl (cA_65, 60, .inl f_2080)), (q_3, .inr (0, [.int 0, .int 0, .int 0, .int 0, .ref q_4, .ref q_5, .ref q_6, .ref q_7, .ref q_8, .ref q_9, .ref q_10, .ref q_11, .ref q_12, .ref q_13, .ref q_14, .ref q_15, .ref q_16, .ref q_17, .ref q_18])), (q_4, .inl (cA_19, 301, .inl g0_2001)), (q_15, .inl (cA_20, 301, .inl g1_2002))] := hD
  generalize (upd f_2079 (39 : Int32).toNatClampNeg (vp_nar .boolean 0)) = f_2081 at hP hD
  refine lv_aload_n hx hb dX7_begin_72 rfl (lv_at hl 1 rfl) ?_
  refine va_get (D := (dC, dI)) (ci := 7) (v := .ref q_63) (C := RX7) (T := TX7) (N := 18) hx hb hts mem_X7_begin_0 hown hK hP 0 rfl rfl 17 (by decide) (ow (k := 15) rfl) (fun _ h9 => h9) rfl dX7_begin_73 ?_
  refine lv_iload hx hb dX7_begin_76 (lv_at hl 0 rfl) ?_
  refine lv_iconst (v := (-1)) hx hb dX7_begin_78 (by decide) ?_
  refine va_iast hx hb hK hP hD hS 2 1 rfl rfl (show vp_in 39 60 by rw [vp_in_iff]; decide) dX7_begin_79 (fun H locs hP hD hS => ?_)
  have hP : va_P (dC, dI) vwP [(q_60, .inr (7, [.int 0, .ref q_1, .int 0, .int 0, .int 1, .int 0, .int 0, .int 0, .ref q_3, .int 0, .int 0, .int 0, .int 0, .long 0, .int 0, .int (-1), .ref q_62, .ref q_63])), (q_62, .inl (cA_64, 60, .inl f_2081)), (q_63, .inl (cA_65, 60, .inl (upd f_2080 (39 : Int32).toNatClampNeg (-1)))), (q_3, .inr (0, [.int 0, .int 0, .int 0, .int 0, .ref q_4, .ref q_5, .ref q_6, .ref q_7, .ref q_8, .ref q_9, .ref q_10, .ref q_11, .ref q_12, .ref q_13, .ref q_14, .ref q_15, .ref q_16, .ref q_17, .ref q_18])), (q_4, .inl (cA_19, 301, .inl g0_2001)), (q_15, .inl (cA_20, 301, .inl g1_2002))] H := hP
  have hD : va_D A [(q_60, .inr (7, [.int 0, .ref q_1, .int 0, .int 0, .int 1, .int 0, .int 0, .int 0, .ref q_3, .int 0, .int 0, .int 0, .int 0, .long 0, .int 0, .int (-1), .ref q_62, .ref q_63])), (q_62, .inl (cA_64, 60, .inl f_2081)), (q_63, .inl (cA_65, 60, .inl (upd f_2080 (39 : Int32).toNatClampNeg (-1)))), (q_3, .inr (0, [.int 0, .int 0, .int 0, .int 0, .ref q_4, .ref q_5, .ref q_6, .ref q_7, .ref q_8, .ref q_9, .ref q_10, .ref q_11, .ref q_12, .ref q_13, .ref q_14, .ref q_15, .ref q_16, .ref q_17, .ref q_18])), (q_4, .inl (cA_19, 301, .inl g0_2001)), (q_15, .inl (cA_20, 301, .inl g1_2002))] := hD
  generalize (upd f_2080 (39 : Int32).toNatClampNeg (-1)) = f_2082 at hP hD
  refine lv_iinc (v := 40) (lv' := [(4, .int 40), (0, .ref q_60), (1, .ref q_1), (2, .int 0), (3, .ref q_3)]) hx hb dX7_begin_80 hl (k := 0) rfl (by decide) (by decide) rfl (fun ls hl => ?_)
  refine lv_goto (tgt := 57) hx hb dX7_begin_83 (by decide) ?_
  refine lv_iload hx hb dX7_begin_57 (lv_at hl 0 rfl) ?_
  refine lv_bipush (v := 60) hx hb dX7_begin_59 (by decide) ?_
  refine lv_icmp_ge (tgt := 86) hx hb dX7_begin_61 (by decide) (fun h9 => absurd h9 (by decide)) (fun _ => ?_)
  refine lv_aload_n hx hb dX7_begin_64 rfl (lv_at hl 1 rfl) ?_
  refine va_get (D := (dC, dI)) (ci := 7) (v := .ref q_62) (C := RX7) (T := TX7) (N := 18) hx hb hts mem_X7_begin_0 hown hK hP 0 rfl rfl 16 (by decide) (ow (k := 14) rfl) (fun _ h9 => h9) rfl dX7_begin_65 ?_
  refine lv_iload hx hb dX7_begin_68 (lv_at hl 0 rfl) ?_
  refine lv_iconst (v := 0) hx hb dX7_begin_70 (by decide) ?_
  refine va_zast hx hb hK hP hD hS 1 0 rfl rfl (show vp_in 40 60 by rw [vp_in_iff]; decide) dX7_begin_71 (fun H locs hP hD hS => ?_)
  have hP : va_P (dC, dI) vwP [(q_60, .inr (7, [.int 0, .ref q_1, .int 0, .int 0, .int 1, .int 0, .int 0, .int 0, .ref q_3, .int 0, .int 0, .int 0, .int 0, .long 0, .int 0, .int (-1), .ref q_62, .ref q_63])), (q_62, .inl (cA_64, 60, .inl (upd f_2081 (40 : Int32).toNatClampNeg (vp_nar .boolean 0)))), (q_63, .inl (cA_65, 60, .inl f_2082)), (q_3, .inr (0, [.int 0, .int 0, .int 0, .int 0, .ref q_4, .ref q_5, .ref q_6, .ref q_7, .ref q_8, .ref q_9, .ref q_10, .ref q_11, .ref q_12, .ref q_13, .ref q_14, .ref q_15, .ref q_16, .ref q_17, .ref q_18])), (q_4, .inl (cA_19, 301, .inl g0_2001)), (q_15, .inl (cA_20, 301, .inl g1_2002))] H := hP
  have hD : va_D A [(q_60, .inr (7, [.int 0, .ref q_1, .int 0, .int 0, .int 1, .int 0, .int 0, .int 0, .ref q_3, .int 0, .int 0, .int 0, .int 0, .long 0, .int 0, .int (-1), .ref q_62, .ref q_63])), (q_62, .inl (cA_64, 60, .inl (upd f_2081 (40 : Int32).toNatClampNeg (vp_nar .boolean 0)))), (q_63, .inl (cA_65, 60, .inl f_2082)), (q_3, .inr (0, [.int 0, .int 0, .int 0, .int 0, .ref q_4, .ref q_5, .ref q_6, .ref q_7, .ref q_8, .ref q_9, .ref q_10, .ref q_11, .ref q_12, .ref q_13, .ref q_14, .ref q_15, .ref q_16, .ref q_17, .ref q_18])), (q_4, .inl (cA_19, 301, .inl g0_2001)), (q_15, .inl (cA_20, 301, .inl g1_2002))] := hD
  generalize (upd f_2081 (40 : Int32).toNatClampNeg (vp_nar .boolean 0)) = f_2083 at hP hD
  refine lv_aload_n hx hb dX7_begin_72 rfl (lv_at hl 1 rfl) ?_
  refine va_get (D := (dC, dI)) (ci := 7) (v := .ref q_63) (C := RX7) (T := TX7) (N := 18) hx hb hts mem_X7_begin_0 hown hK hP 0 rfl rfl 17 (by decide) (ow (k := 15) rfl) (fun _ h9 => h9) rfl dX7_begin_73 ?_
  refine lv_iload hx hb dX7_begin_76 (lv_at hl 0 rfl) ?_
  refine lv_iconst (v := (-1)) hx hb dX7_begin_78 (by decide) ?_
  refine va_iast hx hb hK hP hD hS 2 1 rfl rfl (show vp_in 40 60 by rw [vp_in_iff]; decide) dX7_begin_79 (fun H locs hP hD hS => ?_)
  have hP : va_P (dC, dI) vwP [(q_60, .inr (7, [.int 0, .ref q_1, .int 0, .int 0, .int 1, .int 0, .int 0, .int 0, .ref q_3, .int 0, .int 0, .int 0, .int 0, .long 0, .int 0, .int (-1), .ref q_62, .ref q_63])), (q_62, .inl (cA_64, 60, .inl f_2083)), (q_63, .inl (cA_65, 60, .inl (upd f_2082 (40 : Int32).toNatClampNeg (-1)))), (q_3, .inr (0, [.int 0, .int 0, .int 0, .int 0, .ref q_4, .ref q_5, .ref q_6, .ref q_7, .ref q_8, .ref q_9, .ref q_10, .ref q_11, .ref q_12, .ref q_13, .ref q_14, .ref q_15, .ref q_16, .ref q_17, .ref q_18])), (q_4, .inl (cA_19, 301, .inl g0_2001)), (q_15, .inl (cA_20, 301, .inl g1_2002))] H := hP
  have hD : va_D A [(q_60, .inr (7, [.int 0, .ref q_1, .int 0, .int 0, .int 1, .int 0, .int 0, .int 0, .ref q_3, .int 0, .int 0, .int 0, .int 0, .long 0, .int 0, .int (-1), .ref q_62, .ref q_63])), (q_62, .inl (cA_64, 60, .inl f_2083)), (q_63, .inl (cA_65, 60, .inl (upd f_2082 (40 : Int32).toNatClampNeg (-1)))), (q_3, .inr (0, [.int 0, .int 0, .int 0, .int 0, .ref q_4, .ref q_5, .ref q_6, .ref q_7, .ref q_8, .ref q_9, .ref q_10, .ref q_11, .ref q_12, .ref q_13, .ref q_14, .ref q_15, .ref q_16, .ref q_17, .ref q_18])), (q_4, .inl (cA_19, 301, .inl g0_2001)), (q_15, .inl (cA_20, 301, .inl g1_2002))] := hD
  generalize (upd f_2082 (40 : Int32).toNatClampNeg (-1)) = f_2084 at hP hD
  refine lv_iinc (v := 41) (lv' := [(4, .int 41), (0, .ref q_60), (1, .ref q_1), (2, .int 0), (3, .ref q_3)]) hx hb dX7_begin_80 hl (k := 0) rfl (by decide) (by decide) rfl (fun ls hl => ?_)
  refine lv_goto (tgt := 57) hx hb dX7_begin_83 (by decide) ?_
  refine lv_iload hx hb dX7_begin_57 (lv_at hl 0 rfl) ?_
  refine lv_bipush (v := 60) hx hb dX7_begin_59 (by decide) ?_
  refine lv_icmp_ge (tgt := 86) hx hb dX7_begin_61 (by decide) (fun h9 => absurd h9 (by decide)) (fun _ => ?_)
  refine lv_aload_n hx hb dX7_begin_64 rfl (lv_at hl 1 rfl) ?_
  refine va_get (D := (dC, dI)) (ci := 7) (v := .ref q_62) (C := RX7) (T := TX7) (N := 18) hx hb hts mem_X7_begin_0 hown hK hP 0 rfl rfl 16 (by decide) (ow (k := 14) rfl) (fun _ h9 => h9) rfl dX7_begin_65 ?_
  refine lv_iload hx hb dX7_begin_68 (lv_at hl 0 rfl) ?_
  refine lv_iconst (v := 0) hx hb dX7_begin_70 (by decide) ?_
  refine va_zast hx hb hK hP hD hS 1 0 rfl rfl (show vp_in 41 60 by rw [vp_in_iff]; decide) dX7_begin_71 (fun H locs hP hD hS => ?_)
  have hP : va_P (dC, dI) vwP [(q_60, .inr (7, [.int 0, .ref q_1, .int 0, .int 0, .int 1, .int 0, .int 0, .int 0, .ref q_3, .int 0, .int 0, .int 0, .int 0, .long 0, .int 0, .int (-1), .ref q_62, .ref q_63])), (q_62, .inl (cA_64, 60, .inl (upd f_2083 (41 : Int32).toNatClampNeg (vp_nar .boolean 0)))), (q_63, .inl (cA_65, 60, .inl f_2084)), (q_3, .inr (0, [.int 0, .int 0, .int 0, .int 0, .ref q_4, .ref q_5, .ref q_6, .ref q_7, .ref q_8, .ref q_9, .ref q_10, .ref q_11, .ref q_12, .ref q_13, .ref q_14, .ref q_15, .ref q_16, .ref q_17, .ref q_18])), (q_4, .inl (cA_19, 301, .inl g0_2001)), (q_15, .inl (cA_20, 301, .inl g1_2002))] H := hP
  have hD : va_D A [(q_60, .inr (7, [.int 0, .ref q_1, .int 0, .int 0, .int 1, .int 0, .int 0, .int 0, .ref q_3, .int 0, .int 0, .int 0, .int 0, .long 0, .int 0, .int (-1), .ref q_62, .ref q_63])), (q_62, .inl (cA_64, 60, .inl (upd f_2083 (41 : Int32).toNatClampNeg (vp_nar .boolean 0)))), (q_63, .inl (cA_65, 60, .inl f_2084)), (q_3, .inr (0, [.int 0, .int 0, .int 0, .int 0, .ref q_4, .ref q_5, .ref q_6, .ref q_7, .ref q_8, .ref q_9, .ref q_10, .ref q_11, .ref q_12, .ref q_13, .ref q_14, .ref q_15, .ref q_16, .ref q_17, .ref q_18])), (q_4, .inl (cA_19, 301, .inl g0_2001)), (q_15, .inl (cA_20, 301, .inl g1_2002))] := hD
  generalize (upd f_2083 (41 : Int32).toNatClampNeg (vp_nar .boolean 0)) = f_2085 at hP hD
  refine lv_aload_n hx hb dX7_begin_72 rfl (lv_at hl 1 rfl) ?_
  refine va_get (D := (dC, dI)) (ci := 7) (v := .ref q_63) (C := RX7) (T := TX7) (N := 18) hx hb hts mem_X7_begin_0 hown hK hP 0 rfl rfl 17 (by decide) (ow (k := 15) rfl) (fun _ h9 => h9) rfl dX7_begin_73 ?_
  refine lv_iload hx hb dX7_begin_76 (lv_at hl 0 rfl) ?_
  refine lv_iconst (v := (-1)) hx hb dX7_begin_78 (by decide) ?_
  refine va_iast hx hb hK hP hD hS 2 1 rfl rfl (show vp_in 41 60 by rw [vp_in_iff]; decide) dX7_begin_79 (fun H locs hP hD hS => ?_)
  have hP : va_P (dC, dI) vwP [(q_60, .inr (7, [.int 0, .ref q_1, .int 0, .int 0, .int 1, .int 0, .int 0, .int 0, .ref q_3, .int 0, .int 0, .int 0, .int 0, .long 0, .int 0, .int (-1), .ref q_62, .ref q_63])), (q_62, .inl (cA_64, 60, .inl f_2085)), (q_63, .inl (cA_65, 60, .inl (upd f_2084 (41 : Int32).toNatClampNeg (-1)))), (q_3, .inr (0, [.int 0, .int 0, .int 0, .int 0, .ref q_4, .ref q_5, .ref q_6, .ref q_7, .ref q_8, .ref q_9, .ref q_10, .ref q_11, .ref q_12, .ref q_13, .ref q_14, .ref q_15, .ref q_16, .ref q_17, .ref q_18])), (q_4, .inl (cA_19, 301, .inl g0_2001)), (q_15, .inl (cA_20, 301, .inl g1_2002))] H := hP
  have hD : va_D A [(q_60, .inr (7, [.int 0, .ref q_1, .int 0, .int 0, .int 1, .int 0, .int 0, .int 0, .ref q_3, .int 0, .int 0, .int 0, .int 0, .long 0, .int 0, .int (-1), .ref q_62, .ref q_63])), (q_62, .inl (cA_64, 60, .inl f_2085)), (q_63, .inl (cA_65, 60, .inl (upd f_2084 (41 : Int32).toNatClampNeg (-1)))), (q_3, .inr (0, [.int 0, .int 0, .int 0, .int 0, .ref q_4, .ref q_5, .ref q_6, .ref q_7, .ref q_8, .ref q_9, .ref q_10, .ref q_11, .ref q_12, .ref q_13, .ref q_14, .ref q_15, .ref q_16, .ref q_17, .ref q_18])), (q_4, .inl (cA_19, 301, .inl g0_2001)), (q_15, .inl (cA_20, 301, .inl g1_2002))] := hD
  generalize (upd f_2084 (41 : Int32).toNatClampNeg (-1)) = f_2086 at hP hD
  refine lv_iinc (v := 42) (lv' := [(4, .int 42), (0, .ref q_60), (1, .ref q_1), (2, .int 0), (3, .ref q_3)]) hx hb dX7_begin_80 hl (k := 0) rfl (by decide) (by decide) rfl (fun ls hl => ?_)
  refine lv_goto (tgt := 57) hx hb dX7_begin_83 (by decide) ?_
  refine lv_iload hx hb dX7_begin_57 (lv_at hl 0 rfl) ?_
  refine lv_bipush (v := 60) hx hb dX7_begin_59 (by decide) ?_
  refine lv_icmp_ge (tgt := 86) hx hb dX7_begin_61 (by decide) (fun h9 => absurd h9 (by decide)) (fun _ => ?_)
  refine lv_aload_n hx hb dX7_begin_64 rfl (lv_at hl 1 rfl) ?_
  refine va_get (D := (dC, dI)) (ci := 7) (v := .ref q_62) (C := RX7) (T := TX7) (N := 18) hx hb hts mem_X7_begin_0 hown hK hP 0 rfl rfl 16 (by decide) (ow (k := 14) rfl) (fun _ h9 => h9) rfl dX7_begin_65 ?_
  refine lv_iload hx hb dX7_begin_68 (lv_at hl 0 rfl) ?_
  refine lv_iconst (v := 0) hx hb dX7_begin_70 (by decide) ?_
  refine va_zast hx hb hK hP hD hS 1 0 rfl rfl (show vp_in 42 60 by rw [vp_in_iff]; decide) dX7_begin_71 (fun H locs hP hD hS => ?_)
  have hP : va_P (dC, dI) vwP [(q_60, .inr (7, [.int 0, .ref q_1, .int 0, .int 0, .int 1, .int 0, .int 0, .int 0, .ref q_3, .int 0, .int 0, .int 0, .int 0, .long 0, .int 0, .int (-1), .ref q_62, .ref q_63])), (q_62, .inl (cA_64, 60, .inl (upd f_2085 (42 : Int32).toNatClampNeg (vp_nar .boolean 0)))), (q_63, .inl (cA_65, 60, .inl f_2086)), (q_3, .inr (0, [.int 0, .int 0, .int 0, .int 0, .ref q_4, .ref q_5, .ref q_6, .ref q_7, .ref q_8, .ref q_9, .ref q_10, .ref q_11, .ref q_12, .ref q_13, .ref q_14, .ref q_15, .ref q_16, .ref q_17, .ref q_18])), (q_4, .inl (cA_19, 301, .inl g0_2001)), (q_15, .inl (cA_20, 301, .inl g1_2002))] H := hP
  have hD : va_D A [(q_60, .inr (7, [.int 0, .ref q_1, .int 0, .int 0, .int 1, .int 0, .int 0, .int 0, .ref q_3, .int 0, .int 0, .int 0, .int 0, .long 0, .int 0, .int (-1), .ref q_62, .ref q_63])), (q_62, .inl (cA_64, 60, .inl (upd f_2085 (42 : Int32).toNatClampNeg (vp_nar .boolean 0)))), (q_63, .inl (cA_65, 60, .inl f_2086)), (q_3, .inr (0, [.int 0, .int 0, .int 0, .int 0, .ref q_4, .ref q_5, .ref q_6, .ref q_7, .ref q_8, .ref q_9, .ref q_10, .ref q_11, .ref q_12, .ref q_13, .ref q_14, .ref q_15, .ref q_16, .ref q_17, .ref q_18])), (q_4, .inl (cA_19, 301, .inl g0_2001)), (q_15, .inl (cA_20, 301, .inl g1_2002))] := hD
  generalize (upd f_2085 (42 : Int32).toNatClampNeg (vp_nar .boolean 0)) = f_2087 at hP hD
  refine lv_aload_n hx hb dX7_begin_72 rfl (lv_at hl 1 rfl) ?_
  refine va_get (D := (dC, dI)) (ci := 7) (v := .ref q_63) (C := RX7) (T := TX7) (N := 18) hx hb hts mem_X7_begin_0 hown hK hP 0 rfl rfl 17 (by decide) (ow (k := 15) rfl) (fun _ h9 => h9) rfl dX7_begin_73 ?_
  refine lv_iload hx hb dX7_begin_76 (lv_at hl 0 rfl) ?_
  refine lv_iconst (v := (-1)) hx hb dX7_begin_78 (by decide) ?_
  refine va_iast hx hb hK hP hD hS 2 1 rfl rfl (show vp_in 42 60 by rw [vp_in_iff]; decide) dX7_begin_79 (fun H locs hP hD hS => ?_)
  have hP : va_P (dC, dI) vwP [(q_60, .inr (7, [.int 0, .ref q_1, .int 0, .int 0, .int 1, .int 0, .int 0, .int 0, .ref q_3, .int 0, .int 0, .int 0, .int 0, .long 0, .int 0, .int (-1), .ref q_62, .ref q_63])), (q_62, .inl (cA_64, 60, .inl f_2087)), (q_63, .inl (cA_65, 60, .inl (upd f_2086 (42 : Int32).toNatClampNeg (-1)))), (q_3, .inr (0, [.int 0, .int 0, .int 0, .int 0, .ref q_4, .ref q_5, .ref q_6, .ref q_7, .ref q_8, .ref q_9, .ref q_10, .ref q_11, .ref q_12, .ref q_13, .ref q_14, .ref q_15, .ref q_16, .ref q_17, .ref q_18])), (q_4, .inl (cA_19, 301, .inl g0_2001)), (q_15, .inl (cA_20, 301, .inl g1_2002))] H := hP
  have hD : va_D A [(q_60, .inr (7, [.int 0, .ref q_1, .int 0, .int 0, .int 1, .int 0, .int 0, .int 0, .ref q_3, .int 0, .int 0, .int 0, .int 0, .long 0, .int 0, .int (-1), .ref q_62, .ref q_63])), (q_62, .inl (cA_64, 60, .inl f_2087)), (q_63, .inl (cA_65, 60, .inl (upd f_2086 (42 : Int32).toNatClampNeg (-1)))), (q_3, .inr (0, [.int 0, .int 0, .int 0, .int 0, .ref q_4, .ref q_5, .ref q_6, .ref q_7, .ref q_8, .ref q_9, .ref q_10, .ref q_11, .ref q_12, .ref q_13, .ref q_14, .ref q_15, .ref q_16, .ref q_17, .ref q_18])), (q_4, .inl (cA_19, 301, .inl g0_2001)), (q_15, .inl (cA_20, 301, .inl g1_2002))] := hD
  generalize (upd f_2086 (42 : Int32).toNatClampNeg (-1)) = f_2088 at hP hD
  refine lv_iinc (v := 43) (lv' := [(4, .int 43), (0, .ref q_60), (1, .ref q_1), (2, .int 0), (3, .ref q_3)]) hx hb dX7_begin_80 hl (k := 0) rfl (by decide) (by decide) rfl (fun ls hl => ?_)
  refine lv_goto (tgt := 57) hx hb dX7_begin_83 (by decide) ?_
  refine lv_iload hx hb dX7_begin_57 (lv_at hl 0 rfl) ?_
  refine lv_bipush (v := 60) hx hb dX7_begin_59 (by decide) ?_
  refine lv_icmp_ge (tgt := 86) hx hb dX7_begin_61 (by decide) (fun h9 => absurd h9 (by decide)) (fun _ => ?_)
  refine lv_aload_n hx hb dX7_begin_64 rfl (lv_at hl 1 rfl) ?_
  refine va_get (D := (dC, dI)) (ci := 7) (v := .ref q_62) (C := RX7) (T := TX7) (N := 18) hx hb hts mem_X7_begin_0 hown hK hP 0 rfl rfl 16 (by decide) (ow (k := 14) rfl) (fun _ h9 => h9) rfl dX7_begin_65 ?_
  refine lv_iload hx hb dX7_begin_68 (lv_at hl 0 rfl) ?_
  refine lv_iconst (v := 0) hx hb dX7_begin_70 (by decide) ?_
  refine va_zast hx hb hK hP hD hS 1 0 rfl rfl (show vp_in 43 60 by rw [vp_in_iff]; decide) dX7_begin_71 (fun H locs hP hD hS => ?_)
  have hP : va_P (dC, dI) vwP [(q_60, .inr (7, [.int 0, .ref q_1, .int 0, .int 0, .int 1, .int 0, .int 0, .int 0, .ref q_3, .int 0, .int 0, .int 0, .int 0, .long 0, .int 0, .int (-1), .ref q_62, .ref q_63])), (q_62, .inl (cA_64, 60, .inl (upd f_2087 (43 : Int32).toNatClampNeg (vp_nar .boolean 0)))), (q_63, .inl (cA_65, 60, .inl f_2088)), (q_3, .inr (0, [.int 0, .int 0, .int 0, .int 0, .ref q_4, .ref q_5, .ref q_6, .ref q_7, .ref q_8, .ref q_9, .ref q_10, .ref q_11, .ref q_12, .ref q_13, .ref q_14, .ref q_15, .ref q_16, .ref q_17, .ref q_18])), (q_4, .inl (cA_19, 301, .inl g0_2001)), (q_15, .inl (cA_20, 301, .inl g1_2002))] H := hP
  have hD : va_D A [(q_60, .inr (7, [.int 0, .ref q_1, .int 0, .int 0, .int 1, .int 0, .int 0, .int 0, .ref q_3, .int 0, .int 0, .int 0, .int 0, .long 0, .int 0, .int (-1), .ref q_62, .ref q_63])), (q_62, .inl (cA_64, 60, .inl (upd f_2087 (43 : Int32).toNatClampNeg (vp_nar .boolean 0)))), (q_63, .inl (cA_65, 60, .inl f_2088)), (q_3, .inr (0, [.int 0, .int 0, .int 0, .int 0, .ref q_4, .ref q_5, .ref q_6, .ref q_7, .ref q_8, .ref q_9, .ref q_10, .ref q_11, .ref q_12, .ref q_13, .ref q_14, .ref q_15, .ref q_16, .ref q_17, .ref q_18])), (q_4, .inl (cA_19, 301, .inl g0_2001)), (q_15, .inl (cA_20, 301, .inl g1_2002))] := hD
  generalize (upd f_2087 (43 : Int32).toNatClampNeg (vp_nar .boolean 0)) = f_2089 at hP hD
  refine lv_aload_n hx hb dX7_begin_72 rfl (lv_at hl 1 rfl) ?_
  refine va_get (D := (dC, dI)) (ci := 7) (v := .ref q_63) (C := RX7) (T := TX7) (N := 18) hx hb hts mem_X7_begin_0 hown hK hP 0 rfl rfl 17 (by decide) (ow (k := 15) rfl) (fun _ h9 => h9) rfl dX7_begin_73 ?_
  refine lv_iload hx hb dX7_begin_76 (lv_at hl 0 rfl) ?_
  refine lv_iconst (v := (-1)) hx hb dX7_begin_78 (by decide) ?_
  refine va_iast hx hb hK hP hD hS 2 1 rfl rfl (show vp_in 43 60 by rw [vp_in_iff]; decide) dX7_begin_79 (fun H locs hP hD hS => ?_)
  have hP : va_P (dC, dI) vwP [(q_60, .inr (7, [.int 0, .ref q_1, .int 0, .int 0, .int 1, .int 0, .int 0, .int 0, .ref q_3, .int 0, .int 0, .int 0, .int 0, .long 0, .int 0, .int (-1), .ref q_62, .ref q_63])), (q_62, .inl (cA_64, 60, .inl f_2089)), (q_63, .inl (cA_65, 60, .inl (upd f_2088 (43 : Int32).toNatClampNeg (-1)))), (q_3, .inr (0, [.int 0, .int 0, .int 0, .int 0, .ref q_4, .ref q_5, .ref q_6, .ref q_7, .ref q_8, .ref q_9, .ref q_10, .ref q_11, .ref q_12, .ref q_13, .ref q_14, .ref q_15, .ref q_16, .ref q_17, .ref q_18])), (q_4, .inl (cA_19, 301, .inl g0_2001)), (q_15, .inl (cA_20, 301, .inl g1_2002))] H := hP
  have hD : va_D A [(q_60, .inr (7, [.int 0, .ref q_1, .int 0, .int 0, .int 1, .int 0, .int 0, .int 0, .ref q_3, .int 0, .int 0, .int 0, .int 0, .long 0, .int 0, .int (-1), .ref q_62, .ref q_63])), (q_62, .inl (cA_64, 60, .inl f_2089)), (q_63, .inl (cA_65, 60, .inl (upd f_2088 (43 : Int32).toNatClampNeg (-1)))), (q_3, .inr (0, [.int 0, .int 0, .int 0, .int 0, .ref q_4, .ref q_5, .ref q_6, .ref q_7, .ref q_8, .ref q_9, .ref q_10, .ref q_11, .ref q_12, .ref q_13, .ref q_14, .ref q_15, .ref q_16, .ref q_17, .ref q_18])), (q_4, .inl (cA_19, 301, .inl g0_2001)), (q_15, .inl (cA_20, 301, .inl g1_2002))] := hD
  generalize (upd f_2088 (43 : Int32).toNatClampNeg (-1)) = f_2090 at hP hD
  refine lv_iinc (v := 44) (lv' := [(4, .int 44), (0, .ref q_60), (1, .ref q_1), (2, .int 0), (3, .ref q_3)]) hx hb dX7_begin_80 hl (k := 0) rfl (by decide) (by decide) rfl (fun ls hl => ?_)
  refine lv_goto (tgt := 57) hx hb dX7_begin_83 (by decide) ?_
  refine lv_iload hx hb dX7_begin_57 (lv_at hl 0 rfl) ?_
  refine lv_bipush (v := 60) hx hb dX7_begin_59 (by decide) ?_
  refine lv_icmp_ge (tgt := 86) hx hb dX7_begin_61 (by decide) (fun h9 => absurd h9 (by decide)) (fun _ => ?_)
  refine lv_aload_n hx hb dX7_begin_64 rfl (lv_at hl 1 rfl) ?_
  refine va_get (D := (dC, dI)) (ci := 7) (v := .ref q_62) (C := RX7) (T := TX7) (N := 18) hx hb hts mem_X7_begin_0 hown hK hP 0 rfl rfl 16 (by decide) (ow (k := 14) rfl) (fun _ h9 => h9) rfl dX7_begin_65 ?_
  refine lv_iload hx hb dX7_begin_68 (lv_at hl 0 rfl) ?_
  refine lv_iconst (v := 0) hx hb dX7_begin_70 (by decide) ?_
  refine va_zast hx hb hK hP hD hS 1 0 rfl rfl (show vp_in 44 60 by rw [vp_in_iff]; decide) dX7_begin_71 (fun H locs hP hD hS => ?_)
  have hP : va_P (dC, dI) vwP [(q_60, .inr (7, [.int 0, .ref q_1, .int 0, .int 0, .int 1, .int 0, .int 0, .int 0, .ref q_3, .int 0, .int 0, .int 0, .int 0, .long 0, .int 0, .int (-1), .ref q_62, .ref q_63])), (q_62, .inl (cA_64, 60, .inl (upd f_2089 (44 : Int32).toNatClampNeg (vp_nar .boolean 0)))), (q_63, .inl (cA_65, 60, .inl f_2090)), (q_3, .inr (0, [.int 0, .int 0, .int 0, .int 0, .ref q_4, .ref q_5, .ref q_6, .ref q_7, .ref q_8, .ref q_9, .ref q_10, .ref q_11, .ref q_12, .ref q_13, .ref q_14, .ref q_15, .ref q_16, .ref q_17, .ref q_18])), (q_4, .inl (cA_19, 301, .inl g0_2001)), (q_15, .inl (cA_20, 301, .inl g1_2002))] H := hP
  have hD : va_D A [(q_60, .inr (7, [.int 0, .ref q_1, .int 0, .int 0, .int 1, .int 0, .int 0, .int 0, .ref q_3, .int 0, .int 0, .int 0, .int 0, .long 0, .int 0, .int (-1), .ref q_62, .ref q_63])), (q_62, .inl (cA_64, 60, .inl (upd f_2089 (44 : Int32).toNatClampNeg (vp_nar .boolean 0)))), (q_63, .inl (cA_65, 60, .inl f_2090)), (q_3, .inr (0, [.int 0, .int 0, .int 0, .int 0, .ref q_4, .ref q_5, .ref q_6, .ref q_7, .ref q_8, .ref q_9, .ref q_10, .ref q_11, .ref q_12, .ref q_13, .ref q_14, .ref q_15, .ref q_16, .ref q_17, .ref q_18])), (q_4, .inl (cA_19, 301, .inl g0_2001)), (q_15, .inl (cA_20, 301, .inl g1_2002))] := hD
  generalize (upd f_2089 (44 : Int32).toNatClampNeg (vp_nar .boolean 0)) = f_2091 at hP hD
  refine lv_aload_n hx hb dX7_begin_72 rfl (lv_at hl 1 rfl) ?_
  refine va_get (D := (dC, dI)) (ci := 7) (v := .ref q_63) (C := RX7) (T := TX7) (N := 18) hx hb hts mem_X7_begin_0 hown hK hP 0 rfl rfl 17 (by decide) (ow (k := 15) rfl) (fun _ h9 => h9) rfl dX7_begin_73 ?_
  refine lv_iload hx hb dX7_begin_76 (lv_at hl 0 rfl) ?_
  refine lv_iconst (v := (-1)) hx hb dX7_begin_78 (by decide) ?_
  refine va_iast hx hb hK hP hD hS 2 1 rfl rfl (show vp_in 44 60 by rw [vp_in_iff]; decide) dX7_begin_79 (fun H locs hP hD hS => ?_)
  have hP : va_P (dC, dI) vwP [(q_60, .inr (7, [.int 0, .ref q_1, .int 0, .int 0, .int 1, .int 0, .int 0, .int 0, .ref q_3, .int 0, .int 0, .int 0, .int 0, .long 0, .int 0, .int (-1), .ref q_62, .ref q_63])), (q_62, .inl (cA_64, 60, .inl f_2091)), (q_63, .inl (cA_65, 60, .inl (upd f_2090 (44 : Int32).toNatClampNeg (-1)))), (q_3, .inr (0, [.int 0, .int 0, .int 0, .int 0, .ref q_4, .ref q_5, .ref q_6, .ref q_7, .ref q_8, .ref q_9, .ref q_10, .ref q_11, .ref q_12, .ref q_13, .ref q_14, .ref q_15, .ref q_16, .ref q_17, .ref q_18])), (q_4, .inl (cA_19, 301, .inl g0_2001)), (q_15, .inl (cA_20, 301, .inl g1_2002))] H := hP
  have hD : va_D A [(q_60, .inr (7, [.int 0, .ref q_1, .int 0, .int 0, .int 1, .int 0, .int 0, .int 0, .ref q_3, .int 0, .int 0, .int 0, .int 0, .long 0, .int 0, .int (-1), .ref q_62, .ref q_63])), (q_62, .inl (cA_64, 60, .inl f_2091)), (q_63, .inl (cA_65, 60, .inl (upd f_2090 (44 : Int32).toNatClampNeg (-1)))), (q_3, .inr (0, [.int 0, .int 0, .int 0, .int 0, .ref q_4, .ref q_5, .ref q_6, .ref q_7, .ref q_8, .ref q_9, .ref q_10, .ref q_11, .ref q_12, .ref q_13, .ref q_14, .ref q_15, .ref q_16, .ref q_17, .ref q_18])), (q_4, .inl (cA_19, 301, .inl g0_2001)), (q_15, .inl (cA_20, 301, .inl g1_2002))] := hD
  generalize (upd f_2090 (44 : Int32).toNatClampNeg (-1)) = f_2092 at hP hD
  refine lv_iinc (v := 45) (lv' := [(4, .int 45), (0, .ref q_60), (1, .ref q_1), (2, .int 0), (3, .ref q_3)]) hx hb dX7_begin_80 hl (k := 0) rfl (by decide) (by decide) rfl (fun ls hl => ?_)
  refine lv_goto (tgt := 57) hx hb dX7_begin_83 (by decide) ?_
  refine lv_iload hx hb dX7_begin_57 (lv_at hl 0 rfl) ?_
  refine lv_bipush (v := 60) hx hb dX7_begin_59 (by decide) ?_
  refine lv_icmp_ge (tgt := 86) hx hb dX7_begin_61 (by decide) (fun h9 => absurd h9 (by decide)) (fun _ => ?_)
  refine lv_aload_n hx hb dX7_begin_64 rfl (lv_at hl 1 rfl) ?_
  refine va_get (D := (dC, dI)) (ci := 7) (v := .ref q_62) (C := RX7) (T := TX7) (N := 18) hx hb hts mem_X7_begin_0 hown hK hP 0 rfl rfl 16 (by decide) (ow (k := 14) rfl) (fun _ h9 => h9) rfl dX7_begin_65 ?_
  refine lv_iload hx hb dX7_begin_68 (lv_at hl 0 rfl) ?_
  refine lv_iconst (v := 0) hx hb dX7_begin_70 (by decide) ?_
  refine va_zast hx hb hK hP hD hS 1 0 rfl rfl (show vp_in 45 60 by rw [vp_in_iff]; decide) dX7_begin_71 (fun H locs hP hD hS => ?_)
  have hP : va_P (dC, dI) vwP [(q_60, .inr (7, [.int 0, .ref q_1, .int 0, .int 0, .int 1, .int 0, .int 0, .int 0, .ref q_3, .int 0, .int 0, .int 0, .int 0, .long 0, .int 0, .int (-1), .ref q_62, .ref q_63])), (q_62, .inl (cA_64, 60, .inl (upd f_2091 (45 : Int32).toNatClampNeg (vp_nar .boolean 0)))), (q_63, .inl (cA_65, 60, .inl f_2092)), (q_3, .inr (0, [.int 0, .int 0, .int 0, .int 0, .ref q_4, .ref q_5, .ref q_6, .ref q_7, .ref q_8, .ref q_9, .ref q_10, .ref q_11, .ref q_12, .ref q_13, .ref q_14, .ref q_15, .ref q_16, .ref q_17, .ref q_18])), (q_4, .inl (cA_19, 301, .inl g0_2001)), (q_15, .inl (cA_20, 301, .inl g1_2002))] H := hP
  have hD : va_D A [(q_60, .inr (7, [.int 0, .ref q_1, .int 0, .int 0, .int 1, .int 0, .int 0, .int 0, .ref q_3, .int 0, .int 0, .int 0, .int 0, .long 0, .int 0, .int (-1), .ref q_62, .ref q_63])), (q_62, .inl (cA_64, 60, .inl (upd f_2091 (45 : Int32).toNatClampNeg (vp_nar .boolean 0)))), (q_63, .inl (cA_65, 60, .inl f_2092)), (q_3, .inr (0, [.int 0, .int 0, .int 0, .int 0, .ref q_4, .ref q_5, .ref q_6, .ref q_7, .ref q_8, .ref q_9, .ref q_10, .ref q_11, .ref q_12, .ref q_13, .ref q_14, .ref q_15, .ref q_16, .ref q_17, .ref q_18])), (q_4, .inl (cA_19, 301, .inl g0_2001)), (q_15, .inl (cA_20, 301, .inl g1_2002))] := hD
  generalize (upd f_2091 (45 : Int32).toNatClampNeg (vp_nar .boolean 0)) = f_2093 at hP hD
  refine lv_aload_n hx hb dX7_begin_72 rfl (lv_at hl 1 rfl) ?_
  refine va_get (D := (dC, dI)) (ci := 7) (v := .ref q_63) (C := RX7) (T := TX7) (N := 18) hx hb hts mem_X7_begin_0 hown hK hP 0 rfl rfl 17 (by decide) (ow (k := 15) rfl) (fun _ h9 => h9) rfl dX7_begin_73 ?_
  refine lv_iload hx hb dX7_begin_76 (lv_at hl 0 rfl) ?_
  refine lv_iconst (v := (-1)) hx hb dX7_begin_78 (by decide) ?_
  refine va_iast hx hb hK hP hD hS 2 1 rfl rfl (show vp_in 45 60 by rw [vp_in_iff]; decide) dX7_begin_79 (fun H locs hP hD hS => ?_)
  have hP : va_P (dC, dI) vwP [(q_60, .inr (7, [.int 0, .ref q_1, .int 0, .int 0, .int 1, .int 0, .int 0, .int 0, .ref q_3, .int 0, .int 0, .int 0, .int 0, .long 0, .int 0, .int (-1), .ref q_62, .ref q_63])), (q_62, .inl (cA_64, 60, .inl f_2093)), (q_63, .inl (cA_65, 60, .inl (upd f_2092 (45 : Int32).toNatClampNeg (-1)))), (q_3, .inr (0, [.int 0, .int 0, .int 0, .int 0, .ref q_4, .ref q_5, .ref q_6, .ref q_7, .ref q_8, .ref q_9, .ref q_10, .ref q_11, .ref q_12, .ref q_13, .ref q_14, .ref q_15, .ref q_16, .ref q_17, .ref q_18])), (q_4, .inl (cA_19, 301, .inl g0_2001)), (q_15, .inl (cA_20, 301, .inl g1_2002))] H := hP
  have hD : va_D A [(q_60, .inr (7, [.int 0, .ref q_1, .int 0, .int 0, .int 1, .int 0, .int 0, .int 0, .ref q_3, .int 0, .int 0, .int 0, .int 0, .long 0, .int 0, .int (-1), .ref q_62, .ref q_63])), (q_62, .inl (cA_64, 60, .inl f_2093)), (q_63, .inl (cA_65, 60, .inl (upd f_2092 (45 : Int32).toNatClampNeg (-1)))), (q_3, .inr (0, [.int 0, .int 0, .int 0, .int 0, .ref q_4, .ref q_5, .ref q_6, .ref q_7, .ref q_8, .ref q_9, .ref q_10, .ref q_11, .ref q_12, .ref q_13, .ref q_14, .ref q_15, .ref q_16, .ref q_17, .ref q_18])), (q_4, .inl (cA_19, 301, .inl g0_2001)), (q_15, .inl (cA_20, 301, .inl g1_2002))] := hD
  generalize (upd f_2092 (45 : Int32).toNatClampNeg (-1)) = f_2094 at hP hD
  refine lv_iinc (v := 46) (lv' := [(4, .int 46), (0, .ref q_60), (1, .ref q_1), (2, .int 0), (3, .ref q_3)]) hx hb dX7_begin_80 hl (k := 0) rfl (by decide) (by decide) rfl (fun ls hl => ?_)
  refine lv_goto (tgt := 57) hx hb dX7_begin_83 (by decide) ?_
  refine lv_iload hx hb dX7_begin_57 (lv_at hl 0 rfl) ?_
  refine lv_bipush (v := 60) hx hb dX7_begin_59 (by decide) ?_
  refine lv_icmp_ge (tgt := 86) hx hb dX7_begin_61 (by decide) (fun h9 => absurd h9 (by decide)) (fun _ => ?_)
  refine lv_aload_n hx hb dX7_begin_64 rfl (lv_at hl 1 rfl) ?_
  refine va_get (D := (dC, dI)) (ci := 7) (v := .ref q_62) (C := RX7) (T := TX7) (N := 18) hx hb hts mem_X7_begin_0 hown hK hP 0 rfl rfl 16 (by decide) (ow (k := 14) rfl) (fun _ h9 => h9) rfl dX7_begin_65 ?_
  refine lv_iload hx hb dX7_begin_68 (lv_at hl 0 rfl) ?_
  refine lv_iconst (v := 0) hx hb dX7_begin_70 (by decide) ?_
  refine va_zast hx hb hK hP hD hS 1 0 rfl rfl (show vp_in 46 60 by rw [vp_in_iff]; decide) dX7_begin_71 (fun H locs hP hD hS => ?_)
  have hP : va_P (dC, dI) vwP [(q_60, .inr (7, [.int 0, .ref q_1, .int 0, .int 0, .int 1, .int 0, .int 0, .int 0, .ref q_3, .int 0, .int 0, .int 0, .int 0, .long 0, .int 0, .int (-1), .ref q_62, .ref q_63])), (q_62, .inl (cA_64, 60, .inl (upd f_2093 (46 : Int32).toNatClampNeg (vp_nar .boolean 0)))), (q_63, .inl (cA_65, 60, .inl f_2094)), (q_3, .inr (0, [.int 0, .int 0, .int 0, .int 0, .ref q_4, .ref q_5, .ref q_6, .ref q_7, .ref q_8, .ref q_9, .ref q_10, .ref q_11, .ref q_12, .ref q_13, .ref q_14, .ref q_15, .ref q_16, .ref q_17, .ref q_18])), (q_4, .inl (cA_19, 301, .inl g0_2001)), (q_15, .inl (cA_20, 301, .inl g1_2002))] H := hP
  have hD : va_D A [(q_60, .inr (7, [.int 0, .ref q_1, .int 0, .int 0, .int 1, .int 0, .int 0, .int 0, .ref q_3, .int 0, .int 0, .int 0, .int 0, .long 0, .int 0, .int (-1), .ref q_62, .ref q_63])), (q_62, .inl (cA_64, 60, .inl (upd f_2093 (46 : Int32).toNatClampNeg (vp_nar .boolean 0)))), (q_63, .inl (cA_65, 60, .inl f_2094)), (q_3, .inr (0, [.int 0, .int 0, .int 0, .int 0, .ref q_4, .ref q_5, .ref q_6, .ref q_7, .ref q_8, .ref q_9, .ref q_10, .ref q_11, .ref q_12, .ref q_13, .ref q_14, .ref q_15, .ref q_16, .ref q_17, .ref q_18])), (q_4, .inl (cA_19, 301, .inl g0_2001)), (q_15, .inl (cA_20, 301, .inl g1_2002))] := hD
  generalize (upd f_2093 (46 : Int32).toNatClampNeg (vp_nar .boolean 0)) = f_2095 at hP hD
  refine lv_aload_n hx hb dX7_begin_72 rfl (lv_at hl 1 rfl) ?_
  refine va_get (D := (dC, dI)) (ci := 7) (v := .ref q_63) (C := RX7) (T := TX7) (N := 18) hx hb hts mem_X7_begin_0 hown hK hP 0 rfl rfl 17 (by decide) (ow (k := 15) rfl) (fun _ h9 => h9) rfl dX7_begin_73 ?_
  refine lv_iload hx hb dX7_begin_76 (lv_at hl 0 rfl) ?_
  refine lv_iconst (v := (-1)) hx hb dX7_begin_78 (by decide) ?_
  refine va_iast hx hb hK hP hD hS 2 1 rfl rfl (show vp_in 46 60 by rw [vp_in_iff]; decide) dX7_begin_79 (fun H locs hP hD hS => ?_)
  have hP : va_P (dC, dI) vwP [(q_60, .inr (7, [.int 0, .ref q_1, .int 0, .int 0, .int 1, .int 0, .int 0, .int 0, .ref q_3, .int 0, .int 0, .int 0, .int 0, .long 0, .int 0, .int (-1), .ref q_62, .ref q_63])), (q_62, .inl (cA_64, 60, .inl f_2095)), (q_63, .inl (cA_65, 60, .inl (upd f_2094 (46 : Int32).toNatClampNeg (-1)))), (q_3, .inr (0, [.int 0, .int 0, .int 0, .int 0, .ref q_4, .ref q_5, .ref q_6, .ref q_7, .ref q_8, .ref q_9, .ref q_10, .ref q_11, .ref q_12, .ref q_13, .ref q_14, .ref q_15, .ref q_16, .ref q_17, .ref q_18])), (q_4, .inl (cA_19, 301, .inl g0_2001)), (q_15, .inl (cA_20, 301, .inl g1_2002))] H := hP
  have hD : va_D A [(q_60, .inr (7, [.int 0, .ref q_1, .int 0, .int 0, .int 1, .int 0, .int 0, .int 0, .ref q_3, .int 0, .int 0, .int 0, .int 0, .long 0, .int 0, .int (-1), .ref q_62, .ref q_63])), (q_62, .inl (cA_64, 60, .inl f_2095)), (q_63, .inl (cA_65, 60, .inl (upd f_2094 (46 : Int32).toNatClampNeg (-1)))), (q_3, .inr (0, [.int 0, .int 0, .int 0, .int 0, .ref q_4, .ref q_5, .ref q_6, .ref q_7, .ref q_8, .ref q_9, .ref q_10, .ref q_11, .ref q_12, .ref q_13, .ref q_14, .ref q_15, .ref q_16, .ref q_17, .ref q_18])), (q_4, .inl (cA_19, 301, .inl g0_2001)), (q_15, .inl (cA_20, 301, .inl g1_2002))] := hD
  generalize (upd f_2094 (46 : Int32).toNatClampNeg (-1)) = f_2096 at hP hD
  refine lv_iinc (v := 47) (lv' := [(4, .int 47), (0, .ref q_60), (1, .ref q_1), (2, .int 0), (3, .ref q_3)]) hx hb dX7_begin_80 hl (k := 0) rfl (by decide) (by decide) rfl (fun ls hl => ?_)
  refine lv_goto (tgt := 57) hx hb dX7_begin_83 (by decide) ?_
  refine lv_iload hx hb dX7_begin_57 (lv_at hl 0 rfl) ?_
  refine lv_bipush (v := 60) hx hb dX7_begin_59 (by decide) ?_
  refine lv_icmp_ge (tgt := 86) hx hb dX7_begin_61 (by decide) (fun h9 => absurd h9 (by decide)) (fun _ => ?_)
  refine lv_aload_n hx hb dX7_begin_64 rfl (lv_at hl 1 rfl) ?_
  refine va_get (D := (dC, dI)) (ci := 7) (v := .ref q_62) (C := RX7) (T := TX7) (N := 18) hx hb hts mem_X7_begin_0 hown hK hP 0 rfl rfl 16 (by decide) (ow (k := 14) rfl) (fun _ h9 => h9) rfl dX7_begin_65 ?_
  refine lv_iload hx hb dX7_begin_68 (lv_at hl 0 rfl) ?_
  refine lv_iconst (v := 0) hx hb dX7_begin_70 (by decide) ?_
  refine va_zast hx hb hK hP hD hS 1 0 rfl rfl (show vp_in 47 60 by rw [vp_in_iff]; decide) dX7_begin_71 (fun H locs hP hD hS => ?_)
  have hP : va_P (dC, dI) vwP [(q_60, .inr (7, [.int 0, .ref q_1, .int 0, .int 0, .int 1, .int 0, .int 0, .int 0, .ref q_3, .int 0, .int 0, .int 0, .int 0, .long 0, .int 0, .int (-1), .ref q_62, .ref q_63])), (q_62, .inl (cA_64, 60, .inl (upd f_2095 (47 : Int32).toNatClampNeg (vp_nar .boolean 0)))), (q_63, .inl (cA_65, 60, .inl f_2096)), (q_3, .inr (0, [.int 0, .int 0, .int 0, .int 0, .ref q_4, .ref q_5, .ref q_6, .ref q_7, .ref q_8, .ref q_9, .ref q_10, .ref q_11, .ref q_12, .ref q_13, .ref q_14, .ref q_15, .ref q_16, .ref q_17, .ref q_18])), (q_4, .inl (cA_19, 301, .inl g0_2001)), (q_15, .inl (cA_20, 301, .inl g1_2002))] H := hP
  have hD : va_D A [(q_60, .inr (7, [.int 0, .ref q_1, .int 0, .int 0, .int 1, .int 0, .int 0, .int 0, .ref q_3, .int 0, .int 0, .int 0, .int 0, .long 0, .int 0, .int (-1), .ref q_62, .ref q_63])), (q_62, .inl (cA_64, 60, .inl (upd f_2095 (47 : Int32).toNatClampNeg (vp_nar .boolean 0)))), (q_63, .inl (cA_65, 60, .inl f_2096)), (q_3, .inr (0, [.int 0, .int 0, .int 0, .int 0, .ref q_4, .ref q_5, .ref q_6, .ref q_7, .ref q_8, .ref q_9, .ref q_10, .ref q_11, .ref q_12, .ref q_13, .ref q_14, .ref q_15, .ref q_16, .ref q_17, .ref q_18])), (q_4, .inl (cA_19, 301, .inl g0_2001)), (q_15, .inl (cA_20, 301, .inl g1_2002))] := hD
  generalize (upd f_2095 (47 : Int32).toNatClampNeg (vp_nar .boolean 0)) = f_2097 at hP hD
  refine lv_aload_n hx hb dX7_begin_72 rfl (lv_at hl 1 rfl) ?_
  refine va_get (D := (dC, dI)) (ci := 7) (v := .ref q_63) (C := RX7) (T := TX7) (N := 18) hx hb hts mem_X7_begin_0 hown hK hP 0 rfl rfl 17 (by decide) (ow (k := 15) rfl) (fun _ h9 => h9) rfl dX7_begin_73 ?_
  refine lv_iload hx hb dX7_begin_76 (lv_at hl 0 rfl) ?_
  refine lv_iconst (v := (-1)) hx hb dX7_begin_78 (by decide) ?_
  refine va_iast hx hb hK hP hD hS 2 1 rfl rfl (show vp_in 47 60 by rw [vp_in_iff]; decide) dX7_begin_79 (fun H locs hP hD hS => ?_)
  have hP : va_P (dC, dI) vwP [(q_60, .inr (7, [.int 0, .ref q_1, .int 0, .int 0, .int 1, .int 0, .int 0, .int 0, .ref q_3, .int 0, .int 0, .int 0, .int 0, .long 0, .int 0, .int (-1), .ref q_62, .ref q_63])), (q_62, .inl (cA_64, 60, .inl f_2097)), (q_63, .inl (cA_65, 60, .inl (upd f_2096 (47 : Int32).toNatClampNeg (-1)))), (q_3, .inr (0, [.int 0, .int 0, .int 0, .int 0, .ref q_4, .ref q_5, .ref q_6, .ref q_7, .ref q_8, .ref q_9, .ref q_10, .ref q_11, .ref q_12, .ref q_13, .ref q_14, .ref q_15, .ref q_16, .ref q_17, .ref q_18])), (q_4, .inl (cA_19, 301, .inl g0_2001)), (q_15, .inl (cA_20, 301, .inl g1_2002))] H := hP
  have hD : va_D A [(q_60, .inr (7, [.int 0, .ref q_1, .int 0, .int 0, .int 1, .int 0, .int 0, .int 0, .ref q_3, .int 0, .int 0, .int 0, .int 0, .long 0, .int 0, .int (-1), .ref q_62, .ref q_63])), (q_62, .inl (cA_64, 60, .inl f_2097)), (q_63, .inl (cA_65, 60, .inl (upd f_2096 (47 : Int32).toNatClampNeg (-1)))), (q_3, .inr (0, [.int 0, .int 0, .int 0, .int 0, .ref q_4, .ref q_5, .ref q_6, .ref q_7, .ref q_8, .ref q_9, .ref q_10, .ref q_11, .ref q_12, .ref q_13, .ref q_14, .ref q_15, .ref q_16, .ref q_17, .ref q_18])), (q_4, .inl (cA_19, 301, .inl g0_2001)), (q_15, .inl (cA_20, 301, .inl g1_2002))] := hD
  generalize (upd f_2096 (47 : Int32).toNatClampNeg (-1)) = f_2098 at hP hD
  refine lv_iinc (v := 48) (lv' := [(4, .int 48), (0, .ref q_60), (1, .ref q_1), (2, .int 0), (3, .ref q_3)]) hx hb dX7_begin_80 hl (k := 0) rfl (by decide) (by decide) rfl (fun ls hl => ?_)
  refine lv_goto (tgt := 57) hx hb dX7_begin_83 (by decide) ?_
  refine lv_iload hx hb dX7_begin_57 (lv_at hl 0 rfl) ?_
  refine lv_bipush (v := 60) hx hb dX7_begin_59 (by decide) ?_
  refine lv_icmp_ge (tgt := 86) hx hb dX7_begin_61 (by decide) (fun h9 => absurd h9 (by decide)) (fun _ => ?_)
  refine lv_aload_n hx hb dX7_begin_64 rfl (lv_at hl 1 rfl) ?_
  refine va_get (D := (dC, dI)) (ci := 7) (v := .ref q_62) (C := RX7) (T := TX7) (N := 18) hx hb hts mem_X7_begin_0 hown hK hP 0 rfl rfl 16 (by decide) (ow (k := 14) rfl) (fun _ h9 => h9) rfl dX7_begin_65 ?_
  refine lv_iload hx hb dX7_begin_68 (lv_at hl 0 rfl) ?_
  refine lv_iconst (v := 0) hx hb dX7_begin_70 (by decide) ?_
  refine va_zast hx hb hK hP hD hS 1 0 rfl rfl (show vp_in 48 60 by rw [vp_in_iff]; decide) dX7_begin_71 (fun H locs hP hD hS => ?_)
  have hP : va_P (dC, dI) vwP [(q_60, .inr (7, [.int 0, .ref q_1, .int 0, .int 0, .int 1, .int 0, .int 0, .int 0, .ref q_3, .int 0, .int 0, .int 0, .int 0, .long 0, .int 0, .int (-1), .ref q_62, .ref q_63])), (q_62, .inl (cA_64, 60, .inl (upd f_2097 (48 : Int32).toNatClampNeg (vp_nar .boolean 0)))), (q_63, .inl (cA_65, 60, .inl f_2098)), (q_3, .inr (0, [.int 0, .int 0, .int 0, .int 0, .ref q_4, .ref q_5, .ref q_6, .ref q_7, .ref q_8, .ref q_9, .ref q_10, .ref q_11, .ref q_12, .ref q_13, .ref q_14, .ref q_15, .ref q_16, .ref q_17, .ref q_18])), (q_4, .inl (cA_19, 301, .inl g0_2001)), (q_15, .inl (cA_20, 301, .inl g1_2002))] H := hP
  have hD : va_D A [(q_60, .inr (7, [.int 0, .ref q_1, .int 0, .int 0, .int 1, .int 0, .int 0, .int 0, .ref q_3, .int 0, .int 0, .int 0, .int 0, .long 0, .int 0, .int (-1), .ref q_62, .ref q_63])), (q_62, .inl (cA_64, 60, .inl (upd f_2097 (48 : Int32).toNatClampNeg (vp_nar .boolean 0)))), (q_63, .inl (cA_65, 60, .inl f_2098)), (q_3, .inr (0, [.int 0, .int 0, .int 0, .int 0, .ref q_4, .ref q_5, .ref q_6, .ref q_7, .ref q_8, .ref q_9, .ref q_10, .ref q_11, .ref q_12, .ref q_13, .ref q_14, .ref q_15, .ref q_16, .ref q_17, .ref q_18])), (q_4, .inl (cA_19, 301, .inl g0_2001)), (q_15, .inl (cA_20, 301, .inl g1_2002))] := hD
  generalize (upd f_2097 (48 : Int32).toNatClampNeg (vp_nar .boolean 0)) = f_2099 at hP hD
  refine lv_aload_n hx hb dX7_begin_72 rfl (lv_at hl 1 rfl) ?_
  refine va_get (D := (dC, dI)) (ci := 7) (v := .ref q_63) (C := RX7) (T := TX7) (N := 18) hx hb hts mem_X7_begin_0 hown hK hP 0 rfl rfl 17 (by decide) (ow (k := 15) rfl) (fun _ h9 => h9) rfl dX7_begin_73 ?_
  refine lv_iload hx hb dX7_begin_76 (lv_at hl 0 rfl) ?_
  refine lv_iconst (v := (-1)) hx hb dX7_begin_78 (by decide) ?_
  refine va_iast hx hb hK hP hD hS 2 1 rfl rfl (show vp_in 48 60 by rw [vp_in_iff]; decide) dX7_begin_79 (fun H locs hP hD hS => ?_)
  have hP : va_P (dC, dI) vwP [(q_60, .inr (7, [.int 0, .ref q_1, .int 0, .int 0, .int 1, .int 0, .int 0, .int 0, .ref q_3, .int 0, .int 0, .int 0, .int 0, .long 0, .int 0, .int (-1), .ref q_62, .ref q_63])), (q_62, .inl (cA_64, 60, .inl f_2099)), (q_63, .inl (cA_65, 60, .inl (upd f_2098 (48 : Int32).toNatClampNeg (-1)))), (q_3, .inr (0, [.int 0, .int 0, .int 0, .int 0, .ref q_4, .ref q_5, .ref q_6, .ref q_7, .ref q_8, .ref q_9, .ref q_10, .ref q_11, .ref q_12, .ref q_13, .ref q_14, .ref q_15, .ref q_16, .ref q_17, .ref q_18])), (q_4, .inl (cA_19, 301, .inl g0_2001)), (q_15, .inl (cA_20, 301, .inl g1_2002))] H := hP
  have hD : va_D A [(q_60, .inr (7, [.int 0, .ref q_1, .int 0, .int 0, .int 1, .int 0, .int 0, .int 0, .ref q_3, .int 0, .int 0, .int 0, .int 0, .long 0, .int 0, .int (-1), .ref q_62, .ref q_63])), (q_62, .inl (cA_64, 60, .inl f_2099)), (q_63, .inl (cA_65, 60, .inl (upd f_2098 (48 : Int32).toNatClampNeg (-1)))), (q_3, .inr (0, [.int 0, .int 0, .int 0, .int 0, .ref q_4, .ref q_5, .ref q_6, .ref q_7, .ref q_8, .ref q_9, .ref q_10, .ref q_11, .ref q_12, .ref q_13, .ref q_14, .ref q_15, .ref q_16, .ref q_17, .ref q_18])), (q_4, .inl (cA_19, 301, .inl g0_2001)), (q_15, .inl (cA_20, 301, .inl g1_2002))] := hD
  generalize (upd f_2098 (48 : Int32).toNatClampNeg (-1)) = f_2100 at hP hD
  refine lv_iinc (v := 49) (lv' := [(4, .int 49), (0, .ref q_60), (1, .ref q_1), (2, .int 0), (3, .ref q_3)]) hx hb dX7_begin_80 hl (k := 0) rfl (by decide) (by decide) rfl (fun ls hl => ?_)
  refine lv_goto (tgt := 57) hx hb dX7_begin_83 (by decide) ?_
  refine lv_iload hx hb dX7_begin_57 (lv_at hl 0 rfl) ?_
  refine lv_bipush (v := 60) hx hb dX7_begin_59 (by decide) ?_
  refine lv_icmp_ge (tgt := 86) hx hb dX7_begin_61 (by decide) (fun h9 => absurd h9 (by decide)) (fun _ => ?_)
  refine lv_aload_n hx hb dX7_begin_64 rfl (lv_at hl 1 rfl) ?_
  refine va_get (D := (dC, dI)) (ci := 7) (v := .ref q_62) (C := RX7) (T := TX7) (N := 18) hx hb hts mem_X7_begin_0 hown hK hP 0 rfl rfl 16 (by decide) (ow (k := 14) rfl) (fun _ h9 => h9) rfl dX7_begin_65 ?_
  refine lv_iload hx hb dX7_begin_68 (lv_at hl 0 rfl) ?_
  refine lv_iconst (v := 0) hx hb dX7_begin_70 (by decide) ?_
  refine va_zast hx hb hK hP hD hS 1 0 rfl rfl (show vp_in 49 60 by rw [vp_in_iff]; decide) dX7_begin_71 (fun H locs hP hD hS => ?_)
  have hP : va_P (dC, dI) vwP [(q_60, .inr (7, [.int 0, .ref q_1, .int 0, .int 0, .int 1, .int 0, .int 0, .int 0, .ref q_3, .int 0, .int 0, .int 0, .int 0, .long 0, .int 0, .int (-1), .ref q_62, .ref q_63])), (q_62, .inl (cA_64, 60, .inl (upd f_2099 (49 : Int32).toNatClampNeg (vp_nar .boolean 0)))), (q_63, .inl (cA_65, 60, .inl f_2100)), (q_3, .inr (0, [.int 0, .int 0, .int 0, .int 0, .ref q_4, .ref q_5, .ref q_6, .ref q_7, .ref q_8, .ref q_9, .ref q_10, .ref q_11, .ref q_12, .ref q_13, .ref q_14, .ref q_15, .ref q_16, .ref q_17, .ref q_18])), (q_4, .inl (cA_19, 301, .inl g0_2001)), (q_15, .inl (cA_20, 301, .inl g1_2002))] H := hP
  have hD : va_D A [(q_60, .inr (7, [.int 0, .ref q_1, .int 0, .int 0, .int 1, .int 0, .int 0, .int 0, .ref q_3, .int 0, .int 0, .int 0, .int 0, .long 0, .int 0, .int (-1), .ref q_62, .ref q_63])), (q_62, .inl (cA_64, 60, .inl (upd f_2099 (49 : Int32).toNatClampNeg (vp_nar .boolean 0)))), (q_63, .inl (cA_65, 60, .inl f_2100)), (q_3, .inr (0, [.int 0, .int 0, .int 0, .int 0, .ref q_4, .ref q_5, .ref q_6, .ref q_7, .ref q_8, .ref q_9, .ref q_10, .ref q_11, .ref q_12, .ref q_13, .ref q_14, .ref q_15, .ref q_16, .ref q_17, .ref q_18])), (q_4, .inl (cA_19, 301, .inl g0_2001)), (q_15, .inl (cA_20, 301, .inl g1_2002))] := hD
  generalize (upd f_2099 (49 : Int32).toNatClampNeg (vp_nar .boolean 0)) = f_2101 at hP hD
  refine lv_aload_n hx hb dX7_begin_72 rfl (lv_at hl 1 rfl) ?_
  refine va_get (D := (dC, dI)) (ci := 7) (v := .ref q_63) (C := RX7) (T := TX7) (N := 18) hx hb hts mem_X7_begin_0 hown hK hP 0 rfl rfl 17 (by decide) (ow (k := 15) rfl) (fun _ h9 => h9) rfl dX7_begin_73 ?_
  refine lv_iload hx hb dX7_begin_76 (lv_at hl 0 rfl) ?_
  refine lv_iconst (v := (-1)) hx hb dX7_begin_78 (by decide) ?_
  refine va_iast hx hb hK hP hD hS 2 1 rfl rfl (show vp_in 49 60 by rw [vp_in_iff]; decide) dX7_begin_79 (fun H locs hP hD hS => ?_)
  have hP : va_P (dC, dI) vwP [(q_60, .inr (7, [.int 0, .ref q_1, .int 0, .int 0, .int 1, .int 0, .int 0, .int 0, .ref q_3, .int 0, .int 0, .int 0, .int 0, .long 0, .int 0, .int (-1), .ref q_62, .ref q_63])), (q_62, .inl (cA_64, 60, .inl f_2101)), (q_63, .inl (cA_65, 60, .inl (upd f_2100 (49 : Int32).toNatClampNeg (-1)))), (q_3, .inr (0, [.int 0, .int 0, .int 0, .int 0, .ref q_4, .ref q_5, .ref q_6, .ref q_7, .ref q_8, .ref q_9, .ref q_10, .ref q_11, .ref q_12, .ref q_13, .ref q_14, .ref q_15, .ref q_16, .ref q_17, .ref q_18])), (q_4, .inl (cA_19, 301, .inl g0_2001)), (q_15, .inl (cA_20, 301, .inl g1_2002))] H := hP
  have hD : va_D A [(q_60, .inr (7, [.int 0, .ref q_1, .int 0, .int 0, .int 1, .int 0, .int 0, .int 0, .ref q_3, .int 0, .int 0, .int 0, .int 0, .long 0, .int 0, .int (-1), .ref q_62, .ref q_63])), (q_62, .inl (cA_64, 60, .inl f_2101)), (q_63, .inl (cA_65, 60, .inl (upd f_2100 (49 : Int32).toNatClampNeg (-1)))), (q_3, .inr (0, [.int 0, .int 0, .int 0, .int 0, .ref q_4, .ref q_5, .ref q_6, .ref q_7, .ref q_8, .ref q_9, .ref q_10, .ref q_11, .ref q_12, .ref q_13, .ref q_14, .ref q_15, .ref q_16, .ref q_17, .ref q_18])), (q_4, .inl (cA_19, 301, .inl g0_2001)), (q_15, .inl (cA_20, 301, .inl g1_2002))] := hD
  generalize (upd f_2100 (49 : Int32).toNatClampNeg (-1)) = f_2102 at hP hD
  refine lv_iinc (v := 50) (lv' := [(4, .int 50), (0, .ref q_60), (1, .ref q_1), (2, .int 0), (3, .ref q_3)]) hx hb dX7_begin_80 hl (k := 0) rfl (by decide) (by decide) rfl (fun ls hl => ?_)
  refine lv_goto (tgt := 57) hx hb dX7_begin_83 (by decide) ?_
  refine lv_iload hx hb dX7_begin_57 (lv_at hl 0 rfl) ?_
  refine lv_bipush (v := 60) hx hb dX7_begin_59 (by decide) ?_
  refine lv_icmp_ge (tgt := 86) hx hb dX7_begin_61 (by decide) (fun h9 => absurd h9 (by decide)) (fun _ => ?_)
  refine lv_aload_n hx hb dX7_begin_64 rfl (lv_at hl 1 rfl) ?_
  refine va_get (D := (dC, dI)) (ci := 7) (v := .ref q_62) (C := RX7) (T := TX7) (N := 18) hx hb hts mem_X7_begin_0 hown hK hP 0 rfl rfl 16 (by decide) (ow (k := 14) rfl) (fun _ h9 => h9) rfl dX7_begin_65 ?_
  refine lv_iload hx hb dX7_begin_68 (lv_at hl 0 rfl) ?_
  refine lv_iconst (v := 0) hx hb dX7_begin_70 (by decide) ?_
  refine va_zast hx hb hK hP hD hS 1 0 rfl rfl (show vp_in 50 60 by rw [vp_in_iff]; decide) dX7_begin_71 (fun H locs hP hD hS => ?_)
  have hP : va_P (dC, dI) vwP [(q_60, .inr (7, [.int 0, .ref q_1, .int 0, .int 0, .int 1, .int 0, .int 0, .int 0, .ref q_3, .int 0, .int 0, .int 0, .int 0, .long 0, .int 0, .int (-1), .ref q_62, .ref q_63])), (q_62, .inl (cA_64, 60, .inl (upd f_2101 (50 : Int32).toNatClampNeg (vp_nar .boolean 0)))), (q_63, .inl (cA_65, 60, .inl f_2102)), (q_3, .inr (0, [.int 0, .int 0, .int 0, .int 0, .ref q_4, .ref q_5, .ref q_6, .ref q_7, .ref q_8, .ref q_9, .ref q_10, .ref q_11, .ref q_12, .ref q_13, .ref q_14, .ref q_15, .ref q_16, .ref q_17, .ref q_18])), (q_4, .inl (cA_19, 301, .inl g0_2001)), (q_15, .inl (cA_20, 301, .inl g1_2002))] H := hP
  have hD : va_D A [(q_60, .inr (7, [.int 0, .ref q_1, .int 0, .int 0, .int 1, .int 0, .int 0, .int 0, .ref q_3, .int 0, .int 0, .int 0, .int 0, .long 0, .int 0, .int (-1), .ref q_62, .ref q_63])), (q_62, .inl (cA_64, 60, .inl (upd f_2101 (50 : Int32).toNatClampNeg (vp_nar .boolean 0)))), (q_63, .inl (cA_65, 60, .inl f_2102)), (q_3, .inr (0, [.int 0, .int 0, .int 0, .int 0, .ref q_4, .ref q_5, .ref q_6, .ref q_7, .ref q_8, .ref q_9, .ref q_10, .ref q_11, .ref q_12, .ref q_13, .ref q_14, .ref q_15, .ref q_16, .ref q_17, .ref q_18])), (q_4, .inl (cA_19, 301, .inl g0_2001)), (q_15, .inl (cA_20, 301, .inl g1_2002))] := hD
  generalize (upd f_2101 (50 : Int32).toNatClampNeg (vp_nar .boolean 0)) = f_2103 at hP hD
  refine lv_aload_n hx hb dX7_begin_72 rfl (lv_at hl 1 rfl) ?_
  refine va_get (D := (dC, dI)) (ci := 7) (v := .ref q_63) (C := RX7) (T := TX7) (N := 18) hx hb hts mem_X7_begin_0 hown hK hP 0 rfl rfl 17 (by decide) (ow (k := 15) rfl) (fun _ h9 => h9) rfl dX7_begin_73 ?_
  refine lv_iload hx hb dX7_begin_76 (lv_at hl 0 rfl) ?_
  refine lv_iconst (v := (-1)) hx hb dX7_begin_78 (by decide) ?_
  refine va_iast hx hb hK hP hD hS 2 1 rfl rfl (show vp_in 50 60 by rw [vp_in_iff]; decide) dX7_begin_79 (fun H locs hP hD hS => ?_)
  have hP : va_P (dC, dI) vwP [(q_60, .inr (7, [.int 0, .ref q_1, .int 0, .int 0, .int 1, .int 0, .int 0, .int 0, .ref q_3, .int 0, .int 0, .int 0, .int 0, .long 0, .int 0, .int (-1), .ref q_62, .ref q_63])), (q_62, .inl (cA_64, 60, .inl f_2103)), (q_63, .inl (cA_65, 60, .inl (upd f_2102 (50 : Int32).toNatClampNeg (-1)))), (q_3, .inr (0, [.int 0, .int 0, .int 0, .int 0, .ref q_4, .ref q_5, .ref q_6, .ref q_7, .ref q_8, .ref q_9, .ref q_10, .ref q_11, .ref q_12, .ref q_13, .ref q_14, .ref q_15, .ref q_16, .ref q_17, .ref q_18])), (q_4, .inl (cA_19, 301, .inl g0_2001)), (q_15, .inl (cA_20, 301, .inl g1_2002))] H := hP
  have hD : va_D A [(q_60, .inr (7, [.int 0, .ref q_1, .int 0, .int 0, .int 1, .int 0, .int 0, .int 0, .ref q_3, .int 0, .int 0, .int 0, .int 0, .long 0, .int 0, .int (-1), .ref q_62, .ref q_63])), (q_62, .inl (cA_64, 60, .inl f_2103)), (q_63, .inl (cA_65, 60, .inl (upd f_2102 (50 : Int32).toNatClampNeg (-1)))), (q_3, .inr (0, [.int 0, .int 0, .int 0, .int 0, .ref q_4, .ref q_5, .ref q_6, .ref q_7, .ref q_8, .ref q_9, .ref q_10, .ref q_11, .ref q_12, .ref q_13, .ref q_14, .ref q_15, .ref q_16, .ref q_17, .ref q_18])), (q_4, .inl (cA_19, 301, .inl g0_2001)), (q_15, .inl (cA_20, 301, .inl g1_2002))] := hD
  generalize (upd f_2102 (50 : Int32).toNatClampNeg (-1)) = f_2104 at hP hD
  refine lv_iinc (v := 51) (lv' := [(4, .int 51), (0, .ref q_60), (1, .ref q_1), (2, .int 0), (3, .ref q_3)]) hx hb dX7_begin_80 hl (k := 0) rfl (by decide) (by decide) rfl (fun ls hl => ?_)
  refine lv_goto (tgt := 57) hx hb dX7_begin_83 (by decide) ?_
  refine lv_iload hx hb dX7_begin_57 (lv_at hl 0 rfl) ?_
  refine lv_bipush (v := 60) hx hb dX7_begin_59 (by decide) ?_
  refine lv_icmp_ge (tgt := 86) hx hb dX7_begin_61 (by decide) (fun h9 => absurd h9 (by decide)) (fun _ => ?_)
  refine lv_aload_n hx hb dX7_begin_64 rfl (lv_at hl 1 rfl) ?_
  refine va_get (D := (dC, dI)) (ci := 7) (v := .ref q_62) (C := RX7) (T := TX7) (N := 18) hx hb hts mem_X7_begin_0 hown hK hP 0 rfl rfl 16 (by decide) (ow (k := 14) rfl) (fun _ h9 => h9) rfl dX7_begin_65 ?_
  refine lv_iload hx hb dX7_begin_68 (lv_at hl 0 rfl) ?_
  refine lv_iconst (v := 0) hx hb dX7_begin_70 (by decide) ?_
  refine va_zast hx hb hK hP hD hS 1 0 rfl rfl (show vp_in 51 60 by rw [vp_in_iff]; decide) dX7_begin_71 (fun H locs hP hD hS => ?_)
  have hP : va_P (dC, dI) vwP [(q_60, .inr (7, [.int 0, .ref q_1, .int 0, .int 0, .int 1, .int 0, .int 0, .int 0, .ref q_3, .int 0, .int 0, .int 0, .int 0, .long 0, .int 0, .int (-1), .ref q_62, .ref q_63])), (q_62, .inl (cA_64, 60, .inl (upd f_2103 (51 : Int32).toNatClampNeg (vp_nar .boolean 0)))), (q_63, .inl (cA_65, 60, .inl f_2104)), (q_3, .inr (0, [.int 0, .int 0, .int 0, .int 0, .ref q_4, .ref q_5, .ref q_6, .ref q_7, .ref q_8, .ref q_9, .ref q_10, .ref q_11, .ref q_12, .ref q_13, .ref q_14, .ref q_15, .ref q_16, .ref q_17, .ref q_18])), (q_4, .inl (cA_19, 301, .inl g0_2001)), (q_15, .inl (cA_20, 301, .inl g1_2002))] H := hP
  have hD : va_D A [(q_60, .inr (7, [.int 0, .ref q_1, .int 0, .int 0, .int 1, .int 0, .int 0, .int 0, .ref q_3, .int 0, .int 0, .int 0, .int 0, .long 0, .int 0, .int (-1), .ref q_62, .ref q_63])), (q_62, .inl (cA_64, 60, .inl (upd f_2103 (51 : Int32).toNatClampNeg (vp_nar .boolean 0)))), (q_63, .inl (cA_65, 60, .inl f_2104)), (q_3, .inr (0, [.int 0, .int 0, .int 0, .int 0, .ref q_4, .ref q_5, .ref q_6, .ref q_7, .ref q_8, .ref q_9, .ref q_10, .ref q_11, .ref q_12, .ref q_13, .ref q_14, .ref q_15, .ref q_16, .ref q_17, .ref q_18])), (q_4, .inl (cA_19, 301, .inl g0_2001)), (q_15, .inl (cA_20, 301, .inl g1_2002))] := hD
  generalize (upd f_2103 (51 : Int32).toNatClampNeg (vp_nar .boolean 0)) = f_2105 at hP hD
  refine lv_aload_n hx hb dX7_begin_72 rfl (lv_at hl 1 rfl) ?_
  refine va_get (D := (dC, dI)) (ci := 7) (v := .ref q_63) (C := RX7) (T := TX7) (N := 18) hx hb hts mem_X7_begin_0 hown hK hP 0 rfl rfl 17 (by decide) (ow (k := 15) rfl) (fun _ h9 => h9) rfl dX7_begin_73 ?_
  refine lv_iload hx hb dX7_begin_76 (lv_at hl 0 rfl) ?_
  refine lv_iconst (v := (-1)) hx hb dX7_begin_78 (by decide) ?_
  refine va_iast hx hb hK hP hD hS 2 1 rfl rfl (show vp_in 51 60 by rw [vp_in_iff]; decide) dX7_begin_79 (fun H locs hP hD hS => ?_)
  have hP : va_P (dC, dI) vwP [(q_60, .inr (7, [.int 0, .ref q_1, .int 0, .int 0, .int 1, .int 0, .int 0, .int 0, .ref q_3, .int 0, .int 0, .int 0, .int 0, .long 0, .int 0, .int (-1), .ref q_62, .ref q_63])), (q_62, .inl (cA_64, 60, .inl f_2105)), (q_63, .inl (cA_65, 60, .inl (upd f_2104 (51 : Int32).toNatClampNeg (-1)))), (q_3, .inr (0, [.int 0, .int 0, .int 0, .int 0, .ref q_4, .ref q_5, .ref q_6, .ref q_7, .ref q_8, .ref q_9, .ref q_10, .ref q_11, .ref q_12, .ref q_13, .ref q_14, .ref q_15, .ref q_16, .ref q_17, .ref q_18])), (q_4, .inl (cA_19, 301, .inl g0_2001)), (q_15, .inl (cA_20, 301, .inl g1_2002))] H := hP
  have hD : va_D A [(q_60, .inr (7, [.int 0, .ref q_1, .int 0, .int 0, .int 1, .int 0, .int 0, .int 0, .ref q_3, .int 0, .int 0, .int 0, .int 0, .long 0, .int 0, .int (-1), .ref q_62, .ref q_63])), (q_62, .inl (cA_64, 60, .inl f_2105)), (q_63, .inl (cA_65, 60, .inl (upd f_2104 (51 : Int32).toNatClampNeg (-1)))), (q_3, .inr (0, [.int 0, .int 0, .int 0, .int 0, .ref q_4, .ref q_5, .ref q_6, .ref q_7, .ref q_8, .ref q_9, .ref q_10, .ref q_11, .ref q_12, .ref q_13, .ref q_14, .ref q_15, .ref q_16, .ref q_17, .ref q_18])), (q_4, .inl (cA_19, 301, .inl g0_2001)), (q_15, .inl (cA_20, 301, .inl g1_2002))] := hD
  generalize (upd f_2104 (51 : Int32).toNatClampNeg (-1)) = f_2106 at hP hD
  refine lv_iinc (v := 52) (lv' := [(4, .int 52), (0, .ref q_60), (1, .ref q_1), (2, .int 0), (3, .ref q_3)]) hx hb dX7_begin_80 hl (k := 0) rfl (by decide) (by decide) rfl (fun ls hl => ?_)
  refine lv_goto (tgt := 57) hx hb dX7_begin_83 (by decide) ?_
  refine lv_iload hx hb dX7_begin_57 (lv_at hl 0 rfl) ?_
  refine lv_bipush (v := 60) hx hb dX7_begin_59 (by decide) ?_
  refine lv_icmp_ge (tgt := 86) hx hb dX7_begin_61 (by decide) (fun h9 => absurd h9 (by decide)) (fun _ => ?_)
  refine lv_aload_n hx hb dX7_begin_64 rfl (lv_at hl 1 rfl) ?_
  refine va_get (D := (dC, dI)) (ci := 7) (v := .ref q_62) (C := RX7) (T := TX7) (N := 18) hx hb hts mem_X7_begin_0 hown hK hP 0 rfl rfl 16 (by decide) (ow (k := 14) rfl) (fun _ h9 => h9) rfl dX7_begin_65 ?_
  refine lv_iload hx hb dX7_begin_68 (lv_at hl 0 rfl) ?_
  refine lv_iconst (v := 0) hx hb dX7_begin_70 (by decide) ?_
  refine va_zast hx hb hK hP hD hS 1 0 rfl rfl (show vp_in 52 60 by rw [vp_in_iff]; decide) dX7_begin_71 (fun H locs hP hD hS => ?_)
  have hP : va_P (dC, dI) vwP [(q_60, .inr (7, [.int 0, .ref q_1, .int 0, .int 0, .int 1, .int 0, .int 0, .int 0, .ref q_3, .int 0, .int 0, .int 0, .int 0, .long 0, .int 0, .int (-1), .ref q_62, .ref q_63])), (q_62, .inl (cA_64, 60, .inl (upd f_2105 (52 : Int32).toNatClampNeg (vp_nar .boolean 0)))), (q_63, .inl (cA_65, 60, .inl f_2106)), (q_3, .inr (0, [.int 0, .int 0, .int 0, .int 0, .ref q_4, .ref q_5, .ref q_6, .ref q_7, .ref q_8, .ref q_9, .ref q_10, .ref q_11, .ref q_12, .ref q_13, .ref q_14, .ref q_15, .ref q_16, .ref q_17, .ref q_18])), (q_4, .inl (cA_19, 301, .inl g0_2001)), (q_15, .inl (cA_20, 301, .inl g1_2002))] H := hP
  have hD : va_D A [(q_60, .inr (7, [.int 0, .ref q_1, .int 0, .int 0, .int 1, .int 0, .int 0, .int 0, .ref q_3, .int 0, .int 0, .int 0, .int 0, .long 0, .int 0, .int (-1), .ref q_62, .ref q_63])), (q_62, .inl (cA_64, 60, .inl (upd f_2105 (52 : Int32).toNatClampNeg (vp_nar .boolean 0)))), (q_63, .inl (cA_65, 60, .inl f_2106)), (q_3, .inr (0, [.int 0, .int 0, .int 0, .int 0, .ref q_4, .ref q_5, .ref q_6, .ref q_7, .ref q_8, .ref q_9, .ref q_10, .ref q_11, .ref q_12, .ref q_13, .ref q_14, .ref q_15, .ref q_16, .ref q_17, .ref q_18])), (q_4, .inl (cA_19, 301, .inl g0_2001)), (q_15, .inl (cA_20, 301, .inl g1_2002))] := hD
  generalize (upd f_2105 (52 : Int32).toNatClampNeg (vp_nar .boolean 0)) = f_2107 at hP hD
  refine lv_aload_n hx hb dX7_begin_72 rfl (lv_at hl 1 rfl) ?_
  refine va_get (D := (dC, dI)) (ci := 7) (v := .ref q_63) (C := RX7) (T := TX7) (N := 18) hx hb hts mem_X7_begin_0 hown hK hP 0 rfl rfl 17 (by decide) (ow (k := 15) rfl) (fun _ h9 => h9) rfl dX7_begin_73 ?_
  refine lv_iload hx hb dX7_begin_76 (lv_at hl 0 rfl) ?_
  refine lv_iconst (v := (-1)) hx hb dX7_begin_78 (by decide) ?_
  refine va_iast hx hb hK hP hD hS 2 1 rfl rfl (show vp_in 52 60 by rw [vp_in_iff]; decide) dX7_begin_79 (fun H locs hP hD hS => ?_)
  have hP : va_P (dC, dI) vwP [(q_60, .inr (7, [.int 0, .ref q_1, .int 0, .int 0, .int 1, .int 0, .int 0, .int 0, .ref q_3, .int 0, .int 0, .int 0, .int 0, .long 0, .int 0, .int (-1), .ref q_62, .ref q_63])), (q_62, .inl (cA_64, 60, .inl f_2107)), (q_63, .inl (cA_65, 60, .inl (upd f_2106 (52 : Int32).toNatClampNeg (-1)))), (q_3, .inr (0, [.int 0, .int 0, .int 0, .int 0, .ref q_4, .ref q_5, .ref q_6, .ref q_7, .ref q_8, .ref q_9, .ref q_10, .ref q_11, .ref q_12, .ref q_13, .ref q_14, .ref q_15, .ref q_16, .ref q_17, .ref q_18])), (q_4, .inl (cA_19, 301, .inl g0_2001)), (q_15, .inl (cA_20, 301, .inl g1_2002))] H := hP
  have hD : va_D A [(q_60, .inr (7, [.int 0, .ref q_1, .int 0, .int 0, .int 1, .int 0, .int 0, .int 0, .ref q_3, .int 0, .int 0, .int 0, .int 0, .long 0, .int 0, .int (-1), .ref q_62, .ref q_63])), (q_62, .inl (cA_64, 60, .inl f_2107)), (q_63, .inl (cA_65, 60, .inl (upd f_2106 (52 : Int32).toNatClampNeg (-1)))), (q_3, .inr (0, [.int 0, .int 0, .int 0, .int 0, .ref q_4, .ref q_5, .ref q_6, .ref q_7, .ref q_8, .ref q_9, .ref q_10, .ref q_11, .ref q_12, .ref q_13, .ref q_14, .ref q_15, .ref q_16, .ref q_17, .ref q_18])), (q_4, .inl (cA_19, 301, .inl g0_2001)), (q_15, .inl (cA_20, 301, .inl g1_2002))] := hD
  generalize (upd f_2106 (52 : Int32).toNatClampNeg (-1)) = f_2108 at hP hD
  refine lv_iinc (v := 53) (lv' := [(4, .int 53), (0, .ref q_60), (1, .ref q_1), (2, .int 0), (3, .ref q_3)]) hx hb dX7_begin_80 hl (k := 0) rfl (by decide) (by decide) rfl (fun ls hl => ?_)
  refine lv_goto (tgt := 57) hx hb dX7_begin_83 (by decide) ?_
  refine lv_iload hx hb dX7_begin_57 (lv_at hl 0 rfl) ?_
  refine lv_bipush (v := 60) hx hb dX7_begin_59 (by decide) ?_
  refine lv_icmp_ge (tgt := 86) hx hb dX7_begin_61 (by decide) (fun h9 => absurd h9 (by decide)) (fun _ => ?_)
  refine lv_aload_n hx hb dX7_begin_64 rfl (lv_at hl 1 rfl) ?_
  refine va_get (D := (dC, dI)) (ci := 7) (v := .ref q_62) (C := RX7) (T := TX7) (N := 18) hx hb hts mem_X7_begin_0 hown hK hP 0 rfl rfl 16 (by decide) (ow (k := 14) rfl) (fun _ h9 => h9) rfl dX7_begin_65 ?_
  refine lv_iload hx hb dX7_begin_68 (lv_at hl 0 rfl) ?_
  refine lv_iconst (v := 0) hx hb dX7_begin_70 (by decide) ?_
  refine va_zast hx hb hK hP hD hS 1 0 rfl rfl (show vp_in 53 60 by rw [vp_in_iff]; decide) dX7_begin_71 (fun H locs hP hD hS => ?_)
  have hP : va_P (dC, dI) vwP [(q_60, .inr (7, [.int 0, .ref q_1, .int 0, .int 0, .int 1, .int 0, .int 0, .int 0, .ref q_3, .int 0, .int 0, .int 0, .int 0, .long 0, .int 0, .int (-1), .ref q_62, .ref q_63])), (q_62, .inl (cA_64, 60, .inl (upd f_2107 (53 : Int32).toNatClampNeg (vp_nar .boolean 0)))), (q_63, .inl (cA_65, 60, .inl f_2108)), (q_3, .inr (0, [.int 0, .int 0, .int 0, .int 0, .ref q_4, .ref q_5, .ref q_6, .ref q_7, .ref q_8, .ref q_9, .ref q_10, .ref q_11, .ref q_12, .ref q_13, .ref q_14, .ref q_15, .ref q_16, .ref q_17, .ref q_18])), (q_4, .inl (cA_19, 301, .inl g0_2001)), (q_15, .inl (cA_20, 301, .inl g1_2002))] H := hP
  have hD : va_D A [(q_60, .inr (7, [.int 0, .ref q_1, .int 0, .int 0, .int 1, .int 0, .int 0, .int 0, .ref q_3, .int 0, .int 0, .int 0, .int 0, .long 0, .int 0, .int (-1), .ref q_62, .ref q_63])), (q_62, .inl (cA_64, 60, .inl (upd f_2107 (53 : Int32).toNatClampNeg (vp_nar .boolean 0)))), (q_63, .inl (cA_65, 60, .inl f_2108)), (q_3, .inr (0, [.int 0, .int 0, .int 0, .int 0, .ref q_4, .ref q_5, .ref q_6, .ref q_7, .ref q_8, .ref q_9, .ref q_10, .ref q_11, .ref q_12, .ref q_13, .ref q_14, .ref q_15, .ref q_16, .ref q_17, .ref q_18])), (q_4, .inl (cA_19, 301, .inl g0_2001)), (q_15, .inl (cA_20, 301, .inl g1_2002))] := hD
  generalize (upd f_2107 (53 : Int32).toNatClampNeg (vp_nar .boolean 0)) = f_2109 at hP hD
  refine lv_aload_n hx hb dX7_begin_72 rfl (lv_at hl 1 rfl) ?_
  refine va_get (D := (dC, dI)) (ci := 7) (v := .ref q_63) (C := RX7) (T := TX7) (N := 18) hx hb hts mem_X7_begin_0 hown hK hP 0 rfl rfl 17 (by decide) (ow (k := 15) rfl) (fun _ h9 => h9) rfl dX7_begin_73 ?_
  refine lv_iload hx hb dX7_begin_76 (lv_at hl 0 rfl) ?_
  refine lv_iconst (v := (-1)) hx hb dX7_begin_78 (by decide) ?_
  refine va_iast hx hb hK hP hD hS 2 1 rfl rfl (show vp_in 53 60 by rw [vp_in_iff]; decide) dX7_begin_79 (fun H locs hP hD hS => ?_)
  have hP : va_P (dC, dI) vwP [(q_60, .inr (7, [.int 0, .ref q_1, .int 0, .int 0, .int 1, .int 0, .int 0, .int 0, .ref q_3, .int 0, .int 0, .int 0, .int 0, .long 0, .int 0, .int (-1), .ref q_62, .ref q_63])), (q_62, .inl (cA_64, 60, .inl f_2109)), (q_63, .inl (cA_65, 60, .inl (upd f_2108 (53 : Int32).toNatClampNeg (-1)))), (q_3, .inr (0, [.int 0, .int 0, .int 0, .int 0, .ref q_4, .ref q_5, .ref q_6, .ref q_7, .ref q_8, .ref q_9, .ref q_10, .ref q_11, .ref q_12, .ref q_13, .ref q_14, .ref q_15, .ref q_16, .ref q_17, .ref q_18])), (q_4, .inl (cA_19, 301, .inl g0_2001)), (q_15, .inl (cA_20, 301, .inl g1_2002))] H := hP
  have hD : va_D A [(q_60, .inr (7, [.int 0, .ref q_1, .int 0, .int 0, .int 1, .int 0, .int 0, .int 0, .ref q_3, .int 0, .int 0, .int 0, .int 0, .long 0, .int 0, .int (-1), .ref q_62, .ref q_63])), (q_62, .inl (cA_64, 60, .inl f_2109)), (q_63, .inl (cA_65, 60, .inl (upd f_2108 (53 : Int32).toNatClampNeg (-1)))), (q_3, .inr (0, [.int 0, .int 0, .int 0, .int 0, .ref q_4, .ref q_5, .ref q_6, .ref q_7, .ref q_8, .ref q_9, .ref q_10, .ref q_11, .ref q_12, .ref q_13, .ref q_14, .ref q_15, .ref q_16, .ref q_17, .ref q_18])), (q_4, .inl (cA_19, 301, .inl g0_2001)), (q_15, .inl (cA_20, 301, .inl g1_2002))] := hD
  generalize (upd f_2108 (53 : Int32).toNatClampNeg (-1)) = f_2110 at hP hD
  refine lv_iinc (v := 54) (lv' := [(4, .int 54), (0, .ref q_60), (1, .ref q_1), (2, .int 0), (3, .ref q_3)]) hx hb dX7_begin_80 hl (k := 0) rfl (by decide) (by decide) rfl (fun ls hl => ?_)
  refine lv_goto (tgt := 57) hx hb dX7_begin_83 (by decide) ?_
  refine lv_iload hx hb dX7_begin_57 (lv_at hl 0 rfl) ?_
  refine lv_bipush (v := 60) hx hb dX7_begin_59 (by decide) ?_
  refine lv_icmp_ge (tgt := 86) hx hb dX7_begin_61 (by decide) (fun h9 => absurd h9 (by decide)) (fun _ => ?_)
  refine lv_aload_n hx hb dX7_begin_64 rfl (lv_at hl 1 rfl) ?_
  refine va_get (D := (dC, dI)) (ci := 7) (v := .ref q_62) (C := RX7) (T := TX7) (N := 18) hx hb hts mem_X7_begin_0 hown hK hP 0 rfl rfl 16 (by decide) (ow (k := 14) rfl) (fun _ h9 => h9) rfl dX7_begin_65 ?_
  refine lv_iload hx hb dX7_begin_68 (lv_at hl 0 rfl) ?_
  refine lv_iconst (v := 0) hx hb dX7_begin_70 (by decide) ?_
  refine va_zast hx hb hK hP hD hS 1 0 rfl rfl (show vp_in 54 60 by rw [vp_in_iff]; decide) dX7_begin_71 (fun H locs hP hD hS => ?_)
  have hP : va_P (dC, dI) vwP [(q_60, .inr (7, [.int 0, .ref q_1, .int 0, .int 0, .int 1, .int 0, .int 0, .int 0, .ref q_3, .int 0, .int 0, .int 0, .int 0, .long 0, .int 0, .int (-1), .ref q_62, .ref q_63])), (q_62, .inl (cA_64, 60, .inl (upd f_2109 (54 : Int32).toNatClampNeg (vp_nar .boolean 0)))), (q_63, .inl (cA_65, 60, .inl f_2110)), (q_3, .inr (0, [.int 0, .int 0, .int 0, .int 0, .ref q_4, .ref q_5, .ref q_6, .ref q_7, .ref q_8, .ref q_9, .ref q_10, .ref q_11, .ref q_12, .ref q_13, .ref q_14, .ref q_15, .ref q_16, .ref q_17, .ref q_18])), (q_4, .inl (cA_19, 301, .inl g0_2001)), (q_15, .inl (cA_20, 301, .inl g1_2002))] H := hP
  have hD : va_D A [(q_60, .inr (7, [.int 0, .ref q_1, .int 0, .int 0, .int 1, .int 0, .int 0, .int 0, .ref q_3, .int 0, .int 0, .int 0, .int 0, .long 0, .int 0, .int (-1), .ref q_62, .ref q_63])), (q_62, .inl (cA_64, 60, .inl (upd f_2109 (54 : Int32).toNatClampNeg (vp_nar .boolean 0)))), (q_63, .inl (cA_65, 60, .inl f_2110)), (q_3, .inr (0, [.int 0, .int 0, .int 0, .int 0, .ref q_4, .ref q_5, .ref q_6, .ref q_7, .ref q_8, .ref q_9, .ref q_10, .ref q_11, .ref q_12, .ref q_13, .ref q_14, .ref q_15, .ref q_16, .ref q_17, .ref q_18])), (q_4, .inl (cA_19, 301, .inl g0_2001)), (q_15, .inl (cA_20, 301, .inl g1_2002))] := hD
  generalize (upd f_2109 (54 : Int32).toNatClampNeg (vp_nar .boolean 0)) = f_2111 at hP hD
  refine lv_aload_n hx hb dX7_begin_72 rfl (lv_at hl 1 rfl) ?_
  refine va_get (D := (dC, dI)) (ci := 7) (v := .ref q_63) (C := RX7) (T := TX7) (N := 18) hx hb hts mem_X7_begin_0 hown hK hP 0 rfl rfl 17 (by decide) (ow (k := 15) rfl) (fun _ h9 => h9) rfl dX7_begin_73 ?_
  refine lv_iload hx hb dX7_begin_76 (lv_at hl 0 rfl) ?_
  refine lv_iconst (v := (-1)) hx hb dX7_begin_78 (by decide) ?_
  refine va_iast hx hb hK hP hD hS 2 1 rfl rfl (show vp_in 54 60 by rw [vp_in_iff]; decide) dX7_begin_79 (fun H locs hP hD hS => ?_)
  have hP : va_P (dC, dI) vwP [(q_60, .inr (7, [.int 0, .ref q_1, .int 0, .int 0, .int 1, .int 0, .int 0, .int 0, .ref q_3, .int 0, .int 0, .int 0, .int 0, .long 0, .int 0, .int (-1), .ref q_62, .ref q_63])), (q_62, .inl (cA_64, 60, .inl f_2111)), (q_63, .inl (cA_65, 60, .inl (upd f_2110 (54 : Int32).toNatClampNeg (-1)))), (q_3, .inr (0, [.int 0, .int 0, .int 0, .int 0, .ref q_4, .ref q_5, .ref q_6, .ref q_7, .ref q_8, .ref q_9, .ref q_10, .ref q_11, .ref q_12, .ref q_13, .ref q_14, .ref q_15, .ref q_16, .ref q_17, .ref q_18])), (q_4, .inl (cA_19, 301, .inl g0_2001)), (q_15, .inl (cA_20, 301, .inl g1_2002))] H := hP
  have hD : va_D A [(q_60, .inr (7, [.int 0, .ref q_1, .int 0, .int 0, .int 1, .int 0, .int 0, .int 0, .ref q_3, .int 0, .int 0, .int 0, .int 0, .long 0, .int 0, .int (-1), .ref q_62, .ref q_63])), (q_62, .inl (cA_64, 60, .inl f_2111)), (q_63, .inl (cA_65, 60, .inl (upd f_2110 (54 : Int32).toNatClampNeg (-1)))), (q_3, .inr (0, [.int 0, .int 0, .int 0, .int 0, .ref q_4, .ref q_5, .ref q_6, .ref q_7, .ref q_8, .ref q_9, .ref q_10, .ref q_11, .ref q_12, .ref q_13, .ref q_14, .ref q_15, .ref q_16, .ref q_17, .ref q_18])), (q_4, .inl (cA_19, 301, .inl g0_2001)), (q_15, .inl (cA_20, 301, .inl g1_2002))] := hD
  generalize (upd f_2110 (54 : Int32).toNatClampNeg (-1)) = f_2112 at hP hD
  refine lv_iinc (v := 55) (lv' := [(4, .int 55), (0, .ref q_60), (1, .ref q_1), (2, .int 0), (3, .ref q_3)]) hx hb dX7_begin_80 hl (k := 0) rfl (by decide) (by decide) rfl (fun ls hl => ?_)
  refine lv_goto (tgt := 57) hx hb dX7_begin_83 (by decide) ?_
  refine lv_iload hx hb dX7_begin_57 (lv_at hl 0 rfl) ?_
  refine lv_bipush (v := 60) hx hb dX7_begin_59 (by decide) ?_
  refine lv_icmp_ge (tgt := 86) hx hb dX7_begin_61 (by decide) (fun h9 => absurd h9 (by decide)) (fun _ => ?_)
  refine lv_aload_n hx hb dX7_begin_64 rfl (lv_at hl 1 rfl) ?_
  refine va_get (D := (dC, dI)) (ci := 7) (v := .ref q_62) (C := RX7) (T := TX7) (N := 18) hx hb hts mem_X7_begin_0 hown hK hP 0 rfl rfl 16 (by decide) (ow (k := 14) rfl) (fun _ h9 => h9) rfl dX7_begin_65 ?_
  refine lv_iload hx hb dX7_begin_68 (lv_at hl 0 rfl) ?_
  refine lv_iconst (v := 0) hx hb dX7_begin_70 (by decide) ?_
  refine va_zast hx hb hK hP hD hS 1 0 rfl rfl (show vp_in 55 60 by rw [vp_in_iff]; decide) dX7_begin_71 (fun H locs hP hD hS => ?_)
  have hP : va_P (dC, dI) vwP [(q_60, .inr (7, [.int 0, .ref q_1, .int 0, .int 0, .int 1, .int 0, .int 0, .int 0, .ref q_3, .int 0, .int 0, .int 0, .int 0, .long 0, .int 0, .int (-1), .ref q_62, .ref q_63])), (q_62, .inl (cA_64, 60, .inl (upd f_2111 (55 : Int32).toNatClampNeg (vp_nar .boolean 0)))), (q_63, .inl (cA_65, 60, .inl f_2112)), (q_3, .inr (0, [.int 0, .int 0, .int 0, .int 0, .ref q_4, .ref q_5, .ref q_6, .ref q_7, .ref q_8, .ref q_9, .ref q_10, .ref q_11, .ref q_12, .ref q_13, .ref q_14, .ref q_15, .ref q_16, .ref q_17, .ref q_18])), (q_4, .inl (cA_19, 301, .inl g0_2001)), (q_15, .inl (cA_20, 301, .inl g1_2002))] H := hP
  have hD : va_D A [(q_60, .inr (7, [.int 0, .ref q_1, .int 0, .int 0, .int 1, .int 0, .int 0, .int 0, .ref q_3, .int 0, .int 0, .int 0, .int 0, .long 0, .int 0, .int (-1), .ref q_62, .ref q_63])), (q_62, .inl (cA_64, 60, .inl (upd f_2111 (55 : Int32).toNatClampNeg (vp_nar .boolean 0)))), (q_63, .inl (cA_65, 60, .inl f_2112)), (q_3, .inr (0, [.int 0, .int 0, .int 0, .int 0, .ref q_4, .ref q_5, .ref q_6, .ref q_7, .ref q_8, .ref q_9, .ref q_10, .ref q_11, .ref q_12, .ref q_13, .ref q_14, .ref q_15, .ref q_16, .ref q_17, .ref q_18])), (q_4, .inl (cA_19, 301, .inl g0_2001)), (q_15, .inl (cA_20, 301, .inl g1_2002))] := hD
  generalize (upd f_2111 (55 : Int32).toNatClampNeg (vp_nar .boolean 0)) = f_2113 at hP hD
  refine lv_aload_n hx hb dX7_begin_72 rfl (lv_at hl 1 rfl) ?_
  refine va_get (D := (dC, dI)) (ci := 7) (v := .ref q_63) (C := RX7) (T := TX7) (N := 18) hx hb hts mem_X7_begin_0 hown hK hP 0 rfl rfl 17 (by decide) (ow (k := 15) rfl) (fun _ h9 => h9) rfl dX7_begin_73 ?_
  refine lv_iload hx hb dX7_begin_76 (lv_at hl 0 rfl) ?_
  refine lv_iconst (v := (-1)) hx hb dX7_begin_78 (by decide) ?_
  refine va_iast hx hb hK hP hD hS 2 1 rfl rfl (show vp_in 55 60 by rw [vp_in_iff]; decide) dX7_begin_79 (fun H locs hP hD hS => ?_)
  have hP : va_P (dC, dI) vwP [(q_60, .inr (7, [.int 0, .ref q_1, .int 0, .int 0, .int 1, .int 0, .int 0, .int 0, .ref q_3, .int 0, .int 0, .int 0, .int 0, .long 0, .int 0, .int (-1), .ref q_62, .ref q_63])), (q_62, .inl (cA_64, 60, .inl f_2113)), (q_63, .inl (cA_65, 60, .inl (upd f_2112 (55 : Int32).toNatClampNeg (-1)))), (q_3, .inr (0, [.int 0, .int 0, .int 0, .int 0, .ref q_4, .ref q_5, .ref q_6, .ref q_7, .ref q_8, .ref q_9, .ref q_10, .ref q_11, .ref q_12, .ref q_13, .ref q_14, .ref q_15, .ref q_16, .ref q_17, .ref q_18])), (q_4, .inl (cA_19, 301, .inl g0_2001)), (q_15, .inl (cA_20, 301, .inl g1_2002))] H := hP
  have hD : va_D A [(q_60, .inr (7, [.int 0, .ref q_1, .int 0, .int 0, .int 1, .int 0, .int 0, .int 0, .ref q_3, .int 0, .int 0, .int 0, .int 0, .long 0, .int 0, .int (-1), .ref q_62, .ref q_63])), (q_62, .inl (cA_64, 60, .inl f_2113)), (q_63, .inl (cA_65, 60, .inl (upd f_2112 (55 : Int32).toNatClampNeg (-1)))), (q_3, .inr (0, [.int 0, .int 0, .int 0, .int 0, .ref q_4, .ref q_5, .ref q_6, .ref q_7, .ref q_8, .ref q_9, .ref q_10, .ref q_11, .ref q_12, .ref q_13, .ref q_14, .ref q_15, .ref q_16, .ref q_17, .ref q_18])), (q_4, .inl (cA_19, 301, .inl g0_2001)), (q_15, .inl (cA_20, 301, .inl g1_2002))] := hD
  generalize (upd f_2112 (55 : Int32).toNatClampNeg (-1)) = f_2114 at hP hD
  refine lv_iinc (v := 56) (lv' := [(4, .int 56), (0, .ref q_60), (1, .ref q_1), (2, .int 0), (3, .ref q_3)]) hx hb dX7_begin_80 hl (k := 0) rfl (by decide) (by decide) rfl (fun ls hl => ?_)
  refine lv_goto (tgt := 57) hx hb dX7_begin_83 (by decide) ?_
  refine lv_iload hx hb dX7_begin_57 (lv_at hl 0 rfl) ?_
  refine lv_bipush (v := 60) hx hb dX7_begin_59 (by decide) ?_
  refine lv_icmp_ge (tgt := 86) hx hb dX7_begin_61 (by decide) (fun h9 => absurd h9 (by decide)) (fun _ => ?_)
  refine lv_aload_n hx hb dX7_begin_64 rfl (lv_at hl 1 rfl) ?_
  refine va_get (D := (dC, dI)) (ci := 7) (v := .ref q_62) (C := RX7) (T := TX7) (N := 18) hx hb hts mem_X7_begin_0 hown hK hP 0 rfl rfl 16 (by decide) (ow (k := 14) rfl) (fun _ h9 => h9) rfl dX7_begin_65 ?_
  refine lv_iload hx hb dX7_begin_68 (lv_at hl 0 rfl) ?_
  refine lv_iconst (v := 0) hx hb dX7_begin_70 (by decide) ?_
  refine va_zast hx hb hK hP hD hS 1 0 rfl rfl (show vp_in 56 60 by rw [vp_in_iff]; decide) dX7_begin_71 (fun H locs hP hD hS => ?_)
  have hP : va_P (dC, dI) vwP [(q_60, .inr (7, [.int 0, .ref q_1, .int 0, .int 0, .int 1, .int 0, .int 0, .int 0, .ref q_3, .int 0, .int 0, .int 0, .int 0, .long 0, .int 0, .int (-1), .ref q_62, .ref q_63])), (q_62, .inl (cA_64, 60, .inl (upd f_2113 (56 : Int32).toNatClampNeg (vp_nar .boolean 0)))), (q_63, .inl (cA_65, 60, .inl f_2114)), (q_3, .inr (0, [.int 0, .int 0, .int 0, .int 0, .ref q_4, .ref q_5, .ref q_6, .ref q_7, .ref q_8, .ref q_9, .ref q_10, .ref q_11, .ref q_12, .ref q_13, .ref q_14, .ref q_15, .ref q_16, .ref q_17, .ref q_18])), (q_4, .inl (cA_19, 301, .inl g0_2001)), (q_15, .inl (cA_20, 301, .inl g1_2002))] H := hP
  have hD : va_D A [(q_60, .inr (7, [.int 0, .ref q_1, .int 0, .int 0, .int 1, .int 0, .int 0, .int 0, .ref q_3, .int 0, .int 0, .int 0, .int 0, .long 0, .int 0, .int (-1), .ref q_62, .ref q_63])), (q_62, .inl (cA_64, 60, .inl (upd f_2113 (56 : Int32).toNatClampNeg (vp_nar .boolean 0)))), (q_63, .inl (cA_65, 60, .inl f_2114)), (q_3, .inr (0, [.int 0, .int 0, .int 0, .int 0, .ref q_4, .ref q_5, .ref q_6, .ref q_7, .ref q_8, .ref q_9, .ref q_10, .ref q_11, .ref q_12, .ref q_13, .ref q_14, .ref q_15, .ref q_16, .ref q_17, .ref q_18])), (q_4, .inl (cA_19, 301, .inl g0_2001)), (q_15, .inl (cA_20, 301, .inl g1_2002))] := hD
  generalize (upd f_2113 (56 : Int32).toNatClampNeg (vp_nar .boolean 0)) = f_2115 at hP hD
  refine lv_aload_n hx hb dX7_begin_72 rfl (lv_at hl 1 rfl) ?_
  refine va_get (D := (dC, dI)) (ci := 7) (v := .ref q_63) (C := RX7) (T := TX7) (N := 18) hx hb hts mem_X7_begin_0 hown hK hP 0 rfl rfl 17 (by decide) (ow (k := 15) rfl) (fun _ h9 => h9) rfl dX7_begin_73 ?_
  refine lv_iload hx hb dX7_begin_76 (lv_at hl 0 rfl) ?_
  refine lv_iconst (v := (-1)) hx hb dX7_begin_78 (by decide) ?_
  refine va_iast hx hb hK hP hD hS 2 1 rfl rfl (show vp_in 56 60 by rw [vp_in_iff]; decide) dX7_begin_79 (fun H locs hP hD hS => ?_)
  have hP : va_P (dC, dI) vwP [(q_60, .inr (7, [.int 0, .ref q_1, .int 0, .int 0, .int 1, .int 0, .int 0, .int 0, .ref q_3, .int 0, .int 0, .int 0, .int 0, .long 0, .int 0, .int (-1), .ref q_62, .ref q_63])), (q_62, .inl (cA_64, 60, .inl f_2115)), (q_63, .inl (cA_65, 60, .inl (upd f_2114 (56 : Int32).toNatClampNeg (-1)))), (q_3, .inr (0, [.int 0, .int 0, .int 0, .int 0, .ref q_4, .ref q_5, .ref q_6, .ref q_7, .ref q_8, .ref q_9, .ref q_10, .ref q_11, .ref q_12, .ref q_13, .ref q_14, .ref q_15, .ref q_16, .ref q_17, .ref q_18])), (q_4, .inl (cA_19, 301, .inl g0_2001)), (q_15, .inl (cA_20, 301, .inl g1_2002))] H := hP
  have hD : va_D A [(q_60, .inr (7, [.int 0, .ref q_1, .int 0, .int 0, .int 1, .int 0, .int 0, .int 0, .ref q_3, .int 0, .int 0, .int 0, .int 0, .long 0, .int 0, .int (-1), .ref q_62, .ref q_63])), (q_62, .inl (cA_64, 60, .inl f_2115)), (q_63, .inl (cA_65, 60, .inl (upd f_2114 (56 : Int32).toNatClampNeg (-1)))), (q_3, .inr (0, [.int 0, .int 0, .int 0, .int 0, .ref q_4, .ref q_5, .ref q_6, .ref q_7, .ref q_8, .ref q_9, .ref q_10, .ref q_11, .ref q_12, .ref q_13, .ref q_14, .ref q_15, .ref q_16, .ref q_17, .ref q_18])), (q_4, .inl (cA_19, 301, .inl g0_2001)), (q_15, .inl (cA_20, 301, .inl g1_2002))] := hD
  generalize (upd f_2114 (56 : Int32).toNatClampNeg (-1)) = f_2116 at hP hD
  refine lv_iinc (v := 57) (lv' := [(4, .int 57), (0, .ref q_60), (1, .ref q_1), (2, .int 0), (3, .ref q_3)]) hx hb dX7_begin_80 hl (k := 0) rfl (by decide) (by decide) rfl (fun ls hl => ?_)
  refine lv_goto (tgt := 57) hx hb dX7_begin_83 (by decide) ?_
  refine lv_iload hx hb dX7_begin_57 (lv_at hl 0 rfl) ?_
  refine lv_bipush (v := 60) hx hb dX7_begin_59 (by decide) ?_
  refine lv_icmp_ge (tgt := 86) hx hb dX7_begin_61 (by decide) (fun h9 => absurd h9 (by decide)) (fun _ => ?_)
  refine lv_aload_n hx hb dX7_begin_64 rfl (lv_at hl 1 rfl) ?_
  refine va_get (D := (dC, dI)) (ci := 7) (v := .ref q_62) (C := RX7) (T := TX7) (N := 18) hx hb hts mem_X7_begin_0 hown hK hP 0 rfl rfl 16 (by decide) (ow (k := 14) rfl) (fun _ h9 => h9) rfl dX7_begin_65 ?_
  refine lv_iload hx hb dX7_begin_68 (lv_at hl 0 rfl) ?_
  refine lv_iconst (v := 0) hx hb dX7_begin_70 (by decide) ?_
  refine va_zast hx hb hK hP hD hS 1 0 rfl rfl (show vp_in 57 60 by rw [vp_in_iff]; decide) dX7_begin_71 (fun H locs hP hD hS => ?_)
  have hP : va_P (dC, dI) vwP [(q_60, .inr (7, [.int 0, .ref q_1, .int 0, .int 0, .int 1, .int 0, .int 0, .int 0, .ref q_3, .int 0, .int 0, .int 0, .int 0, .long 0, .int 0, .int (-1), .ref q_62, .ref q_63])), (q_62, .inl (cA_64, 60, .inl (upd f_2115 (57 : Int32).toNatClampNeg (vp_nar .boolean 0)))), (q_63, .inl (cA_65, 60, .inl f_2116)), (q_3, .inr (0, [.int 0, .int 0, .int 0, .int 0, .ref q_4, .ref q_5, .ref q_6, .ref q_7, .ref q_8, .ref q_9, .ref q_10, .ref q_11, .ref q_12, .ref q_13, .ref q_14, .ref q_15, .ref q_16, .ref q_17, .ref q_18])), (q_4, .inl (cA_19, 301, .inl g0_2001)), (q_15, .inl (cA_20, 301, .inl g1_2002))] H := hP
  have hD : va_D A [(q_60, .inr (7, [.int 0, .ref q_1, .int 0, .int 0, .int 1, .int 0, .int 0, .int 0, .ref q_3, .int 0, .int 0, .int 0, .int 0, .long 0, .int 0, .int (-1), .ref q_62, .ref q_63])), (q_62, .inl (cA_64, 60, .inl (upd f_2115 (57 : Int32).toNatClampNeg (vp_nar .boolean 0)))), (q_63, .inl (cA_65, 60, .inl f_2116)), (q_3, .inr (0, [.int 0, .int 0, .int 0, .int 0, .ref q_4, .ref q_5, .ref q_6, .ref q_7, .ref q_8, .ref q_9, .ref q_10, .ref q_11, .ref q_12, .ref q_13, .ref q_14, .ref q_15, .ref q_16, .ref q_17, .ref q_18])), (q_4, .inl (cA_19, 301, .inl g0_2001)), (q_15, .inl (cA_20, 301, .inl g1_2002))] := hD
  generalize (upd f_2115 (57 : Int32).toNatClampNeg (vp_nar .boolean 0)) = f_2117 at hP hD
  refine lv_aload_n hx hb dX7_begin_72 rfl (lv_at hl 1 rfl) ?_
  refine va_get (D := (dC, dI)) (ci := 7) (v := .ref q_63) (C := RX7) (T := TX7) (N := 18) hx hb hts mem_X7_begin_0 hown hK hP 0 rfl rfl 17 (by decide) (ow (k := 15) rfl) (fun _ h9 => h9) rfl dX7_begin_73 ?_
  refine lv_iload hx hb dX7_begin_76 (lv_at hl 0 rfl) ?_
  refine lv_iconst (v := (-1)) hx hb dX7_begin_78 (by decide) ?_
  refine va_iast hx hb hK hP hD hS 2 1 rfl rfl (show vp_in 57 60 by rw [vp_in_iff]; decide) dX7_begin_79 (fun H locs hP hD hS => ?_)
  have hP : va_P (dC, dI) vwP [(q_60, .inr (7, [.int 0, .ref q_1, .int 0, .int 0, .int 1, .int 0, .int 0, .int 0, .ref q_3, .int 0, .int 0, .int 0, .int 0, .long 0, .int 0, .int (-1), .ref q_62, .ref q_63])), (q_62, .inl (cA_64, 60, .inl f_2117)), (q_63, .inl (cA_65, 60, .inl (upd f_2116 (57 : Int32).toNatClampNeg (-1)))), (q_3, .inr (0, [.int 0, .int 0, .int 0, .int 0, .ref q_4, .ref q_5, .ref q_6, .ref q_7, .ref q_8, .ref q_9, .ref q_10, .ref q_11, .ref q_12, .ref q_13, .ref q_14, .ref q_15, .ref q_16, .ref q_17, .ref q_18])), (q_4, .inl (cA_19, 301, .inl g0_2001)), (q_15, .inl (cA_20, 301, .inl g1_2002))] H := hP
  have hD : va_D A [(q_60, .inr (7, [.int 0, .ref q_1, .int 0, .int 0, .int 1, .int 0, .int 0, .int 0, .ref q_3, .int 0, .int 0, .int 0, .int 0, .long 0, .int 0, .int (-1), .ref q_62, .ref q_63])), (q_62, .inl (cA_64, 60, .inl f_2117)), (q_63, .inl (cA_65, 60, .inl (upd f_2116 (57 : Int32).toNatClampNeg (-1)))), (q_3, .inr (0, [.int 0, .int 0, .int 0, .int 0, .ref q_4, .ref q_5, .ref q_6, .ref q_7, .ref q_8, .ref q_9, .ref q_10, .ref q_11, .ref q_12, .ref q_13, .ref q_14, .ref q_15, .ref q_16, .ref q_17, .ref q_18])), (q_4, .inl (cA_19, 301, .inl g0_2001)), (q_15, .inl (cA_20, 301, .inl g1_2002))] := hD
  generalize (upd f_2116 (57 : Int32).toNatClampNeg (-1)) = f_2118 at hP hD
  refine lv_iinc (v := 58) (lv' := [(4, .int 58), (0, .ref q_60), (1, .ref q_1), (2, .int 0), (3, .ref q_3)]) hx hb dX7_begin_80 hl (k := 0) rfl (by decide) (by decide) rfl (fun ls hl => ?_)
  refine lv_goto (tgt := 57) hx hb dX7_begin_83 (by decide) ?_
  refine lv_iload hx hb dX7_begin_57 (lv_at hl 0 rfl) ?_
  refine lv_bipush (v := 60) hx hb dX7_begin_59 (by decide) ?_
  refine lv_icmp_ge (tgt := 86) hx hb dX7_begin_61 (by decide) (fun h9 => absurd h9 (by decide)) (fun _ => ?_)
  refine lv_aload_n hx hb dX7_begin_64 rfl (lv_at hl 1 rfl) ?_
  refine va_get (D := (dC, dI)) (ci := 7) (v := .ref q_62) (C := RX7) (T := TX7) (N := 18) hx hb hts mem_X7_begin_0 hown hK hP 0 rfl rfl 16 (by decide) (ow (k := 14) rfl) (fun _ h9 => h9) rfl dX7_begin_65 ?_
  refine lv_iload hx hb dX7_begin_68 (lv_at hl 0 rfl) ?_
  refine lv_iconst (v := 0) hx hb dX7_begin_70 (by decide) ?_
  refine va_zast hx hb hK hP hD hS 1 0 rfl rfl (show vp_in 58 60 by rw [vp_in_iff]; decide) dX7_begin_71 (fun H locs hP hD hS => ?_)
  have hP : va_P (dC, dI) vwP [(q_60, .inr (7, [.int 0, .ref q_1, .int 0, .int 0, .int 1, .int 0, .int 0, .int 0, .ref q_3, .int 0, .int 0, .int 0, .int 0, .long 0, .int 0, .int (-1), .ref q_62, .ref q_63])), (q_62, .inl (cA_64, 60, .inl (upd f_2117 (58 : Int32).toNatClampNeg (vp_nar .boolean 0)))), (q_63, .inl (cA_65, 60, .inl f_2118)), (q_3, .inr (0, [.int 0, .int 0, .int 0, .int 0, .ref q_4, .ref q_5, .ref q_6, .ref q_7, .ref q_8, .ref q_9, .ref q_10, .ref q_11, .ref q_12, .ref q_13, .ref q_14, .ref q_15, .ref q_16, .ref q_17, .ref q_18])), (q_4, .inl (cA_19, 301, .inl g0_2001)), (q_15, .inl (cA_20, 301, .inl g1_2002))] H := hP
  have hD : va_D A [(q_60, .inr (7, [.int 0, .ref q_1, .int 0, .int 0, .int 1, .int 0, .int 0, .int 0, .ref q_3, .int 0, .int 0, .int 0, .int 0, .long 0, .int 0, .int (-1), .ref q_62, .ref q_63])), (q_62, .inl (cA_64, 60, .inl (upd f_2117 (58 : Int32).toNatClampNeg (vp_nar .boolean 0)))), (q_63, .inl (cA_65, 60, .inl f_2118)), (q_3, .inr (0, [.int 0, .int 0, .int 0, .int 0, .ref q_4, .ref q_5, .ref q_6, .ref q_7, .ref q_8, .ref q_9, .ref q_10, .ref q_11, .ref q_12, .ref q_13, .ref q_14, .ref q_15, .ref q_16, .ref q_17, .ref q_18])), (q_4, .inl (cA_19, 301, .inl g0_2001)), (q_15, .inl (cA_20, 301, .inl g1_2002))] := hD
  generalize (upd f_2117 (58 : Int32).toNatClampNeg (vp_nar .boolean 0)) = f_2119 at hP hD
  refine lv_aload_n hx hb dX7_begin_72 rfl (lv_at hl 1 rfl) ?_
  refine va_get (D := (dC, dI)) (ci := 7) (v := .ref q_63) (C := RX7) (T := TX7) (N := 18) hx hb hts mem_X7_begin_0 hown hK hP 0 rfl rfl 17 (by decide) (ow (k := 15) rfl) (fun _ h9 => h9) rfl dX7_begin_73 ?_
  refine lv_iload hx hb dX7_begin_76 (lv_at hl 0 rfl) ?_
  refine lv_iconst (v := (-1)) hx hb dX7_begin_78 (by decide) ?_
  refine va_iast hx hb hK hP hD hS 2 1 rfl rfl (show vp_in 58 60 by rw [vp_in_iff]; decide) dX7_begin_79 (fun H locs hP hD hS => ?_)
  have hP : va_P (dC, dI) vwP [(q_60, .inr (7, [.int 0, .ref q_1, .int 0, .int 0, .int 1, .int 0, .int 0, .int 0, .ref q_3, .int 0, .int 0, .int 0, .int 0, .long 0, .int 0, .int (-1), .ref q_62, .ref q_63])), (q_62, .inl (cA_64, 60, .inl f_2119)), (q_63, .inl (cA_65, 60, .inl (upd f_2118 (58 : Int32).toNatClampNeg (-1)))), (q_3, .inr (0, [.int 0, .int 0, .int 0, .int 0, .ref q_4, .ref q_5, .ref q_6, .ref q_7, .ref q_8, .ref q_9, .ref q_10, .ref q_11, .ref q_12, .ref q_13, .ref q_14, .ref q_15, .ref q_16, .ref q_17, .ref q_18])), (q_4, .inl (cA_19, 301, .inl g0_2001)), (q_15, .inl (cA_20, 301, .inl g1_2002))] H := hP
  have hD : va_D A [(q_60, .inr (7, [.int 0, .ref q_1, .int 0, .int 0, .int 1, .int 0, .int 0, .int 0, .ref q_3, .int 0, .int 0, .int 0, .int 0, .long 0, .int 0, .int (-1), .ref q_62, .ref q_63])), (q_62, .inl (cA_64, 60, .inl f_2119)), (q_63, .inl (cA_65, 60, .inl (upd f_2118 (58 : Int32).toNatClampNeg (-1)))), (q_3, .inr (0, [.int 0, .int 0, .int 0, .int 0, .ref q_4, .ref q_5, .ref q_6, .ref q_7, .ref q_8, .ref q_9, .ref q_10, .ref q_11, .ref q_12, .ref q_13, .ref q_14, .ref q_15, .ref q_16, .ref q_17, .ref q_18])), (q_4, .inl (cA_19, 301, .inl g0_2001)), (q_15, .inl (cA_20, 301, .inl g1_2002))] := hD
  generalize (upd f_2118 (58 : Int32).toNatClampNeg (-1)) = f_2120 at hP hD
  refine lv_iinc (v := 59) (lv' := [(4, .int 59), (0, .ref q_60), (1, .ref q_1), (2, .int 0), (3, .ref q_3)]) hx hb dX7_begin_80 hl (k := 0) rfl (by decide) (by decide) rfl (fun ls hl => ?_)
  refine lv_goto (tgt := 57) hx hb dX7_begin_83 (by decide) ?_
  refine lv_iload hx hb dX7_begin_57 (lv_at hl 0 rfl) ?_
  refine lv_bipush (v := 60) hx hb dX7_begin_59 (by decide) ?_
  refine lv_icmp_ge (tgt := 86) hx hb dX7_begin_61 (by decide) (fun h9 => absurd h9 (by decide)) (fun _ => ?_)
  refine lv_aload_n hx hb dX7_begin_64 rfl (lv_at hl 1 rfl) ?_
  refine va_get (D := (dC, dI)) (ci := 7) (v := .ref q_62) (C := RX7) (T := TX7) (N := 18) hx hb hts mem_X7_begin_0 hown hK hP 0 rfl rfl 16 (by decide) (ow (k := 14) rfl) (fun _ h9 => h9) rfl dX7_begin_65 ?_
  refine lv_iload hx hb dX7_begin_68 (lv_at hl 0 rfl) ?_
  refine lv_iconst (v := 0) hx hb dX7_begin_70 (by decide) ?_
  refine va_zast hx hb hK hP hD hS 1 0 rfl rfl (show vp_in 59 60 by rw [vp_in_iff]; decide) dX7_begin_71 (fun H locs hP hD hS => ?_)
  have hP : va_P (dC, dI) vwP [(q_60, .inr (7, [.int 0, .ref q_1, .int 0, .int 0, .int 1, .int 0, .int 0, .int 0, .ref q_3, .int 0, .int 0, .int 0, .int 0, .long 0, .int 0, .int (-1), .ref q_62, .ref q_63])), (q_62, .inl (cA_64, 60, .inl (upd f_2119 (59 : Int32).toNatClampNeg (vp_nar .boolean 0)))), (q_63, .inl (cA_65, 60, .inl f_2120)), (q_3, .inr (0, [.int 0, .int 0, .int 0, .int 0, .ref q_4, .ref q_5, .ref q_6, .ref q_7, .ref q_8, .ref q_9, .ref q_10, .ref q_11, .ref q_12, .ref q_13, .ref q_14, .ref q_15, .ref q_16, .ref q_17, .ref q_18])), (q_4, .inl (cA_19, 301, .inl g0_2001)), (q_15, .inl (cA_20, 301, .inl g1_2002))] H := hP
  have hD : va_D A [(q_60, .inr (7, [.int 0, .ref q_1, .int 0, .int 0, .int 1, .int 0, .int 0, .int 0, .ref q_3, .int 0, .int 0, .int 0, .int 0, .long 0, .int 0, .int (-1), .ref q_62, .ref q_63])), (q_62, .inl (cA_64, 60, .inl (upd f_2119 (59 : Int32).toNatClampNeg (vp_nar .boolean 0)))), (q_63, .inl (cA_65, 60, .inl f_2120)), (q_3, .inr (0, [.int 0, .int 0, .int 0, .int 0, .ref q_4, .ref q_5, .ref q_6, .ref q_7, .ref q_8, .ref q_9, .ref q_10, .ref q_11, .ref q_12, .ref q_13, .ref q_14, .ref q_15, .ref q_16, .ref q_17, .ref q_18])), (q_4, .inl (cA_19, 301, .inl g0_2001)), (q_15, .inl (cA_20, 301, .inl g1_2002))] := hD
  generalize (upd f_2119 (59 : Int32).toNatClampNeg (vp_nar .boolean 0)) = f_2121 at hP hD
  refine lv_aload_n hx hb dX7_begin_72 rfl (lv_at hl 1 rfl) ?_
  refine va_get (D := (dC, dI)) (ci := 7) (v := .ref q_63) (C := RX7) (T := TX7) (N := 18) hx hb hts mem_X7_begin_0 hown hK hP 0 rfl rfl 17 (by decide) (ow (k := 15) rfl) (fun _ h9 => h9) rfl dX7_begin_73 ?_
  refine lv_iload hx hb dX7_begin_76 (lv_at hl 0 rfl) ?_
  refine lv_iconst (v := (-1)) hx hb dX7_begin_78 (by decide) ?_
  refine va_iast hx hb hK hP hD hS 2 1 rfl rfl (show vp_in 59 60 by rw [vp_in_iff]; decide) dX7_begin_79 (fun H locs hP hD hS => ?_)
  have hP : va_P (dC, dI) vwP [(q_60, .inr (7, [.int 0, .ref q_1, .int 0, .int 0, .int 1, .int 0, .int 0, .int 0, .ref q_3, .int 0, .int 0, .int 0, .int 0, .long 0, .int 0, .int (-1), .ref q_62, .ref q_63])), (q_62, .inl (cA_64, 60, .inl f_2121)), (q_63, .inl (cA_65, 60, .inl (upd f_2120 (59 : Int32).toNatClampNeg (-1)))), (q_3, .inr (0, [.int 0, .int 0, .int 0, .int 0, .ref q_4, .ref q_5, .ref q_6, .ref q_7, .ref q_8, .ref q_9, .ref q_10, .ref q_11, .ref q_12, .ref q_13, .ref q_14, .ref q_15, .ref q_16, .ref q_17, .ref q_18])), (q_4, .inl (cA_19, 301, .inl g0_2001)), (q_15, .inl (cA_20, 301, .inl g1_2002))] H := hP
  have hD : va_D A [(q_60, .inr (7, [.int 0, .ref q_1, .int 0, .int 0, .int 1, .int 0, .int 0, .int 0, .ref q_3, .int 0, .int 0, .int 0, .int 0, .long 0, .int 0, .int (-1), .ref q_62, .ref q_63])), (q_62, .inl (cA_64, 60, .inl f_2121)), (q_63, .inl (cA_65, 60, .inl (upd f_2120 (59 : Int32).toNatClampNeg (-1)))), (q_3, .inr (0, [.int 0, .int 0, .int 0, .int 0, .ref q_4, .ref q_5, .ref q_6, .ref q_7, .ref q_8, .ref q_9, .ref q_10, .ref q_11, .ref q_12, .ref q_13, .ref q_14, .ref q_15, .ref q_16, .ref q_17, .ref q_18])), (q_4, .inl (cA_19, 301, .inl g0_2001)), (q_15, .inl (cA_20, 301, .inl g1_2002))] := hD
  generalize (upd f_2120 (59 : Int32).toNatClampNeg (-1)) = f_2122 at hP hD
  refine lv_iinc (v := 60) (lv' := [(4, .int 60), (0, .ref q_60), (1, .ref q_1), (2, .int 0), (3, .ref q_3)]) hx hb dX7_begin_80 hl (k := 0) rfl (by decide) (by decide) rfl (fun ls hl => ?_)
  refine lv_goto (tgt := 57) hx hb dX7_begin_83 (by decide) ?_
  refine lv_iload hx hb dX7_begin_57 (lv_at hl 0 rfl) ?_
  refine lv_bipush (v := 60) hx hb dX7_begin_59 (by decide) ?_
  refine lv_icmp_ge (tgt := 86) hx hb dX7_begin_61 (by decide) (fun _ => ?_) (fun h9 => absurd h9 (by decide))
  have hP := hP.sub (ws' := [(q_60, .inr (7, [.int 0, .ref q_1, .int 0, .int 0, .int 1, .int 0, .int 0, .int 0, .ref q_3, .int 0, .int 0, .int 0, .int 0, .long 0, .int 0, .int (-1), .ref q_62, .ref q_63]))]) [0] rfl
  have hD := hD.sub (ws' := [(q_60, .inr (7, [.int 0, .ref q_1, .int 0, .int 0, .int 1, .int 0, .int 0, .int 0, .ref q_3, .int 0, .int 0, .int 0, .int 0, .long 0, .int 0, .int (-1), .ref q_62, .ref q_63]))]) [0] (by decide) rfl
  have hK := hK.sub (tys' := []) [] rfl
  refine W.widen (k := 0) (n := 0) (Nat.le_of_ble_eq_true rfl) (Nat.le_of_ble_eq_true rfl) ?_
  exact W.vret hx hb hr (fun t ht hW => ⟨⟨(), rfl, trivial, by rw [ht]; exact hP, va_K.moved hW.alike hK, hD⟩, hS.F ht⟩) hS.2.2 dX7_begin_86
theorem dX7_skipBlanks_0 : decode cX7_skipBlanks 0 = .ok (.iconst 0, 1) := by decide +kernel
theorem dX7_skipBlanks_1 : decode cX7_skipBlanks 1 = .ok (.istore_n 1, 1) := by decide +kernel
theorem dX7_skipBlanks_2 : decode cX7_skipBlanks 2 = .ok (.aload_n 0, 1) := by decide +kernel
theorem dX7_skipBlanks_3 : decode cX7_skipBlanks 3 = .ok (.getfield 22, 3) := by decide +kernel
theorem dX7_skipBlanks_6 : decode cX7_skipBlanks 6 = .ok (.aload_n 0, 1) := by decide +kernel
theorem dX7_skipBlanks_7 : decode cX7_skipBlanks 7 = .ok (.getfield 19, 3) := by decide +kernel
theorem dX7_skipBlanks_10 : decode cX7_skipBlanks 10 = .ok (.if_icmp .ge 70, 3) := by decide +kernel
theorem dX7_skipBlanks_80 : decode cX7_skipBlanks 80 = .ok (.return_, 1) := by decide +kernel
def o_X7_skipBlanks : List Cond := [.fieldLink RX7 22 "SsaForge$Reader" "at" "I", .fieldLink RX7 19 "SsaForge$Reader" "length" "I"]
def v_X7_skipBlanks : List Cond := .code yX7_skipBlanks cX7_skipBlanks 3 none :: (o_X7_skipBlanks ++ (wsX70 ++ []))
theorem mow_X7_skipBlanks : ∀ w ∈ o_X7_skipBlanks, w ∈ v_X7_skipBlanks := fun _ h => List.mem_cons_of_mem _ (List.mem_append_left _ h)
theorem mem_X7_skipBlanks_0 : ∀ w ∈ wsX70, w ∈ v_X7_skipBlanks := fun _ h => List.mem_cons_of_mem _ (List.mem_append_right _ (List.mem_append_left _ h))
set_option maxRecDepth 20000 in
theorem gw_X7_skipBlanks : v_X7_skipBlanks.all goodWord = true := by decide +kernel
set_option maxHeartbeats 4000000 in
set_option maxRecDepth 100000 in
theorem c_X7_skipBlanks (l : Launch) (dC : Nat → ClassId) (dI : Nat → Nat → Nat) (q_60 : Nat) (q_1 : Nat) (q_3 : Nat) (q_62 : Nat) (q_63 : Nat) (sz : Nat) : Met l yX7_skipBlanks v_X7_skipBlanks ({ frames := 0, cells := 0, slots := 0, locals := 0 }) (va_Pc [.ref q_60] (fun U => U.heap.size = sz ∧ va_P (dC, dI) vwP [(q_60, .inr (7, [.int 0, .ref q_1, .int 0, .int 0, .int 1, .int 0, .int 0, .int 0, .ref q_3, .int 0, .int 0, .int 0, .int 0, .long 0, .int 0, .int (-1), .ref q_62, .ref q_63]))] U.heap ∧ va_K (dC, dI) vwP [] U ∧ va_D (fun _ => True) [(q_60, .inr (7, [.int 0, .ref q_1, .int 0, .int 0, .int 1, .int 0, .int 0, .int 0, .ref q_3, .int 0, .int 0, .int 0, .int 0, .long 0, .int 0, .int (-1), .ref q_62, .ref q_63]))])) (va_Qv (fun _ : Unit => True) (fun (_ : Unit) (t : State) => va_P (dC, dI) vwP [(q_60, .inr (7, [.int 0, .ref q_1, .int 0, .int 0, .int 1, .int 0, .int 0, .int 0, .ref q_3, .int 0, .int 0, .int 0, .int 0, .long 0, .int 0, .int (-1), .ref q_62, .ref q_63]))] t.heap ∧ va_K (dC, dI) vwP [] t ∧ va_D (va_A [(q_60, .inr (7, [.int 0, .ref q_1, .int 0, .int 0, .int 1, .int 0, .int 0, .int 0, .ref q_3, .int 0, .int 0, .int 0, .int 0, .long 0, .int 0, .int (-1), .ref q_62, .ref q_63]))] sz) [(q_60, .inr (7, [.int 0, .ref q_1, .int 0, .int 0, .int 1, .int 0, .int 0, .int 0, .ref q_3, .int 0, .int 0, .int 0, .int 0, .long 0, .int 0, .int (-1), .ref q_62, .ref q_63]))]) (va_A [(q_60, .inr (7, [.int 0, .ref q_1, .int 0, .int 0, .int 1, .int 0, .int 0, .int 0, .ref q_3, .int 0, .int 0, .int 0, .int 0, .long 0, .int 0, .int (-1), .ref q_62, .ref q_63]))] sz)) 0 0 (va_A [(q_60, .inr (7, [.int 0, .ref q_1, .int 0, .int 0, .int 1, .int 0, .int 0, .int 0, .ref q_3, .int 0, .int 0, .int 0, .int 0, .long 0, .int 0, .int (-1), .ref q_62, .ref q_63]))] sz) := by
  refine Met.ofW (cc := cX7_skipBlanks) (maxL := 3) (ret := none) (by decide) rfl ?_
  intro p e s m args below meth c s₁ B hml hv
  obtain ⟨rfl, hsz, hP, hK, hD0⟩ := hv
  have hx := B.exec
  have hb := B.bytes
  have hr := B.returns
  have hts := atoms_spec (ws := v_X7_skipBlanks) B.pre
  have hown : s.vm.findClass RX7 = some m.cls := findClass_of_methodNamed B.named
  have hlocks := B.notSynchronized
  have ow : ∀ {k : Nat} {w : Cond}, o_X7_skipBlanks[k]? = some w → w.before ([.ref q_60] : List Value).toArray s = true := fun h => hts _ (mow_X7_skipBlanks _ (List.mem_of_getElem? h))
  subst hsz
  have hD := hD0.self (sz := s.heap.size)
  generalize hAe : va_A [(q_60, .inr (7, [.int 0, .ref q_1, .int 0, .int 0, .int 1, .int 0, .int 0, .int 0, .ref q_3, .int 0, .int 0, .int 0, .int 0, .long 0, .int 0, .int (-1), .ref q_62, .ref q_63]))] s.heap.size = A at hD ⊢
  have hA : ∀ q : Nat, s.heap.size ≤ q → A q := fun q h => by rw [← hAe]; exact Or.inr h
  have hS : va_S A s.heap s.heap [] := va_S.rf
  have hP : va_P (dC, dI) vwP [(q_60, .inr (7, [.int 0, .ref q_1, .int 0, .int 0, .int 1, .int 0, .int 0, .int 0, .ref q_3, .int 0, .int 0, .int 0, .int 0, .long 0, .int 0, .int (-1), .ref q_62, .ref q_63]))] s.heap := hP
  have hl := lv_entry ([.ref q_60]) (n := 3) (Nat.le_of_ble_eq_true rfl)
  rw [lg_entry_eq]
  generalize (lg_sl ([.ref q_60]) ++ List.replicate (3 - (lg_sl ([.ref q_60])).length) Slot.unset).toArray = ls at hl ⊢
  have hl : lv_has ls 3 [(0, .ref q_60)] := hl
  obtain ⟨H, hH⟩ : ∃ H, H = s.heap := ⟨_, rfl⟩
  rw [← hH] at hP
  have hS : va_S A s.heap H [] := by rw [hH]; exact hS
  rw [← hH]
  refine lv_iconst (v := 0) hx hb dX7_skipBlanks_0 (by decide) ?_
  refine lv_istore_n (lv' := [(1, .int 0), (0, .ref q_60)]) hx hb dX7_skipBlanks_1 rfl hl (by decide) rfl (fun ls hl => ?_)
  refine lv_aload_n hx hb dX7_skipBlanks_2 rfl (lv_at hl 1 rfl) ?_
  refine va_get (D := (dC, dI)) (ci := 7) (v := .int 0) (C := RX7) (T := TX7) (N := 18) hx hb hts mem_X7_skipBlanks_0 hown hK hP 0 rfl rfl 3 (by decide) (ow (k := 0) rfl) (fun _ h9 => h9) rfl dX7_skipBlanks_3 ?_
  refine lv_aload_n hx hb dX7_skipBlanks_6 rfl (lv_at hl 1 rfl) ?_
  refine va_get (D := (dC, dI)) (ci := 7) (v := .int 0) (C := RX7) (T := TX7) (N := 18) hx hb hts mem_X7_skipBlanks_0 hown hK hP 0 rfl rfl 2 (by decide) (ow (k := 1) rfl) (fun _ h9 => h9) rfl dX7_skipBlanks_7 ?_
  refine lv_icmp_ge (tgt := 80) hx hb dX7_skipBlanks_10 (by decide) (fun _ => ?_) (fun h9 => absurd h9 (by decide))
  refine W.widen (k := 0) (n := 0) (Nat.le_of_ble_eq_true rfl) (Nat.le_of_ble_eq_true rfl) ?_
  exact W.vret hx hb hr (fun t ht hW => ⟨⟨(), rfl, trivial, by rw [ht]; exact hP, va_K.moved hW.alike hK, hD⟩, hS.F ht⟩) hS.2.2 dX7_skipBlanks_80
theorem dX7_scan_0 : decode cX7_scan 0 = .ok (.aload_n 0, 1) := by decide +kernel
theorem dX7_scan_1 : decode cX7_scan 1 = .ok (.getfield 25, 3) := by decide +kernel
theorem dX7_scan_4 : decode cX7_scan 4 = .ok (.iconst 2, 1) := by decide +kernel
theorem dX7_scan_5 : decode cX7_scan 5 = .ok (.if_icmp .eq 11, 3) := by decide +kernel
theorem dX7_scan_8 : decode cX7_scan 8 = .ok (.aload_n 0, 1) := by decide +kernel
theorem dX7_scan_9 : decode cX7_scan 9 = .ok (.getfield 25, 3) := by decide +kernel
theorem dX7_scan_12 : decode cX7_scan 12 = .ok (.iconst 3, 1) := by decide +kernel
theorem dX7_scan_13 : decode cX7_scan 13 = .ok (.if_icmp .ne 7, 3) := by decide +kernel
theorem dX7_scan_20 : decode cX7_scan 20 = .ok (.iconst 0, 1) := by decide +kernel
theorem dX7_scan_21 : decode cX7_scan 21 = .ok (.istore_n 1, 1) := by decide +kernel
theorem dX7_scan_22 : decode cX7_scan 22 = .ok (.aload_n 0, 1) := by decide +kernel
theorem dX7_scan_23 : decode cX7_scan 23 = .ok (.invokevirtual 97, 3) := by decide +kernel
theorem dX7_scan_26 : decode cX7_scan 26 = .ok (.aload_n 0, 1) := by decide +kernel
theorem dX7_scan_27 : decode cX7_scan 27 = .ok (.aload_n 0, 1) := by decide +kernel
theorem dX7_scan_28 : decode cX7_scan 28 = .ok (.getfield 22, 3) := by decide +kernel
theorem dX7_scan_31 : decode cX7_scan 31 = .ok (.putfield 28, 3) := by decide +kernel
theorem dX7_scan_34 : decode cX7_scan 34 = .ok (.aload_n 0, 1) := by decide +kernel
theorem dX7_scan_35 : decode cX7_scan 35 = .ok (.getfield 22, 3) := by decide +kernel
theorem dX7_scan_38 : decode cX7_scan 38 = .ok (.aload_n 0, 1) := by decide +kernel
theorem dX7_scan_39 : decode cX7_scan 39 = .ok (.getfield 19, 3) := by decide +kernel
theorem dX7_scan_42 : decode cX7_scan 42 = .ok (.if_icmp .lt 11, 3) := by decide +kernel
theorem dX7_scan_45 : decode cX7_scan 45 = .ok (.aload_n 0, 1) := by decide +kernel
theorem dX7_scan_46 : decode cX7_scan 46 = .ok (.iconst 1, 1) := by decide +kernel
theorem dX7_scan_47 : decode cX7_scan 47 = .ok (.putfield 25, 3) := by decide +kernel
theorem dX7_scan_50 : decode cX7_scan 50 = .ok (.goto 73, 3) := by decide +kernel
theorem dX7_scan_123 : decode cX7_scan 123 = .ok (.return_, 1) := by decide +kernel
def o_X7_scan : List Cond := [.fieldLink RX7 25 "SsaForge$Reader" "kind" "I", .methodLink RX7 97 yX7_skipBlanks, .instanceMethod yX7_skipBlanks, .selects RX7 yX7_skipBlanks yX7_skipBlanks, .initialized RX7, .fieldLink RX7 22 "SsaForge$Reader" "at" "I", .fieldLink RX7 28 "SsaForge$Reader" "place" "I", .fieldLink RX7 19 "SsaForge$Reader" "length" "I"]
def v_X7_scan : List Cond := .code yX7_scan cX7_scan 2 none :: (o_X7_scan ++ (wsX70 ++ (v_X7_skipBlanks ++ [])))
theorem mow_X7_scan : ∀ w ∈ o_X7_scan, w ∈ v_X7_scan := fun _ h => List.mem_cons_of_mem _ (List.mem_append_left _ h)
theorem mem_X7_scan_0 : ∀ w ∈ wsX70, w ∈ v_X7_scan := fun _ h => List.mem_cons_of_mem _ (List.mem_append_right _ (List.mem_append_left _ h))
theorem mem_X7_scan_1 : ∀ w ∈ v_X7_skipBlanks, w ∈ v_X7_scan := fun _ h => List.mem_cons_of_mem _ (List.mem_append_right _ (List.mem_append_right _ (List.mem_append_left _ h)))
set_option maxRecDepth 20000 in
theorem gw_X7_scan : v_X7_scan.all goodWord = true := by decide +kernel
set_option maxRecDepth 20000 in
theorem g_X7_scan_X7_skipBlanks : GoodIn v_X7_scan (wsV RX7 97 RX7 yX7_skipBlanks v_X7_skipBlanks) := goodIn_app (goodIn_sub (fun w h => mow_X7_scan w (by revert w h; decide +kernel)) (by decide +kernel)) (goodIn_sub mem_X7_scan_1 gw_X7_skipBlanks)
set_option maxHeartbeats 4000000 in
set_option maxRecDepth 100000 in
theorem c_X7_scan (l : Launch) (dC : Nat → ClassId) (dI : Nat → Nat → Nat) (q_60 : Nat) (q_1 : Nat) (q_3 : Nat) (q_62 : Nat) (q_63 : Nat) (sz : Nat) : Met l yX7_scan v_X7_scan ({ frames := 1, cells := 0, slots := 0, locals := 22 }) (va_Pc [.ref q_60] (fun U => U.heap.size = sz ∧ va_P (dC, dI) vwP [(q_60, .inr (7, [.int 0, .ref q_1, .int 0, .int 0, .int 1, .int 0, .int 0, .int 0, .ref q_3, .int 0, .int 0, .int 0, .int 0, .long 0, .int 0, .int (-1), .ref q_62, .ref q_63]))] U.heap ∧ va_K (dC, dI) vwP [] U ∧ va_D (fun _ => True) [(q_60, .inr (7, [.int 0, .ref q_1, .int 0, .int 0, .int 1, .int 0, .int 0, .int 0, .ref q_3, .int 0, .int 0, .int 0, .int 0, .long 0, .int 0, .int (-1), .ref q_62, .ref q_63]))])) (va_Qv (fun _ : Unit => True) (fun (_ : Unit) (t : State) => va_P (dC, dI) vwP [(q_60, .inr (7, [.int 0, .ref q_1, .int 0, .int 0, .int 1, .int 0, .int 0, .int 0, .ref q_3, .int 0, .int 0, .int 0, .int 0, .long 0, .int 0, .int (-1), .ref q_62, .ref q_63]))] t.heap ∧ va_K (dC, dI) vwP [] t ∧ va_D (va_A [(q_60, .inr (7, [.int 0, .ref q_1, .int 0, .int 0, .int 1, .int 0, .int 0, .int 0, .ref q_3, .int 0, .int 0, .int 0, .int 0, .long 0, .int 0, .int (-1), .ref q_62, .ref q_63]))] sz) [(q_60, .inr (7, [.int 0, .ref q_1, .int 0, .int 0, .int 1, .int 0, .int 0, .int 0, .ref q_3, .int 0, .int 0, .int 0, .int 0, .long 0, .int 0, .int (-1), .ref q_62, .ref q_63]))]) (va_A [(q_60, .inr (7, [.int 0, .ref q_1, .int 0, .int 0, .int 1, .int 0, .int 0, .int 0, .ref q_3, .int 0, .int 0, .int 0, .int 0, .long 0, .int 0, .int (-1), .ref q_62, .ref q_63]))] sz)) 0 0 (va_A [(q_60, .inr (7, [.int 0, .ref q_1, .int 0, .int 0, .int 1, .int 0, .int 0, .int 0, .ref q_3, .int 0, .int 0, .int 0, .int 0, .long 0, .int 0, .int (-1), .ref q_62, .ref q_63]))] sz) := by
  refine Met.ofW (cc := cX7_scan) (maxL := 2) (ret := none) (by decide) rfl ?_
  intro p e s m args below meth c s₁ B hml hv
  obtain ⟨rfl, hsz, hP, hK, hD0⟩ := hv
  have hx := B.exec
  have hb := B.bytes
  have hr := B.returns
  have hts := atoms_spec (ws := v_X7_scan) B.pre
  have hown : s.vm.findClass RX7 = some m.cls := findClass_of_methodNamed B.named
  have hlocks := B.notSynchronized
  have ow : ∀ {k : Nat} {w : Cond}, o_X7_scan[k]? = some w → w.before ([.ref q_60] : List Value).toArray s = true := fun h => hts _ (mow_X7_scan _ (List.mem_of_getElem? h))
  subst hsz
  have hD := hD0.self (sz := s.heap.size)
  generalize hAe : va_A [(q_60, .inr (7, [.int 0, .ref q_1, .int 0, .int 0, .int 1, .int 0, .int 0, .int 0, .ref q_3, .int 0, .int 0, .int 0, .int 0, .long 0, .int 0, .int (-1), .ref q_62, .ref q_63]))] s.heap.size = A at hD ⊢
  have hA : ∀ q : Nat, s.heap.size ≤ q → A q := fun q h => by rw [← hAe]; exact Or.inr h
  have hS : va_S A s.heap s.heap [] := va_S.rf
  have hP : va_P (dC, dI) vwP [(q_60, .inr (7, [.int 0, .ref q_1, .int 0, .int 0, .int 1, .int 0, .int 0, .int 0, .ref q_3, .int 0, .int 0, .int 0, .int 0, .long 0, .int 0, .int (-1), .ref q_62, .ref q_63]))] s.heap := hP
  have hl := lv_entry ([.ref q_60]) (n := 2) (Nat.le_of_ble_eq_true rfl)
  rw [lg_entry_eq]
  generalize (lg_sl ([.ref q_60]) ++ List.replicate (2 - (lg_sl ([.ref q_60])).length) Slot.unset).toArray = ls at hl ⊢
  have hl : lv_has ls 2 [(0, .ref q_60)] := hl
  obtain ⟨H, hH⟩ : ∃ H, H = s.heap := ⟨_, rfl⟩
  rw [← hH] at hP
  have hS : va_S A s.heap H [] := by rw [hH]; exact hS
  rw [← hH]
  refine lv_aload_n hx hb dX7_scan_0 rfl (lv_at hl 0 rfl) ?_
  refine va_get (D := (dC, dI)) (ci := 7) (v := .int 1) (C := RX7) (T := TX7) (N := 18) hx hb hts mem_X7_scan_0 hown hK hP 0 rfl rfl 4 (by decide) (ow (k := 0) rfl) (fun _ h9 => h9) rfl dX7_scan_1 ?_
  refine lv_iconst (v := 2) hx hb dX7_scan_4 (by decide) ?_
  refine lv_icmp_eq (tgt := 16) hx hb dX7_scan_5 (by decide) (fun h9 => absurd h9 (by decide)) (fun _ => ?_)
  refine lv_aload_n hx hb dX7_scan_8 rfl (lv_at hl 0 rfl) ?_
  refine va_get (D := (dC, dI)) (ci := 7) (v := .int 1) (C := RX7) (T := TX7) (N := 18) hx hb hts mem_X7_scan_0 hown hK hP 0 rfl rfl 4 (by decide) (ow (k := 0) rfl) (fun _ h9 => h9) rfl dX7_scan_9 ?_
  refine lv_iconst (v := 3) hx hb dX7_scan_12 (by decide) ?_
  refine lv_icmp_ne (tgt := 20) hx hb dX7_scan_13 (by decide) (fun _ => ?_) (fun h9 => absurd h9 (by decide))
  refine lv_iconst (v := 0) hx hb dX7_scan_20 (by decide) ?_
  refine lv_istore_n (lv' := [(1, .int 0), (0, .ref q_60)]) hx hb dX7_scan_21 rfl hl (by decide) rfl (fun ls hl => ?_)
  refine lv_aload_n hx hb dX7_scan_22 rfl (lv_at hl 1 rfl) ?_
  have hPc := hP.sub (ws' := [(q_60, .inr (7, [.int 0, .ref q_1, .int 0, .int 0, .int 1, .int 0, .int 0, .int 0, .ref q_3, .int 0, .int 0, .int 0, .int 0, .long 0, .int 0, .int (-1), .ref q_62, .ref q_63]))]) [0] rfl
  have hDc := hD.sub (ws' := [(q_60, .inr (7, [.int 0, .ref q_1, .int 0, .int 0, .int 1, .int 0, .int 0, .int 0, .ref q_3, .int 0, .int 0, .int 0, .int 0, .long 0, .int 0, .int (-1), .ref q_62, .ref q_63]))]) [0] (by decide) rfl
  have hKc := hK.sub (tys' := []) [] rfl
  have hFc := va_free (wc := [(q_60, .inr (7, [.int 0, .ref q_1, .int 0, .int 0, .int 1, .int 0, .int 0, .int 0, .ref q_3, .int 0, .int 0, .int 0, .int 0, .long 0, .int 0, .int (-1), .ref q_62, .ref q_63]))]) hD hS hA [0] rfl
  refine va_callv (va_runV (As := []) (rest := []) ⟨hx, hb, hml, hown, hts⟩ (c_X7_skipBlanks l dC dI q_60 q_1 q_3 q_62 q_63 H.size) (cwV 0 hts g_X7_scan_X7_skipBlanks rfl rfl rfl (by decide +kernel) ⟨(Nat.le_of_ble_eq_true rfl), (Nat.le_of_ble_eq_true rfl)⟩) ⟨fun a U g mk q => by obtain ⟨q0, q1, qP, qK, qD⟩ := q; exact ⟨q0, q1, qP, va_K.moved (u := U) (U := U.calling g mk a) (Vm.Alike.refl U.vm) qK, qD⟩, va_recv hKc hPc (ci := 7) (q0 := 0) rfl rfl, fun U hU hW => ⟨rfl, by rw [hU], by rw [hU]; exact hPc, va_K.moved hW.alike hKc, hDc.weaken (fun _ _ _ _ => trivial)⟩⟩ rfl rfl hl.1 rfl (lv_room (Nat.le_of_ble_eq_true rfl)) dX7_scan_23 ⟨(Nat.le_of_ble_eq_true rfl), (Nat.le_of_ble_eq_true rfl)⟩) hS (fun q _ h => hFc q h) hFc (fun  u t H1 locs ht hvm hw hB hz1 hk1 hS => ?_)
  obtain ⟨hP1, hK1, hD1⟩ := hB
  rw [ht] at hP1
  have hK1 := va_K.moved hvm.symm hK1
  obtain ⟨hP, hD⟩ := va_join (wr := []) (w1 := [(q_60, .inr (7, [.int 0, .ref q_1, .int 0, .int 0, .int 1, .int 0, .int 0, .int 0, .ref q_3, .int 0, .int 0, .int 0, .int 0, .long 0, .int 0, .int (-1), .ref q_62, .ref q_63]))]) hP hD [0] [] rfl rfl (by decide) (by decide) hk1 hFc hP1 hD1
  have hK := (hK.sub (tys' := []) [] rfl).app hK1
  generalize H1 = H at hP hS ⊢
  have hP : va_P (dC, dI) vwP [(q_60, .inr (7, [.int 0, .ref q_1, .int 0, .int 0, .int 1, .int 0, .int 0, .int 0, .ref q_3, .int 0, .int 0, .int 0, .int 0, .long 0, .int 0, .int (-1), .ref q_62, .ref q_63]))] H := hP
  have hD : va_D A [(q_60, .inr (7, [.int 0, .ref q_1, .int 0, .int 0, .int 1, .int 0, .int 0, .int 0, .ref q_3, .int 0, .int 0, .int 0, .int 0, .long 0, .int 0, .int (-1), .ref q_62, .ref q_63]))] := hD
  have hK : va_K (dC, dI) vwP [] s := hK
  refine W.widen (k := 0) (n := 0) (Nat.le_of_ble_eq_true rfl) (Nat.le_of_ble_eq_true rfl) ?_
  refine lv_aload_n hx hb dX7_scan_26 rfl (lv_at hl 1 rfl) ?_
  refine lv_aload_n hx hb dX7_scan_27 rfl (lv_at hl 1 rfl) ?_
  refine va_get (D := (dC, dI)) (ci := 7) (v := .int 0) (C := RX7) (T := TX7) (N := 18) hx hb hts mem_X7_scan_0 hown hK hP 0 rfl rfl 3 (by decide) (ow (k := 5) rfl) (fun _ h9 => h9) rfl dX7_scan_28 ?_
  refine va_put (D := (dC, dI)) (ci := 7) (v := .int 0) (ty := .int) (C := RX7) (T := TX7) (N := 18) hx hb hts mem_X7_scan_0 tyX7 tyX7_ok nmX7 hown hK hP hD hS 0 rfl rfl 5 (by decide) (ow (k := 6) rfl) (fun _ h9 => h9) rfl (by decide +kernel) rfl rfl (Nat.le_of_ble_eq_true rfl) dX7_scan_31 (fun H locs hP hD hS => ?_)
  have hP : va_P (dC, dI) vwP [(q_60, .inr (7, [.int 0, .ref q_1, .int 0, .int 0, .int 1, .int 0, .int 0, .int 0, .ref q_3, .int 0, .int 0, .int 0, .int 0, .long 0, .int 0, .int (-1), .ref q_62, .ref q_63]))] H := hP
  have hD : va_D A [(q_60, .inr (7, [.int 0, .ref q_1, .int 0, .int 0, .int 1, .int 0, .int 0, .int 0, .ref q_3, .int 0, .int 0, .int 0, .int 0, .long 0, .int 0, .int (-1), .ref q_62, .ref q_63]))] := hD
  refine lv_aload_n hx hb dX7_scan_34 rfl (lv_at hl 1 rfl) ?_
  refine va_get (D := (dC, dI)) (ci := 7) (v := .int 0) (C := RX7) (T := TX7) (N := 18) hx hb hts mem_X7_scan_0 hown hK hP 0 rfl rfl 3 (by decide) (ow (k := 5) rfl) (fun _ h9 => h9) rfl dX7_scan_35 ?_
  refine lv_aload_n hx hb dX7_scan_38 rfl (lv_at hl 1 rfl) ?_
  refine va_get (D := (dC, dI)) (ci := 7) (v := .int 0) (C := RX7) (T := TX7) (N := 18) hx hb hts mem_X7_scan_0 hown hK hP 0 rfl rfl 2 (by decide) (ow (k := 7) rfl) (fun _ h9 => h9) rfl dX7_scan_39 ?_
  refine lv_icmp_lt (tgt := 53) hx hb dX7_scan_42 (by decide) (fun h9 => absurd h9 (by decide)) (fun _ => ?_)
  refine lv_aload_n hx hb dX7_scan_45 rfl (lv_at hl 1 rfl) ?_
  refine lv_iconst (v := 1) hx hb dX7_scan_46 (by decide) ?_
  refine va_put (D := (dC, dI)) (ci := 7) (v := .int 1) (ty := .int) (C := RX7) (T := TX7) (N := 18) hx hb hts mem_X7_scan_0 tyX7 tyX7_ok nmX7 hown hK hP hD hS 0 rfl rfl 4 (by decide) (ow (k := 0) rfl) (fun _ h9 => h9) rfl (by decide +kernel) rfl rfl (Nat.le_of_ble_eq_true rfl) dX7_scan_47 (fun H locs hP hD hS => ?_)
  have hP : va_P (dC, dI) vwP [(q_60, .inr (7, [.int 0, .ref q_1, .int 0, .int 0, .int 1, .int 0, .int 0, .int 0, .ref q_3, .int 0, .int 0, .int 0, .int 0, .long 0, .int 0, .int (-1), .ref q_62, .ref q_63]))] H := hP
  have hD : va_D A [(q_60, .inr (7, [.int 0, .ref q_1, .int 0, .int 0, .int 1, .int 0, .int 0, .int 0, .ref q_3, .int 0, .int 0, .int 0, .int 0, .long 0, .int 0, .int (-1), .ref q_62, .ref q_63]))] := hD
  refine lv_goto (tgt := 123) hx hb dX7_scan_50 (by decide) ?_
  refine W.widen (k := 0) (n := 0) (Nat.le_of_ble_eq_true rfl) (Nat.le_of_ble_eq_true rfl) ?_
  exact W.vret hx hb hr (fun t ht hW => ⟨⟨(), rfl, trivial, by rw [ht]; exact hP, va_K.moved hW.alike hK, hD⟩, hS.F ht⟩) hS.2.2 dX7_scan_123
theorem dX7_readAll_0 : decode cX7_readAll 0 = .ok (.aload_n 0, 1) := by decide +kernel
theorem dX7_readAll_1 : decode cX7_readAll 1 = .ok (.aload_n 1, 1) := by decide +kernel
theorem dX7_readAll_2 : decode cX7_readAll 2 = .ok (.iload_n 2, 1) := by decide +kernel
theorem dX7_readAll_3 : decode cX7_readAll 3 = .ok (.aload_n 3, 1) := by decide +kernel
theorem dX7_readAll_4 : decode cX7_readAll 4 = .ok (.invokevirtual 71, 3) := by decide +kernel
theorem dX7_readAll_7 : decode cX7_readAll 7 = .ok (.iconst 0, 1) := by decide +kernel
theorem dX7_readAll_8 : decode cX7_readAll 8 = .ok (.istore 4, 2) := by decide +kernel
theorem dX7_readAll_10 : decode cX7_readAll 10 = .ok (.iload 4, 2) := by decide +kernel
theorem dX7_readAll_12 : decode cX7_readAll 12 = .ok (.iload_n 2, 1) := by decide +kernel
theorem dX7_readAll_13 : decode cX7_readAll 13 = .ok (.if_icmp .gt 41, 3) := by decide +kernel
theorem dX7_readAll_16 : decode cX7_readAll 16 = .ok (.aload_n 0, 1) := by decide +kernel
theorem dX7_readAll_17 : decode cX7_readAll 17 = .ok (.invokevirtual 75, 3) := by decide +kernel
theorem dX7_readAll_20 : decode cX7_readAll 20 = .ok (.aload_n 0, 1) := by decide +kernel
theorem dX7_readAll_21 : decode cX7_readAll 21 = .ok (.getfield 25, 3) := by decide +kernel
theorem dX7_readAll_24 : decode cX7_readAll 24 = .ok (.iconst 1, 1) := by decide +kernel
theorem dX7_readAll_25 : decode cX7_readAll 25 = .ok (.if_icmp .ne 6, 3) := by decide +kernel
theorem dX7_readAll_28 : decode cX7_readAll 28 = .ok (.goto 26, 3) := by decide +kernel
theorem dX7_readAll_54 : decode cX7_readAll 54 = .ok (.aload_n 0, 1) := by decide +kernel
theorem dX7_readAll_55 : decode cX7_readAll 55 = .ok (.getfield 34, 3) := by decide +kernel
theorem dX7_readAll_58 : decode cX7_readAll 58 = .ok (.ifCond .ne 10, 3) := by decide +kernel
theorem dX7_readAll_61 : decode cX7_readAll 61 = .ok (.aload_n 0, 1) := by decide +kernel
theorem dX7_readAll_62 : decode cX7_readAll 62 = .ok (.getfield 44, 3) := by decide +kernel
theorem dX7_readAll_65 : decode cX7_readAll 65 = .ok (.ifCond .ne 10, 3) := by decide +kernel
theorem dX7_readAll_68 : decode cX7_readAll 68 = .ok (.aload_n 0, 1) := by decide +kernel
theorem dX7_readAll_69 : decode cX7_readAll 69 = .ok (.iconst 1, 1) := by decide +kernel
theorem dX7_readAll_70 : decode cX7_readAll 70 = .ok (.putfield 9, 3) := by decide +kernel
theorem dX7_readAll_73 : decode cX7_readAll 73 = .ok (.iload_n 2, 1) := by decide +kernel
theorem dX7_readAll_74 : decode cX7_readAll 74 = .ok (.ireturn, 1) := by decide +kernel
def o_X7_readAll : List Cond := [.methodLink RX7 71 yX7_begin, .instanceMethod yX7_begin, .selects RX7 yX7_begin yX7_begin, .initialized RX7, .methodLink RX7 75 yX7_scan, .instanceMethod yX7_scan, .selects RX7 yX7_scan yX7_scan, .fieldLink RX7 25 "SsaForge$Reader" "kind" "I", .fieldLink RX7 34 "SsaForge$Reader" "state" "I", .fieldLink RX7 44 "SsaForge$Reader" "blockCount" "I", .fieldLink RX7 9 "SsaForge$Reader" "reason" "I"]
def v_X7_readAll : List Cond := .code yX7_readAll cX7_readAll 5 (some .int) :: (o_X7_readAll ++ (v_X7_begin ++ (v_X7_scan ++ (wsX70 ++ []))))
theorem mow_X7_readAll : ∀ w ∈ o_X7_readAll, w ∈ v_X7_readAll := fun _ h => List.mem_cons_of_mem _ (List.mem_append_left _ h)
theorem mem_X7_readAll_0 : ∀ w ∈ v_X7_begin, w ∈ v_X7_readAll := fun _ h => List.mem_cons_of_mem _ (List.mem_append_right _ (List.mem_append_left _ h))
theorem mem_X7_readAll_1 : ∀ w ∈ v_X7_scan, w ∈ v_X7_readAll := fun _ h => List.mem_cons_of_mem _ (List.mem_append_right _ (List.mem_append_right _ (List.mem_append_left _ h)))
theorem mem_X7_readAll_2 : ∀ w ∈ wsX70, w ∈ v_X7_readAll := fun _ h => List.mem_cons_of_mem _ (List.mem_append_right _ (List.mem_append_right _ (List.mem_append_right _ (List.mem_append_left _ h))))
set_option maxRecDepth 20000 in
theorem gw_X7_readAll : v_X7_readAll.all goodWord = true := by decide +kernel
set_option maxRecDepth 20000 in
theorem g_X7_readAll_X7_begin : GoodIn v_X7_readAll (wsV RX7 71 RX7 yX7_begin v_X7_begin) := goodIn_app (goodIn_sub (fun w h => mow_X7_readAll w (by revert w h; decide +kernel)) (by decide +kernel)) (goodIn_sub mem_X7_readAll_0 gw_X7_begin)
set_option maxRecDepth 20000 in
theorem g_X7_readAll_X7_scan : GoodIn v_X7_readAll (wsV RX7 75 RX7 yX7_scan v_X7_scan) := goodIn_app (goodIn_sub (fun w h => mow_X7_readAll w (by revert w h; decide +kernel)) (by decide +kernel)) (goodIn_sub mem_X7_readAll_1 gw_X7_scan)
set_option maxHeartbeats 4000000 in
set_option maxRecDepth 100000 in
theorem c_X7_readAll (l : Launch) (dC : Nat → ClassId) (dI : Nat → Nat → Nat) (q_60 : Nat) (q_61 : Nat) (q_62 : Nat) (q_63 : Nat) (cA_64 : ClassId) (cA_65 : ClassId) (q_3 : Nat) (q_4 : Nat) (q_5 : Nat) (q_6 : Nat) (q_7 : Nat) (q_8 : Nat) (q_9 : Nat) (q_10 : Nat) (q_11 : Nat) (q_12 : Nat) (q_13 : Nat) (q_14 : Nat) (q_15 : Nat) (q_16 : Nat) (q_17 : Nat) (q_18 : Nat) (cA_19 : ClassId) (cA_20 : ClassId) (q_1 : Nat) (sz : Nat) : Met l yX7_readAll v_X7_readAll ({ frames := 2, cells := 0, slots := 0, locals := 44 }) (va_Pc [.ref q_60, .ref q_1, .int 0, .ref q_3] (fun U => U.heap.size = sz ∧ va_P (dC, dI) vwP [(q_60, .inr (7, [.int 0, .ref q_61, .int 0, .int 0, .int 1, .int 0, .int 0, .int 0, .null, .int 0, .int 0, .int 0, .int 0, .long 0, .int 0, .int (-1), .ref q_62, .ref q_63])), (q_62, .inl (cA_64, 60, .inl (fun _ => 0))), (q_63, .inl (cA_65, 60, .inl (fun _ => 0))), (q_3, .inr (0, [.int 0, .int 0, .int 0, .int 0, .ref q_4, .ref q_5, .ref q_6, .ref q_7, .ref q_8, .ref q_9, .ref q_10, .ref q_11, .ref q_12, .ref q_13, .ref q_14, .ref q_15, .ref q_16, .ref q_17, .ref q_18])), (q_4, .inl (cA_19, 301, .inl (fun _ => 0))), (q_15, .inl (cA_20, 301, .inl (fun _ => 0)))] U.heap ∧ va_K (dC, dI) vwP [(cA_19, .int), (cA_20, .int), (cA_64, .boolean), (cA_65, .int)] U ∧ va_D (fun _ => True) [(q_60, .inr (7, [.int 0, .ref q_61, .int 0, .int 0, .int 1, .int 0, .int 0, .int 0, .null, .int 0, .int 0, .int 0, .int 0, .long 0, .int 0, .int (-1), .ref q_62, .ref q_63])), (q_62, .inl (cA_64, 60, .inl (fun _ => 0))), (q_63, .inl (cA_65, 60, .inl (fun _ => 0))), (q_3, .inr (0, [.int 0, .int 0, .int 0, .int 0, .ref q_4, .ref q_5, .ref q_6, .ref q_7, .ref q_8, .ref q_9, .ref q_10, .ref q_11, .ref q_12, .ref q_13, .ref q_14, .ref q_15, .ref q_16, .ref q_17, .ref q_18])), (q_4, .inl (cA_19, 301, .inl (fun _ => 0))), (q_15, .inl (cA_20, 301, .inl (fun _ => 0)))])) (va_Qi (fun (r : Int32) (_ : Unit) => r = 0) (fun (_ : Unit) (t : State) => va_P (dC, dI) vwP [] t.heap ∧ va_K (dC, dI) vwP [] t ∧ va_D (va_A [(q_60, .inr (7, [.int 0, .ref q_61, .int 0, .int 0, .int 1, .int 0, .int 0, .int 0, .null, .int 0, .int 0, .int 0, .int 0, .long 0, .int 0, .int (-1), .ref q_62, .ref q_63])), (q_62, .inl (cA_64, 60, .inl (fun _ => 0))), (q_63, .inl (cA_65, 60, .inl (fun _ => 0))), (q_3, .inr (0, [.int 0, .int 0, .int 0, .int 0, .ref q_4, .ref q_5, .ref q_6, .ref q_7, .ref q_8, .ref q_9, .ref q_10, .ref q_11, .ref q_12, .ref q_13, .ref q_14, .ref q_15, .ref q_16, .ref q_17, .ref q_18])), (q_4, .inl (cA_19, 301, .inl (fun _ => 0))), (q_15, .inl (cA_20, 301, .inl (fun _ => 0)))] sz) []) (va_A [(q_60, .inr (7, [.int 0, .ref q_61, .int 0, .int 0, .int 1, .int 0, .int 0, .int 0, .null, .int 0, .int 0, .int 0, .int 0, .long 0, .int 0, .int (-1), .ref q_62, .ref q_63])), (q_62, .inl (cA_64, 60, .inl (fun _ => 0))), (q_63, .inl (cA_65, 60, .inl (fun _ => 0))), (q_3, .inr (0, [.int 0, .int 0, .int 0, .int 0, .ref q_4, .ref q_5, .ref q_6, .ref q_7, .ref q_8, .ref q_9, .ref q_10, .ref q_11, .ref q_12, .ref q_13, .ref q_14, .ref q_15, .ref q_16, .ref q_17, .ref q_18])), (q_4, .inl (cA_19, 301, .inl (fun _ => 0))), (q_15, .inl (cA_20, 301, .inl (fun _ => 0)))] sz)) 0 0 (va_A [(q_60, .inr (7, [.int 0, .ref q_61, .int 0, .int 0, .int 1, .int 0, .int 0, .int 0, .null, .int 0, .int 0, .int 0, .int 0, .long 0, .int 0, .int (-1), .ref q_62, .ref q_63])), (q_62, .inl (cA_64, 60, .inl (fun _ => 0))), (q_63, .inl (cA_65, 60, .inl (fun _ => 0))), (q_3, .inr (0, [.int 0, .int 0, .int 0, .int 0, .ref q_4, .ref q_5, .ref q_6, .ref q_7, .ref q_8, .ref q_9, .ref q_10, .ref q_11, .ref q_12, .ref q_13, .ref q_14, .ref q_15, .ref q_16, .ref q_17, .ref q_18])), (q_4, .inl (cA_19, 301, .inl (fun _ => 0))), (q_15, .inl (cA_20, 301, .inl (fun _ => 0)))] sz) := by
  refine Met.ofW (cc := cX7_readAll) (maxL := 5) (ret := (some .int)) (by decide) rfl ?_
  intro p e s m args below meth c s₁ B hml hv
  obtain ⟨rfl, hsz, hP, hK, hD0⟩ := hv
  have hx := B.exec
  have hb := B.bytes
  have hr := B.returns
  have hts := atoms_spec (ws := v_X7_readAll) B.pre
  have hown : s.vm.findClass RX7 = some m.cls := findClass_of_methodNamed B.named
  have hlocks := B.notSynchronized
  have ow : ∀ {k : Nat} {w : Cond}, o_X7_readAll[k]? = some w → w.before ([.ref q_60, .ref q_1, .int 0, .ref q_3] : List Value).toArray s = true := fun h => hts _ (mow_X7_readAll _ (List.mem_of_getElem? h))
  subst hsz
  have hD := hD0.self (sz := s.heap.size)
  generalize hAe : va_A [(q_60, .inr (7, [.int 0, .ref q_61, .int 0, .int 0, .int 1, .int 0, .int 0, .int 0, .null, .int 0, .int 0, .int 0, .int 0, .long 0, .int 0, .int (-1), .ref q_62, .ref q_63])), (q_62, .inl (cA_64, 60, .inl (fun _ => 0))), (q_63, .inl (cA_65, 60, .inl (fun _ => 0))), (q_3, .inr (0, [.int 0, .int 0, .int 0, .int 0, .ref q_4, .ref q_5, .ref q_6, .ref q_7, .ref q_8, .ref q_9, .ref q_10, .ref q_11, .ref q_12, .ref q_13, .ref q_14, .ref q_15, .ref q_16, .ref q_17, .ref q_18])), (q_4, .inl (cA_19, 301, .inl (fun _ => 0))), (q_15, .inl (cA_20, 301, .inl (fun _ => 0)))] s.heap.size = A at hD ⊢
  have hA : ∀ q : Nat, s.heap.size ≤ q → A q := fun q h => by rw [← hAe]; exact Or.inr h
  have hS : va_S A s.heap s.heap [] := va_S.rf
  have hP : va_P (dC, dI) vwP [(q_60, .inr (7, [.int 0, .ref q_61, .int 0, .int 0, .int 1, .int 0, .int 0, .int 0, .null, .int 0, .int 0, .int 0, .int 0, .long 0, .int 0, .int (-1), .ref q_62, .ref q_63])), (q_62, .inl (cA_64, 60, .inl (fun _ => 0))), (q_63, .inl (cA_65, 60, .inl (fun _ => 0))), (q_3, .inr (0, [.int 0, .int 0, .int 0, .int 0, .ref q_4, .ref q_5, .ref q_6, .ref q_7, .ref q_8, .ref q_9, .ref q_10, .ref q_11, .ref q_12, .ref q_13, .ref q_14, .ref q_15, .ref q_16, .ref q_17, .ref q_18])), (q_4, .inl (cA_19, 301, .inl (fun _ => 0))), (q_15, .inl (cA_20, 301, .inl (fun _ => 0)))] s.heap := hP
  have hl := lv_entry ([.ref q_60, .ref q_1, .int 0, .ref q_3]) (n := 5) (Nat.le_of_ble_eq_true rfl)
  rw [lg_entry_eq]
  generalize (lg_sl ([.ref q_60, .ref q_1, .int 0, .ref q_3]) ++ List.replicate (5 - (lg_sl ([.ref q_60, .ref q_1, .int 0, .ref q_3])).length) Slot.unset).toArray = ls at hl ⊢
  have hl : lv_has ls 5 [(0, .ref q_60), (1, .ref q_1), (2, .int 0), (3, .ref q_3)] := hl
  obtain ⟨H, hH⟩ : ∃ H, H = s.heap := ⟨_, rfl⟩
  rw [← hH] at hP
  have hS : va_S A s.heap H [] := by rw [hH]; exact hS
  rw [← hH]
  refine lv_aload_n hx hb dX7_readAll_0 rfl (lv_at hl 0 rfl) ?_
  refine lv_aload_n hx hb dX7_readAll_1 rfl (lv_at hl 1 rfl) ?_
  refine lv_iload_n hx hb dX7_readAll_2 rfl (lv_at hl 2 rfl) ?_
  refine lv_aload_n hx hb dX7_readAll_3 rfl (lv_at hl 3 rfl) ?_
  have hPc := hP.sub (ws' := [(q_60, .inr (7, [.int 0, .ref q_61, .int 0, .int 0, .int 1, .int 0, .int 0, .int 0, .null, .int 0, .int 0, .int 0, .int 0, .long 0, .int 0, .int (-1), .ref q_62, .ref q_63])), (q_62, .inl (cA_64, 60, .inl (fun _ => 0))), (q_63, .inl (cA_65, 60, .inl (fun _ => 0))), (q_3, .inr (0, [.int 0, .int 0, .int 0, .int 0, .ref q_4, .ref q_5, .ref q_6, .ref q_7, .ref q_8, .ref q_9, .ref q_10, .ref q_11, .ref q_12, .ref q_13, .ref q_14, .ref q_15, .ref q_16, .ref q_17, .ref q_18])), (q_4, .inl (cA_19, 301, .inl (fun _ => 0))), (q_15, .inl (cA_20, 301, .inl (fun _ => 0)))]) [0, 1, 2, 3, 4, 5] rfl
  have hDc := hD.sub (ws' := [(q_60, .inr (7, [.int 0, .ref q_61, .int 0, .int 0, .int 1, .int 0, .int 0, .int 0, .null, .int 0, .int 0, .int 0, .int 0, .long 0, .int 0, .int (-1), .ref q_62, .ref q_63])), (q_62, .inl (cA_64, 60, .inl (fun _ => 0))), (q_63, .inl (cA_65, 60, .inl (fun _ => 0))), (q_3, .inr (0, [.int 0, .int 0, .int 0, .int 0, .ref q_4, .ref q_5, .ref q_6, .ref q_7, .ref q_8, .ref q_9, .ref q_10, .ref q_11, .ref q_12, .ref q_13, .ref q_14, .ref q_15, .ref q_16, .ref q_17, .ref q_18])), (q_4, .inl (cA_19, 301, .inl (fun _ => 0))), (q_15, .inl (cA_20, 301, .inl (fun _ => 0)))]) [0, 1, 2, 3, 4, 5] (by decide) rfl
  have hKc := hK.sub (tys' := [(cA_19, .int), (cA_20, .int), (cA_64, .boolean), (cA_65, .int)]) [0, 1, 2, 3] rfl
  have hFc := va_free (wc := [(q_60, .inr (7, [.int 0, .ref q_61, .int 0, .int 0, .int 1, .int 0, .int 0, .int 0, .null, .int 0, .int 0, .int 0, .int 0, .long 0, .int 0, .int (-1), .ref q_62, .ref q_63])), (q_62, .inl (cA_64, 60, .inl (fun _ => 0))), (q_63, .inl (cA_65, 60, .inl (fun _ => 0))), (q_3, .inr (0, [.int 0, .int 0, .int 0, .int 0, .ref q_4, .ref q_5, .ref q_6, .ref q_7, .ref q_8, .ref q_9, .ref q_10, .ref q_11, .ref q_12, .ref q_13, .ref q_14, .ref q_15, .ref q_16, .ref q_17, .ref q_18])), (q_4, .inl (cA_19, 301, .inl (fun _ => 0))), (q_15, .inl (cA_20, 301, .inl (fun _ => 0)))]) hD hS hA [0, 1, 2, 3, 4, 5] rfl
  refine va_callv (va_runV (As := [.ref q_1, .int 0, .ref q_3]) (rest := []) ⟨hx, hb, hml, hown, hts⟩ (c_X7_begin l dC dI q_60 q_61 q_62 q_63 cA_64 cA_65 q_3 q_4 q_5 q_6 q_7 q_8 q_9 q_10 q_11 q_12 q_13 q_14 q_15 q_16 q_17 q_18 cA_19 cA_20 q_1 H.size) (cwV 3 hts g_X7_readAll_X7_begin rfl rfl rfl (by decide +kernel) ⟨(Nat.le_of_ble_eq_true rfl), (Nat.le_of_ble_eq_true rfl)⟩) ⟨fun a U g mk q => by obtain ⟨q0, q1, qP, qK, qD⟩ := q; exact ⟨q0, q1, qP, va_K.moved (u := U) (U := U.calling g mk a) (Vm.Alike.refl U.vm) qK, qD⟩, va_recv hKc hPc (ci := 7) (q0 := 0) rfl rfl, fun U hU hW => ⟨rfl, by rw [hU], by rw [hU]; exact hPc, va_K.moved hW.alike hKc, hDc.weaken (fun _ _ _ _ => trivial)⟩⟩ rfl rfl hl.1 rfl (lv_room (Nat.le_of_ble_eq_true rfl)) dX7_readAll_4 ⟨(Nat.le_of_ble_eq_true rfl), (Nat.le_of_ble_eq_true rfl)⟩) hS (fun q _ h => hFc q h) hFc (fun  u t H1 locs ht hvm hw hB hz1 hk1 hS => ?_)
  obtain ⟨hP1, hK1, hD1⟩ := hB
  rw [ht] at hP1
  have hK1 := va_K.moved hvm.symm hK1
  obtain ⟨hP, hD⟩ := va_join (wr := []) (w1 := [(q_60, .inr (7, [.int 0, .ref q_1, .int 0, .int 0, .int 1, .int 0, .int 0, .int 0, .ref q_3, .int 0, .int 0, .int 0, .int 0, .long 0, .int 0, .int (-1), .ref q_62, .ref q_63]))]) hP hD [0, 1, 2, 3, 4, 5] [] rfl rfl (by decide) (by decide) hk1 hFc hP1 hD1
  have hK := (hK.sub (tys' := []) [] rfl).app hK1
  generalize H1 = H at hP hS ⊢
  have hP : va_P (dC, dI) vwP [(q_60, .inr (7, [.int 0, .ref q_1, .int 0, .int 0, .int 1, .int 0, .int 0, .int 0, .ref q_3, .int 0, .int 0, .int 0, .int 0, .long 0, .int 0, .int (-1), .ref q_62, .ref q_63]))] H := hP
  have hD : va_D A [(q_60, .inr (7, [.int 0, .ref q_1, .int 0, .int 0, .int 1, .int 0, .int 0, .int 0, .ref q_3, .int 0, .int 0, .int 0, .int 0, .long 0, .int 0, .int (-1), .ref q_62, .ref q_63]))] := hD
  have hK : va_K (dC, dI) vwP [] s := hK
  refine W.widen (k := 0) (n := 0) (Nat.le_of_ble_eq_true rfl) (Nat.le_of_ble_eq_true rfl) ?_
  refine lv_iconst (v := 0) hx hb dX7_readAll_7 (by decide) ?_
  refine lv_istore (lv' := [(4, .int 0), (0, .ref q_60), (1, .ref q_1), (2, .int 0), (3, .ref q_3)]) hx hb dX7_readAll_8 hl (by decide) rfl (fun ls hl => ?_)
  refine lv_iload hx hb dX7_readAll_10 (lv_at hl 0 rfl) ?_
  refine lv_iload_n hx hb dX7_readAll_12 rfl (lv_at hl 3 rfl) ?_
  refine lv_icmp_gt (tgt := 54) hx hb dX7_readAll_13 (by decide) (fun h9 => absurd h9 (by decide)) (fun _ => ?_)
  refine lv_aload_n hx hb dX7_readAll_16 rfl (lv_at hl 1 rfl) ?_
  have hPc := hP.sub (ws' := [(q_60, .inr (7, [.int 0, .ref q_1, .int 0, .int 0, .int 1, .int 0, .int 0, .int 0, .ref q_3, .int 0, .int 0, .int 0, .int 0, .long 0, .int 0, .int (-1), .ref q_62, .ref q_63]))]) [0] rfl
  have hDc := hD.sub (ws' := [(q_60, .inr (7, [.int 0, .ref q_1, .int 0, .int 0, .int 1, .int 0, .int 0, .int 0, .ref q_3, .int 0, .int 0, .int 0, .int 0, .long 0, .int 0, .int (-1), .ref q_62, .ref q_63]))]) [0] (by decide) rfl
  have hKc := hK.sub (tys' := []) [] rfl
  have hFc := va_free (wc := [(q_60, .inr (7, [.int 0, .ref q_1, .int 0, .int 0, .int 1, .int 0, .int 0, .int 0, .ref q_3, .int 0, .int 0, .int 0, .int 0, .long 0, .int 0, .int (-1), .ref q_62, .ref q_63]))]) hD hS hA [0] rfl
  refine va_callv (va_runV (As := []) (rest := []) ⟨hx, hb, hml, hown, hts⟩ (c_X7_scan l dC dI q_60 q_1 q_3 q_62 q_63 H.size) (cwV 0 hts g_X7_readAll_X7_scan rfl rfl rfl (by decide +kernel) ⟨(Nat.le_of_ble_eq_true rfl), (Nat.le_of_ble_eq_true rfl)⟩) ⟨fun a U g mk q => by obtain ⟨q0, q1, qP, qK, qD⟩ := q; exact ⟨q0, q1, qP, va_K.moved (u := U) (U := U.calling g mk a) (Vm.Alike.refl U.vm) qK, qD⟩, va_recv hKc hPc (ci := 7) (q0 := 0) rfl rfl, fun U hU hW => ⟨rfl, by rw [hU], by rw [hU]; exact hPc, va_K.moved hW.alike hKc, hDc.weaken (fun _ _ _ _ => trivial)⟩⟩ rfl rfl hl.1 rfl (lv_room (Nat.le_of_ble_eq_true rfl)) dX7_readAll_17 ⟨(Nat.le_of_ble_eq_true rfl), (Nat.le_of_ble_eq_true rfl)⟩) hS (fun q _ h => hFc q h) hFc (fun  u t H1 locs ht hvm hw hB hz1 hk1 hS => ?_)
  obtain ⟨hP1, hK1, hD1⟩ := hB
  rw [ht] at hP1
  have hK1 := va_K.moved hvm.symm hK1
  obtain ⟨hP, hD⟩ := va_join (wr := []) (w1 := [(q_60, .inr (7, [.int 0, .ref q_1, .int 0, .int 0, .int 1, .int 0, .int 0, .int 0, .ref q_3, .int 0, .int 0, .int 0, .int 0, .long 0, .int 0, .int (-1), .ref q_62, .ref q_63]))]) hP hD [0] [] rfl rfl (by decide) (by decide) hk1 hFc hP1 hD1
  have hK := (hK.sub (tys' := []) [] rfl).app hK1
  generalize H1 = H at hP hS ⊢
  have hP : va_P (dC, dI) vwP [(q_60, .inr (7, [.int 0, .ref q_1, .int 0, .int 0, .int 1, .int 0, .int 0, .int 0, .ref q_3, .int 0, .int 0, .int 0, .int 0, .long 0, .int 0, .int (-1), .ref q_62, .ref q_63]))] H := hP
  have hD : va_D A [(q_60, .inr (7, [.int 0, .ref q_1, .int 0, .int 0, .int 1, .int 0, .int 0, .int 0, .ref q_3, .int 0, .int 0, .int 0, .int 0, .long 0, .int 0, .int (-1), .ref q_62, .ref q_63]))] := hD
  have hK : va_K (dC, dI) vwP [] s := hK
  refine W.widen (k := 0) (n := 0) (Nat.le_of_ble_eq_true rfl) (Nat.le_of_ble_eq_true rfl) ?_
  refine lv_aload_n hx hb dX7_readAll_20 rfl (lv_at hl 1 rfl) ?_
  refine va_get (D := (dC, dI)) (ci := 7) (v := .int 1) (C := RX7) (T := TX7) (N := 18) hx hb hts mem_X7_readAll_2 hown hK hP 0 rfl rfl 4 (by decide) (ow (k := 7) rfl) (fun _ h9 => h9) rfl dX7_readAll_21 ?_
  refine lv_iconst (v := 1) hx hb dX7_readAll_24 (by decide) ?_
  refine lv_icmp_ne (tgt := 31) hx hb dX7_readAll_25 (by decide) (fun h9 => absurd h9 (by decide)) (fun _ => ?_)
  refine lv_goto (tgt := 54) hx hb dX7_readAll_28 (by decide) ?_
  refine lv_aload_n hx hb dX7_readAll_54 rfl (lv_at hl 1 rfl) ?_
  refine va_get (D := (dC, dI)) (ci := 7) (v := .int 0) (C := RX7) (T := TX7) (N := 18) hx hb hts mem_X7_readAll_2 hown hK hP 0 rfl rfl 7 (by decide) (ow (k := 8) rfl) (fun _ h9 => h9) rfl dX7_readAll_55 ?_
  refine lv_if_ne (tgt := 68) hx hb dX7_readAll_58 (by decide) (fun h9 => absurd h9 (by decide)) (fun _ => ?_)
  refine lv_aload_n hx hb dX7_readAll_61 rfl (lv_at hl 1 rfl) ?_
  refine va_get (D := (dC, dI)) (ci := 7) (v := .int 0) (C := RX7) (T := TX7) (N := 18) hx hb hts mem_X7_readAll_2 hown hK hP 0 rfl rfl 10 (by decide) (ow (k := 9) rfl) (fun _ h9 => h9) rfl dX7_readAll_62 ?_
  refine lv_if_ne (tgt := 75) hx hb dX7_readAll_65 (by decide) (fun h9 => absurd h9 (by decide)) (fun _ => ?_)
  refine lv_aload_n hx hb dX7_readAll_68 rfl (lv_at hl 1 rfl) ?_
  refine lv_iconst (v := 1) hx hb dX7_readAll_69 (by decide) ?_
  refine va_put (D := (dC, dI)) (ci := 7) (v := .int 1) (ty := .int) (C := RX7) (T := TX7) (N := 18) hx hb hts mem_X7_readAll_2 tyX7 tyX7_ok nmX7 hown hK hP hD hS 0 rfl rfl 0 (by decide) (ow (k := 10) rfl) (fun _ h9 => h9) rfl (by decide +kernel) rfl rfl (Nat.le_of_ble_eq_true rfl) dX7_readAll_70 (fun H locs hP hD hS => ?_)
  have hP : va_P (dC, dI) vwP [(q_60, .inr (7, [.int 1, .ref q_1, .int 0, .int 0, .int 1, .int 0, .int 0, .int 0, .ref q_3, .int 0, .int 0, .int 0, .int 0, .long 0, .int 0, .int (-1), .ref q_62, .ref q_63]))] H := hP
  have hD : va_D A [(q_60, .inr (7, [.int 1, .ref q_1, .int 0, .int 0, .int 1, .int 0, .int 0, .int 0, .ref q_3, .int 0, .int 0, .int 0, .int 0, .long 0, .int 0, .int (-1), .ref q_62, .ref q_63]))] := hD
  refine lv_iload_n hx hb dX7_readAll_73 rfl (lv_at hl 3 rfl) ?_
  have hP := hP.sub (ws' := []) [] rfl
  have hD := hD.sub (ws' := []) [] (by decide) rfl
  refine W.widen (k := 0) (n := 0) (Nat.le_of_ble_eq_true rfl) (Nat.le_of_ble_eq_true rfl) ?_
  exact W.iret (v := 0) hx hb hr (fun t ht hW => ⟨⟨0, (), rfl, rfl, by rw [ht]; exact hP, va_K.moved hW.alike hK, hD⟩, hS.F ht⟩) hS.2.2 dX7_readAll_74
theorem dX11_text_0 : decode cX11_text 0 = .ok (.aload_n 0, 1) := by decide +kernel
theorem dX11_text_1 : decode cX11_text 1 = .ok (.getfield 54, 3) := by decide +kernel
theorem dX11_text_4 : decode cX11_text 4 = .ok (.aload_n 0, 1) := by decide +kernel
theorem dX11_text_5 : decode cX11_text 5 = .ok (.getfield 9, 3) := by decide +kernel
theorem dX11_text_8 : decode cX11_text 8 = .ok (.aload_n 0, 1) := by decide +kernel
theorem dX11_text_9 : decode cX11_text 9 = .ok (.getfield 13, 3) := by decide +kernel
theorem dX11_text_12 : decode cX11_text 12 = .ok (.aload_n 0, 1) := by decide +kernel
theorem dX11_text_13 : decode cX11_text 13 = .ok (.getfield 23, 3) := by decide +kernel
theorem dX11_text_16 : decode cX11_text 16 = .ok (.invokevirtual 123, 3) := by decide +kernel
theorem dX11_text_19 : decode cX11_text 19 = .ok (.istore_n 1, 1) := by decide +kernel
theorem dX11_text_20 : decode cX11_text 20 = .ok (.aload_n 0, 1) := by decide +kernel
theorem dX11_text_21 : decode cX11_text 21 = .ok (.iconst 0, 1) := by decide +kernel
theorem dX11_text_22 : decode cX11_text 22 = .ok (.putfield 13, 3) := by decide +kernel
theorem dX11_text_25 : decode cX11_text 25 = .ok (.aload_n 0, 1) := by decide +kernel
theorem dX11_text_26 : decode cX11_text 26 = .ok (.iload_n 1, 1) := by decide +kernel
theorem dX11_text_27 : decode cX11_text 27 = .ok (.ifCond .ge 7, 3) := by decide +kernel
theorem dX11_text_34 : decode cX11_text 34 = .ok (.iconst (-1), 1) := by decide +kernel
theorem dX11_text_35 : decode cX11_text 35 = .ok (.putfield 17, 3) := by decide +kernel
theorem dX11_text_38 : decode cX11_text 38 = .ok (.aload_n 0, 1) := by decide +kernel
theorem dX11_text_39 : decode cX11_text 39 = .ok (.iconst 0, 1) := by decide +kernel
theorem dX11_text_40 : decode cX11_text 40 = .ok (.putfield 37, 3) := by decide +kernel
theorem dX11_text_43 : decode cX11_text 43 = .ok (.aload_n 0, 1) := by decide +kernel
theorem dX11_text_44 : decode cX11_text 44 = .ok (.iconst 0, 1) := by decide +kernel
theorem dX11_text_45 : decode cX11_text 45 = .ok (.putfield 48, 3) := by decide +kernel
theorem dX11_text_48 : decode cX11_text 48 = .ok (.iload_n 1, 1) := by decide +kernel
theorem dX11_text_49 : decode cX11_text 49 = .ok (.ireturn, 1) := by decide +kernel
def o_X11_text : List Cond := [.fieldLink RX11 54 "SsaForge" "reader" "LSsaForge$Reader;", .fieldLink RX11 9 "SsaForge" "tape" "[B", .fieldLink RX11 13 "SsaForge" "tapeLength" "I", .fieldLink RX11 23 "SsaForge" "code" "LSsaForge$Code;", .methodLink RX11 123 yX7_readAll, .instanceMethod yX7_readAll, .selects RX7 yX7_readAll yX7_readAll, .initialized RX7, .fieldLink RX11 17 "SsaForge" "form" "I", .fieldLink RX11 37 "SsaForge" "flowKnown" "Z", .fieldLink RX11 48 "SsaForge" "liveKnown" "Z"]
def v_X11_text : List Cond := .code yX11_text cX11_text 2 (some .int) :: (o_X11_text ++ (wsX110 ++ (v_X7_readAll ++ [])))
theorem mow_X11_text : ∀ w ∈ o_X11_text, w ∈ v_X11_text := fun _ h => List.mem_cons_of_mem _ (List.mem_append_left _ h)
theorem mem_X11_text_0 : ∀ w ∈ wsX110, w ∈ v_X11_text := fun _ h => List.mem_cons_of_mem _ (List.mem_append_right _ (List.mem_append_left _ h))
theorem mem_X11_text_1 : ∀ w ∈ v_X7_readAll, w ∈ v_X11_text := fun _ h => List.mem_cons_of_mem _ (List.mem_append_right _ (List.mem_append_right _ (List.mem_append_left _ h)))
set_option maxRecDepth 20000 in
theorem gw_X11_text : v_X11_text.all goodWord = true := by decide +kernel
set_option maxRecDepth 20000 in
theorem g_X11_text_X7_readAll : GoodIn v_X11_text (wsV RX11 123 RX7 yX7_readAll v_X7_readAll) := goodIn_app (goodIn_sub (fun w h => mow_X11_text w (by revert w h; decide +kernel)) (by decide +kernel)) (goodIn_sub mem_X11_text_1 gw_X7_readAll)
set_option maxHeartbeats 4000000 in
set_option maxRecDepth 100000 in
theorem c_X11_text (l : Launch) (dC : Nat → ClassId) (dI : Nat → Nat → Nat) (h0 : Nat) (q_1 : Nat) (q_3 : Nat) (q_21 : Nat) (q_39 : Nat) (q_52 : Nat) (q_60 : Nat) (q_66 : Nat) (q_73 : Nat) (q_79 : Nat) (q_84 : Nat) (q_92 : Nat) (q_102 : Nat) (q_107 : Nat) (q_61 : Nat) (q_62 : Nat) (q_63 : Nat) (cA_64 : ClassId) (cA_65 : ClassId) (q_4 : Nat) (q_5 : Nat) (q_6 : Nat) (q_7 : Nat) (q_8 : Nat) (q_9 : Nat) (q_10 : Nat) (q_11 : Nat) (q_12 : Nat) (q_13 : Nat) (q_14 : Nat) (q_15 : Nat) (q_16 : Nat) (q_17 : Nat) (q_18 : Nat) (cA_19 : ClassId) (cA_20 : ClassId) (sz : Nat) : Met l yX11_text v_X11_text ({ frames := 3, cells := 0, slots := 0, locals := 68 }) (va_Pc [.ref h0] (fun U => U.heap.size = sz ∧ va_P (dC, dI) vwP [(h0, .inr (11, [.ref q_1, .int 0, .int (-1), .ref q_3, .ref q_21, .ref q_39, .int 0, .ref q_52, .int 0, .ref q_60, .ref q_66, .ref q_73, .ref q_79, .ref q_84, .ref q_92, .ref q_102, .ref q_107])), (q_60, .inr (7, [.int 0, .ref q_61, .int 0, .int 0, .int 1, .int 0, .int 0, .int 0, .null, .int 0, .int 0, .int 0, .int 0, .long 0, .int 0, .int (-1), .ref q_62, .ref q_63])), (q_62, .inl (cA_64, 60, .inl (fun _ => 0))), (q_63, .inl (cA_65, 60, .inl (fun _ => 0))), (q_3, .inr (0, [.int 0, .int 0, .int 0, .int 0, .ref q_4, .ref q_5, .ref q_6, .ref q_7, .ref q_8, .ref q_9, .ref q_10, .ref q_11, .ref q_12, .ref q_13, .ref q_14, .ref q_15, .ref q_16, .ref q_17, .ref q_18])), (q_4, .inl (cA_19, 301, .inl (fun _ => 0))), (q_15, .inl (cA_20, 301, .inl (fun _ => 0)))] U.heap ∧ va_K (dC, dI) vwP [(cA_19, .int), (cA_20, .int), (cA_64, .boolean), (cA_65, .int)] U ∧ va_D (fun _ => True) [(h0, .inr (11, [.ref q_1, .int 0, .int (-1), .ref q_3, .ref q_21, .ref q_39, .int 0, .ref q_52, .int 0, .ref q_60, .ref q_66, .ref q_73, .ref q_79, .ref q_84, .ref q_92, .ref q_102, .ref q_107])), (q_60, .inr (7, [.int 0, .ref q_61, .int 0, .int 0, .int 1, .int 0, .int 0, .int 0, .null, .int 0, .int 0, .int 0, .int 0, .long 0, .int 0, .int (-1), .ref q_62, .ref q_63])), (q_62, .inl (cA_64, 60, .inl (fun _ => 0))), (q_63, .inl (cA_65, 60, .inl (fun _ => 0))), (q_3, .inr (0, [.int 0, .int 0, .int 0, .int 0, .ref q_4, .ref q_5, .ref q_6, .ref q_7, .ref q_8, .ref q_9, .ref q_10, .ref q_11, .ref q_12, .ref q_13, .ref q_14, .ref q_15, .ref q_16, .ref q_17, .ref q_18])), (q_4, .inl (cA_19, 301, .inl (fun _ => 0))), (q_15, .inl (cA_20, 301, .inl (fun _ => 0)))])) (va_Qi (fun (r : Int32) (_ : Unit) => r = 0) (fun (_ : Unit) (t : State) => va_P (dC, dI) vwP [] t.heap ∧ va_K (dC, dI) vwP [] t ∧ va_D (va_A [(h0, .inr (11, [.ref q_1, .int 0, .int (-1), .ref q_3, .ref q_21, .ref q_39, .int 0, .ref q_52, .int 0, .ref q_60, .ref q_66, .ref q_73, .ref q_79, .ref q_84, .ref q_92, .ref q_102, .ref q_107])), (q_60, .inr (7, [.int 0, .ref q_61, .int 0, .int 0, .int 1, .int 0, .int 0, .int 0, .null, .int 0, .int 0, .int 0, .int 0, .long 0, .int 0, .int (-1), .ref q_62, .ref q_63])), (q_62, .inl (cA_64, 60, .inl (fun _ => 0))), (q_63, .inl (cA_65, 60, .inl (fun _ => 0))), (q_3, .inr (0, [.int 0, .int 0, .int 0, .int 0, .ref q_4, .ref q_5, .ref q_6, .ref q_7, .ref q_8, .ref q_9, .ref q_10, .ref q_11, .ref q_12, .ref q_13, .ref q_14, .ref q_15, .ref q_16, .ref q_17, .ref q_18])), (q_4, .inl (cA_19, 301, .inl (fun _ => 0))), (q_15, .inl (cA_20, 301, .inl (fun _ => 0)))] sz) []) (va_A [(h0, .inr (11, [.ref q_1, .int 0, .int (-1), .ref q_3, .ref q_21, .ref q_39, .int 0, .ref q_52, .int 0, .ref q_60, .ref q_66, .ref q_73, .ref q_79, .ref q_84, .ref q_92, .ref q_102, .ref q_107])), (q_60, .inr (7, [.int 0, .ref q_61, .int 0, .int 0, .int 1, .int 0, .int 0, .int 0, .null, .int 0, .int 0, .int 0, .int 0, .long 0, .int 0, .int (-1), .ref q_62, .ref q_63])), (q_62, .inl (cA_64, 60, .inl (fun _ => 0))), (q_63, .inl (cA_65, 60, .inl (fun _ => 0))), (q_3, .inr (0, [.int 0, .int 0, .int 0, .int 0, .ref q_4, .ref q_5, .ref q_6, .ref q_7, .ref q_8, .ref q_9, .ref q_10, .ref q_11, .ref q_12, .ref q_13, .ref q_14, .ref q_15, .ref q_16, .ref q_17, .ref q_18])), (q_4, .inl (cA_19, 301, .inl (fun _ => 0))), (q_15, .inl (cA_20, 301, .inl (fun _ => 0)))] sz)) 0 0 (va_A [(h0, .inr (11, [.ref q_1, .int 0, .int (-1), .ref q_3, .ref q_21, .ref q_39, .int 0, .ref q_52, .int 0, .ref q_60, .ref q_66, .ref q_73, .ref q_79, .ref q_84, .ref q_92, .ref q_102, .ref q_107])), (q_60, .inr (7, [.int 0, .ref q_61, .int 0, .int 0, .int 1, .int 0, .int 0, .int 0, .null, .int 0, .int 0, .int 0, .int 0, .long 0, .int 0, .int (-1), .ref q_62, .ref q_63])), (q_62, .inl (cA_64, 60, .inl (fun _ => 0))), (q_63, .inl (cA_65, 60, .inl (fun _ => 0))), (q_3, .inr (0, [.int 0, .int 0, .int 0, .int 0, .ref q_4, .ref q_5, .ref q_6, .ref q_7, .ref q_8, .ref q_9, .ref q_10, .ref q_11, .ref q_12, .ref q_13, .ref q_14, .ref q_15, .ref q_16, .ref q_17, .ref q_18])), (q_4, .inl (cA_19, 301, .inl (fun _ => 0))), (q_15, .inl (cA_20, 301, .inl (fun _ => 0)))] sz) := by
  refine Met.ofW (cc := cX11_text) (maxL := 2) (ret := (some .int)) (by decide) rfl ?_
  intro p e s m args below meth c s₁ B hml hv
  obtain ⟨rfl, hsz, hP, hK, hD0⟩ := hv
  have hx := B.exec
  have hb := B.bytes
  have hr := B.returns
  have hts := atoms_spec (ws := v_X11_text) B.pre
  have hown : s.vm.findClass RX11 = some m.cls := findClass_of_methodNamed B.named
  have hlocks := B.notSynchronized
  have ow : ∀ {k : Nat} {w : Cond}, o_X11_text[k]? = some w → w.before ([.ref h0] : List Value).toArray s = true := fun h => hts _ (mow_X11_text _ (List.mem_of_getElem? h))
  subst hsz
  have hD := hD0.self (sz := s.heap.size)
  generalize hAe : va_A [(h0, .inr (11, [.ref q_1, .int 0, .int (-1), .ref q_3, .ref q_21, .ref q_39, .int 0, .ref q_52, .int 0, .ref q_60, .ref q_66, .ref q_73, .ref q_79, .ref q_84, .ref q_92, .ref q_102, .ref q_107])), (q_60, .inr (7, [.int 0, .ref q_61, .int 0, .int 0, .int 1, .int 0, .int 0, .int 0, .null, .int 0, .int 0, .int 0, .int 0, .long 0, .int 0, .int (-1), .ref q_62, .ref q_63])), (q_62, .inl (cA_64, 60, .inl (fun _ => 0))), (q_63, .inl (cA_65, 60, .inl (fun _ => 0))), (q_3, .inr (0, [.int 0, .int 0, .int 0, .int 0, .ref q_4, .ref q_5, .ref q_6, .ref q_7, .ref q_8, .ref q_9, .ref q_10, .ref q_11, .ref q_12, .ref q_13, .ref q_14, .ref q_15, .ref q_16, .ref q_17, .ref q_18])), (q_4, .inl (cA_19, 301, .inl (fun _ => 0))), (q_15, .inl (cA_20, 301, .inl (fun _ => 0)))] s.heap.size = A at hD ⊢
  have hA : ∀ q : Nat, s.heap.size ≤ q → A q := fun q h => by rw [← hAe]; exact Or.inr h
  have hS : va_S A s.heap s.heap [] := va_S.rf
  have hP : va_P (dC, dI) vwP [(h0, .inr (11, [.ref q_1, .int 0, .int (-1), .ref q_3, .ref q_21, .ref q_39, .int 0, .ref q_52, .int 0, .ref q_60, .ref q_66, .ref q_73, .ref q_79, .ref q_84, .ref q_92, .ref q_102, .ref q_107])), (q_60, .inr (7, [.int 0, .ref q_61, .int 0, .int 0, .int 1, .int 0, .int 0, .int 0, .null, .int 0, .int 0, .int 0, .int 0, .long 0, .int 0, .int (-1), .ref q_62, .ref q_63])), (q_62, .inl (cA_64, 60, .inl (fun _ => 0))), (q_63, .inl (cA_65, 60, .inl (fun _ => 0))), (q_3, .inr (0, [.int 0, .int 0, .int 0, .int 0, .ref q_4, .ref q_5, .ref q_6, .ref q_7, .ref q_8, .ref q_9, .ref q_10, .ref q_11, .ref q_12, .ref q_13, .ref q_14, .ref q_15, .ref q_16, .ref q_17, .ref q_18])), (q_4, .inl (cA_19, 301, .inl (fun _ => 0))), (q_15, .inl (cA_20, 301, .inl (fun _ => 0)))] s.heap := hP
  have hl := lv_entry ([.ref h0]) (n := 2) (Nat.le_of_ble_eq_true rfl)
  rw [lg_entry_eq]
  generalize (lg_sl ([.ref h0]) ++ List.replicate (2 - (lg_sl ([.ref h0])).length) Slot.unset).toArray = ls at hl ⊢
  have hl : lv_has ls 2 [(0, .ref h0)] := hl
  obtain ⟨H, hH⟩ : ∃ H, H = s.heap := ⟨_, rfl⟩
  rw [← hH] at hP
  have hS : va_S A s.heap H [] := by rw [hH]; exact hS
  rw [← hH]
  refine lv_aload_n hx hb dX11_text_0 rfl (lv_at hl 0 rfl) ?_
  refine va_get (D := (dC, dI)) (ci := 11) (v := .ref q_60) (C := RX11) (T := TX11) (N := 17) hx hb hts mem_X11_text_0 hown hK hP 0 rfl rfl 9 (by decide) (ow (k := 0) rfl) (fun _ h9 => h9) rfl dX11_text_1 ?_
  refine lv_aload_n hx hb dX11_text_4 rfl (lv_at hl 0 rfl) ?_
  refine va_get (D := (dC, dI)) (ci := 11) (v := .ref q_1) (C := RX11) (T := TX11) (N := 17) hx hb hts mem_X11_text_0 hown hK hP 0 rfl rfl 0 (by decide) (ow (k := 1) rfl) (fun _ h9 => h9) rfl dX11_text_5 ?_
  refine lv_aload_n hx hb dX11_text_8 rfl (lv_at hl 0 rfl) ?_
  refine va_get (D := (dC, dI)) (ci := 11) (v := .int 0) (C := RX11) (T := TX11) (N := 17) hx hb hts mem_X11_text_0 hown hK hP 0 rfl rfl 1 (by decide) (ow (k := 2) rfl) (fun _ h9 => h9) rfl dX11_text_9 ?_
  refine lv_aload_n hx hb dX11_text_12 rfl (lv_at hl 0 rfl) ?_
  refine va_get (D := (dC, dI)) (ci := 11) (v := .ref q_3) (C := RX11) (T := TX11) (N := 17) hx hb hts mem_X11_text_0 hown hK hP 0 rfl rfl 3 (by decide) (ow (k := 3) rfl) (fun _ h9 => h9) rfl dX11_text_13 ?_
  have hPc := hP.sub (ws' := [(q_60, .inr (7, [.int 0, .ref q_61, .int 0, .int 0, .int 1, .int 0, .int 0, .int 0, .null, .int 0, .int 0, .int 0, .int 0, .long 0, .int 0, .int (-1), .ref q_62, .ref q_63])), (q_62, .inl (cA_64, 60, .inl (fun _ => 0))), (q_63, .inl (cA_65, 60, .inl (fun _ => 0))), (q_3, .inr (0, [.int 0, .int 0, .int 0, .int 0, .ref q_4, .ref q_5, .ref q_6, .ref q_7, .ref q_8, .ref q_9, .ref q_10, .ref q_11, .ref q_12, .ref q_13, .ref q_14, .ref q_15, .ref q_16, .ref q_17, .ref q_18])), (q_4, .inl (cA_19, 301, .inl (fun _ => 0))), (q_15, .inl (cA_20, 301, .inl (fun _ => 0)))]) [1, 2, 3, 4, 5, 6] rfl
  have hDc := hD.sub (ws' := [(q_60, .inr (7, [.int 0, .ref q_61, .int 0, .int 0, .int 1, .int 0, .int 0, .int 0, .null, .int 0, .int 0, .int 0, .int 0, .long 0, .int 0, .int (-1), .ref q_62, .ref q_63])), (q_62, .inl (cA_64, 60, .inl (fun _ => 0))), (q_63, .inl (cA_65, 60, .inl (fun _ => 0))), (q_3, .inr (0, [.int 0, .int 0, .int 0, .int 0, .ref q_4, .ref q_5, .ref q_6, .ref q_7, .ref q_8, .ref q_9, .ref q_10, .ref q_11, .ref q_12, .ref q_13, .ref q_14, .ref q_15, .ref q_16, .ref q_17, .ref q_18])), (q_4, .inl (cA_19, 301, .inl (fun _ => 0))), (q_15, .inl (cA_20, 301, .inl (fun _ => 0)))]) [1, 2, 3, 4, 5, 6] (by decide) rfl
  have hKc := hK.sub (tys' := [(cA_19, .int), (cA_20, .int), (cA_64, .boolean), (cA_65, .int)]) [0, 1, 2, 3] rfl
  have hFc := va_free (wc := [(q_60, .inr (7, [.int 0, .ref q_61, .int 0, .int 0, .int 1, .int 0, .int 0, .int 0, .null, .int 0, .int 0, .int 0, .int 0, .long 0, .int 0, .int (-1), .ref q_62, .ref q_63])), (q_62, .inl (cA_64, 60, .inl (fun _ => 0))), (q_63, .inl (cA_65, 60, .inl (fun _ => 0))), (q_3, .inr (0, [.int 0, .int 0, .int 0, .int 0, .ref q_4, .ref q_5, .ref q_6, .ref q_7, .ref q_8, .ref q_9, .ref q_10, .ref q_11, .ref q_12, .ref q_13, .ref q_14, .ref q_15, .ref q_16, .ref q_17, .ref q_18])), (q_4, .inl (cA_19, 301, .inl (fun _ => 0))), (q_15, .inl (cA_20, 301, .inl (fun _ => 0)))]) hD hS hA [1, 2, 3, 4, 5, 6] rfl
  refine va_calli (va_runV (As := [.ref q_1, .int 0, .ref q_3]) (rest := []) ⟨hx, hb, hml, hown, hts⟩ (c_X7_readAll l dC dI q_60 q_61 q_62 q_63 cA_64 cA_65 q_3 q_4 q_5 q_6 q_7 q_8 q_9 q_10 q_11 q_12 q_13 q_14 q_15 q_16 q_17 q_18 cA_19 cA_20 q_1 H.size) (cwV 3 hts g_X11_text_X7_readAll rfl rfl rfl (by decide +kernel) ⟨(Nat.le_of_ble_eq_true rfl), (Nat.le_of_ble_eq_true rfl)⟩) ⟨fun a U g mk q => by obtain ⟨q0, q1, qP, qK, qD⟩ := q; exact ⟨q0, q1, qP, va_K.moved (u := U) (U := U.calling g mk a) (Vm.Alike.refl U.vm) qK, qD⟩, va_recv hKc hPc (ci := 7) (q0 := 0) rfl rfl, fun U hU hW => ⟨rfl, by rw [hU], by rw [hU]; exact hPc, va_K.moved hW.alike hKc, hDc.weaken (fun _ _ _ _ => trivial)⟩⟩ rfl rfl hl.1 rfl (lv_room (Nat.le_of_ble_eq_true rfl)) dX11_text_16 ⟨(Nat.le_of_ble_eq_true rfl), (Nat.le_of_ble_eq_true rfl)⟩) hS (fun q _ h => hFc q h) hFc (fun r_2001 u t H1 locs ht hvm hw hB hz1 hk1 hS => ?_)
  obtain ⟨hP1, hK1, hD1⟩ := hB
  rw [ht] at hP1
  have hK1 := va_K.moved hvm.symm hK1
  obtain ⟨hP, hD⟩ := va_join (wr := [(h0, .inr (11, [.ref q_1, .int 0, .int (-1), .ref q_3, .ref q_21, .ref q_39, .int 0, .ref q_52, .int 0, .ref q_60, .ref q_66, .ref q_73, .ref q_79, .ref q_84, .ref q_92, .ref q_102, .ref q_107]))]) (w1 := []) hP hD [1, 2, 3, 4, 5, 6] [0] rfl rfl (by decide) (by decide) hk1 hFc hP1 hD1
  have hK := (hK.sub (tys' := []) [] rfl).app hK1
  generalize H1 = H at hP hS ⊢
  have hP : va_P (dC, dI) vwP [(h0, .inr (11, [.ref q_1, .int 0, .int (-1), .ref q_3, .ref q_21, .ref q_39, .int 0, .ref q_52, .int 0, .ref q_60, .ref q_66, .ref q_73, .ref q_79, .ref q_84, .ref q_92, .ref q_102, .ref q_107]))] H := hP
  have hD : va_D A [(h0, .inr (11, [.ref q_1, .int 0, .int (-1), .ref q_3, .ref q_21, .ref q_39, .int 0, .ref q_52, .int 0, .ref q_60, .ref q_66, .ref q_73, .ref q_79, .ref q_84, .ref q_92, .ref q_102, .ref q_107]))] := hD
  have hK : va_K (dC, dI) vwP [] s := hK
  refine W.widen (k := 0) (n := 0) (Nat.le_of_ble_eq_true rfl) (Nat.le_of_ble_eq_true rfl) ?_
  obtain rfl : r_2001 = 0 := hw
  refine lv_istore_n (lv' := [(1, .int 0), (0, .ref h0)]) hx hb dX11_text_19 rfl hl (by decide) rfl (fun ls hl => ?_)
  refine lv_aload_n hx hb dX11_text_20 rfl (lv_at hl 1 rfl) ?_
  refine lv_iconst (v := 0) hx hb dX11_text_21 (by decide) ?_
  refine va_put (D := (dC, dI)) (ci := 11) (v := .int 0) (ty := .int) (C := RX11) (T := TX11) (N := 17) hx hb hts mem_X11_text_0 tyX11 tyX11_ok nmX11 hown hK hP hD hS 0 rfl rfl 1 (by decide) (ow (k := 2) rfl) (fun _ h9 => h9) rfl (by decide +kernel) rfl rfl (Nat.le_of_ble_eq_true rfl) dX11_text_22 (fun H locs hP hD hS => ?_)
  have hP : va_P (dC, dI) vwP [(h0, .inr (11, [.ref q_1, .int 0, .int (-1), .ref q_3, .ref q_21, .ref q_39, .int 0, .ref q_52, .int 0, .ref q_60, .ref q_66, .ref q_73, .ref q_79, .ref q_84, .ref q_92, .ref q_102, .ref q_107]))] H := hP
  have hD : va_D A [(h0, .inr (11, [.ref q_1, .int 0, .int (-1), .ref q_3, .ref q_21, .ref q_39, .int 0, .ref q_52, .int 0, .ref q_60, .ref q_66, .ref q_73, .ref q_79, .ref q_84, .ref q_92, .ref q_102, .ref q_107]))] := hD
  refine lv_aload_n hx hb dX11_text_25 rfl (lv_at hl 1 rfl) ?_
  refine lv_iload_n hx hb dX11_text_26 rfl (lv_at hl 0 rfl) ?_
  refine lv_if_ge (tgt := 34) hx hb dX11_text_27 (by decide) (fun _ => ?_) (fun h9 => absurd h9 (by decide))
  refine lv_iconst (v := (-1)) hx hb dX11_text_34 (by decide) ?_
  refine va_put (D := (dC, dI)) (ci := 11) (v := .int (-1)) (ty := .int) (C := RX11) (T := TX11) (N := 17) hx hb hts mem_X11_text_0 tyX11 tyX11_ok nmX11 hown hK hP hD hS 0 rfl rfl 2 (by decide) (ow (k := 8) rfl) (fun _ h9 => h9) rfl (by decide +kernel) rfl rfl (Nat.le_of_ble_eq_true rfl) dX11_text_35 (fun H locs hP hD hS => ?_)
  have hP : va_P (dC, dI) vwP [(h0, .inr (11, [.ref q_1, .int 0, .int (-1), .ref q_3, .ref q_21, .ref q_39, .int 0, .ref q_52, .int 0, .ref q_60, .ref q_66, .ref q_73, .ref q_79, .ref q_84, .ref q_92, .ref q_102, .ref q_107]))] H := hP
  have hD : va_D A [(h0, .inr (11, [.ref q_1, .int 0, .int (-1), .ref q_3, .ref q_21, .ref q_39, .int 0, .ref q_52, .int 0, .ref q_60, .ref q_66, .ref q_73, .ref q_79, .ref q_84, .ref q_92, .ref q_102, .ref q_107]))] := hD
  refine lv_aload_n hx hb dX11_text_38 rfl (lv_at hl 1 rfl) ?_
  refine lv_iconst (v := 0) hx hb dX11_text_39 (by decide) ?_
  refine va_put (D := (dC, dI)) (ci := 11) (v := .int 0) (ty := .boolean) (C := RX11) (T := TX11) (N := 17) hx hb hts mem_X11_text_0 tyX11 tyX11_ok nmX11 hown hK hP hD hS 0 rfl rfl 6 (by decide) (ow (k := 9) rfl) (fun _ h9 => h9) rfl (by decide +kernel) rfl rfl (Nat.le_of_ble_eq_true rfl) dX11_text_40 (fun H locs hP hD hS => ?_)
  have hP : va_P (dC, dI) vwP [(h0, .inr (11, [.ref q_1, .int 0, .int (-1), .ref q_3, .ref q_21, .ref q_39, .int 0, .ref q_52, .int 0, .ref q_60, .ref q_66, .ref q_73, .ref q_79, .ref q_84, .ref q_92, .ref q_102, .ref q_107]))] H := hP
  have hD : va_D A [(h0, .inr (11, [.ref q_1, .int 0, .int (-1), .ref q_3, .ref q_21, .ref q_39, .int 0, .ref q_52, .int 0, .ref q_60, .ref q_66, .ref q_73, .ref q_79, .ref q_84, .ref q_92, .ref q_102, .ref q_107]))] := hD
  refine lv_aload_n hx hb dX11_text_43 rfl (lv_at hl 1 rfl) ?_
  refine lv_iconst (v := 0) hx hb dX11_text_44 (by decide) ?_
  refine va_put (D := (dC, dI)) (ci := 11) (v := .int 0) (ty := .boolean) (C := RX11) (T := TX11) (N := 17) hx hb hts mem_X11_text_0 tyX11 tyX11_ok nmX11 hown hK hP hD hS 0 rfl rfl 8 (by decide) (ow (k := 10) rfl) (fun _ h9 => h9) rfl (by decide +kernel) rfl rfl (Nat.le_of_ble_eq_true rfl) dX11_text_45 (fun H locs hP hD hS => ?_)
  have hP : va_P (dC, dI) vwP [(h0, .inr (11, [.ref q_1, .int 0, .int (-1), .ref q_3, .ref q_21, .ref q_39, .int 0, .ref q_52, .int 0, .ref q_60, .ref q_66, .ref q_73, .ref q_79, .ref q_84, .ref q_92, .ref q_102, .ref q_107]))] H := hP
  have hD : va_D A [(h0, .inr (11, [.ref q_1, .int 0, .int (-1), .ref q_3, .ref q_21, .ref q_39, .int 0, .ref q_52, .int 0, .ref q_60, .ref q_66, .ref q_73, .ref q_79, .ref q_84, .ref q_92, .ref q_102, .ref q_107]))] := hD
  refine lv_iload_n hx hb dX11_text_48 rfl (lv_at hl 0 rfl) ?_
  have hP := hP.sub (ws' := []) [] rfl
  have hD := hD.sub (ws' := []) [] (by decide) rfl
  refine W.widen (k := 0) (n := 0) (Nat.le_of_ble_eq_true rfl) (Nat.le_of_ble_eq_true rfl) ?_
  exact W.iret (v := 0) hx hb hr (fun t ht hW => ⟨⟨0, (), rfl, rfl, by rw [ht]; exact hP, va_K.moved hW.alike hK, hD⟩, hS.F ht⟩) hS.2.2 dX11_text_49
