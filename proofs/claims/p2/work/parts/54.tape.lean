theorem dX11_putOnTape_0 : decode cX11_putOnTape 0 = .ok (.aload_n 0, 1) := by decide +kernel
theorem dX11_putOnTape_1 : decode cX11_putOnTape 1 = .ok (.getfield 9, 3) := by decide +kernel
theorem dX11_putOnTape_4 : decode cX11_putOnTape 4 = .ok (.aload_n 0, 1) := by decide +kernel
theorem dX11_putOnTape_5 : decode cX11_putOnTape 5 = .ok (.getfield 13, 3) := by decide +kernel
theorem dX11_putOnTape_8 : decode cX11_putOnTape 8 = .ok (.iload_n 1, 1) := by decide +kernel
theorem dX11_putOnTape_9 : decode cX11_putOnTape 9 = .ok (.bipush 24, 2) := by decide +kernel
theorem dX11_putOnTape_11 : decode cX11_putOnTape 11 = .ok (.ishr, 1) := by decide +kernel
theorem dX11_putOnTape_12 : decode cX11_putOnTape 12 = .ok (.i2b, 1) := by decide +kernel
theorem dX11_putOnTape_13 : decode cX11_putOnTape 13 = .ok (.bastore, 1) := by decide +kernel
theorem dX11_putOnTape_14 : decode cX11_putOnTape 14 = .ok (.aload_n 0, 1) := by decide +kernel
theorem dX11_putOnTape_15 : decode cX11_putOnTape 15 = .ok (.getfield 9, 3) := by decide +kernel
theorem dX11_putOnTape_18 : decode cX11_putOnTape 18 = .ok (.aload_n 0, 1) := by decide +kernel
theorem dX11_putOnTape_19 : decode cX11_putOnTape 19 = .ok (.getfield 13, 3) := by decide +kernel
theorem dX11_putOnTape_22 : decode cX11_putOnTape 22 = .ok (.iconst 1, 1) := by decide +kernel
theorem dX11_putOnTape_23 : decode cX11_putOnTape 23 = .ok (.iadd, 1) := by decide +kernel
theorem dX11_putOnTape_24 : decode cX11_putOnTape 24 = .ok (.iload_n 1, 1) := by decide +kernel
theorem dX11_putOnTape_25 : decode cX11_putOnTape 25 = .ok (.bipush 16, 2) := by decide +kernel
theorem dX11_putOnTape_27 : decode cX11_putOnTape 27 = .ok (.ishr, 1) := by decide +kernel
theorem dX11_putOnTape_28 : decode cX11_putOnTape 28 = .ok (.i2b, 1) := by decide +kernel
theorem dX11_putOnTape_29 : decode cX11_putOnTape 29 = .ok (.bastore, 1) := by decide +kernel
theorem dX11_putOnTape_30 : decode cX11_putOnTape 30 = .ok (.aload_n 0, 1) := by decide +kernel
theorem dX11_putOnTape_31 : decode cX11_putOnTape 31 = .ok (.getfield 9, 3) := by decide +kernel
theorem dX11_putOnTape_34 : decode cX11_putOnTape 34 = .ok (.aload_n 0, 1) := by decide +kernel
theorem dX11_putOnTape_35 : decode cX11_putOnTape 35 = .ok (.getfield 13, 3) := by decide +kernel
theorem dX11_putOnTape_38 : decode cX11_putOnTape 38 = .ok (.iconst 2, 1) := by decide +kernel
theorem dX11_putOnTape_39 : decode cX11_putOnTape 39 = .ok (.iadd, 1) := by decide +kernel
theorem dX11_putOnTape_40 : decode cX11_putOnTape 40 = .ok (.iload_n 1, 1) := by decide +kernel
theorem dX11_putOnTape_41 : decode cX11_putOnTape 41 = .ok (.bipush 8, 2) := by decide +kernel
theorem dX11_putOnTape_43 : decode cX11_putOnTape 43 = .ok (.ishr, 1) := by decide +kernel
theorem dX11_putOnTape_44 : decode cX11_putOnTape 44 = .ok (.i2b, 1) := by decide +kernel
theorem dX11_putOnTape_45 : decode cX11_putOnTape 45 = .ok (.bastore, 1) := by decide +kernel
theorem dX11_putOnTape_46 : decode cX11_putOnTape 46 = .ok (.aload_n 0, 1) := by decide +kernel
theorem dX11_putOnTape_47 : decode cX11_putOnTape 47 = .ok (.getfield 9, 3) := by decide +kernel
theorem dX11_putOnTape_50 : decode cX11_putOnTape 50 = .ok (.aload_n 0, 1) := by decide +kernel
theorem dX11_putOnTape_51 : decode cX11_putOnTape 51 = .ok (.getfield 13, 3) := by decide +kernel
theorem dX11_putOnTape_54 : decode cX11_putOnTape 54 = .ok (.iconst 3, 1) := by decide +kernel
theorem dX11_putOnTape_55 : decode cX11_putOnTape 55 = .ok (.iadd, 1) := by decide +kernel
theorem dX11_putOnTape_56 : decode cX11_putOnTape 56 = .ok (.iload_n 1, 1) := by decide +kernel
theorem dX11_putOnTape_57 : decode cX11_putOnTape 57 = .ok (.i2b, 1) := by decide +kernel
theorem dX11_putOnTape_58 : decode cX11_putOnTape 58 = .ok (.bastore, 1) := by decide +kernel
theorem dX11_putOnTape_59 : decode cX11_putOnTape 59 = .ok (.aload_n 0, 1) := by decide +kernel
theorem dX11_putOnTape_60 : decode cX11_putOnTape 60 = .ok (.dup, 1) := by decide +kernel
theorem dX11_putOnTape_61 : decode cX11_putOnTape 61 = .ok (.getfield 13, 3) := by decide +kernel
theorem dX11_putOnTape_64 : decode cX11_putOnTape 64 = .ok (.iconst 4, 1) := by decide +kernel
theorem dX11_putOnTape_65 : decode cX11_putOnTape 65 = .ok (.iadd, 1) := by decide +kernel
theorem dX11_putOnTape_66 : decode cX11_putOnTape 66 = .ok (.putfield 13, 3) := by decide +kernel
theorem dX11_putOnTape_69 : decode cX11_putOnTape 69 = .ok (.return_, 1) := by decide +kernel
def o_X11_put : List Cond := [.fieldLink RX11 9 "SsaForge" "tape" "[B", .fieldLink RX11 13 "SsaForge" "tapeLength" "I"]
def v_X11_put : List Cond := .code yX11_putOnTape cX11_putOnTape 2 none :: (o_X11_put ++ (wsX110 ++ []))
theorem mow_X11_put : ∀ w ∈ o_X11_put, w ∈ v_X11_put := fun _ h => List.mem_cons_of_mem _ (List.mem_append_left _ h)
theorem mem_X11_put_0 : ∀ w ∈ wsX110, w ∈ v_X11_put := fun _ h => List.mem_cons_of_mem _ (List.mem_append_right _ (List.mem_append_left _ h))
set_option maxRecDepth 20000 in
theorem gw_X11_put : v_X11_put.all goodWord = true := by decide +kernel
set_option maxHeartbeats 4000000 in
set_option maxRecDepth 100000 in
theorem c_X11_put (l : Launch) (dC : Nat → ClassId) (dI : Nat → Nat → Nat) (h0 : Nat) (q_1 : Nat) (N : Nat) (v2 : Value) (v3 : Value) (v4 : Value) (v5 : Value) (v6 : Value) (v7 : Value) (v8 : Value) (v9 : Value) (v10 : Value) (v11 : Value) (v12 : Value) (v13 : Value) (v14 : Value) (v15 : Value) (v16 : Value) (cA_2 : ClassId) (f_0 : Nat → Int32) (p0 : Int32) (hN0 : N + 4 ≤ 8192) (sz : Nat) : Met l yX11_putOnTape v_X11_put ({ frames := 0, cells := 0, slots := 0, locals := 0 }) (va_Pc [.ref h0, .int p0] (fun U => U.heap.size = sz ∧ va_P (dC, dI) vwP [(h0, .inr (11, [.ref q_1, .int (nI (N)), v2, v3, v4, v5, v6, v7, v8, v9, v10, v11, v12, v13, v14, v15, v16])), (q_1, .inl (cA_2, 8192, .inl f_0))] U.heap ∧ va_K (dC, dI) vwP [(cA_2, .byte)] U ∧ va_D (fun _ => True) [(h0, .inr (11, [.ref q_1, .int (nI (N)), v2, v3, v4, v5, v6, v7, v8, v9, v10, v11, v12, v13, v14, v15, v16])), (q_1, .inl (cA_2, 8192, .inl f_0))])) (va_Qv (fun _ : Unit => True) (fun (_ : Unit) (t : State) => ∃ (g0_9 : Nat → Int32), va_P (dC, dI) vwP [(h0, .inr (11, [.ref q_1, .int (nI (N + 4)), v2, v3, v4, v5, v6, v7, v8, v9, v10, v11, v12, v13, v14, v15, v16])), (q_1, .inl (cA_2, 8192, .inl g0_9))] t.heap ∧ va_K (dC, dI) vwP [(cA_2, .byte)] t ∧ va_D (va_A [(h0, .inr (11, [.ref q_1, .int (nI (N)), v2, v3, v4, v5, v6, v7, v8, v9, v10, v11, v12, v13, v14, v15, v16])), (q_1, .inl (cA_2, 8192, .inl f_0))] sz) [(h0, .inr (11, [.ref q_1, .int (nI (N + 4)), v2, v3, v4, v5, v6, v7, v8, v9, v10, v11, v12, v13, v14, v15, v16])), (q_1, .inl (cA_2, 8192, .inl g0_9))]) (va_A [(h0, .inr (11, [.ref q_1, .int (nI (N)), v2, v3, v4, v5, v6, v7, v8, v9, v10, v11, v12, v13, v14, v15, v16])), (q_1, .inl (cA_2, 8192, .inl f_0))] sz)) 0 0 (va_A [(h0, .inr (11, [.ref q_1, .int (nI (N)), v2, v3, v4, v5, v6, v7, v8, v9, v10, v11, v12, v13, v14, v15, v16])), (q_1, .inl (cA_2, 8192, .inl f_0))] sz) := by
  refine Met.ofW (cc := cX11_putOnTape) (maxL := 2) (ret := none) (by decide) rfl ?_
  intro p e s m args below meth c s₁ B hml hv
  obtain ⟨rfl, hsz, hP, hK, hD0⟩ := hv
  have hx := B.exec
  have hb := B.bytes
  have hr := B.returns
  have hts := atoms_spec (ws := v_X11_put) B.pre
  have hown : s.vm.findClass RX11 = some m.cls := findClass_of_methodNamed B.named
  have hlocks := B.notSynchronized
  have ow : ∀ {k : Nat} {w : Cond}, o_X11_put[k]? = some w → w.before ([.ref h0, .int p0] : List Value).toArray s = true := fun h => hts _ (mow_X11_put _ (List.mem_of_getElem? h))
  subst hsz
  have hD := hD0.self (sz := s.heap.size)
  generalize hAe : va_A [(h0, .inr (11, [.ref q_1, .int (nI (N)), v2, v3, v4, v5, v6, v7, v8, v9, v10, v11, v12, v13, v14, v15, v16])), (q_1, .inl (cA_2, 8192, .inl f_0))] s.heap.size = A at hD ⊢
  have hA : ∀ q : Nat, s.heap.size ≤ q → A q := fun q h => by rw [← hAe]; exact Or.inr h
  have hS : va_S A s.heap s.heap [] := va_S.rf
  have hP : va_P (dC, dI) vwP [(h0, .inr (11, [.ref q_1, .int (nI (N)), v2, v3, v4, v5, v6, v7, v8, v9, v10, v11, v12, v13, v14, v15, v16])), (q_1, .inl (cA_2, 8192, .inl f_0))] s.heap := hP
  have hl := lv_entry ([.ref h0, .int p0]) (n := 2) (Nat.le_of_ble_eq_true rfl)
  rw [lg_entry_eq]
  generalize (lg_sl ([.ref h0, .int p0]) ++ List.replicate (2 - (lg_sl ([.ref h0, .int p0])).length) Slot.unset).toArray = ls at hl ⊢
  have hl : lv_has ls 2 [(0, .ref h0), (1, .int p0)] := hl
  obtain ⟨H, hH⟩ : ∃ H, H = s.heap := ⟨_, rfl⟩
  rw [← hH] at hP
  have hS : va_S A s.heap H [] := by rw [hH]; exact hS
  rw [← hH]
  refine lv_aload_n hx hb dX11_putOnTape_0 rfl (lv_at hl 0 rfl) ?_
  refine va_get (D := (dC, dI)) (ci := 11) (v := .ref q_1) (C := RX11) (T := TX11) (N := 17) hx hb hts mem_X11_put_0 hown hK hP 0 rfl rfl 0 (by decide) (ow (k := 0) rfl) (fun _ h9 => h9) rfl dX11_putOnTape_1 ?_
  refine lv_aload_n hx hb dX11_putOnTape_4 rfl (lv_at hl 0 rfl) ?_
  refine va_get (D := (dC, dI)) (ci := 11) (v := .int (nI (N))) (C := RX11) (T := TX11) (N := 17) hx hb hts mem_X11_put_0 hown hK hP 0 rfl rfl 1 (by decide) (ow (k := 1) rfl) (fun _ h9 => h9) rfl dX11_putOnTape_5 ?_
  refine lv_iload_n hx hb dX11_putOnTape_8 rfl (lv_at hl 1 rfl) ?_
  refine lv_bipush (v := 24) hx hb dX11_putOnTape_9 (by decide) ?_
  refine lv_ishr hx hb dX11_putOnTape_11 ?_
  refine lv_i2b hx hb dX11_putOnTape_12 rfl ?_
  refine va_bast hx hb hK hP hD hS 1 0 rfl rfl (vp_in_nI (n := N) (N := 8192) (by omega) (by decide)) dX11_putOnTape_13 (fun H locs hP hD hS => ?_)
  have hP : va_P (dC, dI) vwP [(h0, .inr (11, [.ref q_1, .int (nI (N)), v2, v3, v4, v5, v6, v7, v8, v9, v10, v11, v12, v13, v14, v15, v16])), (q_1, .inl (cA_2, 8192, .inl (upd f_0 (nI (N)).toNatClampNeg (vp_nar .byte ((p0 >>> (24 &&& 31)).toInt8.toInt32)))))] H := hP
  have hD : va_D A [(h0, .inr (11, [.ref q_1, .int (nI (N)), v2, v3, v4, v5, v6, v7, v8, v9, v10, v11, v12, v13, v14, v15, v16])), (q_1, .inl (cA_2, 8192, .inl (upd f_0 (nI (N)).toNatClampNeg (vp_nar .byte ((p0 >>> (24 &&& 31)).toInt8.toInt32)))))] := hD
  generalize (upd f_0 (nI (N)).toNatClampNeg (vp_nar .byte ((p0 >>> (24 &&& 31)).toInt8.toInt32))) = f_2001 at hP hD
  refine lv_aload_n hx hb dX11_putOnTape_14 rfl (lv_at hl 0 rfl) ?_
  refine va_get (D := (dC, dI)) (ci := 11) (v := .ref q_1) (C := RX11) (T := TX11) (N := 17) hx hb hts mem_X11_put_0 hown hK hP 0 rfl rfl 0 (by decide) (ow (k := 0) rfl) (fun _ h9 => h9) rfl dX11_putOnTape_15 ?_
  refine lv_aload_n hx hb dX11_putOnTape_18 rfl (lv_at hl 0 rfl) ?_
  refine va_get (D := (dC, dI)) (ci := 11) (v := .int (nI (N))) (C := RX11) (T := TX11) (N := 17) hx hb hts mem_X11_put_0 hown hK hP 0 rfl rfl 1 (by decide) (ow (k := 1) rfl) (fun _ h9 => h9) rfl dX11_putOnTape_19 ?_
  refine lv_iconst (v := 1) hx hb dX11_putOnTape_22 (by decide) ?_
  refine lv_iadd hx hb dX11_putOnTape_23 ?_
  refine lv_topi (fun z ez => ?_)
  obtain rfl : z = nI (N + 1) := by rw [ez]; exact nI_add (N) 1
  refine lv_iload_n hx hb dX11_putOnTape_24 rfl (lv_at hl 1 rfl) ?_
  refine lv_bipush (v := 16) hx hb dX11_putOnTape_25 (by decide) ?_
  refine lv_ishr hx hb dX11_putOnTape_27 ?_
  refine lv_i2b hx hb dX11_putOnTape_28 rfl ?_
  refine va_bast hx hb hK hP hD hS 1 0 rfl rfl (vp_in_nI (n := N + 1) (N := 8192) (by omega) (by decide)) dX11_putOnTape_29 (fun H locs hP hD hS => ?_)
  have hP : va_P (dC, dI) vwP [(h0, .inr (11, [.ref q_1, .int (nI (N)), v2, v3, v4, v5, v6, v7, v8, v9, v10, v11, v12, v13, v14, v15, v16])), (q_1, .inl (cA_2, 8192, .inl (upd f_2001 (nI (N + 1)).toNatClampNeg (vp_nar .byte ((p0 >>> (16 &&& 31)).toInt8.toInt32)))))] H := hP
  have hD : va_D A [(h0, .inr (11, [.ref q_1, .int (nI (N)), v2, v3, v4, v5, v6, v7, v8, v9, v10, v11, v12, v13, v14, v15, v16])), (q_1, .inl (cA_2, 8192, .inl (upd f_2001 (nI (N + 1)).toNatClampNeg (vp_nar .byte ((p0 >>> (16 &&& 31)).toInt8.toInt32)))))] := hD
  generalize (upd f_2001 (nI (N + 1)).toNatClampNeg (vp_nar .byte ((p0 >>> (16 &&& 31)).toInt8.toInt32))) = f_2002 at hP hD
  refine lv_aload_n hx hb dX11_putOnTape_30 rfl (lv_at hl 0 rfl) ?_
  refine va_get (D := (dC, dI)) (ci := 11) (v := .ref q_1) (C := RX11) (T := TX11) (N := 17) hx hb hts mem_X11_put_0 hown hK hP 0 rfl rfl 0 (by decide) (ow (k := 0) rfl) (fun _ h9 => h9) rfl dX11_putOnTape_31 ?_
  refine lv_aload_n hx hb dX11_putOnTape_34 rfl (lv_at hl 0 rfl) ?_
  refine va_get (D := (dC, dI)) (ci := 11) (v := .int (nI (N))) (C := RX11) (T := TX11) (N := 17) hx hb hts mem_X11_put_0 hown hK hP 0 rfl rfl 1 (by decide) (ow (k := 1) rfl) (fun _ h9 => h9) rfl dX11_putOnTape_35 ?_
  refine lv_iconst (v := 2) hx hb dX11_putOnTape_38 (by decide) ?_
  refine lv_iadd hx hb dX11_putOnTape_39 ?_
  refine lv_topi (fun z ez => ?_)
  obtain rfl : z = nI (N + 2) := by rw [ez]; exact nI_add (N) 2
  refine lv_iload_n hx hb dX11_putOnTape_40 rfl (lv_at hl 1 rfl) ?_
  refine lv_bipush (v := 8) hx hb dX11_putOnTape_41 (by decide) ?_
  refine lv_ishr hx hb dX11_putOnTape_43 ?_
  refine lv_i2b hx hb dX11_putOnTape_44 rfl ?_
  refine va_bast hx hb hK hP hD hS 1 0 rfl rfl (vp_in_nI (n := N + 2) (N := 8192) (by omega) (by decide)) dX11_putOnTape_45 (fun H locs hP hD hS => ?_)
  have hP : va_P (dC, dI) vwP [(h0, .inr (11, [.ref q_1, .int (nI (N)), v2, v3, v4, v5, v6, v7, v8, v9, v10, v11, v12, v13, v14, v15, v16])), (q_1, .inl (cA_2, 8192, .inl (upd f_2002 (nI (N + 2)).toNatClampNeg (vp_nar .byte ((p0 >>> (8 &&& 31)).toInt8.toInt32)))))] H := hP
  have hD : va_D A [(h0, .inr (11, [.ref q_1, .int (nI (N)), v2, v3, v4, v5, v6, v7, v8, v9, v10, v11, v12, v13, v14, v15, v16])), (q_1, .inl (cA_2, 8192, .inl (upd f_2002 (nI (N + 2)).toNatClampNeg (vp_nar .byte ((p0 >>> (8 &&& 31)).toInt8.toInt32)))))] := hD
  generalize (upd f_2002 (nI (N + 2)).toNatClampNeg (vp_nar .byte ((p0 >>> (8 &&& 31)).toInt8.toInt32))) = f_2003 at hP hD
  refine lv_aload_n hx hb dX11_putOnTape_46 rfl (lv_at hl 0 rfl) ?_
  refine va_get (D := (dC, dI)) (ci := 11) (v := .ref q_1) (C := RX11) (T := TX11) (N := 17) hx hb hts mem_X11_put_0 hown hK hP 0 rfl rfl 0 (by decide) (ow (k := 0) rfl) (fun _ h9 => h9) rfl dX11_putOnTape_47 ?_
  refine lv_aload_n hx hb dX11_putOnTape_50 rfl (lv_at hl 0 rfl) ?_
  refine va_get (D := (dC, dI)) (ci := 11) (v := .int (nI (N))) (C := RX11) (T := TX11) (N := 17) hx hb hts mem_X11_put_0 hown hK hP 0 rfl rfl 1 (by decide) (ow (k := 1) rfl) (fun _ h9 => h9) rfl dX11_putOnTape_51 ?_
  refine lv_iconst (v := 3) hx hb dX11_putOnTape_54 (by decide) ?_
  refine lv_iadd hx hb dX11_putOnTape_55 ?_
  refine lv_topi (fun z ez => ?_)
  obtain rfl : z = nI (N + 3) := by rw [ez]; exact nI_add (N) 3
  refine lv_iload_n hx hb dX11_putOnTape_56 rfl (lv_at hl 1 rfl) ?_
  refine lv_i2b hx hb dX11_putOnTape_57 rfl ?_
  refine va_bast hx hb hK hP hD hS 1 0 rfl rfl (vp_in_nI (n := N + 3) (N := 8192) (by omega) (by decide)) dX11_putOnTape_58 (fun H locs hP hD hS => ?_)
  have hP : va_P (dC, dI) vwP [(h0, .inr (11, [.ref q_1, .int (nI (N)), v2, v3, v4, v5, v6, v7, v8, v9, v10, v11, v12, v13, v14, v15, v16])), (q_1, .inl (cA_2, 8192, .inl (upd f_2003 (nI (N + 3)).toNatClampNeg (vp_nar .byte (p0.toInt8.toInt32)))))] H := hP
  have hD : va_D A [(h0, .inr (11, [.ref q_1, .int (nI (N)), v2, v3, v4, v5, v6, v7, v8, v9, v10, v11, v12, v13, v14, v15, v16])), (q_1, .inl (cA_2, 8192, .inl (upd f_2003 (nI (N + 3)).toNatClampNeg (vp_nar .byte (p0.toInt8.toInt32)))))] := hD
  generalize (upd f_2003 (nI (N + 3)).toNatClampNeg (vp_nar .byte (p0.toInt8.toInt32))) = f_2004 at hP hD
  refine lv_aload_n hx hb dX11_putOnTape_59 rfl (lv_at hl 0 rfl) ?_
  refine lv_dup hx hb dX11_putOnTape_60 rfl ?_
  refine va_get (D := (dC, dI)) (ci := 11) (v := .int (nI (N))) (C := RX11) (T := TX11) (N := 17) hx hb hts mem_X11_put_0 hown hK hP 0 rfl rfl 1 (by decide) (ow (k := 1) rfl) (fun _ h9 => h9) rfl dX11_putOnTape_61 ?_
  refine lv_iconst (v := 4) hx hb dX11_putOnTape_64 (by decide) ?_
  refine lv_iadd hx hb dX11_putOnTape_65 ?_
  refine lv_topi (fun z ez => ?_)
  obtain rfl : z = nI (N + 4) := by rw [ez]; exact nI_add (N) 4
  refine va_put (D := (dC, dI)) (ci := 11) (v := .int (nI (N + 4))) (ty := .int) (C := RX11) (T := TX11) (N := 17) hx hb hts mem_X11_put_0 tyX11 tyX11_ok nmX11 hown hK hP hD hS 0 rfl rfl 1 (by decide) (ow (k := 1) rfl) (fun _ h9 => h9) rfl (by decide +kernel) rfl rfl (Nat.le_of_ble_eq_true rfl) dX11_putOnTape_66 (fun H locs hP hD hS => ?_)
  have hP : va_P (dC, dI) vwP [(h0, .inr (11, [.ref q_1, .int (nI (N + 4)), v2, v3, v4, v5, v6, v7, v8, v9, v10, v11, v12, v13, v14, v15, v16])), (q_1, .inl (cA_2, 8192, .inl f_2004))] H := hP
  have hD : va_D A [(h0, .inr (11, [.ref q_1, .int (nI (N + 4)), v2, v3, v4, v5, v6, v7, v8, v9, v10, v11, v12, v13, v14, v15, v16])), (q_1, .inl (cA_2, 8192, .inl f_2004))] := hD
  refine W.widen (k := 0) (n := 0) (Nat.le_of_ble_eq_true rfl) (Nat.le_of_ble_eq_true rfl) ?_
  exact W.vret hx hb hr (fun t ht hW => ⟨⟨(), rfl, trivial, f_2004, by rw [ht]; exact hP, va_K.moved hW.alike hK, hD⟩, hS.F ht⟩) hS.2.2 dX11_putOnTape_69
theorem nb_RX11_111 : ∀ w ∈ (vx_atS RX11 111 "java/lang/IndexOutOfBoundsException" ["java/lang/RuntimeException", "java/lang/Exception"]).filter (fun w => !goodWord w), w ∈ [Cond.declares (Bundle.initS "java/lang/RuntimeException"), Cond.declares (Bundle.initS "java/lang/Exception"), Cond.declares (Bundle.initS "java/lang/Throwable"), Cond.castable "java/lang/IndexOutOfBoundsException" "java/lang/IndexOutOfBoundsException"] := by decide +kernel
theorem go_RX11_107_111 : ∀ w ∈ Cond.classLink RX11 107 "java/lang/IndexOutOfBoundsException" :: Cond.initialized "java/lang/IndexOutOfBoundsException" :: vx_atS RX11 111 "java/lang/IndexOutOfBoundsException" ["java/lang/RuntimeException", "java/lang/Exception"], vx_ot w = true := by decide +kernel
theorem dX11_feed_0 : decode cX11_feed 0 = .ok (.aload_n 0, 1) := by decide +kernel
theorem dX11_feed_1 : decode cX11_feed 1 = .ok (.getfield 13, 3) := by decide +kernel
theorem dX11_feed_4 : decode cX11_feed 4 = .ok (.bipush 20, 2) := by decide +kernel
theorem dX11_feed_6 : decode cX11_feed 6 = .ok (.iadd, 1) := by decide +kernel
theorem dX11_feed_7 : decode cX11_feed 7 = .ok (.sipush 8192, 3) := by decide +kernel
theorem dX11_feed_10 : decode cX11_feed 10 = .ok (.if_icmp .le 13, 3) := by decide +kernel
theorem dX11_feed_23 : decode cX11_feed 23 = .ok (.aload_n 0, 1) := by decide +kernel
theorem dX11_feed_24 : decode cX11_feed 24 = .ok (.iload_n 1, 1) := by decide +kernel
theorem dX11_feed_25 : decode cX11_feed 25 = .ok (.invokevirtual 114, 3) := by decide +kernel
theorem dX11_feed_28 : decode cX11_feed 28 = .ok (.aload_n 0, 1) := by decide +kernel
theorem dX11_feed_29 : decode cX11_feed 29 = .ok (.iload_n 2, 1) := by decide +kernel
theorem dX11_feed_30 : decode cX11_feed 30 = .ok (.invokevirtual 114, 3) := by decide +kernel
theorem dX11_feed_33 : decode cX11_feed 33 = .ok (.aload_n 0, 1) := by decide +kernel
theorem dX11_feed_34 : decode cX11_feed 34 = .ok (.iload_n 3, 1) := by decide +kernel
theorem dX11_feed_35 : decode cX11_feed 35 = .ok (.invokevirtual 114, 3) := by decide +kernel
theorem dX11_feed_38 : decode cX11_feed 38 = .ok (.aload_n 0, 1) := by decide +kernel
theorem dX11_feed_39 : decode cX11_feed 39 = .ok (.iload 4, 2) := by decide +kernel
theorem dX11_feed_41 : decode cX11_feed 41 = .ok (.invokevirtual 114, 3) := by decide +kernel
theorem dX11_feed_44 : decode cX11_feed 44 = .ok (.aload_n 0, 1) := by decide +kernel
theorem dX11_feed_45 : decode cX11_feed 45 = .ok (.iload 5, 2) := by decide +kernel
theorem dX11_feed_47 : decode cX11_feed 47 = .ok (.invokevirtual 114, 3) := by decide +kernel
theorem dX11_feed_50 : decode cX11_feed 50 = .ok (.aload_n 0, 1) := by decide +kernel
theorem dX11_feed_51 : decode cX11_feed 51 = .ok (.getfield 13, 3) := by decide +kernel
theorem dX11_feed_54 : decode cX11_feed 54 = .ok (.ireturn, 1) := by decide +kernel
theorem dX11_feed_13 : decode cX11_feed 13 = .ok (.new 107, 3) := by decide +kernel
theorem dX11_feed_16 : decode cX11_feed 16 = .ok (.dup, 1) := by decide +kernel
theorem dX11_feed_17 : decode cX11_feed 17 = .ok (.ldc 109, 2) := by decide +kernel
theorem dX11_feed_19 : decode cX11_feed 19 = .ok (.invokespecial 111, 3) := by decide +kernel
theorem dX11_feed_22 : decode cX11_feed 22 = .ok (.athrow, 1) := by decide +kernel
def o_X11_feedG : List Cond := [.fieldLink RX11 13 "SsaForge" "tapeLength" "I", .methodLink RX11 114 yX11_putOnTape, .instanceMethod yX11_putOnTape, .selects RX11 yX11_putOnTape yX11_putOnTape, .initialized RX11, .classLink RX11 107 "java/lang/IndexOutOfBoundsException", .initialized "java/lang/IndexOutOfBoundsException"]
def v_X11_feedG : List Cond := .code yX11_feed cX11_feed 6 (some .int) :: (o_X11_feedG ++ (wsX110 ++ (v_X11_put ++ (((vx_atS RX11 111 "java/lang/IndexOutOfBoundsException" ["java/lang/RuntimeException", "java/lang/Exception"]).filter goodWord) ++ []))))
theorem mow_X11_feedG : ∀ w ∈ o_X11_feedG, w ∈ v_X11_feedG := fun _ h => List.mem_cons_of_mem _ (List.mem_append_left _ h)
theorem mem_X11_feedG_0 : ∀ w ∈ wsX110, w ∈ v_X11_feedG := fun _ h => List.mem_cons_of_mem _ (List.mem_append_right _ (List.mem_append_left _ h))
theorem mem_X11_feedG_1 : ∀ w ∈ v_X11_put, w ∈ v_X11_feedG := fun _ h => List.mem_cons_of_mem _ (List.mem_append_right _ (List.mem_append_right _ (List.mem_append_left _ h)))
theorem mem_X11_feedG_2 : ∀ w ∈ ((vx_atS RX11 111 "java/lang/IndexOutOfBoundsException" ["java/lang/RuntimeException", "java/lang/Exception"]).filter goodWord), w ∈ v_X11_feedG := fun _ h => List.mem_cons_of_mem _ (List.mem_append_right _ (List.mem_append_right _ (List.mem_append_right _ (List.mem_append_left _ h))))
set_option maxRecDepth 20000 in
theorem gw_X11_feedG : v_X11_feedG.all goodWord = true := by decide +kernel
set_option maxRecDepth 20000 in
theorem g_X11_feedG_X11_put : GoodIn v_X11_feedG (wsV RX11 114 RX11 yX11_putOnTape v_X11_put) := goodIn_app (goodIn_sub (fun w h => mow_X11_feedG w (by revert w h; decide +kernel)) (by decide +kernel)) (goodIn_sub mem_X11_feedG_1 gw_X11_put)
set_option maxHeartbeats 4000000 in
set_option maxRecDepth 100000 in
theorem c_X11_feedG (l : Launch) (dC : Nat → ClassId) (dI : Nat → Nat → Nat) (hst : l.stackTraces = false) (h0 : Nat) (q_1 : Nat) (N : Nat) (v2 : Value) (v3 : Value) (v4 : Value) (v5 : Value) (v6 : Value) (v7 : Value) (v8 : Value) (v9 : Value) (v10 : Value) (v11 : Value) (v12 : Value) (v13 : Value) (v14 : Value) (v15 : Value) (v16 : Value) (cA_2 : ClassId) (f_0 : Nat → Int32) (p0 : Int32) (p1 : Int32) (p2 : Int32) (p3 : Int32) (p4 : Int32) (hN0 : N ≤ 8192) (sz : Nat) (sa_RX11_109 : Nat) : vx_Met l yX11_feed v_X11_feedG ({ frames := 6, cells := 1, slots := 6, locals := 82 }) (va_Pc [.ref h0, .int p0, .int p1, .int p2, .int p3, .int p4] (fun U => U.heap.size = sz ∧ va_P (dC, dI) vwP [(h0, .inr (11, [.ref q_1, .int (nI (N)), v2, v3, v4, v5, v6, v7, v8, v9, v10, v11, v12, v13, v14, v15, v16])), (q_1, .inl (cA_2, 8192, .inl f_0))] U.heap ∧ va_K (dC, dI) vwP [(cA_2, .byte)] U ∧ va_D (fun _ => True) [(h0, .inr (11, [.ref q_1, .int (nI (N)), v2, v3, v4, v5, v6, v7, v8, v9, v10, v11, v12, v13, v14, v15, v16])), (q_1, .inl (cA_2, 8192, .inl f_0))] ∧ vx_Zq Bundle.tN "UNASSIGNED_STACK" Bundle.steD (va_A [(h0, .inr (11, [.ref q_1, .int (nI (N)), v2, v3, v4, v5, v6, v7, v8, v9, v10, v11, v12, v13, v14, v15, v16])), (q_1, .inl (cA_2, 8192, .inl f_0))] sz) U U.heap ∧ vx_Zq Bundle.tN "SUPPRESSED_SENTINEL" Bundle.listD (va_A [(h0, .inr (11, [.ref q_1, .int (nI (N)), v2, v3, v4, v5, v6, v7, v8, v9, v10, v11, v12, v13, v14, v15, v16])), (q_1, .inl (cA_2, 8192, .inl f_0))] sz) U U.heap ∧ va_Nw (.castable "java/lang/IndexOutOfBoundsException" "java/lang/IndexOutOfBoundsException") U ∧ vk_R RX11 109 "the tape is full" sa_RX11_109 U ∧ va_Nw (.declares (Bundle.initS "java/lang/RuntimeException")) U ∧ va_Nw (.declares (Bundle.initS "java/lang/Exception")) U ∧ va_Nw (.declares (Bundle.initS "java/lang/Throwable")) U)) (va_Qi (fun (r : Int32) (_ : Unit) => kf_feedG N = 0 ∧ r = vf_feedG N) (fun (_ : Unit) (t : State) => ∃ (g0_9 : Nat → Int32), va_P (dC, dI) vwP [(h0, .inr (11, [.ref q_1, .int (nI (N + 4 + 4 + 4 + 4 + 4)), v2, v3, v4, v5, v6, v7, v8, v9, v10, v11, v12, v13, v14, v15, v16])), (q_1, .inl (cA_2, 8192, .inl g0_9))] t.heap ∧ va_K (dC, dI) vwP [(cA_2, .byte)] t ∧ va_D (va_A [(h0, .inr (11, [.ref q_1, .int (nI (N)), v2, v3, v4, v5, v6, v7, v8, v9, v10, v11, v12, v13, v14, v15, v16])), (q_1, .inl (cA_2, 8192, .inl f_0))] sz) [(h0, .inr (11, [.ref q_1, .int (nI (N + 4 + 4 + 4 + 4 + 4)), v2, v3, v4, v5, v6, v7, v8, v9, v10, v11, v12, v13, v14, v15, v16])), (q_1, .inl (cA_2, 8192, .inl g0_9))]) (va_A [(h0, .inr (11, [.ref q_1, .int (nI (N)), v2, v3, v4, v5, v6, v7, v8, v9, v10, v11, v12, v13, v14, v15, v16])), (q_1, .inl (cA_2, 8192, .inl f_0))] sz)) (vx_X (fun _ : Unit => True) (fun E (q9 : Addr) (_ : Unit) (t9 : State) => (E = "java/lang/IndexOutOfBoundsException" ∧ kf_feedG N = 1 ∧ va_P (dC, dI) vwP [(h0, .inr (11, [.ref q_1, .int (nI (N)), v2, v3, v4, v5, v6, v7, v8, v9, v10, v11, v12, v13, v14, v15, v16])), (q_1, .inl (cA_2, 8192, .inl f_0))] t9.heap ∧ va_D (va_A [(h0, .inr (11, [.ref q_1, .int (nI (N)), v2, v3, v4, v5, v6, v7, v8, v9, v10, v11, v12, v13, v14, v15, v16])), (q_1, .inl (cA_2, 8192, .inl f_0))] sz) [(h0, .inr (11, [.ref q_1, .int (nI (N)), v2, v3, v4, v5, v6, v7, v8, v9, v10, v11, v12, v13, v14, v15, v16])), (q_1, .inl (cA_2, 8192, .inl f_0))])) (va_A [(h0, .inr (11, [.ref q_1, .int (nI (N)), v2, v3, v4, v5, v6, v7, v8, v9, v10, v11, v12, v13, v14, v15, v16])), (q_1, .inl (cA_2, 8192, .inl f_0))] sz)) 1 6 (va_A [(h0, .inr (11, [.ref q_1, .int (nI (N)), v2, v3, v4, v5, v6, v7, v8, v9, v10, v11, v12, v13, v14, v15, v16])), (q_1, .inl (cA_2, 8192, .inl f_0))] sz) := by
  refine vx_ofW (cc := cX11_feed) (maxL := 6) (ret := (some .int)) (by decide) rfl ?_
  intro p e s m args below meth c s₁ B hml hnt hv
  obtain ⟨rfl, hsz, hP, hK, hD0, hp0, hp1, hp2, hp3, hp4, hp5, hp6⟩ := hv
  have hx := B.exec
  have hb := B.bytes
  have hr := B.returns
  have hts := atoms_spec (ws := v_X11_feedG) B.pre
  have hown : s.vm.findClass RX11 = some m.cls := findClass_of_methodNamed B.named
  have hlocks := B.notSynchronized
  have ow : ∀ {k : Nat} {w : Cond}, o_X11_feedG[k]? = some w → w.before ([.ref h0, .int p0, .int p1, .int p2, .int p3, .int p4] : List Value).toArray s = true := fun h => hts _ (mow_X11_feedG _ (List.mem_of_getElem? h))
  subst hsz
  have hD := hD0.self (sz := s.heap.size)
  generalize hAe : va_A [(h0, .inr (11, [.ref q_1, .int (nI (N)), v2, v3, v4, v5, v6, v7, v8, v9, v10, v11, v12, v13, v14, v15, v16])), (q_1, .inl (cA_2, 8192, .inl f_0))] s.heap.size = A at hD hp0 hp1 ⊢
  have hA : ∀ q : Nat, s.heap.size ≤ q → A q := fun q h => by rw [← hAe]; exact Or.inr h
  have hS : va_S A s.heap s.heap [] := va_S.rf
  have hP : va_P (dC, dI) vwP [(h0, .inr (11, [.ref q_1, .int (nI (N)), v2, v3, v4, v5, v6, v7, v8, v9, v10, v11, v12, v13, v14, v15, v16])), (q_1, .inl (cA_2, 8192, .inl f_0))] s.heap := hP
  have hl := lv_entry ([.ref h0, .int p0, .int p1, .int p2, .int p3, .int p4]) (n := 6) (Nat.le_of_ble_eq_true rfl)
  rw [lg_entry_eq]
  generalize (lg_sl ([.ref h0, .int p0, .int p1, .int p2, .int p3, .int p4]) ++ List.replicate (6 - (lg_sl ([.ref h0, .int p0, .int p1, .int p2, .int p3, .int p4])).length) Slot.unset).toArray = ls at hl ⊢
  have hl : lv_has ls 6 [(0, .ref h0), (1, .int p0), (2, .int p1), (3, .int p2), (4, .int p3), (5, .int p4)] := hl
  obtain ⟨H, hH⟩ : ∃ H, H = s.heap := ⟨_, rfl⟩
  rw [← hH] at hP
  have hS : va_S A s.heap H [] := by rw [hH]; exact hS
  rw [← hH]
  refine lv_aload_n hx hb dX11_feed_0 rfl (lv_at hl 0 rfl) ?_
  refine va_get (D := (dC, dI)) (ci := 11) (v := .int (nI (N))) (C := RX11) (T := TX11) (N := 17) hx hb hts mem_X11_feedG_0 hown hK hP 0 rfl rfl 1 (by decide) (ow (k := 0) rfl) (fun _ h9 => h9) rfl dX11_feed_1 ?_
  refine lv_bipush (v := 20) hx hb dX11_feed_4 (by decide) ?_
  refine lv_iadd hx hb dX11_feed_6 ?_
  refine lv_topi (fun z ez => ?_)
  obtain rfl : z = nI (N + 20) := by rw [ez]; exact nI_add (N) 20
  refine lv_sipush (v := 8192) hx hb dX11_feed_7 (by decide) ?_
  refine lv_icmp_le (tgt := 23) hx hb dX11_feed_10 (by decide) (fun b10 => ?_) (fun b10 => ?_)
  · have yb10 : N + 20 ≤ 8192 := (nI_leI (a := N + 20) (b := 8192) (by omega) (by omega)).mp b10
    refine lv_aload_n hx hb dX11_feed_23 rfl (lv_at hl 0 rfl) ?_
    refine lv_iload_n hx hb dX11_feed_24 rfl (lv_at hl 1 rfl) ?_
    have hPc := hP.sub (ws' := [(h0, .inr (11, [.ref q_1, .int (nI (N)), v2, v3, v4, v5, v6, v7, v8, v9, v10, v11, v12, v13, v14, v15, v16])), (q_1, .inl (cA_2, 8192, .inl f_0))]) [0, 1] rfl
    have hDc := hD.sub (ws' := [(h0, .inr (11, [.ref q_1, .int (nI (N)), v2, v3, v4, v5, v6, v7, v8, v9, v10, v11, v12, v13, v14, v15, v16])), (q_1, .inl (cA_2, 8192, .inl f_0))]) [0, 1] (by decide) rfl
    have hKc := hK.sub (tys' := [(cA_2, .byte)]) [0] rfl
    have hFc := va_free (wc := [(h0, .inr (11, [.ref q_1, .int (nI (N)), v2, v3, v4, v5, v6, v7, v8, v9, v10, v11, v12, v13, v14, v15, v16])), (q_1, .inl (cA_2, 8192, .inl f_0))]) hD hS hA [0, 1] rfl
    refine va_callv (va_runV (As := [.int p0]) (rest := []) ⟨hx, hb, hml, hown, hts⟩ (c_X11_put l dC dI h0 q_1 N v2 v3 v4 v5 v6 v7 v8 v9 v10 v11 v12 v13 v14 v15 v16 cA_2 f_0 p0 (by omega) H.size) (cwV 1 hts g_X11_feedG_X11_put rfl rfl rfl (by decide +kernel) ⟨(Nat.le_of_ble_eq_true rfl), (Nat.le_of_ble_eq_true rfl)⟩) ⟨fun a U g mk q => by obtain ⟨q0, q1, qP, qK, qD⟩ := q; exact ⟨q0, q1, qP, va_K.moved (u := U) (U := U.calling g mk a) (Vm.Alike.refl U.vm) qK, qD⟩, va_recv hKc hPc (ci := 11) (q0 := 0) rfl rfl, fun U hU hW => ⟨rfl, by rw [hU], by rw [hU]; exact hPc, va_K.moved hW.alike hKc, hDc.weaken (fun _ _ _ _ => trivial)⟩⟩ rfl rfl hl.1 rfl (lv_room (Nat.le_of_ble_eq_true rfl)) dX11_feed_25 ⟨(Nat.le_of_ble_eq_true rfl), (Nat.le_of_ble_eq_true rfl)⟩) hS (fun q _ h => hFc q h) hFc (fun  u t H1 locs ht hvm hw hB hz1 hk1 hS => ?_)
    obtain ⟨g0_2001, hP1, hK1, hD1⟩ := hB
    rw [ht] at hP1
    have hK1 := va_K.moved hvm.symm hK1
    obtain ⟨hP, hD⟩ := va_join (wr := []) (w1 := [(h0, .inr (11, [.ref q_1, .int (nI (N + 4)), v2, v3, v4, v5, v6, v7, v8, v9, v10, v11, v12, v13, v14, v15, v16])), (q_1, .inl (cA_2, 8192, .inl g0_2001))]) hP hD [0, 1] [] rfl rfl (by decide) (by decide) hk1 hFc hP1 hD1
    have hK := (hK.sub (tys' := []) [] rfl).app hK1
    generalize H1 = H at hP hS ⊢
    have hP : va_P (dC, dI) vwP [(h0, .inr (11, [.ref q_1, .int (nI (N + 4)), v2, v3, v4, v5, v6, v7, v8, v9, v10, v11, v12, v13, v14, v15, v16])), (q_1, .inl (cA_2, 8192, .inl g0_2001))] H := hP
    have hD : va_D A [(h0, .inr (11, [.ref q_1, .int (nI (N + 4)), v2, v3, v4, v5, v6, v7, v8, v9, v10, v11, v12, v13, v14, v15, v16])), (q_1, .inl (cA_2, 8192, .inl g0_2001))] := hD
    have hK : va_K (dC, dI) vwP [(cA_2, .byte)] s := hK
    refine W.widen (k := 0) (n := 0) (Nat.le_of_ble_eq_true rfl) (Nat.le_of_ble_eq_true rfl) ?_
    refine lv_aload_n hx hb dX11_feed_28 rfl (lv_at hl 0 rfl) ?_
    refine lv_iload_n hx hb dX11_feed_29 rfl (lv_at hl 2 rfl) ?_
    have hPc := hP.sub (ws' := [(h0, .inr (11, [.ref q_1, .int (nI (N + 4)), v2, v3, v4, v5, v6, v7, v8, v9, v10, v11, v12, v13, v14, v15, v16])), (q_1, .inl (cA_2, 8192, .inl g0_2001))]) [0, 1] rfl
    have hDc := hD.sub (ws' := [(h0, .inr (11, [.ref q_1, .int (nI (N + 4)), v2, v3, v4, v5, v6, v7, v8, v9, v10, v11, v12, v13, v14, v15, v16])), (q_1, .inl (cA_2, 8192, .inl g0_2001))]) [0, 1] (by decide) rfl
    have hKc := hK.sub (tys' := [(cA_2, .byte)]) [0] rfl
    have hFc := va_free (wc := [(h0, .inr (11, [.ref q_1, .int (nI (N + 4)), v2, v3, v4, v5, v6, v7, v8, v9, v10, v11, v12, v13, v14, v15, v16])), (q_1, .inl (cA_2, 8192, .inl g0_2001))]) hD hS hA [0, 1] rfl
    refine va_callv (va_runV (As := [.int p1]) (rest := []) ⟨hx, hb, hml, hown, hts⟩ (c_X11_put l dC dI h0 q_1 (N + 4) v2 v3 v4 v5 v6 v7 v8 v9 v10 v11 v12 v13 v14 v15 v16 cA_2 g0_2001 p1 (by omega) H.size) (cwV 1 hts g_X11_feedG_X11_put rfl rfl rfl (by decide +kernel) ⟨(Nat.le_of_ble_eq_true rfl), (Nat.le_of_ble_eq_true rfl)⟩) ⟨fun a U g mk q => by obtain ⟨q0, q1, qP, qK, qD⟩ := q; exact ⟨q0, q1, qP, va_K.moved (u := U) (U := U.calling g mk a) (Vm.Alike.refl U.vm) qK, qD⟩, va_recv hKc hPc (ci := 11) (q0 := 0) rfl rfl, fun U hU hW => ⟨rfl, by rw [hU], by rw [hU]; exact hPc, va_K.moved hW.alike hKc, hDc.weaken (fun _ _ _ _ => trivial)⟩⟩ rfl rfl hl.1 rfl (lv_room (Nat.le_of_ble_eq_true rfl)) dX11_feed_30 ⟨(Nat.le_of_ble_eq_true rfl), (Nat.le_of_ble_eq_true rfl)⟩) hS (fun q _ h => hFc q h) hFc (fun  u t H1 locs ht hvm hw hB hz1 hk1 hS => ?_)
    obtain ⟨g0_2002, hP1, hK1, hD1⟩ := hB
    rw [ht] at hP1
    have hK1 := va_K.moved hvm.symm hK1
    obtain ⟨hP, hD⟩ := va_join (wr := []) (w1 := [(h0, .inr (11, [.ref q_1, .int (nI (N + 4 + 4)), v2, v3, v4, v5, v6, v7, v8, v9, v10, v11, v12, v13, v14, v15, v16])), (q_1, .inl (cA_2, 8192, .inl g0_2002))]) hP hD [0, 1] [] rfl rfl (by decide) (by decide) hk1 hFc hP1 hD1
    have hK := (hK.sub (tys' := []) [] rfl).app hK1
    generalize H1 = H at hP hS ⊢
    have hP : va_P (dC, dI) vwP [(h0, .inr (11, [.ref q_1, .int (nI (N + 4 + 4)), v2, v3, v4, v5, v6, v7, v8, v9, v10, v11, v12, v13, v14, v15, v16])), (q_1, .inl (cA_2, 8192, .inl g0_2002))] H := hP
    have hD : va_D A [(h0, .inr (11, [.ref q_1, .int (nI (N + 4 + 4)), v2, v3, v4, v5, v6, v7, v8, v9, v10, v11, v12, v13, v14, v15, v16])), (q_1, .inl (cA_2, 8192, .inl g0_2002))] := hD
    have hK : va_K (dC, dI) vwP [(cA_2, .byte)] s := hK
    refine W.widen (k := 0) (n := 0) (Nat.le_of_ble_eq_true rfl) (Nat.le_of_ble_eq_true rfl) ?_
    refine lv_aload_n hx hb dX11_feed_33 rfl (lv_at hl 0 rfl) ?_
    refine lv_iload_n hx hb dX11_feed_34 rfl (lv_at hl 3 rfl) ?_
    have hPc := hP.sub (ws' := [(h0, .inr (11, [.ref q_1, .int (nI (N + 4 + 4)), v2, v3, v4, v5, v6, v7, v8, v9, v10, v11, v12, v13, v14, v15, v16])), (q_1, .inl (cA_2, 8192, .inl g0_2002))]) [0, 1] rfl
    have hDc := hD.sub (ws' := [(h0, .inr (11, [.ref q_1, .int (nI (N + 4 + 4)), v2, v3, v4, v5, v6, v7, v8, v9, v10, v11, v12, v13, v14, v15, v16])), (q_1, .inl (cA_2, 8192, .inl g0_2002))]) [0, 1] (by decide) rfl
    have hKc := hK.sub (tys' := [(cA_2, .byte)]) [0] rfl
    have hFc := va_free (wc := [(h0, .inr (11, [.ref q_1, .int (nI (N + 4 + 4)), v2, v3, v4, v5, v6, v7, v8, v9, v10, v11, v12, v13, v14, v15, v16])), (q_1, .inl (cA_2, 8192, .inl g0_2002))]) hD hS hA [0, 1] rfl
    refine va_callv (va_runV (As := [.int p2]) (rest := []) ⟨hx, hb, hml, hown, hts⟩ (c_X11_put l dC dI h0 q_1 (N + 4 + 4) v2 v3 v4 v5 v6 v7 v8 v9 v10 v11 v12 v13 v14 v15 v16 cA_2 g0_2002 p2 (by omega) H.size) (cwV 1 hts g_X11_feedG_X11_put rfl rfl rfl (by decide +kernel) ⟨(Nat.le_of_ble_eq_true rfl), (Nat.le_of_ble_eq_true rfl)⟩) ⟨fun a U g mk q => by obtain ⟨q0, q1, qP, qK, qD⟩ := q; exact ⟨q0, q1, qP, va_K.moved (u := U) (U := U.calling g mk a) (Vm.Alike.refl U.vm) qK, qD⟩, va_recv hKc hPc (ci := 11) (q0 := 0) rfl rfl, fun U hU hW => ⟨rfl, by rw [hU], by rw [hU]; exact hPc, va_K.moved hW.alike hKc, hDc.weaken (fun _ _ _ _ => trivial)⟩⟩ rfl rfl hl.1 rfl (lv_room (Nat.le_of_ble_eq_true rfl)) dX11_feed_35 ⟨(Nat.le_of_ble_eq_true rfl), (Nat.le_of_ble_eq_true rfl)⟩) hS (fun q _ h => hFc q h) hFc (fun  u t H1 locs ht hvm hw hB hz1 hk1 hS => ?_)
    obtain ⟨g0_2003, hP1, hK1, hD1⟩ := hB
    rw [ht] at hP1
    have hK1 := va_K.moved hvm.symm hK1
    obtain ⟨hP, hD⟩ := va_join (wr := []) (w1 := [(h0, .inr (11, [.ref q_1, .int (nI (N + 4 + 4 + 4)), v2, v3, v4, v5, v6, v7, v8, v9, v10, v11, v12, v13, v14, v15, v16])), (q_1, .inl (cA_2, 8192, .inl g0_2003))]) hP hD [0, 1] [] rfl rfl (by decide) (by decide) hk1 hFc hP1 hD1
    have hK := (hK.sub (tys' := []) [] rfl).app hK1
    generalize H1 = H at hP hS ⊢
    have hP : va_P (dC, dI) vwP [(h0, .inr (11, [.ref q_1, .int (nI (N + 4 + 4 + 4)), v2, v3, v4, v5, v6, v7, v8, v9, v10, v11, v12, v13, v14, v15, v16])), (q_1, .inl (cA_2, 8192, .inl g0_2003))] H := hP
    have hD : va_D A [(h0, .inr (11, [.ref q_1, .int (nI (N + 4 + 4 + 4)), v2, v3, v4, v5, v6, v7, v8, v9, v10, v11, v12, v13, v14, v15, v16])), (q_1, .inl (cA_2, 8192, .inl g0_2003))] := hD
    have hK : va_K (dC, dI) vwP [(cA_2, .byte)] s := hK
    refine W.widen (k := 0) (n := 0) (Nat.le_of_ble_eq_true rfl) (Nat.le_of_ble_eq_true rfl) ?_
    refine lv_aload_n hx hb dX11_feed_38 rfl (lv_at hl 0 rfl) ?_
    refine lv_iload hx hb dX11_feed_39 (lv_at hl 4 rfl) ?_
    have hPc := hP.sub (ws' := [(h0, .inr (11, [.ref q_1, .int (nI (N + 4 + 4 + 4)), v2, v3, v4, v5, v6, v7, v8, v9, v10, v11, v12, v13, v14, v15, v16])), (q_1, .inl (cA_2, 8192, .inl g0_2003))]) [0, 1] rfl
    have hDc := hD.sub (ws' := [(h0, .inr (11, [.ref q_1, .int (nI (N + 4 + 4 + 4)), v2, v3, v4, v5, v6, v7, v8, v9, v10, v11, v12, v13, v14, v15, v16])), (q_1, .inl (cA_2, 8192, .inl g0_2003))]) [0, 1] (by decide) rfl
    have hKc := hK.sub (tys' := [(cA_2, .byte)]) [0] rfl
    have hFc := va_free (wc := [(h0, .inr (11, [.ref q_1, .int (nI (N + 4 + 4 + 4)), v2, v3, v4, v5, v6, v7, v8, v9, v10, v11, v12, v13, v14, v15, v16])), (q_1, .inl (cA_2, 8192, .inl g0_2003))]) hD hS hA [0, 1] rfl
    refine va_callv (va_runV (As := [.int p3]) (rest := []) ⟨hx, hb, hml, hown, hts⟩ (c_X11_put l dC dI h0 q_1 (N + 4 + 4 + 4) v2 v3 v4 v5 v6 v7 v8 v9 v10 v11 v12 v13 v14 v15 v16 cA_2 g0_2003 p3 (by omega) H.size) (cwV 1 hts g_X11_feedG_X11_put rfl rfl rfl (by decide +kernel) ⟨(Nat.le_of_ble_eq_true rfl), (Nat.le_of_ble_eq_true rfl)⟩) ⟨fun a U g mk q => by obtain ⟨q0, q1, qP, qK, qD⟩ := q; exact ⟨q0, q1, qP, va_K.moved (u := U) (U := U.calling g mk a) (Vm.Alike.refl U.vm) qK, qD⟩, va_recv hKc hPc (ci := 11) (q0 := 0) rfl rfl, fun U hU hW => ⟨rfl, by rw [hU], by rw [hU]; exact hPc, va_K.moved hW.alike hKc, hDc.weaken (fun _ _ _ _ => trivial)⟩⟩ rfl rfl hl.1 rfl (lv_room (Nat.le_of_ble_eq_true rfl)) dX11_feed_41 ⟨(Nat.le_of_ble_eq_true rfl), (Nat.le_of_ble_eq_true rfl)⟩) hS (fun q _ h => hFc q h) hFc (fun  u t H1 locs ht hvm hw hB hz1 hk1 hS => ?_)
    obtain ⟨g0_2004, hP1, hK1, hD1⟩ := hB
    rw [ht] at hP1
    have hK1 := va_K.moved hvm.symm hK1
    obtain ⟨hP, hD⟩ := va_join (wr := []) (w1 := [(h0, .inr (11, [.ref q_1, .int (nI (N + 4 + 4 + 4 + 4)), v2, v3, v4, v5, v6, v7, v8, v9, v10, v11, v12, v13, v14, v15, v16])), (q_1, .inl (cA_2, 8192, .inl g0_2004))]) hP hD [0, 1] [] rfl rfl (by decide) (by decide) hk1 hFc hP1 hD1
    have hK := (hK.sub (tys' := []) [] rfl).app hK1
    generalize H1 = H at hP hS ⊢
    have hP : va_P (dC, dI) vwP [(h0, .inr (11, [.ref q_1, .int (nI (N + 4 + 4 + 4 + 4)), v2, v3, v4, v5, v6, v7, v8, v9, v10, v11, v12, v13, v14, v15, v16])), (q_1, .inl (cA_2, 8192, .inl g0_2004))] H := hP
    have hD : va_D A [(h0, .inr (11, [.ref q_1, .int (nI (N + 4 + 4 + 4 + 4)), v2, v3, v4, v5, v6, v7, v8, v9, v10, v11, v12, v13, v14, v15, v16])), (q_1, .inl (cA_2, 8192, .inl g0_2004))] := hD
    have hK : va_K (dC, dI) vwP [(cA_2, .byte)] s := hK
    refine W.widen (k := 0) (n := 0) (Nat.le_of_ble_eq_true rfl) (Nat.le_of_ble_eq_true rfl) ?_
    refine lv_aload_n hx hb dX11_feed_44 rfl (lv_at hl 0 rfl) ?_
    refine lv_iload hx hb dX11_feed_45 (lv_at hl 5 rfl) ?_
    have hPc := hP.sub (ws' := [(h0, .inr (11, [.ref q_1, .int (nI (N + 4 + 4 + 4 + 4)), v2, v3, v4, v5, v6, v7, v8, v9, v10, v11, v12, v13, v14, v15, v16])), (q_1, .inl (cA_2, 8192, .inl g0_2004))]) [0, 1] rfl
    have hDc := hD.sub (ws' := [(h0, .inr (11, [.ref q_1, .int (nI (N + 4 + 4 + 4 + 4)), v2, v3, v4, v5, v6, v7, v8, v9, v10, v11, v12, v13, v14, v15, v16])), (q_1, .inl (cA_2, 8192, .inl g0_2004))]) [0, 1] (by decide) rfl
    have hKc := hK.sub (tys' := [(cA_2, .byte)]) [0] rfl
    have hFc := va_free (wc := [(h0, .inr (11, [.ref q_1, .int (nI (N + 4 + 4 + 4 + 4)), v2, v3, v4, v5, v6, v7, v8, v9, v10, v11, v12, v13, v14, v15, v16])), (q_1, .inl (cA_2, 8192, .inl g0_2004))]) hD hS hA [0, 1] rfl
    refine va_callv (va_runV (As := [.int p4]) (rest := []) ⟨hx, hb, hml, hown, hts⟩ (c_X11_put l dC dI h0 q_1 (N + 4 + 4 + 4 + 4) v2 v3 v4 v5 v6 v7 v8 v9 v10 v11 v12 v13 v14 v15 v16 cA_2 g0_2004 p4 (by omega) H.size) (cwV 1 hts g_X11_feedG_X11_put rfl rfl rfl (by decide +kernel) ⟨(Nat.le_of_ble_eq_true rfl), (Nat.le_of_ble_eq_true rfl)⟩) ⟨fun a U g mk q => by obtain ⟨q0, q1, qP, qK, qD⟩ := q; exact ⟨q0, q1, qP, va_K.moved (u := U) (U := U.calling g mk a) (Vm.Alike.refl U.vm) qK, qD⟩, va_recv hKc hPc (ci := 11) (q0 := 0) rfl rfl, fun U hU hW => ⟨rfl, by rw [hU], by rw [hU]; exact hPc, va_K.moved hW.alike hKc, hDc.weaken (fun _ _ _ _ => trivial)⟩⟩ rfl rfl hl.1 rfl (lv_room (Nat.le_of_ble_eq_true rfl)) dX11_feed_47 ⟨(Nat.le_of_ble_eq_true rfl), (Nat.le_of_ble_eq_true rfl)⟩) hS (fun q _ h => hFc q h) hFc (fun  u t H1 locs ht hvm hw hB hz1 hk1 hS => ?_)
    obtain ⟨g0_2005, hP1, hK1, hD1⟩ := hB
    rw [ht] at hP1
    have hK1 := va_K.moved hvm.symm hK1
    obtain ⟨hP, hD⟩ := va_join (wr := []) (w1 := [(h0, .inr (11, [.ref q_1, .int (nI (N + 4 + 4 + 4 + 4 + 4)), v2, v3, v4, v5, v6, v7, v8, v9, v10, v11, v12, v13, v14, v15, v16])), (q_1, .inl (cA_2, 8192, .inl g0_2005))]) hP hD [0, 1] [] rfl rfl (by decide) (by decide) hk1 hFc hP1 hD1
    have hK := (hK.sub (tys' := []) [] rfl).app hK1
    generalize H1 = H at hP hS ⊢
    have hP : va_P (dC, dI) vwP [(h0, .inr (11, [.ref q_1, .int (nI (N + 4 + 4 + 4 + 4 + 4)), v2, v3, v4, v5, v6, v7, v8, v9, v10, v11, v12, v13, v14, v15, v16])), (q_1, .inl (cA_2, 8192, .inl g0_2005))] H := hP
    have hD : va_D A [(h0, .inr (11, [.ref q_1, .int (nI (N + 4 + 4 + 4 + 4 + 4)), v2, v3, v4, v5, v6, v7, v8, v9, v10, v11, v12, v13, v14, v15, v16])), (q_1, .inl (cA_2, 8192, .inl g0_2005))] := hD
    have hK : va_K (dC, dI) vwP [(cA_2, .byte)] s := hK
    refine W.widen (k := 0) (n := 0) (Nat.le_of_ble_eq_true rfl) (Nat.le_of_ble_eq_true rfl) ?_
    refine lv_aload_n hx hb dX11_feed_50 rfl (lv_at hl 0 rfl) ?_
    refine va_get (D := (dC, dI)) (ci := 11) (v := .int (nI (N + 4 + 4 + 4 + 4 + 4))) (C := RX11) (T := TX11) (N := 17) hx hb hts mem_X11_feedG_0 hown hK hP 0 rfl rfl 1 (by decide) (ow (k := 0) rfl) (fun _ h9 => h9) rfl dX11_feed_51 ?_
    have zb10 : (nI (N + 20)).toInt ≤ 8192 := z_le b10
    refine W.widen (k := 1) (n := 6) (Nat.le_of_ble_eq_true rfl) (Nat.le_of_ble_eq_true rfl) ?_
    refine vx_ret ?_
    exact W.iret (v := (nI (N + 4 + 4 + 4 + 4 + 4))) hx hb hr (fun t ht hW => ⟨⟨(nI (N + 4 + 4 + 4 + 4 + 4)), (), rfl, ⟨(show kf_feedG N = 0 by unfold kf_feedG; first | rfl | (split <;> first | rfl | (exfalso; omega))), (show (nI (N + 4 + 4 + 4 + 4 + 4)) = vf_feedG N by unfold vf_feedG; first | rfl | (split <;> first | rfl | (exfalso; omega)))⟩, g0_2005, by rw [ht]; exact hP, va_K.moved hW.alike hK, hD⟩, hS.F ht⟩) hS.2.2 dX11_feed_54
  · have yb10 : ¬ N + 20 ≤ 8192 := fun q => b10 ((nI_leI (a := N + 20) (b := 8192) (by omega) (by omega)).mpr q)
    have zb10 : 8192 < (nI (N + 20)).toInt := z_nle b10
    exact vx_throwS (names := ["java/lang/RuntimeException", "java/lang/Exception"]) (is := 109) (ik := 107) (ic := 111) hx hb hst hown (by decide) (by decide) (ow (k := 5) rfl) (ow (k := 6) rfl) hp3 (vx_hat (B := [Cond.declares (Bundle.initS "java/lang/RuntimeException"), Cond.declares (Bundle.initS "java/lang/Exception"), Cond.declares (Bundle.initS "java/lang/Throwable"), Cond.castable "java/lang/IndexOutOfBoundsException" "java/lang/IndexOutOfBoundsException"]) (fun w h => hts w (mem_X11_feedG_2 w h)) (nb_RX11_111) (vx_c (va_Nw.use rfl hp4) (vx_c (va_Nw.use rfl hp5) (vx_c (va_Nw.use rfl hp6) (vx_c (va_Nw.use rfl hp2) vx_n))))) (go_RX11_107_111) hp0 hp1 hS (hl.1.trans hml.symm) dX11_feed_13 dX11_feed_16 dX11_feed_17 dX11_feed_19 dX11_feed_22 (fun x9 h9 => (hnt x9 h9).elim) (Nat.le_of_ble_eq_true rfl) (Nat.le_of_ble_eq_true rfl) (Nat.le_of_ble_eq_true rfl) (Nat.le_of_ble_eq_true rfl) hlocks (fun _ t ha hz9 hk9 => ⟨(), trivial, ⟨rfl, (show kf_feedG N = 1 by unfold kf_feedG; first | rfl | (split <;> first | rfl | (exfalso; omega))), tp_kept hP hk9, hD⟩, Nat.le_trans hS.1 hz9, fun q h1 h2 => (hk9 q (Nat.lt_of_lt_of_le h1 hS.1)).trans (hS.2.1 q h1 h2)⟩) hS.2.2 (Nat.le_of_ble_eq_true rfl) (Nat.le_of_ble_eq_true rfl)
theorem nb_RX11_122 : ∀ w ∈ (vx_atS RX11 122 "java/lang/IllegalArgumentException" ["java/lang/RuntimeException", "java/lang/Exception"]).filter (fun w => !goodWord w), w ∈ [Cond.declares (Bundle.initS "java/lang/RuntimeException"), Cond.declares (Bundle.initS "java/lang/Exception"), Cond.declares (Bundle.initS "java/lang/Throwable"), Cond.castable "java/lang/IllegalArgumentException" "java/lang/IllegalArgumentException"] := by decide +kernel
theorem go_RX11_118_122 : ∀ w ∈ Cond.classLink RX11 118 "java/lang/IllegalArgumentException" :: Cond.initialized "java/lang/IllegalArgumentException" :: vx_atS RX11 122 "java/lang/IllegalArgumentException" ["java/lang/RuntimeException", "java/lang/Exception"], vx_ot w = true := by decide +kernel
theorem dX11_end_0 : decode cX11_end 0 = .ok (.iload_n 1, 1) := by decide +kernel
theorem dX11_end_1 : decode cX11_end 1 = .ok (.ifCond .lt 11, 3) := by decide +kernel
theorem dX11_end_12 : decode cX11_end 12 = .ok (.new 118, 3) := by decide +kernel
theorem dX11_end_15 : decode cX11_end 15 = .ok (.dup, 1) := by decide +kernel
theorem dX11_end_16 : decode cX11_end 16 = .ok (.ldc 120, 2) := by decide +kernel
theorem dX11_end_18 : decode cX11_end 18 = .ok (.invokespecial 122, 3) := by decide +kernel
theorem dX11_end_21 : decode cX11_end 21 = .ok (.athrow, 1) := by decide +kernel
theorem dX11_end_4 : decode cX11_end 4 = .ok (.iload_n 1, 1) := by decide +kernel
theorem dX11_end_5 : decode cX11_end 5 = .ok (.aload_n 0, 1) := by decide +kernel
theorem dX11_end_6 : decode cX11_end 6 = .ok (.getfield 13, 3) := by decide +kernel
theorem dX11_end_9 : decode cX11_end 9 = .ok (.if_icmp .le 13, 3) := by decide +kernel
theorem dX11_end_22 : decode cX11_end 22 = .ok (.aload_n 0, 1) := by decide +kernel
theorem dX11_end_23 : decode cX11_end 23 = .ok (.iload_n 1, 1) := by decide +kernel
theorem dX11_end_24 : decode cX11_end 24 = .ok (.putfield 13, 3) := by decide +kernel
theorem dX11_end_27 : decode cX11_end 27 = .ok (.iload_n 1, 1) := by decide +kernel
theorem dX11_end_28 : decode cX11_end 28 = .ok (.ireturn, 1) := by decide +kernel
def o_X11_endG : List Cond := [.classLink RX11 118 "java/lang/IllegalArgumentException", .initialized "java/lang/IllegalArgumentException", .fieldLink RX11 13 "SsaForge" "tapeLength" "I"]
def v_X11_endG : List Cond := .code yX11_end cX11_end 2 (some .int) :: (o_X11_endG ++ (((vx_atS RX11 122 "java/lang/IllegalArgumentException" ["java/lang/RuntimeException", "java/lang/Exception"]).filter goodWord) ++ (wsX110 ++ [])))
theorem mow_X11_endG : ∀ w ∈ o_X11_endG, w ∈ v_X11_endG := fun _ h => List.mem_cons_of_mem _ (List.mem_append_left _ h)
theorem mem_X11_endG_0 : ∀ w ∈ ((vx_atS RX11 122 "java/lang/IllegalArgumentException" ["java/lang/RuntimeException", "java/lang/Exception"]).filter goodWord), w ∈ v_X11_endG := fun _ h => List.mem_cons_of_mem _ (List.mem_append_right _ (List.mem_append_left _ h))
theorem mem_X11_endG_1 : ∀ w ∈ wsX110, w ∈ v_X11_endG := fun _ h => List.mem_cons_of_mem _ (List.mem_append_right _ (List.mem_append_right _ (List.mem_append_left _ h)))
set_option maxRecDepth 20000 in
theorem gw_X11_endG : v_X11_endG.all goodWord = true := by decide +kernel
set_option maxHeartbeats 4000000 in
set_option maxRecDepth 100000 in
theorem c_X11_endG (l : Launch) (dC : Nat → ClassId) (dI : Nat → Nat → Nat) (hst : l.stackTraces = false) (h0 : Nat) (q_1 : Nat) (N : Nat) (v2 : Value) (v3 : Value) (v4 : Value) (v5 : Value) (v6 : Value) (v7 : Value) (v8 : Value) (v9 : Value) (v10 : Value) (v11 : Value) (v12 : Value) (v13 : Value) (v14 : Value) (v15 : Value) (v16 : Value) (p0 : Int32) (sz : Nat) (sa_RX11_120 : Nat) : vx_Met l yX11_end v_X11_endG ({ frames := 6, cells := 1, slots := 6, locals := 82 }) (va_Pc [.ref h0, .int p0] (fun U => U.heap.size = sz ∧ va_P (dC, dI) vwP [(h0, .inr (11, [.ref q_1, .int (nI (N)), v2, v3, v4, v5, v6, v7, v8, v9, v10, v11, v12, v13, v14, v15, v16]))] U.heap ∧ va_K (dC, dI) vwP [] U ∧ va_D (fun _ => True) [(h0, .inr (11, [.ref q_1, .int (nI (N)), v2, v3, v4, v5, v6, v7, v8, v9, v10, v11, v12, v13, v14, v15, v16]))] ∧ vx_Zq Bundle.tN "UNASSIGNED_STACK" Bundle.steD (va_A [(h0, .inr (11, [.ref q_1, .int (nI (N)), v2, v3, v4, v5, v6, v7, v8, v9, v10, v11, v12, v13, v14, v15, v16]))] sz) U U.heap ∧ vx_Zq Bundle.tN "SUPPRESSED_SENTINEL" Bundle.listD (va_A [(h0, .inr (11, [.ref q_1, .int (nI (N)), v2, v3, v4, v5, v6, v7, v8, v9, v10, v11, v12, v13, v14, v15, v16]))] sz) U U.heap ∧ va_Nw (.castable "java/lang/IllegalArgumentException" "java/lang/IllegalArgumentException") U ∧ vk_R RX11 120 "not a length of the tape" sa_RX11_120 U ∧ va_Nw (.declares (Bundle.initS "java/lang/RuntimeException")) U ∧ va_Nw (.declares (Bundle.initS "java/lang/Exception")) U ∧ va_Nw (.declares (Bundle.initS "java/lang/Throwable")) U)) (va_Qi (fun (r : Int32) (_ : Unit) => kf_endG N p0 = 0 ∧ r = vf_endG p0) (fun (_ : Unit) (t : State) => va_P (dC, dI) vwP [(h0, .inr (11, [.ref q_1, .int p0, v2, v3, v4, v5, v6, v7, v8, v9, v10, v11, v12, v13, v14, v15, v16]))] t.heap ∧ va_K (dC, dI) vwP [] t ∧ va_D (va_A [(h0, .inr (11, [.ref q_1, .int (nI (N)), v2, v3, v4, v5, v6, v7, v8, v9, v10, v11, v12, v13, v14, v15, v16]))] sz) [(h0, .inr (11, [.ref q_1, .int p0, v2, v3, v4, v5, v6, v7, v8, v9, v10, v11, v12, v13, v14, v15, v16]))]) (va_A [(h0, .inr (11, [.ref q_1, .int (nI (N)), v2, v3, v4, v5, v6, v7, v8, v9, v10, v11, v12, v13, v14, v15, v16]))] sz)) (vx_X (fun _ : Unit => True) (fun E (q9 : Addr) (_ : Unit) (t9 : State) => (E = "java/lang/IllegalArgumentException" ∧ kf_endG N p0 = 1 ∧ va_P (dC, dI) vwP [(h0, .inr (11, [.ref q_1, .int (nI (N)), v2, v3, v4, v5, v6, v7, v8, v9, v10, v11, v12, v13, v14, v15, v16]))] t9.heap ∧ va_D (va_A [(h0, .inr (11, [.ref q_1, .int (nI (N)), v2, v3, v4, v5, v6, v7, v8, v9, v10, v11, v12, v13, v14, v15, v16]))] sz) [(h0, .inr (11, [.ref q_1, .int (nI (N)), v2, v3, v4, v5, v6, v7, v8, v9, v10, v11, v12, v13, v14, v15, v16]))])) (va_A [(h0, .inr (11, [.ref q_1, .int (nI (N)), v2, v3, v4, v5, v6, v7, v8, v9, v10, v11, v12, v13, v14, v15, v16]))] sz)) 1 6 (va_A [(h0, .inr (11, [.ref q_1, .int (nI (N)), v2, v3, v4, v5, v6, v7, v8, v9, v10, v11, v12, v13, v14, v15, v16]))] sz) := by
  refine vx_ofW (cc := cX11_end) (maxL := 2) (ret := (some .int)) (by decide) rfl ?_
  intro p e s m args below meth c s₁ B hml hnt hv
  obtain ⟨rfl, hsz, hP, hK, hD0, hp0, hp1, hp2, hp3, hp4, hp5, hp6⟩ := hv
  have hx := B.exec
  have hb := B.bytes
  have hr := B.returns
  have hts := atoms_spec (ws := v_X11_endG) B.pre
  have hown : s.vm.findClass RX11 = some m.cls := findClass_of_methodNamed B.named
  have hlocks := B.notSynchronized
  have ow : ∀ {k : Nat} {w : Cond}, o_X11_endG[k]? = some w → w.before ([.ref h0, .int p0] : List Value).toArray s = true := fun h => hts _ (mow_X11_endG _ (List.mem_of_getElem? h))
  subst hsz
  have hD := hD0.self (sz := s.heap.size)
  generalize hAe : va_A [(h0, .inr (11, [.ref q_1, .int (nI (N)), v2, v3, v4, v5, v6, v7, v8, v9, v10, v11, v12, v13, v14, v15, v16]))] s.heap.size = A at hD hp0 hp1 ⊢
  have hA : ∀ q : Nat, s.heap.size ≤ q → A q := fun q h => by rw [← hAe]; exact Or.inr h
  have hS : va_S A s.heap s.heap [] := va_S.rf
  have hP : va_P (dC, dI) vwP [(h0, .inr (11, [.ref q_1, .int (nI (N)), v2, v3, v4, v5, v6, v7, v8, v9, v10, v11, v12, v13, v14, v15, v16]))] s.heap := hP
  have hl := lv_entry ([.ref h0, .int p0]) (n := 2) (Nat.le_of_ble_eq_true rfl)
  rw [lg_entry_eq]
  generalize (lg_sl ([.ref h0, .int p0]) ++ List.replicate (2 - (lg_sl ([.ref h0, .int p0])).length) Slot.unset).toArray = ls at hl ⊢
  have hl : lv_has ls 2 [(0, .ref h0), (1, .int p0)] := hl
  obtain ⟨H, hH⟩ : ∃ H, H = s.heap := ⟨_, rfl⟩
  rw [← hH] at hP
  have hS : va_S A s.heap H [] := by rw [hH]; exact hS
  rw [← hH]
  refine lv_iload_n hx hb dX11_end_0 rfl (lv_at hl 1 rfl) ?_
  refine lv_if_lt (tgt := 12) hx hb dX11_end_1 (by decide) (fun b1 => ?_) (fun b1 => ?_)
  · have zb1 : p0.toInt < 0 := z_lt b1
    exact vx_throwS (names := ["java/lang/RuntimeException", "java/lang/Exception"]) (is := 120) (ik := 118) (ic := 122) hx hb hst hown (by decide) (by decide) (ow (k := 0) rfl) (ow (k := 1) rfl) hp3 (vx_hat (B := [Cond.declares (Bundle.initS "java/lang/RuntimeException"), Cond.declares (Bundle.initS "java/lang/Exception"), Cond.declares (Bundle.initS "java/lang/Throwable"), Cond.castable "java/lang/IllegalArgumentException" "java/lang/IllegalArgumentException"]) (fun w h => hts w (mem_X11_endG_0 w h)) (nb_RX11_122) (vx_c (va_Nw.use rfl hp4) (vx_c (va_Nw.use rfl hp5) (vx_c (va_Nw.use rfl hp6) (vx_c (va_Nw.use rfl hp2) vx_n))))) (go_RX11_118_122) hp0 hp1 hS (hl.1.trans hml.symm) dX11_end_12 dX11_end_15 dX11_end_16 dX11_end_18 dX11_end_21 (fun x9 h9 => (hnt x9 h9).elim) (Nat.le_of_ble_eq_true rfl) (Nat.le_of_ble_eq_true rfl) (Nat.le_of_ble_eq_true rfl) (Nat.le_of_ble_eq_true rfl) hlocks (fun _ t ha hz9 hk9 => ⟨(), trivial, ⟨rfl, (show kf_endG N p0 = 1 by unfold kf_endG; first | rfl | (split <;> first | rfl | (exfalso; omega))), tp_kept hP hk9, hD⟩, Nat.le_trans hS.1 hz9, fun q h1 h2 => (hk9 q (Nat.lt_of_lt_of_le h1 hS.1)).trans (hS.2.1 q h1 h2)⟩) hS.2.2 (Nat.le_of_ble_eq_true rfl) (Nat.le_of_ble_eq_true rfl)
  · refine lv_iload_n hx hb dX11_end_4 rfl (lv_at hl 1 rfl) ?_
    refine lv_aload_n hx hb dX11_end_5 rfl (lv_at hl 0 rfl) ?_
    refine va_get (D := (dC, dI)) (ci := 11) (v := .int (nI (N))) (C := RX11) (T := TX11) (N := 17) hx hb hts mem_X11_endG_1 hown hK hP 0 rfl rfl 1 (by decide) (ow (k := 2) rfl) (fun _ h9 => h9) rfl dX11_end_6 ?_
    refine lv_icmp_le (tgt := 22) hx hb dX11_end_9 (by decide) (fun b9 => ?_) (fun b9 => ?_)
    · refine lv_aload_n hx hb dX11_end_22 rfl (lv_at hl 0 rfl) ?_
      refine lv_iload_n hx hb dX11_end_23 rfl (lv_at hl 1 rfl) ?_
      refine va_put (D := (dC, dI)) (ci := 11) (v := .int p0) (ty := .int) (C := RX11) (T := TX11) (N := 17) hx hb hts mem_X11_endG_1 tyX11 tyX11_ok nmX11 hown hK hP hD hS 0 rfl rfl 1 (by decide) (ow (k := 2) rfl) (fun _ h9 => h9) rfl (by decide +kernel) rfl rfl (Nat.le_of_ble_eq_true rfl) dX11_end_24 (fun H locs hP hD hS => ?_)
      have hP : va_P (dC, dI) vwP [(h0, .inr (11, [.ref q_1, .int p0, v2, v3, v4, v5, v6, v7, v8, v9, v10, v11, v12, v13, v14, v15, v16]))] H := hP
      have hD : va_D A [(h0, .inr (11, [.ref q_1, .int p0, v2, v3, v4, v5, v6, v7, v8, v9, v10, v11, v12, v13, v14, v15, v16]))] := hD
      refine lv_iload_n hx hb dX11_end_27 rfl (lv_at hl 1 rfl) ?_
      have zb1 : 0 ≤ p0.toInt := z_nlt b1
      have zb9 : p0.toInt ≤ (nI (N)).toInt := z_le b9
      refine W.widen (k := 1) (n := 6) (Nat.le_of_ble_eq_true rfl) (Nat.le_of_ble_eq_true rfl) ?_
      refine vx_ret ?_
      exact W.iret (v := p0) hx hb hr (fun t ht hW => ⟨⟨p0, (), rfl, ⟨(show kf_endG N p0 = 0 by unfold kf_endG; first | rfl | (split <;> first | rfl | (exfalso; omega))), (show p0 = vf_endG p0 by unfold vf_endG; first | rfl | (split <;> first | rfl | (exfalso; omega)))⟩, by rw [ht]; exact hP, va_K.moved hW.alike hK, hD⟩, hS.F ht⟩) hS.2.2 dX11_end_28
    · have zb1 : 0 ≤ p0.toInt := z_nlt b1
      have zb9 : (nI (N)).toInt < p0.toInt := z_nle b9
      exact vx_throwS (names := ["java/lang/RuntimeException", "java/lang/Exception"]) (is := 120) (ik := 118) (ic := 122) hx hb hst hown (by decide) (by decide) (ow (k := 0) rfl) (ow (k := 1) rfl) hp3 (vx_hat (B := [Cond.declares (Bundle.initS "java/lang/RuntimeException"), Cond.declares (Bundle.initS "java/lang/Exception"), Cond.declares (Bundle.initS "java/lang/Throwable"), Cond.castable "java/lang/IllegalArgumentException" "java/lang/IllegalArgumentException"]) (fun w h => hts w (mem_X11_endG_0 w h)) (nb_RX11_122) (vx_c (va_Nw.use rfl hp4) (vx_c (va_Nw.use rfl hp5) (vx_c (va_Nw.use rfl hp6) (vx_c (va_Nw.use rfl hp2) vx_n))))) (go_RX11_118_122) hp0 hp1 hS (hl.1.trans hml.symm) dX11_end_12 dX11_end_15 dX11_end_16 dX11_end_18 dX11_end_21 (fun x9 h9 => (hnt x9 h9).elim) (Nat.le_of_ble_eq_true rfl) (Nat.le_of_ble_eq_true rfl) (Nat.le_of_ble_eq_true rfl) (Nat.le_of_ble_eq_true rfl) hlocks (fun _ t ha hz9 hk9 => ⟨(), trivial, ⟨rfl, (show kf_endG N p0 = 1 by unfold kf_endG; first | rfl | (split <;> first | rfl | (exfalso; omega))), tp_kept hP hk9, hD⟩, Nat.le_trans hS.1 hz9, fun q h1 h2 => (hk9 q (Nat.lt_of_lt_of_le h1 hS.1)).trans (hS.2.1 q h1 h2)⟩) hS.2.2 (Nat.le_of_ble_eq_true rfl) (Nat.le_of_ble_eq_true rfl)
