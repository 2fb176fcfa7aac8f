theorem dX11_putOnTape_0 : decode cX11_putOnTape 0 = .ok (.aload_n 0, 1) := by decide +kernel
theorem dX11_putOnTape_1 : decode cX11_putOnTape 1 = .ok (.getfield 9, 3) := by decide +kernel
theorem dX11_putOnTape_4 : decode cX11_putOnTape 4 = .ok (.aload_n 0, 1) := by decide +kernel
theorem dX11_putOnTape_5 : decode cX11_putOnTape 5 = .ok (.getfield 13, 3) := by decide +kernel
theorem dX11_putOnTape_8 : decode cX11_putOnTape 8 = .ok (.iload_n 1, 1) := by decide +kernel
theorem dX11_putOnTape_9 : decode cX11_putOnTape 9 = .ok (.bipush 24, 2) := by decide +kernel
theorem dX11_putOnTape_11 : decode cX11_putOnTape 11 = .ok (.ishr, 1) := by decide +kernel
theorem dX11_putOnTape_12 : decode cX11_putOnTape 12 = .ok (.i2b, 1) := by decide +kernel
theorem dX11_putOnTape_13 : decode cX11_putOnTape 13 = .ok (.bastore, 1) := by decide +kernel
theorem dX11_putOnTape_14 : decode cX11_putOnTape 14 = .ok (.aload_n 0, 1) := by decide +kernel
theorem dX11_putOnTape_15 : decode cX11_putOnTape 15 = .ok (.getfield 9, 3) := by decide +kernel
theorem dX11_putOnTape_18 : decode cX11_putOnTape 18 = .ok (.aload_n 0, 1) := by decide +kernel
theorem dX11_putOnTape_19 : decode cX11_putOnTape 19 = .ok (.getfield 13, 3) := by decide +kernel
theorem dX11_putOnTape_22 : decode cX11_putOnTape 22 = .ok (.iconst 1, 1) := by decide +kernel
theorem dX11_putOnTape_23 : decode cX11_putOnTape 23 = .ok (.iadd, 1) := by decide +kernel
theorem dX11_putOnTape_24 : decode cX11_putOnTape 24 = .ok (.iload_n 1, 1) := by decide +kernel
theorem dX11_putOnTape_25 : decode cX11_putOnTape 25 = .ok (.bipush 16, 2) := by decide +kernel
theorem dX11_putOnTape_27 : decode cX11_putOnTape 27 = .ok (.ishr, 1) := by decide +kernel
theorem dX11_putOnTape_28 : decode cX11_putOnTape 28 = .ok (.i2b, 1) := by decide +kernel
theorem dX11_putOnTape_29 : decode cX11_putOnTape 29 = .ok (.bastore, 1) := by decide +kernel
theorem dX11_putOnTape_30 : decode cX11_putOnTape 30 = .ok (.aload_n 0, 1) := by decide +kernel
theorem dX11_putOnTape_31 : decode cX11_putOnTape 31 = .ok (.getfield 9, 3) := by decide +kernel
theorem dX11_putOnTape_34 : decode cX11_putOnTape 34 = .ok (.aload_n 0, 1) := by decide +kernel
theorem dX11_putOnTape_35 : decode cX11_putOnTape 35 = .ok (.getfield 13, 3) := by decide +kernel
theorem dX11_putOnTape_38 : decode cX11_putOnTape 38 = .ok (.iconst 2, 1) := by decide +kernel
theorem dX11_putOnTape_39 : decode cX11_putOnTape 39 = .ok (.iadd, 1) := by decide +kernel
theorem dX11_putOnTape_40 : decode cX11_putOnTape 40 = .ok (.iload_n 1, 1) := by decide +kernel
theorem dX11_putOnTape_41 : decode cX11_putOnTape 41 = .ok (.bipush 8, 2) := by decide +kernel
theorem dX11_putOnTape_43 : decode cX11_putOnTape 43 = .ok (.ishr, 1) := by decide +kernel
theorem dX11_putOnTape_44 : decode cX11_putOnTape 44 = .ok (.i2b, 1) := by decide +kernel
theorem dX11_putOnTape_45 : decode cX11_putOnTape 45 = .ok (.bastore, 1) := by decide +kernel
theorem dX11_putOnTape_46 : decode cX11_putOnTape 46 = .ok (.aload_n 0, 1) := by decide +kernel
theorem dX11_putOnTape_47 : decode cX11_putOnTape 47 = .ok (.getfield 9, 3) := by decide +kernel
theorem dX11_putOnTape_50 : decode cX11_putOnTape 50 = .ok (.aload_n 0, 1) := by decide +kernel
theorem dX11_putOnTape_51 : decode cX11_putOnTape 51 = .ok (.getfield 13, 3) := by decide +kernel
theorem dX11_putOnTape_54 : decode cX11_putOnTape 54 = .ok (.iconst 3, 1) := by decide +kernel
theorem dX11_putOnTape_55 : decode cX11_putOnTape 55 = .ok (.iadd, 1) := by decide +kernel
theorem dX11_putOnTape_56 : decode cX11_putOnTape 56 = .ok (.iload_n 1, 1) := by decide +kernel
theorem dX11_putOnTape_57 : decode cX11_putOnTape 57 = .ok (.i2b, 1) := by decide +kernel
theorem dX11_putOnTape_58 : decode cX11_putOnTape 58 = .ok (.bastore, 1) := by decide +kernel
theorem dX11_putOnTape_59 : decode cX11_putOnTape 59 = .ok (.aload_n 0, 1) := by decide +kernel
theorem dX11_putOnTape_60 : decode cX11_putOnTape 60 = .ok (.dup, 1) := by decide +kernel
theorem dX11_putOnTape_61 : decode cX11_putOnTape 61 = .ok (.getfield 13, 3) := by decide +kernel
theorem dX11_putOnTape_64 : decode cX11_putOnTape 64 = .ok (.iconst 4, 1) := by decide +kernel
theorem dX11_putOnTape_65 : decode cX11_putOnTape 65 = .ok (.iadd, 1) := by decide +kernel
theorem dX11_putOnTape_66 : decode cX11_putOnTape 66 = .ok (.putfield 13, 3) := by decide +kernel
theorem dX11_putOnTape_69 : decode cX11_putOnTape 69 = .ok (.return_, 1) := by decide +kernel
def o_X11_put0 : List Cond := [.fieldLink RX11 9 "SsaForge" "tape" "[B", .fieldLink RX11 13 "SsaForge" "tapeLength" "I"]
def v_X11_put0 : List Cond := .code yX11_putOnTape cX11_putOnTape 2 none :: (o_X11_put0 ++ (wsX110 ++ []))
theorem mow_X11_put0 : ∀ w ∈ o_X11_put0, w ∈ v_X11_put0 := fun _ h => List.mem_cons_of_mem _ (List.mem_append_left _ h)
theorem mem_X11_put0_0 : ∀ w ∈ wsX110, w ∈ v_X11_put0 := fun _ h => List.mem_cons_of_mem _ (List.mem_append_right _ (List.mem_append_left _ h))
set_option maxRecDepth 20000 in
theorem gw_X11_put0 : v_X11_put0.all goodWord = true := by decide +kernel
set_option maxHeartbeats 4000000 in
set_option maxRecDepth 100000 in
theorem c_X11_put0 (l : Launch) (dC : Nat → ClassId) (dI : Nat → Nat → Nat) (h0 : Nat) (q_1 : Nat) (q_3 : Nat) (q_21 : Nat) (q_39 : Nat) (q_52 : Nat) (q_60 : Nat) (q_66 : Nat) (q_73 : Nat) (q_79 : Nat) (q_84 : Nat) (q_92 : Nat) (q_102 : Nat) (q_107 : Nat) (cA_2 : ClassId) (f_0 : Nat → Int32) (p0 : Int32) (sz : Nat) : Met l yX11_putOnTape v_X11_put0 ({ frames := 0, cells := 0, slots := 0, locals := 0 }) (va_Pc [.ref h0, .int p0] (fun U => U.heap.size = sz ∧ va_P (dC, dI) vwP [(h0, .inr (11, [.ref q_1, .int 0, .int (-1), .ref q_3, .ref q_21, .ref q_39, .int 0, .ref q_52, .int 0, .ref q_60, .ref q_66, .ref q_73, .ref q_79, .ref q_84, .ref q_92, .ref q_102, .ref q_107])), (q_1, .inl (cA_2, 8192, .inl f_0))] U.heap ∧ va_K (dC, dI) vwP [(cA_2, .byte)] U ∧ va_D (fun _ => True) [(h0, .inr (11, [.ref q_1, .int 0, .int (-1), .ref q_3, .ref q_21, .ref q_39, .int 0, .ref q_52, .int 0, .ref q_60, .ref q_66, .ref q_73, .ref q_79, .ref q_84, .ref q_92, .ref q_102, .ref q_107])), (q_1, .inl (cA_2, 8192, .inl f_0))])) (va_Qv (fun _ : Unit => True) (fun (_ : Unit) (t : State) => ∃ (g0_9 : Nat → Int32), va_P (dC, dI) vwP [(h0, .inr (11, [.ref q_1, .int 4, .int (-1), .ref q_3, .ref q_21, .ref q_39, .int 0, .ref q_52, .int 0, .ref q_60, .ref q_66, .ref q_73, .ref q_79, .ref q_84, .ref q_92, .ref q_102, .ref q_107])), (q_1, .inl (cA_2, 8192, .inl g0_9))] t.heap ∧ va_K (dC, dI) vwP [(cA_2, .byte)] t ∧ va_D (va_A [(h0, .inr (11, [.ref q_1, .int 0, .int (-1), .ref q_3, .ref q_21, .ref q_39, .int 0, .ref q_52, .int 0, .ref q_60, .ref q_66, .ref q_73, .ref q_79, .ref q_84, .ref q_92, .ref q_102, .ref q_107])), (q_1, .inl (cA_2, 8192, .inl f_0))] sz) [(h0, .inr (11, [.ref q_1, .int 4, .int (-1), .ref q_3, .ref q_21, .ref q_39, .int 0, .ref q_52, .int 0, .ref q_60, .ref q_66, .ref q_73, .ref q_79, .ref q_84, .ref q_92, .ref q_102, .ref q_107])), (q_1, .inl (cA_2, 8192, .inl g0_9))]) (va_A [(h0, .inr (11, [.ref q_1, .int 0, .int (-1), .ref q_3, .ref q_21, .ref q_39, .int 0, .ref q_52, .int 0, .ref q_60, .ref q_66, .ref q_73, .ref q_79, .ref q_84, .ref q_92, .ref q_102, .ref q_107])), (q_1, .inl (cA_2, 8192, .inl f_0))] sz)) 0 0 (va_A [(h0, .inr (11, [.ref q_1, .int 0, .int (-1), .ref q_3, .ref q_21, .ref q_39, .int 0, .ref q_52, .int 0, .ref q_60, .ref q_66, .ref q_73, .ref q_79, .ref q_84, .ref q_92, .ref q_102, .ref q_107])), (q_1, .inl (cA_2, 8192, .inl f_0))] sz) := by
  refine Met.ofW (cc := cX11_putOnTape) (maxL := 2) (ret := none) (by decide) rfl ?_
  intro p e s m args below meth c s₁ B hml hv
  obtain ⟨rfl, hsz, hP, hK, hD0⟩ := hv
  have hx := B.exec
  have hb := B.bytes
  have hr := B.returns
  have hts := atoms_spec (ws := v_X11_put0) B.pre
  have hown : s.vm.findClass RX11 = some m.cls := findClass_of_methodNamed B.named
  have hlocks := B.notSynchronized
  have ow : ∀ {k : Nat} {w : Cond}, o_X11_put0[k]? = some w → w.before ([.ref h0, .int p0] : List Value).toArray s = true := fun h => hts _ (mow_X11_put0 _ (List.mem_of_getElem? h))
  subst hsz
  have hD := hD0.self (sz := s.heap.size)
  generalize hAe : va_A [(h0, .inr (11, [.ref q_1, .int 0, .int (-1), .ref q_3, .ref q_21, .ref q_39, .int 0, .ref q_52, .int 0, .ref q_60, .ref q_66, .ref q_73, .ref q_79, .ref q_84, .ref q_92, .ref q_102, .ref q_107])), (q_1, .inl (cA_2, 8192, .inl f_0))] s.heap.size = A at hD ⊢
  have hA : ∀ q : Nat, s.heap.size ≤ q → A q := fun q h => by rw [← hAe]; exact Or.inr h
  have hS : va_S A s.heap s.heap [] := va_S.rf
  have hP : va_P (dC, dI) vwP [(h0, .inr (11, [.ref q_1, .int 0, .int (-1), .ref q_3, .ref q_21, .ref q_39, .int 0, .ref q_52, .int 0, .ref q_60, .ref q_66, .ref q_73, .ref q_79, .ref q_84, .ref q_92, .ref q_102, .ref q_107])), (q_1, .inl (cA_2, 8192, .inl f_0))] s.heap := hP
  have hl := lv_entry ([.ref h0, .int p0]) (n := 2) (Nat.le_of_ble_eq_true rfl)
  rw [lg_entry_eq]
  generalize (lg_sl ([.ref h0, .int p0]) ++ List.replicate (2 - (lg_sl ([.ref h0, .int p0])).length) Slot.unset).toArray = ls at hl ⊢
  have hl : lv_has ls 2 [(0, .ref h0), (1, .int p0)] := hl
  obtain ⟨H, hH⟩ : ∃ H, H = s.heap := ⟨_, rfl⟩
  rw [← hH] at hP
  have hS : va_S A s.heap H [] := by rw [hH]; exact hS
  rw [← hH]
  refine lv_aload_n hx hb dX11_putOnTape_0 rfl (lv_at hl 0 rfl) ?_
  refine va_get (D := (dC, dI)) (ci := 11) (v := .ref q_1) (C := RX11) (T := TX11) (N := 17) hx hb hts mem_X11_put0_0 hown hK hP 0 rfl rfl 0 (by decide) (ow (k := 0) rfl) (fun _ h9 => h9) rfl dX11_putOnTape_1 ?_
  refine lv_aload_n hx hb dX11_putOnTape_4 rfl (lv_at hl 0 rfl) ?_
  refine va_get (D := (dC, dI)) (ci := 11) (v := .int 0) (C := RX11) (T := TX11) (N := 17) hx hb hts mem_X11_put0_0 hown hK hP 0 rfl rfl 1 (by decide) (ow (k := 1) rfl) (fun _ h9 => h9) rfl dX11_putOnTape_5 ?_
  refine lv_iload_n hx hb dX11_putOnTape_8 rfl (lv_at hl 1 rfl) ?_
  refine lv_bipush (v := 24) hx hb dX11_putOnTape_9 (by decide) ?_
  refine lv_ishr hx hb dX11_putOnTape_11 ?_
  refine lv_i2b hx hb dX11_putOnTape_12 rfl ?_
  refine va_bast hx hb hK hP hD hS 1 0 rfl rfl (show vp_in 0 8192 by rw [vp_in_iff]; decide) dX11_putOnTape_13 (fun H locs hP hD hS => ?_)
  have hP : va_P (dC, dI) vwP [(h0, .inr (11, [.ref q_1, .int 0, .int (-1), .ref q_3, .ref q_21, .ref q_39, .int 0, .ref q_52, .int 0, .ref q_60, .ref q_66, .ref q_73, .ref q_79, .ref q_84, .ref q_92, .ref q_102, .ref q_107])), (q_1, .inl (cA_2, 8192, .inl (upd f_0 (0 : Int32).toNatClampNeg (vp_nar .byte ((p0 >>> (24 &&& 31)).toInt8.toInt32)))))] H := hP
  have hD : va_D A [(h0, .inr (11, [.ref q_1, .int 0, .int (-1), .ref q_3, .ref q_21, .ref q_39, .int 0, .ref q_52, .int 0, .ref q_60, .ref q_66, .ref q_73, .ref q_79, .ref q_84, .ref q_92, .ref q_102, .ref q_107])), (q_1, .inl (cA_2, 8192, .inl (upd f_0 (0 : Int32).toNatClampNeg (vp_nar .byte ((p0 >>> (24 &&& 31)).toInt8.toInt32)))))] := hD
  generalize (upd f_0 (0 : Int32).toNatClampNeg (vp_nar .byte ((p0 >>> (24 &&& 31)).toInt8.toInt32))) = f_2001 at hP hD
  refine lv_aload_n hx hb dX11_putOnTape_14 rfl (lv_at hl 0 rfl) ?_
  refine va_get (D := (dC, dI)) (ci := 11) (v := .ref q_1) (C := RX11) (T := TX11) (N := 17) hx hb hts mem_X11_put0_0 hown hK hP 0 rfl rfl 0 (by decide) (ow (k := 0) rfl) (fun _ h9 => h9) rfl dX11_putOnTape_15 ?_
  refine lv_aload_n hx hb dX11_putOnTape_18 rfl (lv_at hl 0 rfl) ?_
  refine va_get (D := (dC, dI)) (ci := 11) (v := .int 0) (C := RX11) (T := TX11) (N := 17) hx hb hts mem_X11_put0_0 hown hK hP 0 rfl rfl 1 (by decide) (ow (k := 1) rfl) (fun _ h9 => h9) rfl dX11_putOnTape_19 ?_
  refine lv_iconst (v := 1) hx hb dX11_putOnTape_22 (by decide) ?_
  refine lv_iadd hx hb dX11_putOnTape_23 ?_
  refine lv_topi (fun z ez => ?_)
  obtain rfl : z = 1 := by rw [ez]; decide
  refine lv_iload_n hx hb dX11_putOnTape_24 rfl (lv_at hl 1 rfl) ?_
  refine lv_bipush (v := 16) hx hb dX11_putOnTape_25 (by decide) ?_
  refine lv_ishr hx hb dX11_putOnTape_27 ?_
  refine lv_i2b hx hb dX11_putOnTape_28 rfl ?_
  refine va_bast hx hb hK hP hD hS 1 0 rfl rfl (show vp_in 1 8192 by rw [vp_in_iff]; decide) dX11_putOnTape_29 (fun H locs hP hD hS => ?_)
  have hP : va_P (dC, dI) vwP [(h0, .inr (11, [.ref q_1, .int 0, .int (-1), .ref q_3, .ref q_21, .ref q_39, .int 0, .ref q_52, .int 0, .ref q_60, .ref q_66, .ref q_73, .ref q_79, .ref q_84, .ref q_92, .ref q_102, .ref q_107])), (q_1, .inl (cA_2, 8192, .inl (upd f_2001 (1 : Int32).toNatClampNeg (vp_nar .byte ((p0 >>> (16 &&& 31)).toInt8.toInt32)))))] H := hP
  have hD : va_D A [(h0, .inr (11, [.ref q_1, .int 0, .int (-1), .ref q_3, .ref q_21, .ref q_39, .int 0, .ref q_52, .int 0, .ref q_60, .ref q_66, .ref q_73, .ref q_79, .ref q_84, .ref q_92, .ref q_102, .ref q_107])), (q_1, .inl (cA_2, 8192, .inl (upd f_2001 (1 : Int32).toNatClampNeg (vp_nar .byte ((p0 >>> (16 &&& 31)).toInt8.toInt32)))))] := hD
  generalize (upd f_2001 (1 : Int32).toNatClampNeg (vp_nar .byte ((p0 >>> (16 &&& 31)).toInt8.toInt32))) = f_2002 at hP hD
  refine lv_aload_n hx hb dX11_putOnTape_30 rfl (lv_at hl 0 rfl) ?_
  refine va_get (D := (dC, dI)) (ci := 11) (v := .ref q_1) (C := RX11) (T := TX11) (N := 17) hx hb hts mem_X11_put0_0 hown hK hP 0 rfl rfl 0 (by decide) (ow (k := 0) rfl) (fun _ h9 => h9) rfl dX11_putOnTape_31 ?_
  refine lv_aload_n hx hb dX11_putOnTape_34 rfl (lv_at hl 0 rfl) ?_
  refine va_get (D := (dC, dI)) (ci := 11) (v := .int 0) (C := RX11) (T := TX11) (N := 17) hx hb hts mem_X11_put0_0 hown hK hP 0 rfl rfl 1 (by decide) (ow (k := 1) rfl) (fun _ h9 => h9) rfl dX11_putOnTape_35 ?_
  refine lv_iconst (v := 2) hx hb dX11_putOnTape_38 (by decide) ?_
  refine lv_iadd hx hb dX11_putOnTape_39 ?_
  refine lv_topi (fun z ez => ?_)
  obtain rfl : z = 2 := by rw [ez]; decide
  refine lv_iload_n hx hb dX11_putOnTape_40 rfl (lv_at hl 1 rfl) ?_
  refine lv_bipush (v := 8) hx hb dX11_putOnTape_41 (by decide) ?_
  refine lv_ishr hx hb dX11_putOnTape_43 ?_
  refine lv_i2b hx hb dX11_putOnTape_44 rfl ?_
  refine va_bast hx hb hK hP hD hS 1 0 rfl rfl (show vp_in 2 8192 by rw [vp_in_iff]; decide) dX11_putOnTape_45 (fun H locs hP hD hS => ?_)
  have hP : va_P (dC, dI) vwP [(h0, .inr (11, [.ref q_1, .int 0, .int (-1), .ref q_3, .ref q_21, .ref q_39, .int 0, .ref q_52, .int 0, .ref q_60, .ref q_66, .ref q_73, .ref q_79, .ref q_84, .ref q_92, .ref q_102, .ref q_107])), (q_1, .inl (cA_2, 8192, .inl (upd f_2002 (2 : Int32).toNatClampNeg (vp_nar .byte ((p0 >>> (8 &&& 31)).toInt8.toInt32)))))] H := hP
  have hD : va_D A [(h0, .inr (11, [.ref q_1, .int 0, .int (-1), .ref q_3, .ref q_21, .ref q_39, .int 0, .ref q_52, .int 0, .ref q_60, .ref q_66, .ref q_73, .ref q_79, .ref q_84, .ref q_92, .ref q_102, .ref q_107])), (q_1, .inl (cA_2, 8192, .inl (upd f_2002 (2 : Int32).toNatClampNeg (vp_nar .byte ((p0 >>> (8 &&& 31)).toInt8.toInt32)))))] := hD
  generalize (upd f_2002 (2 : Int32).toNatClampNeg (vp_nar .byte ((p0 >>> (8 &&& 31)).toInt8.toInt32))) = f_2003 at hP hD
  refine lv_aload_n hx hb dX11_putOnTape_46 rfl (lv_at hl 0 rfl) ?_
  refine va_get (D := (dC, dI)) (ci := 11) (v := .ref q_1) (C := RX11) (T := TX11) (N := 17) hx hb hts mem_X11_put0_0 hown hK hP 0 rfl rfl 0 (by decide) (ow (k := 0) rfl) (fun _ h9 => h9) rfl dX11_putOnTape_47 ?_
  refine lv_aload_n hx hb dX11_putOnTape_50 rfl (lv_at hl 0 rfl) ?_
  refine va_get (D := (dC, dI)) (ci := 11) (v := .int 0) (C := RX11) (T := TX11) (N := 17) hx hb hts mem_X11_put0_0 hown hK hP 0 rfl rfl 1 (by decide) (ow (k := 1) rfl) (fun _ h9 => h9) rfl dX11_putOnTape_51 ?_
  refine lv_iconst (v := 3) hx hb dX11_putOnTape_54 (by decide) ?_
  refine lv_iadd hx hb dX11_putOnTape_55 ?_
  refine lv_topi (fun z ez => ?_)
  obtain rfl : z = 3 := by rw [ez]; decide
  refine lv_iload_n hx hb dX11_putOnTape_56 rfl (lv_at hl 1 rfl) ?_
  refine lv_i2b hx hb dX11_putOnTape_57 rfl ?_
  refine va_bast hx hb hK hP hD hS 1 0 rfl rfl (show vp_in 3 8192 by rw [vp_in_iff]; decide) dX11_putOnTape_58 (fun H locs hP hD hS => ?_)
  have hP : va_P (dC, dI) vwP [(h0, .inr (11, [.ref q_1, .int 0, .int (-1), .ref q_3, .ref q_21, .ref q_39, .int 0, .ref q_52, .int 0, .ref q_60, .ref q_66, .ref q_73, .ref q_79, .ref q_84, .ref q_92, .ref q_102, .ref q_107])), (q_1, .inl (cA_2, 8192, .inl (upd f_2003 (3 : Int32).toNatClampNeg (vp_nar .byte (p0.toInt8.toInt32)))))] H := hP
  have hD : va_D A [(h0, .inr (11, [.ref q_1, .int 0, .int (-1), .ref q_3, .ref q_21, .ref q_39, .int 0, .ref q_52, .int 0, .ref q_60, .ref q_66, .ref q_73, .ref q_79, .ref q_84, .ref q_92, .ref q_102, .ref q_107])), (q_1, .inl (cA_2, 8192, .inl (upd f_2003 (3 : Int32).toNatClampNeg (vp_nar .byte (p0.toInt8.toInt32)))))] := hD
  generalize (upd f_2003 (3 : Int32).toNatClampNeg (vp_nar .byte (p0.toInt8.toInt32))) = f_2004 at hP hD
  refine lv_aload_n hx hb dX11_putOnTape_59 rfl (lv_at hl 0 rfl) ?_
  refine lv_dup hx hb dX11_putOnTape_60 rfl ?_
  refine va_get (D := (dC, dI)) (ci := 11) (v := .int 0) (C := RX11) (T := TX11) (N := 17) hx hb hts mem_X11_put0_0 hown hK hP 0 rfl rfl 1 (by decide) (ow (k := 1) rfl) (fun _ h9 => h9) rfl dX11_putOnTape_61 ?_
  refine lv_iconst (v := 4) hx hb dX11_putOnTape_64 (by decide) ?_
  refine lv_iadd hx hb dX11_putOnTape_65 ?_
  refine lv_topi (fun z ez => ?_)
  obtain rfl : z = 4 := by rw [ez]; decide
  refine va_put (D := (dC, dI)) (ci := 11) (v := .int 4) (ty := .int) (C := RX11) (T := TX11) (N := 17) hx hb hts mem_X11_put0_0 tyX11 tyX11_ok nmX11 hown hK hP hD hS 0 rfl rfl 1 (by decide) (ow (k := 1) rfl) (fun _ h9 => h9) rfl (by decide +kernel) rfl rfl (Nat.le_of_ble_eq_true rfl) dX11_putOnTape_66 (fun H locs hP hD hS => ?_)
  have hP : va_P (dC, dI) vwP [(h0, .inr (11, [.ref q_1, .int 4, .int (-1), .ref q_3, .ref q_21, .ref q_39, .int 0, .ref q_52, .int 0, .ref q_60, .ref q_66, .ref q_73, .ref q_79, .ref q_84, .ref q_92, .ref q_102, .ref q_107])), (q_1, .inl (cA_2, 8192, .inl f_2004))] H := hP
  have hD : va_D A [(h0, .inr (11, [.ref q_1, .int 4, .int (-1), .ref q_3, .ref q_21, .ref q_39, .int 0, .ref q_52, .int 0, .ref q_60, .ref q_66, .ref q_73, .ref q_79, .ref q_84, .ref q_92, .ref q_102, .ref q_107])), (q_1, .inl (cA_2, 8192, .inl f_2004))] := hD
  refine W.widen (k := 0) (n := 0) (Nat.le_of_ble_eq_true rfl) (Nat.le_of_ble_eq_true rfl) ?_
  exact W.vret hx hb hr (fun t ht hW => ⟨⟨(), rfl, trivial, f_2004, by rw [ht]; exact hP, va_K.moved hW.alike hK, hD⟩, hS.F ht⟩) hS.2.2 dX11_putOnTape_69
def o_X11_put4 : List Cond := [.fieldLink RX11 9 "SsaForge" "tape" "[B", .fieldLink RX11 13 "SsaForge" "tapeLength" "I"]
def v_X11_put4 : List Cond := .code yX11_putOnTape cX11_putOnTape 2 none :: (o_X11_put4 ++ (wsX110 ++ []))
theorem mow_X11_put4 : ∀ w ∈ o_X11_put4, w ∈ v_X11_put4 := fun _ h => List.mem_cons_of_mem _ (List.mem_append_left _ h)
theorem mem_X11_put4_0 : ∀ w ∈ wsX110, w ∈ v_X11_put4 := fun _ h => List.mem_cons_of_mem _ (List.mem_append_right _ (List.mem_append_left _ h))
set_option maxRecDepth 20000 in
theorem gw_X11_put4 : v_X11_put4.all goodWord = true := by decide +kernel
set_option maxHeartbeats 4000000 in
set_option maxRecDepth 100000 in
theorem c_X11_put4 (l : Launch) (dC : Nat → ClassId) (dI : Nat → Nat → Nat) (h0 : Nat) (q_1 : Nat) (q_3 : Nat) (q_21 : Nat) (q_39 : Nat) (q_52 : Nat) (q_60 : Nat) (q_66 : Nat) (q_73 : Nat) (q_79 : Nat) (q_84 : Nat) (q_92 : Nat) (q_102 : Nat) (q_107 : Nat) (cA_2 : ClassId) (f_0 : Nat → Int32) (p0 : Int32) (sz : Nat) : Met l yX11_putOnTape v_X11_put4 ({ frames := 0, cells := 0, slots := 0, locals := 0 }) (va_Pc [.ref h0, .int p0] (fun U => U.heap.size = sz ∧ va_P (dC, dI) vwP [(h0, .inr (11, [.ref q_1, .int 4, .int (-1), .ref q_3, .ref q_21, .ref q_39, .int 0, .ref q_52, .int 0, .ref q_60, .ref q_66, .ref q_73, .ref q_79, .ref q_84, .ref q_92, .ref q_102, .ref q_107])), (q_1, .inl (cA_2, 8192, .inl f_0))] U.heap ∧ va_K (dC, dI) vwP [(cA_2, .byte)] U ∧ va_D (fun _ => True) [(h0, .inr (11, [.ref q_1, .int 4, .int (-1), .ref q_3, .ref q_21, .ref q_39, .int 0, .ref q_52, .int 0, .ref q_60, .ref q_66, .ref q_73, .ref q_79, .ref q_84, .ref q_92, .ref q_102, .ref q_107])), (q_1, .inl (cA_2, 8192, .inl f_0))])) (va_Qv (fun _ : Unit => True) (fun (_ : Unit) (t : State) => ∃ (g0_9 : Nat → Int32), va_P (dC, dI) vwP [(h0, .inr (11, [.ref q_1, .int 8, .int (-1), .ref q_3, .ref q_21, .ref q_39, .int 0, .ref q_52, .int 0, .ref q_60, .ref q_66, .ref q_73, .ref q_79, .ref q_84, .ref q_92, .ref q_102, .ref q_107])), (q_1, .inl (cA_2, 8192, .inl g0_9))] t.heap ∧ va_K (dC, dI) vwP [(cA_2, .byte)] t ∧ va_D (va_A [(h0, .inr (11, [.ref q_1, .int 4, .int (-1), .ref q_3, .ref q_21, .ref q_39, .int 0, .ref q_52, .int 0, .ref q_60, .ref q_66, .ref q_73, .ref q_79, .ref q_84, .ref q_92, .ref q_102, .ref q_107])), (q_1, .inl (cA_2, 8192, .inl f_0))] sz) [(h0, .inr (11, [.ref q_1, .int 8, .int (-1), .ref q_3, .ref q_21, .ref q_39, .int 0, .ref q_52, .int 0, .ref q_60, .ref q_66, .ref q_73, .ref q_79, .ref q_84, .ref q_92, .ref q_102, .ref q_107])), (q_1, .inl (cA_2, 8192, .inl g0_9))]) (va_A [(h0, .inr (11, [.ref q_1, .int 4, .int (-1), .ref q_3, .ref q_21, .ref q_39, .int 0, .ref q_52, .int 0, .ref q_60, .ref q_66, .ref q_73, .ref q_79, .ref q_84, .ref q_92, .ref q_102, .ref q_107])), (q_1, .inl (cA_2, 8192, .inl f_0))] sz)) 0 0 (va_A [(h0, .inr (11, [.ref q_1, .int 4, .int (-1), .ref q_3, .ref q_21, .ref q_39, .int 0, .ref q_52, .int 0, .ref q_60, .ref q_66, .ref q_73, .ref q_79, .ref q_84, .ref q_92, .ref q_102, .ref q_107])), (q_1, .inl (cA_2, 8192, .inl f_0))] sz) := by
  refine Met.ofW (cc := cX11_putOnTape) (maxL := 2) (ret := none) (by decide) rfl ?_
  intro p e s m args below meth c s₁ B hml hv
  obtain ⟨rfl, hsz, hP, hK, hD0⟩ := hv
  have hx := B.exec
  have hb := B.bytes
  have hr := B.returns
  have hts := atoms_spec (ws := v_X11_put4) B.pre
  have hown : s.vm.findClass RX11 = some m.cls := findClass_of_methodNamed B.named
  have hlocks := B.notSynchronized
  have ow : ∀ {k : Nat} {w : Cond}, o_X11_put4[k]? = some w → w.before ([.ref h0, .int p0] : List Value).toArray s = true := fun h => hts _ (mow_X11_put4 _ (List.mem_of_getElem? h))
  subst hsz
  have hD := hD0.self (sz := s.heap.size)
  generalize hAe : va_A [(h0, .inr (11, [.ref q_1, .int 4, .int (-1), .ref q_3, .ref q_21, .ref q_39, .int 0, .ref q_52, .int 0, .ref q_60, .ref q_66, .ref q_73, .ref q_79, .ref q_84, .ref q_92, .ref q_102, .ref q_107])), (q_1, .inl (cA_2, 8192, .inl f_0))] s.heap.size = A at hD ⊢
  have hA : ∀ q : Nat, s.heap.size ≤ q → A q := fun q h => by rw [← hAe]; exact Or.inr h
  have hS : va_S A s.heap s.heap [] := va_S.rf
  have hP : va_P (dC, dI) vwP [(h0, .inr (11, [.ref q_1, .int 4, .int (-1), .ref q_3, .ref q_21, .ref q_39, .int 0, .ref q_52, .int 0, .ref q_60, .ref q_66, .ref q_73, .ref q_79, .ref q_84, .ref q_92, .ref q_102, .ref q_107])), (q_1, .inl (cA_2, 8192, .inl f_0))] s.heap := hP
  have hl := lv_entry ([.ref h0, .int p0]) (n := 2) (Nat.le_of_ble_eq_true rfl)
  rw [lg_entry_eq]
  generalize (lg_sl ([.ref h0, .int p0]) ++ List.replicate (2 - (lg_sl ([.ref h0, .int p0])).length) Slot.unset).toArray = ls at hl ⊢
  have hl : lv_has ls 2 [(0, .ref h0), (1, .int p0)] := hl
  obtain ⟨H, hH⟩ : ∃ H, H = s.heap := ⟨_, rfl⟩
  rw [← hH] at hP
  have hS : va_S A s.heap H [] := by rw [hH]; exact hS
  rw [← hH]
  refine lv_aload_n hx hb dX11_putOnTape_0 rfl (lv_at hl 0 rfl) ?_
  refine va_get (D := (dC, dI)) (ci := 11) (v := .ref q_1) (C := RX11) (T := TX11) (N := 17) hx hb hts mem_X11_put4_0 hown hK hP 0 rfl rfl 0 (by decide) (ow (k := 0) rfl) (fun _ h9 => h9) rfl dX11_putOnTape_1 ?_
  refine lv_aload_n hx hb dX11_putOnTape_4 rfl (lv_at hl 0 rfl) ?_
  refine va_get (D := (dC, dI)) (ci := 11) (v := .int 4) (C := RX11) (T := TX11) (N := 17) hx hb hts mem_X11_put4_0 hown hK hP 0 rfl rfl 1 (by decide) (ow (k := 1) rfl) (fun _ h9 => h9) rfl dX11_putOnTape_5 ?_
  refine lv_iload_n hx hb dX11_putOnTape_8 rfl (lv_at hl 1 rfl) ?_
  refine lv_bipush (v := 24) hx hb dX11_putOnTape_9 (by decide) ?_
  refine lv_ishr hx hb dX11_putOnTape_11 ?_
  refine lv_i2b hx hb dX11_putOnTape_12 rfl ?_
  refine va_bast hx hb hK hP hD hS 1 0 rfl rfl (show vp_in 4 8192 by rw [vp_in_iff]; decide) dX11_putOnTape_13 (fun H locs hP hD hS => ?_)
  have hP : va_P (dC, dI) vwP [(h0, .inr (11, [.ref q_1, .int 4, .int (-1), .ref q_3, .ref q_21, .ref q_39, .int 0, .ref q_52, .int 0, .ref q_60, .ref q_66, .ref q_73, .ref q_79, .ref q_84, .ref q_92, .ref q_102, .ref q_107])), (q_1, .inl (cA_2, 8192, .inl (upd f_0 (4 : Int32).toNatClampNeg (vp_nar .byte ((p0 >>> (24 &&& 31)).toInt8.toInt32)))))] H := hP
  have hD : va_D A [(h0, .inr (11, [.ref q_1, .int 4, .int (-1), .ref q_3, .ref q_21, .ref q_39, .int 0, .ref q_52, .int 0, .ref q_60, .ref q_66, .ref q_73, .ref q_79, .ref q_84, .ref q_92, .ref q_102, .ref q_107])), (q_1, .inl (cA_2, 8192, .inl (upd f_0 (4 : Int32).toNatClampNeg (vp_nar .byte ((p0 >>> (24 &&& 31)).toInt8.toInt32)))))] := hD
  generalize (upd f_0 (4 : Int32).toNatClampNeg (vp_nar .byte ((p0 >>> (24 &&& 31)).toInt8.toInt32))) = f_2001 at hP hD
  refine lv_aload_n hx hb dX11_putOnTape_14 rfl (lv_at hl 0 rfl) ?_
  refine va_get (D := (dC, dI)) (ci := 11) (v := .ref q_1) (C := RX11) (T := TX11) (N := 17) hx hb hts mem_X11_put4_0 hown hK hP 0 rfl rfl 0 (by decide) (ow (k := 0) rfl) (fun _ h9 => h9) rfl dX11_putOnTape_15 ?_
  refine lv_aload_n hx hb dX11_putOnTape_18 rfl (lv_at hl 0 rfl) ?_
  refine va_get (D := (dC, dI)) (ci := 11) (v := .int 4) (C := RX11) (T := TX11) (N := 17) hx hb hts mem_X11_put4_0 hown hK hP 0 rfl rfl 1 (by decide) (ow (k := 1) rfl) (fun _ h9 => h9) rfl dX11_putOnTape_19 ?_
  refine lv_iconst (v := 1) hx hb dX11_putOnTape_22 (by decide) ?_
  refine lv_iadd hx hb dX11_putOnTape_23 ?_
  refine lv_topi (fun z ez => ?_)
  obtain rfl : z = 5 := by rw [ez]; decide
  refine lv_iload_n hx hb dX11_putOnTape_24 rfl (lv_at hl 1 rfl) ?_
  refine lv_bipush (v := 16) hx hb dX11_putOnTape_25 (by decide) ?_
  refine lv_ishr hx hb dX11_putOnTape_27 ?_
  refine lv_i2b hx hb dX11_putOnTape_28 rfl ?_
  refine va_bast hx hb hK hP hD hS 1 0 rfl rfl (show vp_in 5 8192 by rw [vp_in_iff]; decide) dX11_putOnTape_29 (fun H locs hP hD hS => ?_)
  have hP : va_P (dC, dI) vwP [(h0, .inr (11, [.ref q_1, .int 4, .int (-1), .ref q_3, .ref q_21, .ref q_39, .int 0, .ref q_52, .int 0, .ref q_60, .ref q_66, .ref q_73, .ref q_79, .ref q_84, .ref q_92, .ref q_102, .ref q_107])), (q_1, .inl (cA_2, 8192, .inl (upd f_2001 (5 : Int32).toNatClampNeg (vp_nar .byte ((p0 >>> (16 &&& 31)).toInt8.toInt32)))))] H := hP
  have hD : va_D A [(h0, .inr (11, [.ref q_1, .int 4, .int (-1), .ref q_3, .ref q_21, .ref q_39, .int 0, .ref q_52, .int 0, .ref q_60, .ref q_66, .ref q_73, .ref q_79, .ref q_84, .ref q_92, .ref q_102, .ref q_107])), (q_1, .inl (cA_2, 8192, .inl (upd f_2001 (5 : Int32).toNatClampNeg (vp_nar .byte ((p0 >>> (16 &&& 31)).toInt8.toInt32)))))] := hD
  generalize (upd f_2001 (5 : Int32).toNatClampNeg (vp_nar .byte ((p0 >>> (16 &&& 31)).toInt8.toInt32))) = f_2002 at hP hD
  refine lv_aload_n hx hb dX11_putOnTape_30 rfl (lv_at hl 0 rfl) ?_
  refine va_get (D := (dC, dI)) (ci := 11) (v := .ref q_1) (C := RX11) (T := TX11) (N := 17) hx hb hts mem_X11_put4_0 hown hK hP 0 rfl rfl 0 (by decide) (ow (k := 0) rfl) (fun _ h9 => h9) rfl dX11_putOnTape_31 ?_
  refine lv_aload_n hx hb dX11_putOnTape_34 rfl (lv_at hl 0 rfl) ?_
  refine va_get (D := (dC, dI)) (ci := 11) (v := .int 4) (C := RX11) (T := TX11) (N := 17) hx hb hts mem_X11_put4_0 hown hK hP 0 rfl rfl 1 (by decide) (ow (k := 1) rfl) (fun _ h9 => h9) rfl dX11_putOnTape_35 ?_
  refine lv_iconst (v := 2) hx hb dX11_putOnTape_38 (by decide) ?_
  refine lv_iadd hx hb dX11_putOnTape_39 ?_
  refine lv_topi (fun z ez => ?_)
  obtain rfl : z = 6 := by rw [ez]; decide
  refine lv_iload_n hx hb dX11_putOnTape_40 rfl (lv_at hl 1 rfl) ?_
  refine lv_bipush (v := 8) hx hb dX11_putOnTape_41 (by decide) ?_
  refine lv_ishr hx hb dX11_putOnTape_43 ?_
  refine lv_i2b hx hb dX11_putOnTape_44 rfl ?_
  refine va_bast hx hb hK hP hD hS 1 0 rfl rfl (show vp_in 6 8192 by rw [vp_in_iff]; decide) dX11_putOnTape_45 (fun H locs hP hD hS => ?_)
  have hP : va_P (dC, dI) vwP [(h0, .inr (11, [.ref q_1, .int 4, .int (-1), .ref q_3, .ref q_21, .ref q_39, .int 0, .ref q_52, .int 0, .ref q_60, .ref q_66, .ref q_73, .ref q_79, .ref q_84, .ref q_92, .ref q_102, .ref q_107])), (q_1, .inl (cA_2, 8192, .inl (upd f_2002 (6 : Int32).toNatClampNeg (vp_nar .byte ((p0 >>> (8 &&& 31)).toInt8.toInt32)))))] H := hP
  have hD : va_D A [(h0, .inr (11, [.ref q_1, .int 4, .int (-1), .ref q_3, .ref q_21, .ref q_39, .int 0, .ref q_52, .int 0, .ref q_60, .ref q_66, .ref q_73, .ref q_79, .ref q_84, .ref q_92, .ref q_102, .ref q_107])), (q_1, .inl (cA_2, 8192, .inl (upd f_2002 (6 : Int32).toNatClampNeg (vp_nar .byte ((p0 >>> (8 &&& 31)).toInt8.toInt32)))))] := hD
  generalize (upd f_2002 (6 : Int32).toNatClampNeg (vp_nar .byte ((p0 >>> (8 &&& 31)).toInt8.toInt32))) = f_2003 at hP hD
  refine lv_aload_n hx hb dX11_putOnTape_46 rfl (lv_at hl 0 rfl) ?_
  refine va_get (D := (dC, dI)) (ci := 11) (v := .ref q_1) (C := RX11) (T := TX11) (N := 17) hx hb hts mem_X11_put4_0 hown hK hP 0 rfl rfl 0 (by decide) (ow (k := 0) rfl) (fun _ h9 => h9) rfl dX11_putOnTape_47 ?_
  refine lv_aload_n hx hb dX11_putOnTape_50 rfl (lv_at hl 0 rfl) ?_
  refine va_get (D := (dC, dI)) (ci := 11) (v := .int 4) (C := RX11) (T := TX11) (N := 17) hx hb hts mem_X11_put4_0 hown hK hP 0 rfl rfl 1 (by decide) (ow (k := 1) rfl) (fun _ h9 => h9) rfl dX11_putOnTape_51 ?_
  refine lv_iconst (v := 3) hx hb dX11_putOnTape_54 (by decide) ?_
  refine lv_iadd hx hb dX11_putOnTape_55 ?_
  refine lv_topi (fun z ez => ?_)
  obtain rfl : z = 7 := by rw [ez]; decide
  refine lv_iload_n hx hb dX11_putOnTape_56 rfl (lv_at hl 1 rfl) ?_
  refine lv_i2b hx hb dX11_putOnTape_57 rfl ?_
  refine va_bast hx hb hK hP hD hS 1 0 rfl rfl (show vp_in 7 8192 by rw [vp_in_iff]; decide) dX11_putOnTape_58 (fun H locs hP hD hS => ?_)
  have hP : va_P (dC, dI) vwP [(h0, .inr (11, [.ref q_1, .int 4, .int (-1), .ref q_3, .ref q_21, .ref q_39, .int 0, .ref q_52, .int 0, .ref q_60, .ref q_66, .ref q_73, .ref q_79, .ref q_84, .ref q_92, .ref q_102, .ref q_107])), (q_1, .inl (cA_2, 8192, .inl (upd f_2003 (7 : Int32).toNatClampNeg (vp_nar .byte (p0.toInt8.toInt32)))))] H := hP
  have hD : va_D A [(h0, .inr (11, [.ref q_1, .int 4, .int (-1), .ref q_3, .ref q_21, .ref q_39, .int 0, .ref q_52, .int 0, .ref q_60, .ref q_66, .ref q_73, .ref q_79, .ref q_84, .ref q_92, .ref q_102, .ref q_107])), (q_1, .inl (cA_2, 8192, .inl (upd f_2003 (7 : Int32).toNatClampNeg (vp_nar .byte (p0.toInt8.toInt32)))))] := hD
  generalize (upd f_2003 (7 : Int32).toNatClampNeg (vp_nar .byte (p0.toInt8.toInt32))) = f_2004 at hP hD
  refine lv_aload_n hx hb dX11_putOnTape_59 rfl (lv_at hl 0 rfl) ?_
  refine lv_dup hx hb dX11_putOnTape_60 rfl ?_
  refine va_get (D := (dC, dI)) (ci := 11) (v := .int 4) (C := RX11) (T := TX11) (N := 17) hx hb hts mem_X11_put4_0 hown hK hP 0 rfl rfl 1 (by decide) (ow (k := 1) rfl) (fun _ h9 => h9) rfl dX11_putOnTape_61 ?_
  refine lv_iconst (v := 4) hx hb dX11_putOnTape_64 (by decide) ?_
  refine lv_iadd hx hb dX11_putOnTape_65 ?_
  refine lv_topi (fun z ez => ?_)
  obtain rfl : z = 8 := by rw [ez]; decide
  refine va_put (D := (dC, dI)) (ci := 11) (v := .int 8) (ty := .int) (C := RX11) (T := TX11) (N := 17) hx hb hts mem_X11_put4_0 tyX11 tyX11_ok nmX11 hown hK hP hD hS 0 rfl rfl 1 (by decide) (ow (k := 1) rfl) (fun _ h9 => h9) rfl (by decide +kernel) rfl rfl (Nat.le_of_ble_eq_true rfl) dX11_putOnTape_66 (fun H locs hP hD hS => ?_)
  have hP : va_P (dC, dI) vwP [(h0, .inr (11, [.ref q_1, .int 8, .int (-1), .ref q_3, .ref q_21, .ref q_39, .int 0, .ref q_52, .int 0, .ref q_60, .ref q_66, .ref q_73, .ref q_79, .ref q_84, .ref q_92, .ref q_102, .ref q_107])), (q_1, .inl (cA_2, 8192, .inl f_2004))] H := hP
  have hD : va_D A [(h0, .inr (11, [.ref q_1, .int 8, .int (-1), .ref q_3, .ref q_21, .ref q_39, .int 0, .ref q_52, .int 0, .ref q_60, .ref q_66, .ref q_73, .ref q_79, .ref q_84, .ref q_92, .ref q_102, .ref q_107])), (q_1, .inl (cA_2, 8192, .inl f_2004))] := hD
  refine W.widen (k := 0) (n := 0) (Nat.le_of_ble_eq_true rfl) (Nat.le_of_ble_eq_true rfl) ?_
  exact W.vret hx hb hr (fun t ht hW => ⟨⟨(), rfl, trivial, f_2004, by rw [ht]; exact hP, va_K.moved hW.alike hK, hD⟩, hS.F ht⟩) hS.2.2 dX11_putOnTape_69
def o_X11_put8 : List Cond := [.fieldLink RX11 9 "SsaForge" "tape" "[B", .fieldLink RX11 13 "SsaForge" "tapeLength" "I"]
def v_X11_put8 : List Cond := .code yX11_putOnTape cX11_putOnTape 2 none :: (o_X11_put8 ++ (wsX110 ++ []))
theorem mow_X11_put8 : ∀ w ∈ o_X11_put8, w ∈ v_X11_put8 := fun _ h => List.mem_cons_of_mem _ (List.mem_append_left _ h)
theorem mem_X11_put8_0 : ∀ w ∈ wsX110, w ∈ v_X11_put8 := fun _ h => List.mem_cons_of_mem _ (List.mem_append_right _ (List.mem_append_left _ h))
set_option maxRecDepth 20000 in
theorem gw_X11_put8 : v_X11_put8.all goodWord = true := by decide +kernel
set_option maxHeartbeats 4000000 in
set_option maxRecDepth 100000 in
theorem c_X11_put8 (l : Launch) (dC : Nat → ClassId) (dI : Nat → Nat → Nat) (h0 : Nat) (q_1 : Nat) (q_3 : Nat) (q_21 : Nat) (q_39 : Nat) (q_52 : Nat) (q_60 : Nat) (q_66 : Nat) (q_73 : Nat) (q_79 : Nat) (q_84 : Nat) (q_92 : Nat) (q_102 : Nat) (q_107 : Nat) (cA_2 : ClassId) (f_0 : Nat → Int32) (p0 : Int32) (sz : Nat) : Met l yX11_putOnTape v_X11_put8 ({ frames := 0, cells := 0, slots := 0, locals := 0 }) (va_Pc [.ref h0, .int p0] (fun U => U.heap.size = sz ∧ va_P (dC, dI) vwP [(h0, .inr (11, [.ref q_1, .int 8, .int (-1), .ref q_3, .ref q_21, .ref q_39, .int 0, .ref q_52, .int 0, .ref q_60, .ref q_66, .ref q_73, .ref q_79, .ref q_84, .ref q_92, .ref q_102, .ref q_107])), (q_1, .inl (cA_2, 8192, .inl f_0))] U.heap ∧ va_K (dC, dI) vwP [(cA_2, .byte)] U ∧ va_D (fun _ => True) [(h0, .inr (11, [.ref q_1, .int 8, .int (-1), .ref q_3, .ref q_21, .ref q_39, .int 0, .ref q_52, .int 0, .ref q_60, .ref q_66, .ref q_73, .ref q_79, .ref q_84, .ref q_92, .ref q_102, .ref q_107])), (q_1, .inl (cA_2, 8192, .inl f_0))])) (va_Qv (fun _ : Unit => True) (fun (_ : Unit) (t : State) => ∃ (g0_9 : Nat → Int32), va_P (dC, dI) vwP [(h0, .inr (11, [.ref q_1, .int 12, .int (-1), .ref q_3, .ref q_21, .ref q_39, .int 0, .ref q_52, .int 0, .ref q_60, .ref q_66, .ref q_73, .ref q_79, .ref q_84, .ref q_92, .ref q_102, .ref q_107])), (q_1, .inl (cA_2, 8192, .inl g0_9))] t.heap ∧ va_K (dC, dI) vwP [(cA_2, .byte)] t ∧ va_D (va_A [(h0, .inr (11, [.ref q_1, .int 8, .int (-1), .ref q_3, .ref q_21, .ref q_39, .int 0, .ref q_52, .int 0, .ref q_60, .ref q_66, .ref q_73, .ref q_79, .ref q_84, .ref q_92, .ref q_102, .ref q_107])), (q_1, .inl (cA_2, 8192, .inl f_0))] sz) [(h0, .inr (11, [.ref q_1, .int 12, .int (-1), .ref q_3, .ref q_21, .ref q_39, .int 0, .ref q_52, .int 0, .ref q_60, .ref q_66, .ref q_73, .ref q_79, .ref q_84, .ref q_92, .ref q_102, .ref q_107])), (q_1, .inl (cA_2, 8192, .inl g0_9))]) (va_A [(h0, .inr (11, [.ref q_1, .int 8, .int (-1), .ref q_3, .ref q_21, .ref q_39, .int 0, .ref q_52, .int 0, .ref q_60, .ref q_66, .ref q_73, .ref q_79, .ref q_84, .ref q_92, .ref q_102, .ref q_107])), (q_1, .inl (cA_2, 8192, .inl f_0))] sz)) 0 0 (va_A [(h0, .inr (11, [.ref q_1, .int 8, .int (-1), .ref q_3, .ref q_21, .ref q_39, .int 0, .ref q_52, .int 0, .ref q_60, .ref q_66, .ref q_73, .ref q_79, .ref q_84, .ref q_92, .ref q_102, .ref q_107])), (q_1, .inl (cA_2, 8192, .inl f_0))] sz) := by
  refine Met.ofW (cc := cX11_putOnTape) (maxL := 2) (ret := none) (by decide) rfl ?_
  intro p e s m args below meth c s₁ B hml hv
  obtain ⟨rfl, hsz, hP, hK, hD0⟩ := hv
  have hx := B.exec
  have hb := B.bytes
  have hr := B.returns
  have hts := atoms_spec (ws := v_X11_put8) B.pre
  have hown : s.vm.findClass RX11 = some m.cls := findClass_of_methodNamed B.named
  have hlocks := B.notSynchronized
  have ow : ∀ {k : Nat} {w : Cond}, o_X11_put8[k]? = some w → w.before ([.ref h0, .int p0] : List Value).toArray s = true := fun h => hts _ (mow_X11_put8 _ (List.mem_of_getElem? h))
  subst hsz
  have hD := hD0.self (sz := s.heap.size)
  generalize hAe : va_A [(h0, .inr (11, [.ref q_1, .int 8, .int (-1), .ref q_3, .ref q_21, .ref q_39, .int 0, .ref q_52, .int 0, .ref q_60, .ref q_66, .ref q_73, .ref q_79, .ref q_84, .ref q_92, .ref q_102, .ref q_107])), (q_1, .inl (cA_2, 8192, .inl f_0))] s.heap.size = A at hD ⊢
  have hA : ∀ q : Nat, s.heap.size ≤ q → A q := fun q h => by rw [← hAe]; exact Or.inr h
  have hS : va_S A s.heap s.heap [] := va_S.rf
  have hP : va_P (dC, dI) vwP [(h0, .inr (11, [.ref q_1, .int 8, .int (-1), .ref q_3, .ref q_21, .ref q_39, .int 0, .ref q_52, .int 0, .ref q_60, .ref q_66, .ref q_73, .ref q_79, .ref q_84, .ref q_92, .ref q_102, .ref q_107])), (q_1, .inl (cA_2, 8192, .inl f_0))] s.heap := hP
  have hl := lv_entry ([.ref h0, .int p0]) (n := 2) (Nat.le_of_ble_eq_true rfl)
  rw [lg_entry_eq]
  generalize (lg_sl ([.ref h0, .int p0]) ++ List.replicate (2 - (lg_sl ([.ref h0, .int p0])).length) Slot.unset).toArray = ls at hl ⊢
  have hl : lv_has ls 2 [(0, .ref h0), (1, .int p0)] := hl
  obtain ⟨H, hH⟩ : ∃ H, H = s.heap := ⟨_, rfl⟩
  rw [← hH] at hP
  have hS : va_S A s.heap H [] := by rw [hH]; exact hS
  rw [← hH]
  refine lv_aload_n hx hb dX11_putOnTape_0 rfl (lv_at hl 0 rfl) ?_
  refine va_get (D := (dC, dI)) (ci := 11) (v := .ref q_1) (C := RX11) (T := TX11) (N := 17) hx hb hts mem_X11_put8_0 hown hK hP 0 rfl rfl 0 (by decide) (ow (k := 0) rfl) (fun _ h9 => h9) rfl dX11_putOnTape_1 ?_
  refine lv_aload_n hx hb dX11_putOnTape_4 rfl (lv_at hl 0 rfl) ?_
  refine va_get (D := (dC, dI)) (ci := 11) (v := .int 8) (C := RX11) (T := TX11) (N := 17) hx hb hts mem_X11_put8_0 hown hK hP 0 rfl rfl 1 (by decide) (ow (k := 1) rfl) (fun _ h9 => h9) rfl dX11_putOnTape_5 ?_
  refine lv_iload_n hx hb dX11_putOnTape_8 rfl (lv_at hl 1 rfl) ?_
  refine lv_bipush (v := 24) hx hb dX11_putOnTape_9 (by decide) ?_
  refine lv_ishr hx hb dX11_putOnTape_11 ?_
  refine lv_i2b hx hb dX11_putOnTape_12 rfl ?_
  refine va_bast hx hb hK hP hD hS 1 0 rfl rfl (show vp_in 8 8192 by rw [vp_in_iff]; decide) dX11_putOnTape_13 (fun H locs hP hD hS => ?_)
  have hP : va_P (dC, dI) vwP [(h0, .inr (11, [.ref q_1, .int 8, .int (-1), .ref q_3, .ref q_21, .ref q_39, .int 0, .ref q_52, .int 0, .ref q_60, .ref q_66, .ref q_73, .ref q_79, .ref q_84, .ref q_92, .ref q_102, .ref q_107])), (q_1, .inl (cA_2, 8192, .inl (upd f_0 (8 : Int32).toNatClampNeg (vp_nar .byte ((p0 >>> (24 &&& 31)).toInt8.toInt32)))))] H := hP
  have hD : va_D A [(h0, .inr (11, [.ref q_1, .int 8, .int (-1), .ref q_3, .ref q_21, .ref q_39, .int 0, .ref q_52, .int 0, .ref q_60, .ref q_66, .ref q_73, .ref q_79, .ref q_84, .ref q_92, .ref q_102, .ref q_107])), (q_1, .inl (cA_2, 8192, .inl (upd f_0 (8 : Int32).toNatClampNeg (vp_nar .byte ((p0 >>> (24 &&& 31)).toInt8.toInt32)))))] := hD
  generalize (upd f_0 (8 : Int32).toNatClampNeg (vp_nar .byte ((p0 >>> (24 &&& 31)).toInt8.toInt32))) = f_2001 at hP hD
  refine lv_aload_n hx hb dX11_putOnTape_14 rfl (lv_at hl 0 rfl) ?_
  refine va_get (D := (dC, dI)) (ci := 11) (v := .ref q_1) (C := RX11) (T := TX11) (N := 17) hx hb hts mem_X11_put8_0 hown hK hP 0 rfl rfl 0 (by decide) (ow (k := 0) rfl) (fun _ h9 => h9) rfl dX11_putOnTape_15 ?_
  refine lv_aload_n hx hb dX11_putOnTape_18 rfl (lv_at hl 0 rfl) ?_
  refine va_get (D := (dC, dI)) (ci := 11) (v := .int 8) (C := RX11) (T := TX11) (N := 17) hx hb hts mem_X11_put8_0 hown hK hP 0 rfl rfl 1 (by decide) (ow (k := 1) rfl) (fun _ h9 => h9) rfl dX11_putOnTape_19 ?_
  refine lv_iconst (v := 1) hx hb dX11_putOnTape_22 (by decide) ?_
  refine lv_iadd hx hb dX11_putOnTape_23 ?_
  refine lv_topi (fun z ez => ?_)
  obtain rfl : z = 9 := by rw [ez]; decide
  refine lv_iload_n hx hb dX11_putOnTape_24 rfl (lv_at hl 1 rfl) ?_
  refine lv_bipush (v := 16) hx hb dX11_putOnTape_25 (by decide) ?_
  refine lv_ishr hx hb dX11_putOnTape_27 ?_
  refine lv_i2b hx hb dX11_putOnTape_28 rfl ?_
  refine va_bast hx hb hK hP hD hS 1 0 rfl rfl (show vp_in 9 8192 by rw [vp_in_iff]; decide) dX11_putOnTape_29 (fun H locs hP hD hS => ?_)
  have hP : va_P (dC, dI) vwP [(h0, .inr (11, [.ref q_1, .int 8, .int (-1), .ref q_3, .ref q_21, .ref q_39, .int 0, .ref q_52, .int 0, .ref q_60, .ref q_66, .ref q_73, .ref q_79, .ref q_84, .ref q_92, .ref q_102, .ref q_107])), (q_1, .inl (cA_2, 8192, .inl (upd f_2001 (9 : Int32).toNatClampNeg (vp_nar .byte ((p0 >>> (16 &&& 31)).toInt8.toInt32)))))] H := hP
  have hD : va_D A [(h0, .inr (11, [.ref q_1, .int 8, .int (-1), .ref q_3, .ref q_21, .ref q_39, .int 0, .ref q_52, .int 0, .ref q_60, .ref q_66, .ref q_73, .ref q_79, .ref q_84, .ref q_92, .ref q_102, .ref q_107])), (q_1, .inl (cA_2, 8192, .inl (upd f_2001 (9 : Int32).toNatClampNeg (vp_nar .byte ((p0 >>> (16 &&& 31)).toInt8.toInt32)))))] := hD
  generalize (upd f_2001 (9 : Int32).toNatClampNeg (vp_nar .byte ((p0 >>> (16 &&& 31)).toInt8.toInt32))) = f_2002 at hP hD
  refine lv_aload_n hx hb dX11_putOnTape_30 rfl (lv_at hl 0 rfl) ?_
  refine va_get (D := (dC, dI)) (ci := 11) (v := .ref q_1) (C := RX11) (T := TX11) (N := 17) hx hb hts mem_X11_put8_0 hown hK hP 0 rfl rfl 0 (by decide) (ow (k := 0) rfl) (fun _ h9 => h9) rfl dX11_putOnTape_31 ?_
  refine lv_aload_n hx hb dX11_putOnTape_34 rfl (lv_at hl 0 rfl) ?_
  refine va_get (D := (dC, dI)) (ci := 11) (v := .int 8) (C := RX11) (T := TX11) (N := 17) hx hb hts mem_X11_put8_0 hown hK hP 0 rfl rfl 1 (by decide) (ow (k := 1) rfl) (fun _ h9 => h9) rfl dX11_putOnTape_35 ?_
  refine lv_iconst (v := 2) hx hb dX11_putOnTape_38 (by decide) ?_
  refine lv_iadd hx hb dX11_putOnTape_39 ?_
  refine lv_topi (fun z ez => ?_)
  obtain rfl : z = 10 := by rw [ez]; decide
  refine lv_iload_n hx hb dX11_putOnTape_40 rfl (lv_at hl 1 rfl) ?_
  refine lv_bipush (v := 8) hx hb dX11_putOnTape_41 (by decide) ?_
  refine lv_ishr hx hb dX11_putOnTape_43 ?_
  refine lv_i2b hx hb dX11_putOnTape_44 rfl ?_
  refine va_bast hx hb hK hP hD hS 1 0 rfl rfl (show vp_in 10 8192 by rw [vp_in_iff]; decide) dX11_putOnTape_45 (fun H locs hP hD hS => ?_)
  have hP : va_P (dC, dI) vwP [(h0, .inr (11, [.ref q_1, .int 8, .int (-1), .ref q_3, .ref q_21, .ref q_39, .int 0, .ref q_52, .int 0, .ref q_60, .ref q_66, .ref q_73, .ref q_79, .ref q_84, .ref q_92, .ref q_102, .ref q_107])), (q_1, .inl (cA_2, 8192, .inl (upd f_2002 (10 : Int32).toNatClampNeg (vp_nar .byte ((p0 >>> (8 &&& 31)).toInt8.toInt32)))))] H := hP
  have hD : va_D A [(h0, .inr (11, [.ref q_1, .int 8, .int (-1), .ref q_3, .ref q_21, .ref q_39, .int 0, .ref q_52, .int 0, .ref q_60, .ref q_66, .ref q_73, .ref q_79, .ref q_84, .ref q_92, .ref q_102, .ref q_107])), (q_1, .inl (cA_2, 8192, .inl (upd f_2002 (10 : Int32).toNatClampNeg (vp_nar .byte ((p0 >>> (8 &&& 31)).toInt8.toInt32)))))] := hD
  generalize (upd f_2002 (10 : Int32).toNatClampNeg (vp_nar .byte ((p0 >>> (8 &&& 31)).toInt8.toInt32))) = f_2003 at hP hD
  refine lv_aload_n hx hb dX11_putOnTape_46 rfl (lv_at hl 0 rfl) ?_
  refine va_get (D := (dC, dI)) (ci := 11) (v := .ref q_1) (C := RX11) (T := TX11) (N := 17) hx hb hts mem_X11_put8_0 hown hK hP 0 rfl rfl 0 (by decide) (ow (k := 0) rfl) (fun _ h9 => h9) rfl dX11_putOnTape_47 ?_
  refine lv_aload_n hx hb dX11_putOnTape_50 rfl (lv_at hl 0 rfl) ?_
  refine va_get (D := (dC, dI)) (ci := 11) (v := .int 8) (C := RX11) (T := TX11) (N := 17) hx hb hts mem_X11_put8_0 hown hK hP 0 rfl rfl 1 (by decide) (ow (k := 1) rfl) (fun _ h9 => h9) rfl dX11_putOnTape_51 ?_
  refine lv_iconst (v := 3) hx hb dX11_putOnTape_54 (by decide) ?_
  refine lv_iadd hx hb dX11_putOnTape_55 ?_
  refine lv_topi (fun z ez => ?_)
  obtain rfl : z = 11 := by rw [ez]; decide
  refine lv_iload_n hx hb dX11_putOnTape_56 rfl (lv_at hl 1 rfl) ?_
  refine lv_i2b hx hb dX11_putOnTape_57 rfl ?_
  refine va_bast hx hb hK hP hD hS 1 0 rfl rfl (show vp_in 11 8192 by rw [vp_in_iff]; decide) dX11_putOnTape_58 (fun H locs hP hD hS => ?_)
  have hP : va_P (dC, dI) vwP [(h0, .inr (11, [.ref q_1, .int 8, .int (-1), .ref q_3, .ref q_21, .ref q_39, .int 0, .ref q_52, .int 0, .ref q_60, .ref q_66, .ref q_73, .ref q_79, .ref q_84, .ref q_92, .ref q_102, .ref q_107])), (q_1, .inl (cA_2, 8192, .inl (upd f_2003 (11 : Int32).toNatClampNeg (vp_nar .byte (p0.toInt8.toInt32)))))] H := hP
  have hD : va_D A [(h0, .inr (11, [.ref q_1, .int 8, .int (-1), .ref q_3, .ref q_21, .ref q_39, .int 0, .ref q_52, .int 0, .ref q_60, .ref q_66, .ref q_73, .ref q_79, .ref q_84, .ref q_92, .ref q_102, .ref q_107])), (q_1, .inl (cA_2, 8192, .inl (upd f_2003 (11 : Int32).toNatClampNeg (vp_nar .byte (p0.toInt8.toInt32)))))] := hD
  generalize (upd f_2003 (11 : Int32).toNatClampNeg (vp_nar .byte (p0.toInt8.toInt32))) = f_2004 at hP hD
  refine lv_aload_n hx hb dX11_putOnTape_59 rfl (lv_at hl 0 rfl) ?_
  refine lv_dup hx hb dX11_putOnTape_60 rfl ?_
  refine va_get (D := (dC, dI)) (ci := 11) (v := .int 8) (C := RX11) (T := TX11) (N := 17) hx hb hts mem_X11_put8_0 hown hK hP 0 rfl rfl 1 (by decide) (ow (k := 1) rfl) (fun _ h9 => h9) rfl dX11_putOnTape_61 ?_
  refine lv_iconst (v := 4) hx hb dX11_putOnTape_64 (by decide) ?_
  refine lv_iadd hx hb dX11_putOnTape_65 ?_
  refine lv_topi (fun z ez => ?_)
  obtain rfl : z = 12 := by rw [ez]; decide
  refine va_put (D := (dC, dI)) (ci := 11) (v := .int 12) (ty := .int) (C := RX11) (T := TX11) (N := 17) hx hb hts mem_X11_put8_0 tyX11 tyX11_ok nmX11 hown hK hP hD hS 0 rfl rfl 1 (by decide) (ow (k := 1) rfl) (fun _ h9 => h9) rfl (by decide +kernel) rfl rfl (Nat.le_of_ble_eq_true rfl) dX11_putOnTape_66 (fun H locs hP hD hS => ?_)
  have hP : va_P (dC, dI) vwP [(h0, .inr (11, [.ref q_1, .int 12, .int (-1), .ref q_3, .ref q_21, .ref q_39, .int 0, .ref q_52, .int 0, .ref q_60, .ref q_66, .ref q_73, .ref q_79, .ref q_84, .ref q_92, .ref q_102, .ref q_107])), (q_1, .inl (cA_2, 8192, .inl f_2004))] H := hP
  have hD : va_D A [(h0, .inr (11, [.ref q_1, .int 12, .int (-1), .ref q_3, .ref q_21, .ref q_39, .int 0, .ref q_52, .int 0, .ref q_60, .ref q_66, .ref q_73, .ref q_79, .ref q_84, .ref q_92, .ref q_102, .ref q_107])), (q_1, .inl (cA_2, 8192, .inl f_2004))] := hD
  refine W.widen (k := 0) (n := 0) (Nat.le_of_ble_eq_true rfl) (Nat.le_of_ble_eq_true rfl) ?_
  exact W.vret hx hb hr (fun t ht hW => ⟨⟨(), rfl, trivial, f_2004, by rw [ht]; exact hP, va_K.moved hW.alike hK, hD⟩, hS.F ht⟩) hS.2.2 dX11_putOnTape_69
def o_X11_put12 : List Cond := [.fieldLink RX11 9 "SsaForge" "tape" "[B", .fieldLink RX11 13 "SsaForge" "tapeLength" "I"]
def v_X11_put12 : List Cond := .code yX11_putOnTape cX11_putOnTape 2 none :: (o_X11_put12 ++ (wsX110 ++ []))
theorem mow_X11_put12 : ∀ w ∈ o_X11_put12, w ∈ v_X11_put12 := fun _ h => List.mem_cons_of_mem _ (List.mem_append_left _ h)
theorem mem_X11_put12_0 : ∀ w ∈ wsX110, w ∈ v_X11_put12 := fun _ h => List.mem_cons_of_mem _ (List.mem_append_right _ (List.mem_append_left _ h))
set_option maxRecDepth 20000 in
theorem gw_X11_put12 : v_X11_put12.all goodWord = true := by decide +kernel
set_option maxHeartbeats 4000000 in
set_option maxRecDepth 100000 in
theorem c_X11_put12 (l : Launch) (dC : Nat → ClassId) (dI : Nat → Nat → Nat) (h0 : Nat) (q_1 : Nat) (q_3 : Nat) (q_21 : Nat) (q_39 : Nat) (q_52 : Nat) (q_60 : Nat) (q_66 : Nat) (q_73 : Nat) (q_79 : Nat) (q_84 : Nat) (q_92 : Nat) (q_102 : Nat) (q_107 : Nat) (cA_2 : ClassId) (f_0 : Nat → Int32) (p0 : Int32) (sz : Nat) : Met l yX11_putOnTape v_X11_put12 ({ frames := 0, cells := 0, slots := 0, locals := 0 }) (va_Pc [.ref h0, .int p0] (fun U => U.heap.size = sz ∧ va_P (dC, dI) vwP [(h0, .inr (11, [.ref q_1, .int 12, .int (-1), .ref q_3, .ref q_21, .ref q_39, .int 0, .ref q_52, .int 0, .ref q_60, .ref q_66, .ref q_73, .ref q_79, .ref q_84, .ref q_92, .ref q_102, .ref q_107])), (q_1, .inl (cA_2, 8192, .inl f_0))] U.heap ∧ va_K (dC, dI) vwP [(cA_2, .byte)] U ∧ va_D (fun _ => True) [(h0, .inr (11, [.ref q_1, .int 12, .int (-1), .ref q_3, .ref q_21, .ref q_39, .int 0, .ref q_52, .int 0, .ref q_60, .ref q_66, .ref q_73, .ref q_79, .ref q_84, .ref q_92, .ref q_102, .ref q_107])), (q_1, .inl (cA_2, 8192, .inl f_0))])) (va_Qv (fun _ : Unit => True) (fun (_ : Unit) (t : State) => ∃ (g0_9 : Nat → Int32), va_P (dC, dI) vwP [(h0, .inr (11, [.ref q_1, .int 16, .int (-1), .ref q_3, .ref q_21, .ref q_39, .int 0, .ref q_52, .int 0, .ref q_60, .ref q_66, .ref q_73, .ref q_79, .ref q_84, .ref q_92, .ref q_102, .ref q_107])), (q_1, .inl (cA_2, 8192, .inl g0_9))] t.heap ∧ va_K (dC, dI) vwP [(cA_2, .byte)] t ∧ va_D (va_A [(h0, .inr (11, [.ref q_1, .int 12, .int (-1), .ref q_3, .ref q_21, .ref q_39, .int 0, .ref q_52, .int 0, .ref q_60, .ref q_66, .ref q_73, .ref q_79, .ref q_84, .ref q_92, .ref q_102, .ref q_107])), (q_1, .inl (cA_2, 8192, .inl f_0))] sz) [(h0, .inr (11, [.ref q_1, .int 16, .int (-1), .ref q_3, .ref q_21, .ref q_39, .int 0, .ref q_52, .int 0, .ref q_60, .ref q_66, .ref q_73, .ref q_79, .ref q_84, .ref q_92, .ref q_102, .ref q_107])), (q_1, .inl (cA_2, 8192, .inl g0_9))]) (va_A [(h0, .inr (11, [.ref q_1, .int 12, .int (-1), .ref q_3, .ref q_21, .ref q_39, .int 0, .ref q_52, .int 0, .ref q_60, .ref q_66, .ref q_73, .ref q_79, .ref q_84, .ref q_92, .ref q_102, .ref q_107])), (q_1, .inl (cA_2, 8192, .inl f_0))] sz)) 0 0 (va_A [(h0, .inr (11, [.ref q_1, .int 12, .int (-1), .ref q_3, .ref q_21, .ref q_39, .int 0, .ref q_52, .int 0, .ref q_60, .ref q_66, .ref q_73, .ref q_79, .ref q_84, .ref q_92, .ref q_102, .ref q_107])), (q_1, .inl (cA_2, 8192, .inl f_0))] sz) := by
  refine Met.ofW (cc := cX11_putOnTape) (maxL := 2) (ret := none) (by decide) rfl ?_
  intro p e s m args below meth c s₁ B hml hv
  obtain ⟨rfl, hsz, hP, hK, hD0⟩ := hv
  have hx := B.exec
  have hb := B.bytes
  have hr := B.returns
  have hts := atoms_spec (ws := v_X11_put12) B.pre
  have hown : s.vm.findClass RX11 = some m.cls := findClass_of_methodNamed B.named
  have hlocks := B.notSynchronized
  have ow : ∀ {k : Nat} {w : Cond}, o_X11_put12[k]? = some w → w.before ([.ref h0, .int p0] : List Value).toArray s = true := fun h => hts _ (mow_X11_put12 _ (List.mem_of_getElem? h))
  subst hsz
  have hD := hD0.self (sz := s.heap.size)
  generalize hAe : va_A [(h0, .inr (11, [.ref q_1, .int 12, .int (-1), .ref q_3, .ref q_21, .ref q_39, .int 0, .ref q_52, .int 0, .ref q_60, .ref q_66, .ref q_73, .ref q_79, .ref q_84, .ref q_92, .ref q_102, .ref q_107])), (q_1, .inl (cA_2, 8192, .inl f_0))] s.heap.size = A at hD ⊢
  have hA : ∀ q : Nat, s.heap.size ≤ q → A q := fun q h => by rw [← hAe]; exact Or.inr h
  have hS : va_S A s.heap s.heap [] := va_S.rf
  have hP : va_P (dC, dI) vwP [(h0, .inr (11, [.ref q_1, .int 12, .int (-1), .ref q_3, .ref q_21, .ref q_39, .int 0, .ref q_52, .int 0, .ref q_60, .ref q_66, .ref q_73, .ref q_79, .ref q_84, .ref q_92, .ref q_102, .ref q_107])), (q_1, .inl (cA_2, 8192, .inl f_0))] s.heap := hP
  have hl := lv_entry ([.ref h0, .int p0]) (n := 2) (Nat.le_of_ble_eq_true rfl)
  rw [lg_entry_eq]
  generalize (lg_sl ([.ref h0, .int p0]) ++ List.replicate (2 - (lg_sl ([.ref h0, .int p0])).length) Slot.unset).toArray = ls at hl ⊢
  have hl : lv_has ls 2 [(0, .ref h0), (1, .int p0)] := hl
  obtain ⟨H, hH⟩ : ∃ H, H = s.heap := ⟨_, rfl⟩
  rw [← hH] at hP
  have hS : va_S A s.heap H [] := by rw [hH]; exact hS
  rw [← hH]
  refine lv_aload_n hx hb dX11_putOnTape_0 rfl (lv_at hl 0 rfl) ?_
  refine va_get (D := (dC, dI)) (ci := 11) (v := .ref q_1) (C := RX11) (T := TX11) (N := 17) hx hb hts mem_X11_put12_0 hown hK hP 0 rfl rfl 0 (by decide) (ow (k := 0) rfl) (fun _ h9 => h9) rfl dX11_putOnTape_1 ?_
  refine lv_aload_n hx hb dX11_putOnTape_4 rfl (lv_at hl 0 rfl) ?_
  refine va_get (D := (dC, dI)) (ci := 11) (v := .int 12) (C := RX11) (T := TX11) (N := 17) hx hb hts mem_X11_put12_0 hown hK hP 0 rfl rfl 1 (by decide) (ow (k := 1) rfl) (fun _ h9 => h9) rfl dX11_putOnTape_5 ?_
  refine lv_iload_n hx hb dX11_putOnTape_8 rfl (lv_at hl 1 rfl) ?_
  refine lv_bipush (v := 24) hx hb dX11_putOnTape_9 (by decide) ?_
  refine lv_ishr hx hb dX11_putOnTape_11 ?_
  refine lv_i2b hx hb dX11_putOnTape_12 rfl ?_
  refine va_bast hx hb hK hP hD hS 1 0 rfl rfl (show vp_in 12 8192 by rw [vp_in_iff]; decide) dX11_putOnTape_13 (fun H locs hP hD hS => ?_)
  have hP : va_P (dC, dI) vwP [(h0, .inr (11, [.ref q_1, .int 12, .int (-1), .ref q_3, .ref q_21, .ref q_39, .int 0, .ref q_52, .int 0, .ref q_60, .ref q_66, .ref q_73, .ref q_79, .ref q_84, .ref q_92, .ref q_102, .ref q_107])), (q_1, .inl (cA_2, 8192, .inl (upd f_0 (12 : Int32).toNatClampNeg (vp_nar .byte ((p0 >>> (24 &&& 31)).toInt8.toInt32)))))] H := hP
  have hD : va_D A [(h0, .inr (11, [.ref q_1, .int 12, .int (-1), .ref q_3, .ref q_21, .ref q_39, .int 0, .ref q_52, .int 0, .ref q_60, .ref q_66, .ref q_73, .ref q_79, .ref q_84, .ref q_92, .ref q_102, .ref q_107])), (q_1, .inl (cA_2, 8192, .inl (upd f_0 (12 : Int32).toNatClampNeg (vp_nar .byte ((p0 >>> (24 &&& 31)).toInt8.toInt32)))))] := hD
  generalize (upd f_0 (12 : Int32).toNatClampNeg (vp_nar .byte ((p0 >>> (24 &&& 31)).toInt8.toInt32))) = f_2001 at hP hD
  refine lv_aload_n hx hb dX11_putOnTape_14 rfl (lv_at hl 0 rfl) ?_
  refine va_get (D := (dC, dI)) (ci := 11) (v := .ref q_1) (C := RX11) (T := TX11) (N := 17) hx hb hts mem_X11_put12_0 hown hK hP 0 rfl rfl 0 (by decide) (ow (k := 0) rfl) (fun _ h9 => h9) rfl dX11_putOnTape_15 ?_
  refine lv_aload_n hx hb dX11_putOnTape_18 rfl (lv_at hl 0 rfl) ?_
  refine va_get (D := (dC, dI)) (ci := 11) (v := .int 12) (C := RX11) (T := TX11) (N := 17) hx hb hts mem_X11_put12_0 hown hK hP 0 rfl rfl 1 (by decide) (ow (k := 1) rfl) (fun _ h9 => h9) rfl dX11_putOnTape_19 ?_
  refine lv_iconst (v := 1) hx hb dX11_putOnTape_22 (by decide) ?_
  refine lv_iadd hx hb dX11_putOnTape_23 ?_
  refine lv_topi (fun z ez => ?_)
  obtain rfl : z = 13 := by rw [ez]; decide
  refine lv_iload_n hx hb dX11_putOnTape_24 rfl (lv_at hl 1 rfl) ?_
  refine lv_bipush (v := 16) hx hb dX11_putOnTape_25 (by decide) ?_
  refine lv_ishr hx hb dX11_putOnTape_27 ?_
  refine lv_i2b hx hb dX11_putOnTape_28 rfl ?_
  refine va_bast hx hb hK hP hD hS 1 0 rfl rfl (show vp_in 13 8192 by rw [vp_in_iff]; decide) dX11_putOnTape_29 (fun H locs hP hD hS => ?_)
  have hP : va_P (dC, dI) vwP [(h0, .inr (11, [.ref q_1, .int 12, .int (-1), .ref q_3, .ref q_21, .ref q_39, .int 0, .ref q_52, .int 0, .ref q_60, .ref q_66, .ref q_73, .ref q_79, .ref q_84, .ref q_92, .ref q_102, .ref q_107])), (q_1, .inl (cA_2, 8192, .inl (upd f_2001 (13 : Int32).toNatClampNeg (vp_nar .byte ((p0 >>> (16 &&& 31)).toInt8.toInt32)))))] H := hP
  have hD : va_D A [(h0, .inr (11, [.ref q_1, .int 12, .int (-1), .ref q_3, .ref q_21, .ref q_39, .int 0, .ref q_52, .int 0, .ref q_60, .ref q_66, .ref q_73, .ref q_79, .ref q_84, .ref q_92, .ref q_102, .ref q_107])), (q_1, .inl (cA_2, 8192, .inl (upd f_2001 (13 : Int32).toNatClampNeg (vp_nar .byte ((p0 >>> (16 &&& 31)).toInt8.toInt32)))))] := hD
  generalize (upd f_2001 (13 : Int32).toNatClampNeg (vp_nar .byte ((p0 >>> (16 &&& 31)).toInt8.toInt32))) = f_2002 at hP hD
  refine lv_aload_n hx hb dX11_putOnTape_30 rfl (lv_at hl 0 rfl) ?_
  refine va_get (D := (dC, dI)) (ci := 11) (v := .ref q_1) (C := RX11) (T := TX11) (N := 17) hx hb hts mem_X11_put12_0 hown hK hP 0 rfl rfl 0 (by decide) (ow (k := 0) rfl) (fun _ h9 => h9) rfl dX11_putOnTape_31 ?_
  refine lv_aload_n hx hb dX11_putOnTape_34 rfl (lv_at hl 0 rfl) ?_
  refine va_get (D := (dC, dI)) (ci := 11) (v := .int 12) (C := RX11) (T := TX11) (N := 17) hx hb hts mem_X11_put12_0 hown hK hP 0 rfl rfl 1 (by decide) (ow (k := 1) rfl) (fun _ h9 => h9) rfl dX11_putOnTape_35 ?_
  refine lv_iconst (v := 2) hx hb dX11_putOnTape_38 (by decide) ?_
  refine lv_iadd hx hb dX11_putOnTape_39 ?_
  refine lv_topi (fun z ez => ?_)
  obtain rfl : z = 14 := by rw [ez]; decide
  refine lv_iload_n hx hb dX11_putOnTape_40 rfl (lv_at hl 1 rfl) ?_
  refine lv_bipush (v := 8) hx hb dX11_putOnTape_41 (by decide) ?_
  refine lv_ishr hx hb dX11_putOnTape_43 ?_
  refine lv_i2b hx hb dX11_putOnTape_44 rfl ?_
  refine va_bast hx hb hK hP hD hS 1 0 rfl rfl (show vp_in 14 8192 by rw [vp_in_iff]; decide) dX11_putOnTape_45 (fun H locs hP hD hS => ?_)
  have hP : va_P (dC, dI) vwP [(h0, .inr (11, [.ref q_1, .int 12, .int (-1), .ref q_3, .ref q_21, .ref q_39, .int 0, .ref q_52, .int 0, .ref q_60, .ref q_66, .ref q_73, .ref q_79, .ref q_84, .ref q_92, .ref q_102, .ref q_107])), (q_1, .inl (cA_2, 8192, .inl (upd f_2002 (14 : Int32).toNatClampNeg (vp_nar .byte ((p0 >>> (8 &&& 31)).toInt8.toInt32)))))] H := hP
  have hD : va_D A [(h0, .inr (11, [.ref q_1, .int 12, .int (-1), .ref q_3, .ref q_21, .ref q_39, .int 0, .ref q_52, .int 0, .ref q_60, .ref q_66, .ref q_73, .ref q_79, .ref q_84, .ref q_92, .ref q_102, .ref q_107])), (q_1, .inl (cA_2, 8192, .inl (upd f_2002 (14 : Int32).toNatClampNeg (vp_nar .byte ((p0 >>> (8 &&& 31)).toInt8.toInt32)))))] := hD
  generalize (upd f_2002 (14 : Int32).toNatClampNeg (vp_nar .byte ((p0 >>> (8 &&& 31)).toInt8.toInt32))) = f_2003 at hP hD
  refine lv_aload_n hx hb dX11_putOnTape_46 rfl (lv_at hl 0 rfl) ?_
  refine va_get (D := (dC, dI)) (ci := 11) (v := .ref q_1) (C := RX11) (T := TX11) (N := 17) hx hb hts mem_X11_put12_0 hown hK hP 0 rfl rfl 0 (by decide) (ow (k := 0) rfl) (fun _ h9 => h9) rfl dX11_putOnTape_47 ?_
  refine lv_aload_n hx hb dX11_putOnTape_50 rfl (lv_at hl 0 rfl) ?_
  refine va_get (D := (dC, dI)) (ci := 11) (v := .int 12) (C := RX11) (T := TX11) (N := 17) hx hb hts mem_X11_put12_0 hown hK hP 0 rfl rfl 1 (by decide) (ow (k := 1) rfl) (fun _ h9 => h9) rfl dX11_putOnTape_51 ?_
  refine lv_iconst (v := 3) hx hb dX11_putOnTape_54 (by decide) ?_
  refine lv_iadd hx hb dX11_putOnTape_55 ?_
  refine lv_topi (fun z ez => ?_)
  obtain rfl : z = 15 := by rw [ez]; decide
  refine lv_iload_n hx hb dX11_putOnTape_56 rfl (lv_at hl 1 rfl) ?_
  refine lv_i2b hx hb dX11_putOnTape_57 rfl ?_
  refine va_bast hx hb hK hP hD hS 1 0 rfl rfl (show vp_in 15 8192 by rw [vp_in_iff]; decide) dX11_putOnTape_58 (fun H locs hP hD hS => ?_)
  have hP : va_P (dC, dI) vwP [(h0, .inr (11, [.ref q_1, .int 12, .int (-1), .ref q_3, .ref q_21, .ref q_39, .int 0, .ref q_52, .int 0, .ref q_60, .ref q_66, .ref q_73, .ref q_79, .ref q_84, .ref q_92, .ref q_102, .ref q_107])), (q_1, .inl (cA_2, 8192, .inl (upd f_2003 (15 : Int32).toNatClampNeg (vp_nar .byte (p0.toInt8.toInt32)))))] H := hP
  have hD : va_D A [(h0, .inr (11, [.ref q_1, .int 12, .int (-1), .ref q_3, .ref q_21, .ref q_39, .int 0, .ref q_52, .int 0, .ref q_60, .ref q_66, .ref q_73, .ref q_79, .ref q_84, .ref q_92, .ref q_102, .ref q_107])), (q_1, .inl (cA_2, 8192, .inl (upd f_2003 (15 : Int32).toNatClampNeg (vp_nar .byte (p0.toInt8.toInt32)))))] := hD
  generalize (upd f_2003 (15 : Int32).toNatClampNeg (vp_nar .byte (p0.toInt8.toInt32))) = f_2004 at hP hD
  refine lv_aload_n hx hb dX11_putOnTape_59 rfl (lv_at hl 0 rfl) ?_
  refine lv_dup hx hb dX11_putOnTape_60 rfl ?_
  refine va_get (D := (dC, dI)) (ci := 11) (v := .int 12) (C := RX11) (T := TX11) (N := 17) hx hb hts mem_X11_put12_0 hown hK hP 0 rfl rfl 1 (by decide) (ow (k := 1) rfl) (fun _ h9 => h9) rfl dX11_putOnTape_61 ?_
  refine lv_iconst (v := 4) hx hb dX11_putOnTape_64 (by decide) ?_
  refine lv_iadd hx hb dX11_putOnTape_65 ?_
  refine lv_topi (fun z ez => ?_)
  obtain rfl : z = 16 := by rw [ez]; decide
  refine va_put (D := (dC, dI)) (ci := 11) (v := .int 16) (ty := .int) (C := RX11) (T := TX11) (N := 17) hx hb hts mem_X11_put12_0 tyX11 tyX11_ok nmX11 hown hK hP hD hS 0 rfl rfl 1 (by decide) (ow (k := 1) rfl) (fun _ h9 => h9) rfl (by decide +kernel) rfl rfl (Nat.le_of_ble_eq_true rfl) dX11_putOnTape_66 (fun H locs hP hD hS => ?_)
  have hP : va_P (dC, dI) vwP [(h0, .inr (11, [.ref q_1, .int 16, .int (-1), .ref q_3, .ref q_21, .ref q_39, .int 0, .ref q_52, .int 0, .ref q_60, .ref q_66, .ref q_73, .ref q_79, .ref q_84, .ref q_92, .ref q_102, .ref q_107])), (q_1, .inl (cA_2, 8192, .inl f_2004))] H := hP
  have hD : va_D A [(h0, .inr (11, [.ref q_1, .int 16, .int (-1), .ref q_3, .ref q_21, .ref q_39, .int 0, .ref q_52, .int 0, .ref q_60, .ref q_66, .ref q_73, .ref q_79, .ref q_84, .ref q_92, .ref q_102, .ref q_107])), (q_1, .inl (cA_2, 8192, .inl f_2004))] := hD
  refine W.widen (k := 0) (n := 0) (Nat.le_of_ble_eq_true rfl) (Nat.le_of_ble_eq_true rfl) ?_
  exact W.vret hx hb hr (fun t ht hW => ⟨⟨(), rfl, trivial, f_2004, by rw [ht]; exact hP, va_K.moved hW.alike hK, hD⟩, hS.F ht⟩) hS.2.2 dX11_putOnTape_69
def o_X11_put16 : List Cond := [.fieldLink RX11 9 "SsaForge" "tape" "[B", .fieldLink RX11 13 "SsaForge" "tapeLength" "I"]
def v_X11_put16 : List Cond := .code yX11_putOnTape cX11_putOnTape 2 none :: (o_X11_put16 ++ (wsX110 ++ []))
theorem mow_X11_put16 : ∀ w ∈ o_X11_put16, w ∈ v_X11_put16 := fun _ h => List.mem_cons_of_mem _ (List.mem_append_left _ h)
theorem mem_X11_put16_0 : ∀ w ∈ wsX110, w ∈ v_X11_put16 := fun _ h => List.mem_cons_of_mem _ (List.mem_append_right _ (List.mem_append_left _ h))
set_option maxRecDepth 20000 in
theorem gw_X11_put16 : v_X11_put16.all goodWord = true := by decide +kernel
set_option maxHeartbeats 4000000 in
set_option maxRecDepth 100000 in
theorem c_X11_put16 (l : Launch) (dC : Nat → ClassId) (dI : Nat → Nat → Nat) (h0 : Nat) (q_1 : Nat) (q_3 : Nat) (q_21 : Nat) (q_39 : Nat) (q_52 : Nat) (q_60 : Nat) (q_66 : Nat) (q_73 : Nat) (q_79 : Nat) (q_84 : Nat) (q_92 : Nat) (q_102 : Nat) (q_107 : Nat) (cA_2 : ClassId) (f_0 : Nat → Int32) (p0 : Int32) (sz : Nat) : Met l yX11_putOnTape v_X11_put16 ({ frames := 0, cells := 0, slots := 0, locals := 0 }) (va_Pc [.ref h0, .int p0] (fun U => U.heap.size = sz ∧ va_P (dC, dI) vwP [(h0, .inr (11, [.ref q_1, .int 16, .int (-1), .ref q_3, .ref q_21, .ref q_39, .int 0, .ref q_52, .int 0, .ref q_60, .ref q_66, .ref q_73, .ref q_79, .ref q_84, .ref q_92, .ref q_102, .ref q_107])), (q_1, .inl (cA_2, 8192, .inl f_0))] U.heap ∧ va_K (dC, dI) vwP [(cA_2, .byte)] U ∧ va_D (fun _ => True) [(h0, .inr (11, [.ref q_1, .int 16, .int (-1), .ref q_3, .ref q_21, .ref q_39, .int 0, .ref q_52, .int 0, .ref q_60, .ref q_66, .ref q_73, .ref q_79, .ref q_84, .ref q_92, .ref q_102, .ref q_107])), (q_1, .inl (cA_2, 8192, .inl f_0))])) (va_Qv (fun _ : Unit => True) (fun (_ : Unit) (t : State) => ∃ (g0_9 : Nat → Int32), va_P (dC, dI) vwP [(h0, .inr (11, [.ref q_1, .int 20, .int (-1), .ref q_3, .ref q_21, .ref q_39, .int 0, .ref q_52, .int 0, .ref q_60, .ref q_66, .ref q_73, .ref q_79, .ref q_84, .ref q_92, .ref q_102, .ref q_107])), (q_1, .inl (cA_2, 8192, .inl g0_9))] t.heap ∧ va_K (dC, dI) vwP [(cA_2, .byte)] t ∧ va_D (va_A [(h0, .inr (11, [.ref q_1, .int 16, .int (-1), .ref q_3, .ref q_21, .ref q_39, .int 0, .ref q_52, .int 0, .ref q_60, .ref q_66, .ref q_73, .ref q_79, .ref q_84, .ref q_92, .ref q_102, .ref q_107])), (q_1, .inl (cA_2, 8192, .inl f_0))] sz) [(h0, .inr (11, [.ref q_1, .int 20, .int (-1), .ref q_3, .ref q_21, .ref q_39, .int 0, .ref q_52, .int 0, .ref q_60, .ref q_66, .ref q_73, .ref q_79, .ref q_84, .ref q_92, .ref q_102, .ref q_107])), (q_1, .inl (cA_2, 8192, .inl g0_9))]) (va_A [(h0, .inr (11, [.ref q_1, .int 16, .int (-1), .ref q_3, .ref q_21, .ref q_39, .int 0, .ref q_52, .int 0, .ref q_60, .ref q_66, .ref q_73, .ref q_79, .ref q_84, .ref q_92, .ref q_102, .ref q_107])), (q_1, .inl (cA_2, 8192, .inl f_0))] sz)) 0 0 (va_A [(h0, .inr (11, [.ref q_1, .int 16, .int (-1), .ref q_3, .ref q_21, .ref q_39, .int 0, .ref q_52, .int 0, .ref q_60, .ref q_66, .ref q_73, .ref q_79, .ref q_84, .ref q_92, .ref q_102, .ref q_107])), (q_1, .inl (cA_2, 8192, .inl f_0))] sz) := by
  refine Met.ofW (cc := cX11_putOnTape) (maxL := 2) (ret := none) (by decide) rfl ?_
  intro p e s m args below meth c s₁ B hml hv
  obtain ⟨rfl, hsz, hP, hK, hD0⟩ := hv
  have hx := B.exec
  have hb := B.bytes
  have hr := B.returns
  have hts := atoms_spec (ws := v_X11_put16) B.pre
  have hown : s.vm.findClass RX11 = some m.cls := findClass_of_methodNamed B.named
  have hlocks := B.notSynchronized
  have ow : ∀ {k : Nat} {w : Cond}, o_X11_put16[k]? = some w → w.before ([.ref h0, .int p0] : List Value).toArray s = true := fun h => hts _ (mow_X11_put16 _ (List.mem_of_getElem? h))
  subst hsz
  have hD := hD0.self (sz := s.heap.size)
  generalize hAe : va_A [(h0, .inr (11, [.ref q_1, .int 16, .int (-1), .ref q_3, .ref q_21, .ref q_39, .int 0, .ref q_52, .int 0, .ref q_60, .ref q_66, .ref q_73, .ref q_79, .ref q_84, .ref q_92, .ref q_102, .ref q_107])), (q_1, .inl (cA_2, 8192, .inl f_0))] s.heap.size = A at hD ⊢
  have hA : ∀ q : Nat, s.heap.size ≤ q → A q := fun q h => by rw [← hAe]; exact Or.inr h
  have hS : va_S A s.heap s.heap [] := va_S.rf
  have hP : va_P (dC, dI) vwP [(h0, .inr (11, [.ref q_1, .int 16, .int (-1), .ref q_3, .ref q_21, .ref q_39, .int 0, .ref q_52, .int 0, .ref q_60, .ref q_66, .ref q_73, .ref q_79, .ref q_84, .ref q_92, .ref q_102, .ref q_107])), (q_1, .inl (cA_2, 8192, .inl f_0))] s.heap := hP
  have hl := lv_entry ([.ref h0, .int p0]) (n := 2) (Nat.le_of_ble_eq_true rfl)
  rw [lg_entry_eq]
  generalize (lg_sl ([.ref h0, .int p0]) ++ List.replicate (2 - (lg_sl ([.ref h0, .int p0])).length) Slot.unset).toArray = ls at hl ⊢
  have hl : lv_has ls 2 [(0, .ref h0), (1, .int p0)] := hl
  obtain ⟨H, hH⟩ : ∃ H, H = s.heap := ⟨_, rfl⟩
  rw [← hH] at hP
  have hS : va_S A s.heap H [] := by rw [hH]; exact hS
  rw [← hH]
  refine lv_aload_n hx hb dX11_putOnTape_0 rfl (lv_at hl 0 rfl) ?_
  refine va_get (D := (dC, dI)) (ci := 11) (v := .ref q_1) (C := RX11) (T := TX11) (N := 17) hx hb hts mem_X11_put16_0 hown hK hP 0 rfl rfl 0 (by decide) (ow (k := 0) rfl) (fun _ h9 => h9) rfl dX11_putOnTape_1 ?_
  refine lv_aload_n hx hb dX11_putOnTape_4 rfl (lv_at hl 0 rfl) ?_
  refine va_get (D := (dC, dI)) (ci := 11) (v := .int 16) (C := RX11) (T := TX11) (N := 17) hx hb hts mem_X11_put16_0 hown hK hP 0 rfl rfl 1 (by decide) (ow (k := 1) rfl) (fun _ h9 => h9) rfl dX11_putOnTape_5 ?_
  refine lv_iload_n hx hb dX11_putOnTape_8 rfl (lv_at hl 1 rfl) ?_
  refine lv_bipush (v := 24) hx hb dX11_putOnTape_9 (by decide) ?_
  refine lv_ishr hx hb dX11_putOnTape_11 ?_
  refine lv_i2b hx hb dX11_putOnTape_12 rfl ?_
  refine va_bast hx hb hK hP hD hS 1 0 rfl rfl (show vp_in 16 8192 by rw [vp_in_iff]; decide) dX11_putOnTape_13 (fun H locs hP hD hS => ?_)
  have hP : va_P (dC, dI) vwP [(h0, .inr (11, [.ref q_1, .int 16, .int (-1), .ref q_3, .ref q_21, .ref q_39, .int 0, .ref q_52, .int 0, .ref q_60, .ref q_66, .ref q_73, .ref q_79, .ref q_84, .ref q_92, .ref q_102, .ref q_107])), (q_1, .inl (cA_2, 8192, .inl (upd f_0 (16 : Int32).toNatClampNeg (vp_nar .byte ((p0 >>> (24 &&& 31)).toInt8.toInt32)))))] H := hP
  have hD : va_D A [(h0, .inr (11, [.ref q_1, .int 16, .int (-1), .ref q_3, .ref q_21, .ref q_39, .int 0, .ref q_52, .int 0, .ref q_60, .ref q_66, .ref q_73, .ref q_79, .ref q_84, .ref q_92, .ref q_102, .ref q_107])), (q_1, .inl (cA_2, 8192, .inl (upd f_0 (16 : Int32).toNatClampNeg (vp_nar .byte ((p0 >>> (24 &&& 31)).toInt8.toInt32)))))] := hD
  generalize (upd f_0 (16 : Int32).toNatClampNeg (vp_nar .byte ((p0 >>> (24 &&& 31)).toInt8.toInt32))) = f_2001 at hP hD
  refine lv_aload_n hx hb dX11_putOnTape_14 rfl (lv_at hl 0 rfl) ?_
  refine va_get (D := (dC, dI)) (ci := 11) (v := .ref q_1) (C := RX11) (T := TX11) (N := 17) hx hb hts mem_X11_put16_0 hown hK hP 0 rfl rfl 0 (by decide) (ow (k := 0) rfl) (fun _ h9 => h9) rfl dX11_putOnTape_15 ?_
  refine lv_aload_n hx hb dX11_putOnTape_18 rfl (lv_at hl 0 rfl) ?_
  refine va_get (D := (dC, dI)) (ci := 11) (v := .int 16) (C := RX11) (T := TX11) (N := 17) hx hb hts mem_X11_put16_0 hown hK hP 0 rfl rfl 1 (by decide) (ow (k := 1) rfl) (fun _ h9 => h9) rfl dX11_putOnTape_19 ?_
  refine lv_iconst (v := 1) hx hb dX11_putOnTape_22 (by decide) ?_
  refine lv_iadd hx hb dX11_putOnTape_23 ?_
  refine lv_topi (fun z ez => ?_)
  obtain rfl : z = 17 := by rw [ez]; decide
  refine lv_iload_n hx hb dX11_putOnTape_24 rfl (lv_at hl 1 rfl) ?_
  refine lv_bipush (v := 16) hx hb dX11_putOnTape_25 (by decide) ?_
  refine lv_ishr hx hb dX11_putOnTape_27 ?_
  refine lv_i2b hx hb dX11_putOnTape_28 rfl ?_
  refine va_bast hx hb hK hP hD hS 1 0 rfl rfl (show vp_in 17 8192 by rw [vp_in_iff]; decide) dX11_putOnTape_29 (fun H locs hP hD hS => ?_)
  have hP : va_P (dC, dI) vwP [(h0, .inr (11, [.ref q_1, .int 16, .int (-1), .ref q_3, .ref q_21, .ref q_39, .int 0, .ref q_52, .int 0, .ref q_60, .ref q_66, .ref q_73, .ref q_79, .ref q_84, .ref q_92, .ref q_102, .ref q_107])), (q_1, .inl (cA_2, 8192, .inl (upd f_2001 (17 : Int32).toNatClampNeg (vp_nar .byte ((p0 >>> (16 &&& 31)).toInt8.toInt32)))))] H := hP
  have hD : va_D A [(h0, .inr (11, [.ref q_1, .int 16, .int (-1), .ref q_3, .ref q_21, .ref q_39, .int 0, .ref q_52, .int 0, .ref q_60, .ref q_66, .ref q_73, .ref q_79, .ref q_84, .ref q_92, .ref q_102, .ref q_107])), (q_1, .inl (cA_2, 8192, .inl (upd f_2001 (17 : Int32).toNatClampNeg (vp_nar .byte ((p0 >>> (16 &&& 31)).toInt8.toInt32)))))] := hD
  generalize (upd f_2001 (17 : Int32).toNatClampNeg (vp_nar .byte ((p0 >>> (16 &&& 31)).toInt8.toInt32))) = f_2002 at hP hD
  refine lv_aload_n hx hb dX11_putOnTape_30 rfl (lv_at hl 0 rfl) ?_
  refine va_get (D := (dC, dI)) (ci := 11) (v := .ref q_1) (C := RX11) (T := TX11) (N := 17) hx hb hts mem_X11_put16_0 hown hK hP 0 rfl rfl 0 (by decide) (ow (k := 0) rfl) (fun _ h9 => h9) rfl dX11_putOnTape_31 ?_
  refine lv_aload_n hx hb dX11_putOnTape_34 rfl (lv_at hl 0 rfl) ?_
  refine va_get (D := (dC, dI)) (ci := 11) (v := .int 16) (C := RX11) (T := TX11) (N := 17) hx hb hts mem_X11_put16_0 hown hK hP 0 rfl rfl 1 (by decide) (ow (k := 1) rfl) (fun _ h9 => h9) rfl dX11_putOnTape_35 ?_
  refine lv_iconst (v := 2) hx hb dX11_putOnTape_38 (by decide) ?_
  refine lv_iadd hx hb dX11_putOnTape_39 ?_
  refine lv_topi (fun z ez => ?_)
  obtain rfl : z = 18 := by rw [ez]; decide
  refine lv_iload_n hx hb dX11_putOnTape_40 rfl (lv_at hl 1 rfl) ?_
  refine lv_bipush (v := 8) hx hb dX11_putOnTape_41 (by decide) ?_
  refine lv_ishr hx hb dX11_putOnTape_43 ?_
  refine lv_i2b hx hb dX11_putOnTape_44 rfl ?_
  refine va_bast hx hb hK hP hD hS 1 0 rfl rfl (show vp_in 18 8192 by rw [vp_in_iff]; decide) dX11_putOnTape_45 (fun H locs hP hD hS => ?_)
  have hP : va_P (dC, dI) vwP [(h0, .inr (11, [.ref q_1, .int 16, .int (-1), .ref q_3, .ref q_21, .ref q_39, .int 0, .ref q_52, .int 0, .ref q_60, .ref q_66, .ref q_73, .ref q_79, .ref q_84, .ref q_92, .ref q_102, .ref q_107])), (q_1, .inl (cA_2, 8192, .inl (upd f_2002 (18 : Int32).toNatClampNeg (vp_nar .byte ((p0 >>> (8 &&& 31)).toInt8.toInt32)))))] H := hP
  have hD : va_D A [(h0, .inr (11, [.ref q_1, .int 16, .int (-1), .ref q_3, .ref q_21, .ref q_39, .int 0, .ref q_52, .int 0, .ref q_60, .ref q_66, .ref q_73, .ref q_79, .ref q_84, .ref q_92, .ref q_102, .ref q_107])), (q_1, .inl (cA_2, 8192, .inl (upd f_2002 (18 : Int32).toNatClampNeg (vp_nar .byte ((p0 >>> (8 &&& 31)).toInt8.toInt32)))))] := hD
  generalize (upd f_2002 (18 : Int32).toNatClampNeg (vp_nar .byte ((p0 >>> (8 &&& 31)).toInt8.toInt32))) = f_2003 at hP hD
  refine lv_aload_n hx hb dX11_putOnTape_46 rfl (lv_at hl 0 rfl) ?_
  refine va_get (D := (dC, dI)) (ci := 11) (v := .ref q_1) (C := RX11) (T := TX11) (N := 17) hx hb hts mem_X11_put16_0 hown hK hP 0 rfl rfl 0 (by decide) (ow (k := 0) rfl) (fun _ h9 => h9) rfl dX11_putOnTape_47 ?_
  refine lv_aload_n hx hb dX11_putOnTape_50 rfl (lv_at hl 0 rfl) ?_
  refine va_get (D := (dC, dI)) (ci := 11) (v := .int 16) (C := RX11) (T := TX11) (N := 17) hx hb hts mem_X11_put16_0 hown hK hP 0 rfl rfl 1 (by decide) (ow (k := 1) rfl) (fun _ h9 => h9) rfl dX11_putOnTape_51 ?_
  refine lv_iconst (v := 3) hx hb dX11_putOnTape_54 (by decide) ?_
  refine lv_iadd hx hb dX11_putOnTape_55 ?_
  refine lv_topi (fun z ez => ?_)
  obtain rfl : z = 19 := by rw [ez]; decide
  refine lv_iload_n hx hb dX11_putOnTape_56 rfl (lv_at hl 1 rfl) ?_
  refine lv_i2b hx hb dX11_putOnTape_57 rfl ?_
  refine va_bast hx hb hK hP hD hS 1 0 rfl rfl (show vp_in 19 8192 by rw [vp_in_iff]; decide) dX11_putOnTape_58 (fun H locs hP hD hS => ?_)
  have hP : va_P (dC, dI) vwP [(h0, .inr (11, [.ref q_1, .int 16, .int (-1), .ref q_3, .ref q_21, .ref q_39, .int 0, .ref q_52, .int 0, .ref q_60, .ref q_66, .ref q_73, .ref q_79, .ref q_84, .ref q_92, .ref q_102, .ref q_107])), (q_1, .inl (cA_2, 8192, .inl (upd f_2003 (19 : Int32).toNatClampNeg (vp_nar .byte (p0.toInt8.toInt32)))))] H := hP
  have hD : va_D A [(h0, .inr (11, [.ref q_1, .int 16, .int (-1), .ref q_3, .ref q_21, .ref q_39, .int 0, .ref q_52, .int 0, .ref q_60, .ref q_66, .ref q_73, .ref q_79, .ref q_84, .ref q_92, .ref q_102, .ref q_107])), (q_1, .inl (cA_2, 8192, .inl (upd f_2003 (19 : Int32).toNatClampNeg (vp_nar .byte (p0.toInt8.toInt32)))))] := hD
  generalize (upd f_2003 (19 : Int32).toNatClampNeg (vp_nar .byte (p0.toInt8.toInt32))) = f_2004 at hP hD
  refine lv_aload_n hx hb dX11_putOnTape_59 rfl (lv_at hl 0 rfl) ?_
  refine lv_dup hx hb dX11_putOnTape_60 rfl ?_
  refine va_get (D := (dC, dI)) (ci := 11) (v := .int 16) (C := RX11) (T := TX11) (N := 17) hx hb hts mem_X11_put16_0 hown hK hP 0 rfl rfl 1 (by decide) (ow (k := 1) rfl) (fun _ h9 => h9) rfl dX11_putOnTape_61 ?_
  refine lv_iconst (v := 4) hx hb dX11_putOnTape_64 (by decide) ?_
  refine lv_iadd hx hb dX11_putOnTape_65 ?_
  refine lv_topi (fun z ez => ?_)
  obtain rfl : z = 20 := by rw [ez]; decide
  refine va_put (D := (dC, dI)) (ci := 11) (v := .int 20) (ty := .int) (C := RX11) (T := TX11) (N := 17) hx hb hts mem_X11_put16_0 tyX11 tyX11_ok nmX11 hown hK hP hD hS 0 rfl rfl 1 (by decide) (ow (k := 1) rfl) (fun _ h9 => h9) rfl (by decide +kernel) rfl rfl (Nat.le_of_ble_eq_true rfl) dX11_putOnTape_66 (fun H locs hP hD hS => ?_)
  have hP : va_P (dC, dI) vwP [(h0, .inr (11, [.ref q_1, .int 20, .int (-1), .ref q_3, .ref q_21, .ref q_39, .int 0, .ref q_52, .int 0, .ref q_60, .ref q_66, .ref q_73, .ref q_79, .ref q_84, .ref q_92, .ref q_102, .ref q_107])), (q_1, .inl (cA_2, 8192, .inl f_2004))] H := hP
  have hD : va_D A [(h0, .inr (11, [.ref q_1, .int 20, .int (-1), .ref q_3, .ref q_21, .ref q_39, .int 0, .ref q_52, .int 0, .ref q_60, .ref q_66, .ref q_73, .ref q_79, .ref q_84, .ref q_92, .ref q_102, .ref q_107])), (q_1, .inl (cA_2, 8192, .inl f_2004))] := hD
  refine W.widen (k := 0) (n := 0) (Nat.le_of_ble_eq_true rfl) (Nat.le_of_ble_eq_true rfl) ?_
  exact W.vret hx hb hr (fun t ht hW => ⟨⟨(), rfl, trivial, f_2004, by rw [ht]; exact hP, va_K.moved hW.alike hK, hD⟩, hS.F ht⟩) hS.2.2 dX11_putOnTape_69
theorem dX11_feed_0 : decode cX11_feed 0 = .ok (.aload_n 0, 1) := by decide +kernel
theorem dX11_feed_1 : decode cX11_feed 1 = .ok (.getfield 13, 3) := by decide +kernel
theorem dX11_feed_4 : decode cX11_feed 4 = .ok (.bipush 20, 2) := by decide +kernel
theorem dX11_feed_6 : decode cX11_feed 6 = .ok (.iadd, 1) := by decide +kernel
theorem dX11_feed_7 : decode cX11_feed 7 = .ok (.sipush 8192, 3) := by decide +kernel
theorem dX11_feed_10 : decode cX11_feed 10 = .ok (.if_icmp .le 13, 3) := by decide +kernel
theorem dX11_feed_23 : decode cX11_feed 23 = .ok (.aload_n 0, 1) := by decide +kernel
theorem dX11_feed_24 : decode cX11_feed 24 = .ok (.iload_n 1, 1) := by decide +kernel
theorem dX11_feed_25 : decode cX11_feed 25 = .ok (.invokevirtual 114, 3) := by decide +kernel
theorem dX11_feed_28 : decode cX11_feed 28 = .ok (.aload_n 0, 1) := by decide +kernel
theorem dX11_feed_29 : decode cX11_feed 29 = .ok (.iload_n 2, 1) := by decide +kernel
theorem dX11_feed_30 : decode cX11_feed 30 = .ok (.invokevirtual 114, 3) := by decide +kernel
theorem dX11_feed_33 : decode cX11_feed 33 = .ok (.aload_n 0, 1) := by decide +kernel
theorem dX11_feed_34 : decode cX11_feed 34 = .ok (.iload_n 3, 1) := by decide +kernel
theorem dX11_feed_35 : decode cX11_feed 35 = .ok (.invokevirtual 114, 3) := by decide +kernel
theorem dX11_feed_38 : decode cX11_feed 38 = .ok (.aload_n 0, 1) := by decide +kernel
theorem dX11_feed_39 : decode cX11_feed 39 = .ok (.iload 4, 2) := by decide +kernel
theorem dX11_feed_41 : decode cX11_feed 41 = .ok (.invokevirtual 114, 3) := by decide +kernel
theorem dX11_feed_44 : decode cX11_feed 44 = .ok (.aload_n 0, 1) := by decide +kernel
theorem dX11_feed_45 : decode cX11_feed 45 = .ok (.iload 5, 2) := by decide +kernel
theorem dX11_feed_47 : decode cX11_feed 47 = .ok (.invokevirtual 114, 3) := by decide +kernel
theorem dX11_feed_50 : decode cX11_feed 50 = .ok (.aload_n 0, 1) := by decide +kernel
theorem dX11_feed_51 : decode cX11_feed 51 = .ok (.getfield 13, 3) := by decide +kernel
theorem dX11_feed_54 : decode cX11_feed 54 = .ok (.ireturn, 1) := by decide +kernel
def o_X11_feed : List Cond := [.fieldLink RX11 13 "SsaForge" "tapeLength" "I", .methodLink RX11 114 yX11_putOnTape, .instanceMethod yX11_putOnTape, .selects RX11 yX11_putOnTape yX11_putOnTape, .initialized RX11]
def v_X11_feed : List Cond := .code yX11_feed cX11_feed 6 (some .int) :: (o_X11_feed ++ (wsX110 ++ (v_X11_put0 ++ (v_X11_put4 ++ (v_X11_put8 ++ (v_X11_put12 ++ (v_X11_put16 ++ [])))))))
theorem mow_X11_feed : ∀ w ∈ o_X11_feed, w ∈ v_X11_feed := fun _ h => List.mem_cons_of_mem _ (List.mem_append_left _ h)
theorem mem_X11_feed_0 : ∀ w ∈ wsX110, w ∈ v_X11_feed := fun _ h => List.mem_cons_of_mem _ (List.mem_append_right _ (List.mem_append_left _ h))
theorem mem_X11_feed_1 : ∀ w ∈ v_X11_put0, w ∈ v_X11_feed := fun _ h => List.mem_cons_of_mem _ (List.mem_append_right _ (List.mem_append_right _ (List.mem_append_left _ h)))
theorem mem_X11_feed_2 : ∀ w ∈ v_X11_put4, w ∈ v_X11_feed := fun _ h => List.mem_cons_of_mem _ (List.mem_append_right _ (List.mem_append_right _ (List.mem_append_right _ (List.mem_append_left _ h))))
theorem mem_X11_feed_3 : ∀ w ∈ v_X11_put8, w ∈ v_X11_feed := fun _ h => List.mem_cons_of_mem _ (List.mem_append_right _ (List.mem_append_right _ (List.mem_append_right _ (List.mem_append_right _ (List.mem_append_left _ h)))))
theorem mem_X11_feed_4 : ∀ w ∈ v_X11_put12, w ∈ v_X11_feed := fun _ h => List.mem_cons_of_mem _ (List.mem_append_right _ (List.mem_append_right _ (List.mem_append_right _ (List.mem_append_right _ (List.mem_append_right _ (List.mem_append_left _ h))))))
theorem mem_X11_feed_5 : ∀ w ∈ v_X11_put16, w ∈ v_X11_feed := fun _ h => List.mem_cons_of_mem _ (List.mem_append_right _ (List.mem_append_right _ (List.mem_append_right _ (List.mem_append_right _ (List.mem_append_right _ (List.mem_append_right _ (List.mem_append_left _ h)))))))
set_option maxRecDepth 20000 in
theorem gw_X11_feed : v_X11_feed.all goodWord = true := by decide +kernel
set_option maxRecDepth 20000 in
theorem g_X11_feed_X11_put0 : GoodIn v_X11_feed (wsV RX11 114 RX11 yX11_putOnTape v_X11_put0) := goodIn_app (goodIn_sub (fun w h => mow_X11_feed w (by revert w h; decide +kernel)) (by decide +kernel)) (goodIn_sub mem_X11_feed_1 gw_X11_put0)
set_option maxRecDepth 20000 in
theorem g_X11_feed_X11_put4 : GoodIn v_X11_feed (wsV RX11 114 RX11 yX11_putOnTape v_X11_put4) := goodIn_app (goodIn_sub (fun w h => mow_X11_feed w (by revert w h; decide +kernel)) (by decide +kernel)) (goodIn_sub mem_X11_feed_2 gw_X11_put4)
set_option maxRecDepth 20000 in
theorem g_X11_feed_X11_put8 : GoodIn v_X11_feed (wsV RX11 114 RX11 yX11_putOnTape v_X11_put8) := goodIn_app (goodIn_sub (fun w h => mow_X11_feed w (by revert w h; decide +kernel)) (by decide +kernel)) (goodIn_sub mem_X11_feed_3 gw_X11_put8)
set_option maxRecDepth 20000 in
theorem g_X11_feed_X11_put12 : GoodIn v_X11_feed (wsV RX11 114 RX11 yX11_putOnTape v_X11_put12) := goodIn_app (goodIn_sub (fun w h => mow_X11_feed w (by revert w h; decide +kernel)) (by decide +kernel)) (goodIn_sub mem_X11_feed_4 gw_X11_put12)
set_option maxRecDepth 20000 in
theorem g_X11_feed_X11_put16 : GoodIn v_X11_feed (wsV RX11 114 RX11 yX11_putOnTape v_X11_put16) := goodIn_app (goodIn_sub (fun w h => mow_X11_feed w (by revert w h; decide +kernel)) (by decide +kernel)) (goodIn_sub mem_X11_feed_5 gw_X11_put16)
set_option maxHeartbeats 4000000 in
set_option maxRecDepth 100000 in
theorem c_X11_feed (l : Launch) (dC : Nat → ClassId) (dI : Nat → Nat → Nat) (h0 : Nat) (q_1 : Nat) (q_3 : Nat) (q_21 : Nat) (q_39 : Nat) (q_52 : Nat) (q_60 : Nat) (q_66 : Nat) (q_73 : Nat) (q_79 : Nat) (q_84 : Nat) (q_92 : Nat) (q_102 : Nat) (q_107 : Nat) (cA_2 : ClassId) (p0 : Int32) (p1 : Int32) (p2 : Int32) (p3 : Int32) (p4 : Int32) (sz : Nat) : Met l yX11_feed v_X11_feed ({ frames := 1, cells := 0, slots := 0, locals := 21 }) (va_Pc [.ref h0, .int p0, .int p1, .int p2, .int p3, .int p4] (fun U => U.heap.size = sz ∧ va_P (dC, dI) vwP [(h0, .inr (11, [.ref q_1, .int 0, .int (-1), .ref q_3, .ref q_21, .ref q_39, .int 0, .ref q_52, .int 0, .ref q_60, .ref q_66, .ref q_73, .ref q_79, .ref q_84, .ref q_92, .ref q_102, .ref q_107])), (q_1, .inl (cA_2, 8192, .inl (fun _ => 0)))] U.heap ∧ va_K (dC, dI) vwP [(cA_2, .byte)] U ∧ va_D (fun _ => True) [(h0, .inr (11, [.ref q_1, .int 0, .int (-1), .ref q_3, .ref q_21, .ref q_39, .int 0, .ref q_52, .int 0, .ref q_60, .ref q_66, .ref q_73, .ref q_79, .ref q_84, .ref q_92, .ref q_102, .ref q_107])), (q_1, .inl (cA_2, 8192, .inl (fun _ => 0)))])) (va_Qi (fun (r : Int32) (_ : Unit) => r = 20) (fun (_ : Unit) (t : State) => va_P (dC, dI) vwP [] t.heap ∧ va_K (dC, dI) vwP [] t ∧ va_D (va_A [(h0, .inr (11, [.ref q_1, .int 0, .int (-1), .ref q_3, .ref q_21, .ref q_39, .int 0, .ref q_52, .int 0, .ref q_60, .ref q_66, .ref q_73, .ref q_79, .ref q_84, .ref q_92, .ref q_102, .ref q_107])), (q_1, .inl (cA_2, 8192, .inl (fun _ => 0)))] sz) []) (va_A [(h0, .inr (11, [.ref q_1, .int 0, .int (-1), .ref q_3, .ref q_21, .ref q_39, .int 0, .ref q_52, .int 0, .ref q_60, .ref q_66, .ref q_73, .ref q_79, .ref q_84, .ref q_92, .ref q_102, .ref q_107])), (q_1, .inl (cA_2, 8192, .inl (fun _ => 0)))] sz)) 0 0 (va_A [(h0, .inr (11, [.ref q_1, .int 0, .int (-1), .ref q_3, .ref q_21, .ref q_39, .int 0, .ref q_52, .int 0, .ref q_60, .ref q_66, .ref q_73, .ref q_79, .ref q_84, .ref q_92, .ref q_102, .ref q_107])), (q_1, .inl (cA_2, 8192, .inl (fun _ => 0)))] sz) := by
  refine Met.ofW (cc := cX11_feed) (maxL := 6) (ret := (some .int)) (by decide) rfl ?_
  intro p e s m args below meth c s₁ B hml hv
  obtain ⟨rfl, hsz, hP, hK, hD0⟩ := hv
  have hx := B.exec
  have hb := B.bytes
  have hr := B.returns
  have hts := atoms_spec (ws := v_X11_feed) B.pre
  have hown : s.vm.findClass RX11 = some m.cls := findClass_of_methodNamed B.named
  have hlocks := B.notSynchronized
  have ow : ∀ {k : Nat} {w : Cond}, o_X11_feed[k]? = some w → w.before ([.ref h0, .int p0, .int p1, .int p2, .int p3, .int p4] : List Value).toArray s = true := fun h => hts _ (mow_X11_feed _ (List.mem_of_getElem? h))
  subst hsz
  have hD := hD0.self (sz := s.heap.size)
  generalize hAe : va_A [(h0, .inr (11, [.ref q_1, .int 0, .int (-1), .ref q_3, .ref q_21, .ref q_39, .int 0, .ref q_52, .int 0, .ref q_60, .ref q_66, .ref q_73, .ref q_79, .ref q_84, .ref q_92, .ref q_102, .ref q_107])), (q_1, .inl (cA_2, 8192, .inl (fun _ => 0)))] s.heap.size = A at hD ⊢
  have hA : ∀ q : Nat, s.heap.size ≤ q → A q := fun q h => by rw [← hAe]; exact Or.inr h
  have hS : va_S A s.heap s.heap [] := va_S.rf
  have hP : va_P (dC, dI) vwP [(h0, .inr (11, [.ref q_1, .int 0, .int (-1), .ref q_3, .ref q_21, .ref q_39, .int 0, .ref q_52, .int 0, .ref q_60, .ref q_66, .ref q_73, .ref q_79, .ref q_84, .ref q_92, .ref q_102, .ref q_107])), (q_1, .inl (cA_2, 8192, .inl (fun _ => 0)))] s.heap := hP
  have hl := lv_entry ([.ref h0, .int p0, .int p1, .int p2, .int p3, .int p4]) (n := 6) (Nat.le_of_ble_eq_true rfl)
  rw [lg_entry_eq]
  generalize (lg_sl ([.ref h0, .int p0, .int p1, .int p2, .int p3, .int p4]) ++ List.replicate (6 - (lg_sl ([.ref h0, .int p0, .int p1, .int p2, .int p3, .int p4])).length) Slot.unset).toArray = ls at hl ⊢
  have hl : lv_has ls 6 [(0, .ref h0), (1, .int p0), (2, .int p1), (3, .int p2), (4, .int p3), (5, .int p4)] := hl
  obtain ⟨H, hH⟩ : ∃ H, H = s.heap := ⟨_, rfl⟩
  rw [← hH] at hP
  have hS : va_S A s.heap H [] := by rw [hH]; exact hS
  rw [← hH]
  refine lv_aload_n hx hb dX11_feed_0 rfl (lv_at hl 0 rfl) ?_
  refine va_get (D := (dC, dI)) (ci := 11) (v := .int 0) (C := RX11) (T := TX11) (N := 17) hx hb hts mem_X11_feed_0 hown hK hP 0 rfl rfl 1 (by decide) (ow (k := 0) rfl) (fun _ h9 => h9) rfl dX11_feed_1 ?_
  refine lv_bipush (v := 20) hx hb dX11_feed_4 (by decide) ?_
  refine lv_iadd hx hb dX11_feed_6 ?_
  refine lv_topi (fun z ez => ?_)
  obtain rfl : z = 20 := by rw [ez]; decide
  refine lv_sipush (v := 8192) hx hb dX11_feed_7 (by decide) ?_
  refine lv_icmp_le (tgt := 23) hx hb dX11_feed_10 (by decide) (fun _ => ?_) (fun h9 => absurd h9 (by decide))
  refine lv_aload_n hx hb dX11_feed_23 rfl (lv_at hl 0 rfl) ?_
  refine lv_iload_n hx hb dX11_feed_24 rfl (lv_at hl 1 rfl) ?_
  have hPc := hP.sub (ws' := [(h0, .inr (11, [.ref q_1, .int 0, .int (-1), .ref q_3, .ref q_21, .ref q_39, .int 0, .ref q_52, .int 0, .ref q_60, .ref q_66, .ref q_73, .ref q_79, .ref q_84, .ref q_92, .ref q_102, .ref q_107])), (q_1, .inl (cA_2, 8192, .inl (fun _ => 0)))]) [0, 1] rfl
  have hDc := hD.sub (ws' := [(h0, .inr (11, [.ref q_1, .int 0, .int (-1), .ref q_3, .ref q_21, .ref q_39, .int 0, .ref q_52, .int 0, .ref q_60, .ref q_66, .ref q_73, .ref q_79, .ref q_84, .ref q_92, .ref q_102, .ref q_107])), (q_1, .inl (cA_2, 8192, .inl (fun _ => 0)))]) [0, 1] (by decide) rfl
  have hKc := hK.sub (tys' := [(cA_2, .byte)]) [0] rfl
  have hFc := va_free (wc := [(h0, .inr (11, [.ref q_1, .int 0, .int (-1), .ref q_3, .ref q_21, .ref q_39, .int 0, .ref q_52, .int 0, .ref q_60, .ref q_66, .ref q_73, .ref q_79, .ref q_84, .ref q_92, .ref q_102, .ref q_107])), (q_1, .inl (cA_2, 8192, .inl (fun _ => 0)))]) hD hS hA [0, 1] rfl
  refine va_callv (va_runV (As := [.int p0]) (rest := []) ⟨hx, hb, hml, hown, hts⟩ (c_X11_put0 l dC dI h0 q_1 q_3 q_21 q_39 q_52 q_60 q_66 q_73 q_79 q_84 q_92 q_102 q_107 cA_2 ((fun _ => 0)) p0 H.size) (cwV 1 hts g_X11_feed_X11_put0 rfl rfl rfl (by decide +kernel) ⟨(Nat.le_of_ble_eq_true rfl), (Nat.le_of_ble_eq_true rfl)⟩) ⟨fun a U g mk q => by obtain ⟨q0, q1, qP, qK, qD⟩ := q; exact ⟨q0, q1, qP, va_K.moved (u := U) (U := U.calling g mk a) (Vm.Alike.refl U.vm) qK, qD⟩, va_recv hKc hPc (ci := 11) (q0 := 0) rfl rfl, fun U hU hW => ⟨rfl, by rw [hU], by rw [hU]; exact hPc, va_K.moved hW.alike hKc, hDc.weaken (fun _ _ _ _ => trivial)⟩⟩ rfl rfl hl.1 rfl (lv_room (Nat.le_of_ble_eq_true rfl)) dX11_feed_25 ⟨(Nat.le_of_ble_eq_true rfl), (Nat.le_of_ble_eq_true rfl)⟩) hS (fun q _ h => hFc q h) hFc (fun  u t H1 locs ht hvm hw hB hz1 hk1 hS => ?_)
  obtain ⟨g0_2001, hP1, hK1, hD1⟩ := hB
  rw [ht] at hP1
  have hK1 := va_K.moved hvm.symm hK1
  obtain ⟨hP, hD⟩ := va_join (wr := []) (w1 := [(h0, .inr (11, [.ref q_1, .int 4, .int (-1), .ref q_3, .ref q_21, .ref q_39, .int 0, .ref q_52, .int 0, .ref q_60, .ref q_66, .ref q_73, .ref q_79, .ref q_84, .ref q_92, .ref q_102, .ref q_107])), (q_1, .inl (cA_2, 8192, .inl g0_2001))]) hP hD [0, 1] [] rfl rfl (by decide) (by decide) hk1 hFc hP1 hD1
  have hK := (hK.sub (tys' := []) [] rfl).app hK1
  generalize H1 = H at hP hS ⊢
  have hP : va_P (dC, dI) vwP [(h0, .inr (11, [.ref q_1, .int 4, .int (-1), .ref q_3, .ref q_21, .ref q_39, .int 0, .ref q_52, .int 0, .ref q_60, .ref q_66, .ref q_73, .ref q_79, .ref q_84, .ref q_92, .ref q_102, .ref q_107])), (q_1, .inl (cA_2, 8192, .inl g0_2001))] H := hP
  have hD : va_D A [(h0, .inr (11, [.ref q_1, .int 4, .int (-1), .ref q_3, .ref q_21, .ref q_39, .int 0, .ref q_52, .int 0, .ref q_60, .ref q_66, .ref q_73, .ref q_79, .ref q_84, .ref q_92, .ref q_102, .ref q_107])), (q_1, .inl (cA_2, 8192, .inl g0_2001))] := hD
  have hK : va_K (dC, dI) vwP [(cA_2, .byte)] s := hK
  refine W.widen (k := 0) (n := 0) (Nat.le_of_ble_eq_true rfl) (Nat.le_of_ble_eq_true rfl) ?_
  refine lv_aload_n hx hb dX11_feed_28 rfl (lv_at hl 0 rfl) ?_
  refine lv_iload_n hx hb dX11_feed_29 rfl (lv_at hl 2 rfl) ?_
  have hPc := hP.sub (ws' := [(h0, .inr (11, [.ref q_1, .int 4, .int (-1), .ref q_3, .ref q_21, .ref q_39, .int 0, .ref q_52, .int 0, .ref q_60, .ref q_66, .ref q_73, .ref q_79, .ref q_84, .ref q_92, .ref q_102, .ref q_107])), (q_1, .inl (cA_2, 8192, .inl g0_2001))]) [0, 1] rfl
  have hDc := hD.sub (ws' := [(h0, .inr (11, [.ref q_1, .int 4, .int (-1), .ref q_3, .ref q_21, .ref q_39, .int 0, .ref q_52, .int 0, .ref q_60, .ref q_66, .ref q_73, .ref q_79, .ref q_84, .ref q_92, .ref q_102, .ref q_107])), (q_1, .inl (cA_2, 8192, .inl g0_2001))]) [0, 1] (by decide) rfl
  have hKc := hK.sub (tys' := [(cA_2, .byte)]) [0] rfl
  have hFc := va_free (wc := [(h0, .inr (11, [.ref q_1, .int 4, .int (-1), .ref q_3, .ref q_21, .ref q_39, .int 0, .ref q_52, .int 0, .ref q_60, .ref q_66, .ref q_73, .ref q_79, .ref q_84, .ref q_92, .ref q_102, .ref q_107])), (q_1, .inl (cA_2, 8192, .inl g0_2001))]) hD hS hA [0, 1] rfl
  refine va_callv (va_runV (As := [.int p1]) (rest := []) ⟨hx, hb, hml, hown, hts⟩ (c_X11_put4 l dC dI h0 q_1 q_3 q_21 q_39 q_52 q_60 q_66 q_73 q_79 q_84 q_92 q_102 q_107 cA_2 g0_2001 p1 H.size) (cwV 1 hts g_X11_feed_X11_put4 rfl rfl rfl (by decide +kernel) ⟨(Nat.le_of_ble_eq_true rfl), (Nat.le_of_ble_eq_true rfl)⟩) ⟨fun a U g mk q => by obtain ⟨q0, q1, qP, qK, qD⟩ := q; exact ⟨q0, q1, qP, va_K.moved (u := U) (U := U.calling g mk a) (Vm.Alike.refl U.vm) qK, qD⟩, va_recv hKc hPc (ci := 11) (q0 := 0) rfl rfl, fun U hU hW => ⟨rfl, by rw [hU], by rw [hU]; exact hPc, va_K.moved hW.alike hKc, hDc.weaken (fun _ _ _ _ => trivial)⟩⟩ rfl rfl hl.1 rfl (lv_room (Nat.le_of_ble_eq_true rfl)) dX11_feed_30 ⟨(Nat.le_of_ble_eq_true rfl), (Nat.le_of_ble_eq_true rfl)⟩) hS (fun q _ h => hFc q h) hFc (fun  u t H1 locs ht hvm hw hB hz1 hk1 hS => ?_)
  obtain ⟨g0_2002, hP1, hK1, hD1⟩ := hB
  rw [ht] at hP1
  have hK1 := va_K.moved hvm.symm hK1
  obtain ⟨hP, hD⟩ := va_join (wr := []) (w1 := [(h0, .inr (11, [.ref q_1, .int 8, .int (-1), .ref q_3, .ref q_21, .ref q_39, .int 0, .ref q_52, .int 0, .ref q_60, .ref q_66, .ref q_73, .ref q_79, .ref q_84, .ref q_92, .ref q_102, .ref q_107])), (q_1, .inl (cA_2, 8192, .inl g0_2002))]) hP hD [0, 1] [] rfl rfl (by decide) (by decide) hk1 hFc hP1 hD1
  have hK := (hK.sub (tys' := []) [] rfl).app hK1
  generalize H1 = H at hP hS ⊢
  have hP : va_P (dC, dI) vwP [(h0, .inr (11, [.ref q_1, .int 8, .int (-1), .ref q_3, .ref q_21, .ref q_39, .int 0, .ref q_52, .int 0, .ref q_60, .ref q_66, .ref q_73, .ref q_79, .ref q_84, .ref q_92, .ref q_102, .ref q_107])), (q_1, .inl (cA_2, 8192, .inl g0_2002))] H := hP
  have hD : va_D A [(h0, .inr (11, [.ref q_1, .int 8, .int (-1), .ref q_3, .ref q_21, .ref q_39, .int 0, .ref q_52, .int 0, .ref q_60, .ref q_66, .ref q_73, .ref q_79, .ref q_84, .ref q_92, .ref q_102, .ref q_107])), (q_1, .inl (cA_2, 8192, .inl g0_2002))] := hD
  have hK : va_K (dC, dI) vwP [(cA_2, .byte)] s := hK
  refine W.widen (k := 0) (n := 0) (Nat.le_of_ble_eq_true rfl) (Nat.le_of_ble_eq_true rfl) ?_
  refine lv_aload_n hx hb dX11_feed_33 rfl (lv_at hl 0 rfl) ?_
  refine lv_iload_n hx hb dX11_feed_34 rfl (lv_at hl 3 rfl) ?_
  have hPc := hP.sub (ws' := [(h0, .inr (11, [.ref q_1, .int 8, .int (-1), .ref q_3, .ref q_21, .ref q_39, .int 0, .ref q_52, .int 0, .ref q_60, .ref q_66, .ref q_73, .ref q_79, .ref q_84, .ref q_92, .ref q_102, .ref q_107])), (q_1, .inl (cA_2, 8192, .inl g0_2002))]) [0, 1] rfl
  have hDc := hD.sub (ws' := [(h0, .inr (11, [.ref q_1, .int 8, .int (-1), .ref q_3, .ref q_21, .ref q_39, .int 0, .ref q_52, .int 0, .ref q_60, .ref q_66, .ref q_73, .ref q_79, .ref q_84, .ref q_92, .ref q_102, .ref q_107])), (q_1, .inl (cA_2, 8192, .inl g0_2002))]) [0, 1] (by decide) rfl
  have hKc := hK.sub (tys' := [(cA_2, .byte)]) [0] rfl
  have hFc := va_free (wc := [(h0, .inr (11, [.ref q_1, .int 8, .int (-1), .ref q_3, .ref q_21, .ref q_39, .int 0, .ref q_52, .int 0, .ref q_60, .ref q_66, .ref q_73, .ref q_79, .ref q_84, .ref q_92, .ref q_102, .ref q_107])), (q_1, .inl (cA_2, 8192, .inl g0_2002))]) hD hS hA [0, 1] rfl
  refine va_callv (va_runV (As := [.int p2]) (rest := []) ⟨hx, hb, hml, hown, hts⟩ (c_X11_put8 l dC dI h0 q_1 q_3 q_21 q_39 q_52 q_60 q_66 q_73 q_79 q_84 q_92 q_102 q_107 cA_2 g0_2002 p2 H.size) (cwV 1 hts g_X11_feed_X11_put8 rfl rfl rfl (by decide +kernel) ⟨(Nat.le_of_ble_eq_true rfl), (Nat.le_of_ble_eq_true rfl)⟩) ⟨fun a U g mk q => by obtain ⟨q0, q1, qP, qK, qD⟩ := q; exact ⟨q0, q1, qP, va_K.moved (u := U) (U := U.calling g mk a) (Vm.Alike.refl U.vm) qK, qD⟩, va_recv hKc hPc (ci := 11) (q0 := 0) rfl rfl, fun U hU hW => ⟨rfl, by rw [hU], by rw [hU]; exact hPc, va_K.moved hW.alike hKc, hDc.weaken (fun _ _ _ _ => trivial)⟩⟩ rfl rfl hl.1 rfl (lv_room (Nat.le_of_ble_eq_true rfl)) dX11_feed_35 ⟨(Nat.le_of_ble_eq_true rfl), (Nat.le_of_ble_eq_true rfl)⟩) hS (fun q _ h => hFc q h) hFc (fun  u t H1 locs ht hvm hw hB hz1 hk1 hS => ?_)
  obtain ⟨g0_2003, hP1, hK1, hD1⟩ := hB
  rw [ht] at hP1
  have hK1 := va_K.moved hvm.symm hK1
  obtain ⟨hP, hD⟩ := va_join (wr := []) (w1 := [(h0, .inr (11, [.ref q_1, .int 12, .int (-1), .ref q_3, .ref q_21, .ref q_39, .int 0, .ref q_52, .int 0, .ref q_60, .ref q_66, .ref q_73, .ref q_79, .ref q_84, .ref q_92, .ref q_102, .ref q_107])), (q_1, .inl (cA_2, 8192, .inl g0_2003))]) hP hD [0, 1] [] rfl rfl (by decide) (by decide) hk1 hFc hP1 hD1
  have hK := (hK.sub (tys' := []) [] rfl).app hK1
  generalize H1 = H at hP hS ⊢
  have hP : va_P (dC, dI) vwP [(h0, .inr (11, [.ref q_1, .int 12, .int (-1), .ref q_3, .ref q_21, .ref q_39, .int 0, .ref q_52, .int 0, .ref q_60, .ref q_66, .ref q_73, .ref q_79, .ref q_84, .ref q_92, .ref q_102, .ref q_107])), (q_1, .inl (cA_2, 8192, .inl g0_2003))] H := hP
  have hD : va_D A [(h0, .inr (11, [.ref q_1, .int 12, .int (-1), .ref q_3, .ref q_21, .ref q_39, .int 0, .ref q_52, .int 0, .ref q_60, .ref q_66, .ref q_73, .ref q_79, .ref q_84, .ref q_92, .ref q_102, .ref q_107])), (q_1, .inl (cA_2, 8192, .inl g0_2003))] := hD
  have hK : va_K (dC, dI) vwP [(cA_2, .byte)] s := hK
  refine W.widen (k := 0) (n := 0) (Nat.le_of_ble_eq_true rfl) (Nat.le_of_ble_eq_true rfl) ?_
  refine lv_aload_n hx hb dX11_feed_38 rfl (lv_at hl 0 rfl) ?_
  refine lv_iload hx hb dX11_feed_39 (lv_at hl 4 rfl) ?_
  have hPc := hP.sub (ws' := [(h0, .inr (11, [.ref q_1, .int 12, .int (-1), .ref q_3, .ref q_21, .ref q_39, .int 0, .ref q_52, .int 0, .ref q_60, .ref q_66, .ref q_73, .ref q_79, .ref q_84, .ref q_92, .ref q_102, .ref q_107])), (q_1, .inl (cA_2, 8192, .inl g0_2003))]) [0, 1] rfl
  have hDc := hD.sub (ws' := [(h0, .inr (11, [.ref q_1, .int 12, .int (-1), .ref q_3, .ref q_21, .ref q_39, .int 0, .ref q_52, .int 0, .ref q_60, .ref q_66, .ref q_73, .ref q_79, .ref q_84, .ref q_92, .ref q_102, .ref q_107])), (q_1, .inl (cA_2, 8192, .inl g0_2003))]) [0, 1] (by decide) rfl
  have hKc := hK.sub (tys' := [(cA_2, .byte)]) [0] rfl
  have hFc := va_free (wc := [(h0, .inr (11, [.ref q_1, .int 12, .int (-1), .ref q_3, .ref q_21, .ref q_39, .int 0, .ref q_52, .int 0, .ref q_60, .ref q_66, .ref q_73, .ref q_79, .ref q_84, .ref q_92, .ref q_102, .ref q_107])), (q_1, .inl (cA_2, 8192, .inl g0_2003))]) hD hS hA [0, 1] rfl
  refine va_callv (va_runV (As := [.int p3]) (rest := []) ⟨hx, hb, hml, hown, hts⟩ (c_X11_put12 l dC dI h0 q_1 q_3 q_21 q_39 q_52 q_60 q_66 q_73 q_79 q_84 q_92 q_102 q_107 cA_2 g0_2003 p3 H.size) (cwV 1 hts g_X11_feed_X11_put12 rfl rfl rfl (by decide +kernel) ⟨(Nat.le_of_ble_eq_true rfl), (Nat.le_of_ble_eq_true rfl)⟩) ⟨fun a U g mk q => by obtain ⟨q0, q1, qP, qK, qD⟩ := q; exact ⟨q0, q1, qP, va_K.moved (u := U) (U := U.calling g mk a) (Vm.Alike.refl U.vm) qK, qD⟩, va_recv hKc hPc (ci := 11) (q0 := 0) rfl rfl, fun U hU hW => ⟨rfl, by rw [hU], by rw [hU]; exact hPc, va_K.moved hW.alike hKc, hDc.weaken (fun _ _ _ _ => trivial)⟩⟩ rfl rfl hl.1 rfl (lv_room (Nat.le_of_ble_eq_true rfl)) dX11_feed_41 ⟨(Nat.le_of_ble_eq_true rfl), (Nat.le_of_ble_eq_true rfl)⟩) hS (fun q _ h => hFc q h) hFc (fun  u t H1 locs ht hvm hw hB hz1 hk1 hS => ?_)
  obtain ⟨g0_2004, hP1, hK1, hD1⟩ := hB
  rw [ht] at hP1
  have hK1 := va_K.moved hvm.symm hK1
  obtain ⟨hP, hD⟩ := va_join (wr := []) (w1 := [(h0, .inr (11, [.ref q_1, .int 16, .int (-1), .ref q_3, .ref q_21, .ref q_39, .int 0, .ref q_52, .int 0, .ref q_60, .ref q_66, .ref q_73, .ref q_79, .ref q_84, .ref q_92, .ref q_102, .ref q_107])), (q_1, .inl (cA_2, 8192, .inl g0_2004))]) hP hD [0, 1] [] rfl rfl (by decide) (by decide) hk1 hFc hP1 hD1
  have hK := (hK.sub (tys' := []) [] rfl).app hK1
  generalize H1 = H at hP hS ⊢
  have hP : va_P (dC, dI) vwP [(h0, .inr (11, [.ref q_1, .int 16, .int (-1), .ref q_3, .ref q_21, .ref q_39, .int 0, .ref q_52, .int 0, .ref q_60, .ref q_66, .ref q_73, .ref q_79, .ref q_84, .ref q_92, .ref q_102, .ref q_107])), (q_1, .inl (cA_2, 8192, .inl g0_2004))] H := hP
  have hD : va_D A [(h0, .inr (11, [.ref q_1, .int 16, .int (-1), .ref q_3, .ref q_21, .ref q_39, .int 0, .ref q_52, .int 0, .ref q_60, .ref q_66, .ref q_73, .ref q_79, .ref q_84, .ref q_92, .ref q_102, .ref q_107])), (q_1, .inl (cA_2, 8192, .inl g0_2004))] := hD
  have hK : va_K (dC, dI) vwP [(cA_2, .byte)] s := hK
  refine W.widen (k := 0) (n := 0) (Nat.le_of_ble_eq_true rfl) (Nat.le_of_ble_eq_true rfl) ?_
  refine lv_aload_n hx hb dX11_feed_44 rfl (lv_at hl 0 rfl) ?_
  refine lv_iload hx hb dX11_feed_45 (lv_at hl 5 rfl) ?_
  have hPc := hP.sub (ws' := [(h0, .inr (11, [.ref q_1, .int 16, .int (-1), .ref q_3, .ref q_21, .ref q_39, .int 0, .ref q_52, .int 0, .ref q_60, .ref q_66, .ref q_73, .ref q_79, .ref q_84, .ref q_92, .ref q_102, .ref q_107])), (q_1, .inl (cA_2, 8192, .inl g0_2004))]) [0, 1] rfl
  have hDc := hD.sub (ws' := [(h0, .inr (11, [.ref q_1, .int 16, .int (-1), .ref q_3, .ref q_21, .ref q_39, .int 0, .ref q_52, .int 0, .ref q_60, .ref q_66, .ref q_73, .ref q_79, .ref q_84, .ref q_92, .ref q_102, .ref q_107])), (q_1, .inl (cA_2, 8192, .inl g0_2004))]) [0, 1] (by decide) rfl
  have hKc := hK.sub (tys' := [(cA_2, .byte)]) [0] rfl
  have hFc := va_free (wc := [(h0, .inr (11, [.ref q_1, .int 16, .int (-1), .ref q_3, .ref q_21, .ref q_39, .int 0, .ref q_52, .int 0, .ref q_60, .ref q_66, .ref q_73, .ref q_79, .ref q_84, .ref q_92, .ref q_102, .ref q_107])), (q_1, .inl (cA_2, 8192, .inl g0_2004))]) hD hS hA [0, 1] rfl
  refine va_callv (va_runV (As := [.int p4]) (rest := []) ⟨hx, hb, hml, hown, hts⟩ (c_X11_put16 l dC dI h0 q_1 q_3 q_21 q_39 q_52 q_60 q_66 q_73 q_79 q_84 q_92 q_102 q_107 cA_2 g0_2004 p4 H.size) (cwV 1 hts g_X11_feed_X11_put16 rfl rfl rfl (by decide +kernel) ⟨(Nat.le_of_ble_eq_true rfl), (Nat.le_of_ble_eq_true rfl)⟩) ⟨fun a U g mk q => by obtain ⟨q0, q1, qP, qK, qD⟩ := q; exact ⟨q0, q1, qP, va_K.moved (u := U) (U := U.calling g mk a) (Vm.Alike.refl U.vm) qK, qD⟩, va_recv hKc hPc (ci := 11) (q0 := 0) rfl rfl, fun U hU hW => ⟨rfl, by rw [hU], by rw [hU]; exact hPc, va_K.moved hW.alike hKc, hDc.weaken (fun _ _ _ _ => trivial)⟩⟩ rfl rfl hl.1 rfl (lv_room (Nat.le_of_ble_eq_true rfl)) dX11_feed_47 ⟨(Nat.le_of_ble_eq_true rfl), (Nat.le_of_ble_eq_true rfl)⟩) hS (fun q _ h => hFc q h) hFc (fun  u t H1 locs ht hvm hw hB hz1 hk1 hS => ?_)
  obtain ⟨g0_2005, hP1, hK1, hD1⟩ := hB
  rw [ht] at hP1
  have hK1 := va_K.moved hvm.symm hK1
  obtain ⟨hP, hD⟩ := va_join (wr := []) (w1 := [(h0, .inr (11, [.ref q_1, .int 20, .int (-1), .ref q_3, .ref q_21, .ref q_39, .int 0, .ref q_52, .int 0, .ref q_60, .ref q_66, .ref q_73, .ref q_79, .ref q_84, .ref q_92, .ref q_102, .ref q_107])), (q_1, .inl (cA_2, 8192, .inl g0_2005))]) hP hD [0, 1] [] rfl rfl (by decide) (by decide) hk1 hFc hP1 hD1
  have hK := (hK.sub (tys' := []) [] rfl).app hK1
  generalize H1 = H at hP hS ⊢
  have hP : va_P (dC, dI) vwP [(h0, .inr (11, [.ref q_1, .int 20, .int (-1), .ref q_3, .ref q_21, .ref q_39, .int 0, .ref q_52, .int 0, .ref q_60, .ref q_66, .ref q_73, .ref q_79, .ref q_84, .ref q_92, .ref q_102, .ref q_107])), (q_1, .inl (cA_2, 8192, .inl g0_2005))] H := hP
  have hD : va_D A [(h0, .inr (11, [.ref q_1, .int 20, .int (-1), .ref q_3, .ref q_21, .ref q_39, .int 0, .ref q_52, .int 0, .ref q_60, .ref q_66, .ref q_73, .ref q_79, .ref q_84, .ref q_92, .ref q_102, .ref q_107])), (q_1, .inl (cA_2, 8192, .inl g0_2005))] := hD
  have hK : va_K (dC, dI) vwP [(cA_2, .byte)] s := hK
  refine W.widen (k := 0) (n := 0) (Nat.le_of_ble_eq_true rfl) (Nat.le_of_ble_eq_true rfl) ?_
  refine lv_aload_n hx hb dX11_feed_50 rfl (lv_at hl 0 rfl) ?_
  refine va_get (D := (dC, dI)) (ci := 11) (v := .int 20) (C := RX11) (T := TX11) (N := 17) hx hb hts mem_X11_feed_0 hown hK hP 0 rfl rfl 1 (by decide) (ow (k := 0) rfl) (fun _ h9 => h9) rfl dX11_feed_51 ?_
  have hP := hP.sub (ws' := []) [] rfl
  have hD := hD.sub (ws' := []) [] (by decide) rfl
  have hK := hK.sub (tys' := []) [] rfl
  refine W.widen (k := 0) (n := 0) (Nat.le_of_ble_eq_true rfl) (Nat.le_of_ble_eq_true rfl) ?_
  exact W.iret (v := 20) hx hb hr (fun t ht hW => ⟨⟨20, (), rfl, rfl, by rw [ht]; exact hP, va_K.moved hW.alike hK, hD⟩, hS.F ht⟩) hS.2.2 dX11_feed_54
