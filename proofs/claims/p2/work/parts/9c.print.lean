theorem dX6_putByte_0 : decode cX6_putByte 0 = .ok (.aload_n 0, 1) := by decide +kernel
theorem dX6_putByte_1 : decode cX6_putByte 1 = .ok (.getfield 23, 3) := by decide +kernel
theorem dX6_putByte_4 : decode cX6_putByte 4 = .ok (.ifCond .eq 26, 3) := by decide +kernel
theorem dX6_putByte_30 : decode cX6_putByte 30 = .ok (.aload_n 0, 1) := by decide +kernel
theorem dX6_putByte_31 : decode cX6_putByte 31 = .ok (.dup, 1) := by decide +kernel
theorem dX6_putByte_32 : decode cX6_putByte 32 = .ok (.getfield 27, 3) := by decide +kernel
theorem dX6_putByte_35 : decode cX6_putByte 35 = .ok (.iconst 1, 1) := by decide +kernel
theorem dX6_putByte_36 : decode cX6_putByte 36 = .ok (.iadd, 1) := by decide +kernel
theorem dX6_putByte_37 : decode cX6_putByte 37 = .ok (.putfield 27, 3) := by decide +kernel
theorem dX6_putByte_40 : decode cX6_putByte 40 = .ok (.return_, 1) := by decide +kernel
theorem dX6_putByte_7 : decode cX6_putByte 7 = .ok (.aload_n 0, 1) := by decide +kernel
theorem dX6_putByte_8 : decode cX6_putByte 8 = .ok (.getfield 27, 3) := by decide +kernel
theorem dX6_putByte_11 : decode cX6_putByte 11 = .ok (.aload_n 0, 1) := by decide +kernel
theorem dX6_putByte_12 : decode cX6_putByte 12 = .ok (.getfield 15, 3) := by decide +kernel
theorem dX6_putByte_15 : decode cX6_putByte 15 = .ok (.arraylength, 1) := by decide +kernel
theorem dX6_putByte_16 : decode cX6_putByte 16 = .ok (.if_icmp .ge 14, 3) := by decide +kernel
theorem dX6_putByte_19 : decode cX6_putByte 19 = .ok (.aload_n 0, 1) := by decide +kernel
theorem dX6_putByte_20 : decode cX6_putByte 20 = .ok (.getfield 15, 3) := by decide +kernel
theorem dX6_putByte_23 : decode cX6_putByte 23 = .ok (.aload_n 0, 1) := by decide +kernel
theorem dX6_putByte_24 : decode cX6_putByte 24 = .ok (.getfield 27, 3) := by decide +kernel
theorem dX6_putByte_27 : decode cX6_putByte 27 = .ok (.iload_n 1, 1) := by decide +kernel
theorem dX6_putByte_28 : decode cX6_putByte 28 = .ok (.i2b, 1) := by decide +kernel
theorem dX6_putByte_29 : decode cX6_putByte 29 = .ok (.bastore, 1) := by decide +kernel
def o_X6_putByte : List Cond := [.fieldLink RX6 23 "SsaForge$Printer" "keeping" "Z", .fieldLink RX6 27 "SsaForge$Printer" "at" "I", .fieldLink RX6 15 "SsaForge$Printer" "result" "[B"]
def v_X6_putByte : List Cond := .code yX6_putByte cX6_putByte 2 none :: (o_X6_putByte ++ (wsX60 ++ []))
theorem mow_X6_putByte : ∀ w ∈ o_X6_putByte, w ∈ v_X6_putByte := fun _ h => List.mem_cons_of_mem _ (List.mem_append_left _ h)
theorem mem_X6_putByte_0 : ∀ w ∈ wsX60, w ∈ v_X6_putByte := fun _ h => List.mem_cons_of_mem _ (List.mem_append_right _ (List.mem_append_left _ h))
set_option maxRecDepth 20000 in
theorem gw_X6_putByte : v_X6_putByte.all goodWord = true := by decide +kernel
set_option maxHeartbeats 4000000 in
set_option maxRecDepth 100000 in
theorem c_X6_putByte (l : Launch) (dC : Nat → ClassId) (dI : Nat → Nat → Nat) (h0 : Nat) (v6_0 : Value) (v6_2 : Value) (z6_keeping : Int) (z6_at : Int) (q_601 : Nat) (cA_601 : ClassId) (ny6 : Nat) (fa6_result : Nat → Int32) (p0 : Int32) (hNz6_keeping : 0 ≤ z6_keeping ∧ z6_keeping ≤ 1) (hNz6_at : 0 ≤ z6_at ∧ z6_at ≤ 200000000) (hNny6 : ny6 ≤ 65536) (hNa : z6_at < 200000000) (sz : Nat) : Met l yX6_putByte v_X6_putByte ({ frames := 0, cells := 0, slots := 0, locals := 0 }) (va_Pc [.ref h0, .int p0] (fun U => U.heap.size = sz ∧ va_P (dC, dI) vwP [(h0, .inr (6, [v6_0, .ref q_601, v6_2, .int (zI (z6_keeping)), .int (zI (z6_at))])), (q_601, .inl (cA_601, ny6, .inl fa6_result))] U.heap ∧ va_K (dC, dI) vwP [(cA_601, .byte)] U ∧ va_D (fun _ => True) [(h0, .inr (6, [v6_0, .ref q_601, v6_2, .int (zI (z6_keeping)), .int (zI (z6_at))])), (q_601, .inl (cA_601, ny6, .inl fa6_result))])) (va_Qv (fun _ : Unit => True) (fun (_ : Unit) (t : State) => ∃ (z0_9 : Int) (g1_9 : Nat → Int32), ((0 ≤ z0_9 ∧ z0_9 ≤ 200000000) ∧ (z0_9 = z6_at + 1)) ∧ va_P (dC, dI) vwP [(h0, .inr (6, [v6_0, .ref q_601, v6_2, .int (zI (z6_keeping)), .int (zI (z0_9))])), (q_601, .inl (cA_601, ny6, .inl g1_9))] t.heap ∧ va_K (dC, dI) vwP [(cA_601, .byte)] t ∧ va_D (va_A [(h0, .inr (6, [v6_0, .ref q_601, v6_2, .int (zI (z6_keeping)), .int (zI (z6_at))])), (q_601, .inl (cA_601, ny6, .inl fa6_result))] sz) [(h0, .inr (6, [v6_0, .ref q_601, v6_2, .int (zI (z6_keeping)), .int (zI (z0_9))])), (q_601, .inl (cA_601, ny6, .inl g1_9))]) (va_A [(h0, .inr (6, [v6_0, .ref q_601, v6_2, .int (zI (z6_keeping)), .int (zI (z6_at))])), (q_601, .inl (cA_601, ny6, .inl fa6_result))] sz)) 0 0 (va_A [(h0, .inr (6, [v6_0, .ref q_601, v6_2, .int (zI (z6_keeping)), .int (zI (z6_at))])), (q_601, .inl (cA_601, ny6, .inl fa6_result))] sz) := by
  refine Met.ofW (cc := cX6_putByte) (maxL := 2) (ret := none) (by decide) rfl ?_
  intro p e s m args below meth c s₁ B hml hv
  obtain ⟨rfl, hsz, hP, hK, hD0⟩ := hv
  have hx := B.exec
  have hb := B.bytes
  have hr := B.returns
  have hts := atoms_spec (ws := v_X6_putByte) B.pre
  have hown : s.vm.findClass RX6 = some m.cls := findClass_of_methodNamed B.named
  have hlocks := B.notSynchronized
  have ow : ∀ {k : Nat} {w : Cond}, o_X6_putByte[k]? = some w → w.before ([.ref h0, .int p0] : List Value).toArray s = true := fun h => hts _ (mow_X6_putByte _ (List.mem_of_getElem? h))
  subst hsz
  have hD := hD0.self (sz := s.heap.size)
  generalize hAe : va_A [(h0, .inr (6, [v6_0, .ref q_601, v6_2, .int (zI (z6_keeping)), .int (zI (z6_at))])), (q_601, .inl (cA_601, ny6, .inl fa6_result))] s.heap.size = A at hD ⊢
  have hA : ∀ q : Nat, s.heap.size ≤ q → A q := fun q h => by rw [← hAe]; exact Or.inr h
  have hS : va_S A s.heap s.heap [] := va_S.rf
  have hP : va_P (dC, dI) vwP [(h0, .inr (6, [v6_0, .ref q_601, v6_2, .int (zI (z6_keeping)), .int (zI (z6_at))])), (q_601, .inl (cA_601, ny6, .inl fa6_result))] s.heap := hP
  have hl := lv_entry ([.ref h0, .int p0]) (n := 2) (Nat.le_of_ble_eq_true rfl)
  rw [lg_entry_eq]
  generalize (lg_sl ([.ref h0, .int p0]) ++ List.replicate (2 - (lg_sl ([.ref h0, .int p0])).length) Slot.unset).toArray = ls at hl ⊢
  have hl : lv_has ls 2 [(0, .ref h0), (1, .int p0)] := hl
  obtain ⟨H, hH⟩ : ∃ H, H = s.heap := ⟨_, rfl⟩
  rw [← hH] at hP
  have hS : va_S A s.heap H [] := by rw [hH]; exact hS
  rw [← hH]
  refine zW_cap (fun Q hQ => ?_)
  refine lv_aload_n hx hb dX6_putByte_0 rfl (lv_at hl 0 rfl) ?_
  refine va_get (D := (dC, dI)) (ci := 6) (v := .int (zI (z6_keeping))) (C := RX6) (T := TX6) (N := 5) hx hb hts mem_X6_putByte_0 hown hK hP 0 rfl rfl 3 (by decide) (ow (k := 0) rfl) (fun _ h9 => h9) rfl dX6_putByte_1 ?_
  refine lv_if_eq (tgt := 30) hx hb dX6_putByte_4 (by decide) (fun b4 => ?_) (fun b4 => ?_)
  · have yb4 : (z6_keeping : Int) = (0 : Int) := (zI_eq (a := z6_keeping) (b := 0) (by omega) (by omega) (by omega) (by omega)).mp b4
    refine lv_aload_n hx hb dX6_putByte_30 rfl (lv_at hl 0 rfl) ?_
    refine lv_dup hx hb dX6_putByte_31 rfl ?_
    refine va_get (D := (dC, dI)) (ci := 6) (v := .int (zI (z6_at))) (C := RX6) (T := TX6) (N := 5) hx hb hts mem_X6_putByte_0 hown hK hP 0 rfl rfl 4 (by decide) (ow (k := 1) rfl) (fun _ h9 => h9) rfl dX6_putByte_32 ?_
    refine lv_iconst (v := 1) hx hb dX6_putByte_35 (by decide) ?_
    refine lv_iadd hx hb dX6_putByte_36 ?_
    refine lv_topi (fun z ez => ?_)
    obtain rfl : z = zI (z6_at + 1) := ez.trans (zI_add (z6_at) (1))
    refine va_put (D := (dC, dI)) (ci := 6) (v := .int (zI (z6_at + 1))) (ty := .int) (C := RX6) (T := TX6) (N := 5) hx hb hts mem_X6_putByte_0 tyX6 tyX6_ok nmX6 hown hK hP hD hS 0 rfl rfl 4 (by decide) (ow (k := 1) rfl) (fun _ h9 => h9) rfl (by decide +kernel) rfl rfl (Nat.le_of_ble_eq_true rfl) dX6_putByte_37 (fun H locs hP hD hS => ?_)
    have hP : va_P (dC, dI) vwP [(h0, .inr (6, [v6_0, .ref q_601, v6_2, .int (zI (z6_keeping)), .int (zI (z6_at + 1))])), (q_601, .inl (cA_601, ny6, .inl fa6_result))] H := hP
    have hD : va_D A [(h0, .inr (6, [v6_0, .ref q_601, v6_2, .int (zI (z6_keeping)), .int (zI (z6_at + 1))])), (q_601, .inl (cA_601, ny6, .inl fa6_result))] := hD
    obtain ⟨z_2001, ez_2001⟩ : ∃ z9 : Int, z9 = z6_at + 1 := ⟨_, rfl⟩
    rw [← ez_2001] at hP hD
    have hP : va_P (dC, dI) vwP [(h0, .inr (6, [v6_0, .ref q_601, v6_2, .int (zI (z6_keeping)), .int (zI (z_2001))])), (q_601, .inl (cA_601, ny6, .inl fa6_result))] H := hP
    have hD : va_D A [(h0, .inr (6, [v6_0, .ref q_601, v6_2, .int (zI (z6_keeping)), .int (zI (z_2001))])), (q_601, .inl (cA_601, ny6, .inl fa6_result))] := hD
    subst hQ
    refine W.widen (k := 0) (n := 0) (Nat.le_of_ble_eq_true rfl) (Nat.le_of_ble_eq_true rfl) ?_
    exact W.vret hx hb hr (fun t ht hW => ⟨⟨(), rfl, trivial, z_2001, fa6_result, ⟨(by omega), (by omega)⟩, by rw [ht]; exact hP, va_K.moved hW.alike hK, hD⟩, hS.F ht⟩) hS.2.2 dX6_putByte_40
  · have yb4 : ¬ (z6_keeping : Int) = (0 : Int) := fun q => b4 ((zI_eq (a := z6_keeping) (b := 0) (by omega) (by omega) (by omega) (by omega)).mpr q)
    refine lv_aload_n hx hb dX6_putByte_7 rfl (lv_at hl 0 rfl) ?_
    refine va_get (D := (dC, dI)) (ci := 6) (v := .int (zI (z6_at))) (C := RX6) (T := TX6) (N := 5) hx hb hts mem_X6_putByte_0 hown hK hP 0 rfl rfl 4 (by decide) (ow (k := 1) rfl) (fun _ h9 => h9) rfl dX6_putByte_8 ?_
    refine lv_aload_n hx hb dX6_putByte_11 rfl (lv_at hl 0 rfl) ?_
    refine va_get (D := (dC, dI)) (ci := 6) (v := .ref q_601) (C := RX6) (T := TX6) (N := 5) hx hb hts mem_X6_putByte_0 hown hK hP 0 rfl rfl 1 (by decide) (ow (k := 2) rfl) (fun _ h9 => h9) rfl dX6_putByte_12 ?_
    refine va_alen (v := zI ((ny6 : Int))) hx hb hK hP 1 0 rfl rfl (zI_ofNat ny6) dX6_putByte_15 ?_
    refine lv_icmp_ge (tgt := 30) hx hb dX6_putByte_16 (by decide) (fun b16 => ?_) (fun b16 => ?_)
    · have yb16 : ((ny6 : Int) : Int) ≤ (z6_at : Int) := (zI_le (a := (ny6 : Int)) (b := z6_at) (by omega) (by omega) (by omega) (by omega)).mp b16
      refine lv_aload_n hx hb dX6_putByte_30 rfl (lv_at hl 0 rfl) ?_
      refine lv_dup hx hb dX6_putByte_31 rfl ?_
      refine va_get (D := (dC, dI)) (ci := 6) (v := .int (zI (z6_at))) (C := RX6) (T := TX6) (N := 5) hx hb hts mem_X6_putByte_0 hown hK hP 0 rfl rfl 4 (by decide) (ow (k := 1) rfl) (fun _ h9 => h9) rfl dX6_putByte_32 ?_
      refine lv_iconst (v := 1) hx hb dX6_putByte_35 (by decide) ?_
      refine lv_iadd hx hb dX6_putByte_36 ?_
      refine lv_topi (fun z ez => ?_)
      obtain rfl : z = zI (z6_at + 1) := ez.trans (zI_add (z6_at) (1))
      refine va_put (D := (dC, dI)) (ci := 6) (v := .int (zI (z6_at + 1))) (ty := .int) (C := RX6) (T := TX6) (N := 5) hx hb hts mem_X6_putByte_0 tyX6 tyX6_ok nmX6 hown hK hP hD hS 0 rfl rfl 4 (by decide) (ow (k := 1) rfl) (fun _ h9 => h9) rfl (by decide +kernel) rfl rfl (Nat.le_of_ble_eq_true rfl) dX6_putByte_37 (fun H locs hP hD hS => ?_)
      have hP : va_P (dC, dI) vwP [(h0, .inr (6, [v6_0, .ref q_601, v6_2, .int (zI (z6_keeping)), .int (zI (z6_at + 1))])), (q_601, .inl (cA_601, ny6, .inl fa6_result))] H := hP
      have hD : va_D A [(h0, .inr (6, [v6_0, .ref q_601, v6_2, .int (zI (z6_keeping)), .int (zI (z6_at + 1))])), (q_601, .inl (cA_601, ny6, .inl fa6_result))] := hD
      obtain ⟨z_2002, ez_2002⟩ : ∃ z9 : Int, z9 = z6_at + 1 := ⟨_, rfl⟩
      rw [← ez_2002] at hP hD
      have hP : va_P (dC, dI) vwP [(h0, .inr (6, [v6_0, .ref q_601, v6_2, .int (zI (z6_keeping)), .int (zI (z_2002))])), (q_601, .inl (cA_601, ny6, .inl fa6_result))] H := hP
      have hD : va_D A [(h0, .inr (6, [v6_0, .ref q_601, v6_2, .int (zI (z6_keeping)), .int (zI (z_2002))])), (q_601, .inl (cA_601, ny6, .inl fa6_result))] := hD
      subst hQ
      refine W.widen (k := 0) (n := 0) (Nat.le_of_ble_eq_true rfl) (Nat.le_of_ble_eq_true rfl) ?_
      exact W.vret hx hb hr (fun t ht hW => ⟨⟨(), rfl, trivial, z_2002, fa6_result, ⟨(by omega), (by omega)⟩, by rw [ht]; exact hP, va_K.moved hW.alike hK, hD⟩, hS.F ht⟩) hS.2.2 dX6_putByte_40
    · have yb16 : ¬ ((ny6 : Int) : Int) ≤ (z6_at : Int) := fun q => b16 ((zI_le (a := (ny6 : Int)) (b := z6_at) (by omega) (by omega) (by omega) (by omega)).mpr q)
      refine lv_aload_n hx hb dX6_putByte_19 rfl (lv_at hl 0 rfl) ?_
      refine va_get (D := (dC, dI)) (ci := 6) (v := .ref q_601) (C := RX6) (T := TX6) (N := 5) hx hb hts mem_X6_putByte_0 hown hK hP 0 rfl rfl 1 (by decide) (ow (k := 2) rfl) (fun _ h9 => h9) rfl dX6_putByte_20 ?_
      refine lv_aload_n hx hb dX6_putByte_23 rfl (lv_at hl 0 rfl) ?_
      refine va_get (D := (dC, dI)) (ci := 6) (v := .int (zI (z6_at))) (C := RX6) (T := TX6) (N := 5) hx hb hts mem_X6_putByte_0 hown hK hP 0 rfl rfl 4 (by decide) (ow (k := 1) rfl) (fun _ h9 => h9) rfl dX6_putByte_24 ?_
      refine lv_iload_n hx hb dX6_putByte_27 rfl (lv_at hl 1 rfl) ?_
      refine lv_i2b hx hb dX6_putByte_28 rfl ?_
      refine va_bast (i := zI (z6_at)) hx hb hK hP hD hS 1 0 rfl rfl (zI_in (a := z6_at) (n := ny6) (by omega) (by omega) (by omega)) dX6_putByte_29 (fun H locs hP hD hS => ?_)
      have hP : va_P (dC, dI) vwP [(h0, .inr (6, [v6_0, .ref q_601, v6_2, .int (zI (z6_keeping)), .int (zI (z6_at))])), (q_601, .inl (cA_601, ny6, .inl (upd fa6_result (zI (z6_at)).toNatClampNeg (vp_nar .byte (p0.toInt8.toInt32)))))] H := hP
      have hD : va_D A [(h0, .inr (6, [v6_0, .ref q_601, v6_2, .int (zI (z6_keeping)), .int (zI (z6_at))])), (q_601, .inl (cA_601, ny6, .inl (upd fa6_result (zI (z6_at)).toNatClampNeg (vp_nar .byte (p0.toInt8.toInt32)))))] := hD
      generalize (upd fa6_result (zI (z6_at)).toNatClampNeg (vp_nar .byte (p0.toInt8.toInt32))) = f_2003 at hP hD
      have hP : va_P (dC, dI) vwP [(h0, .inr (6, [v6_0, .ref q_601, v6_2, .int (zI (z6_keeping)), .int (zI (z6_at))])), (q_601, .inl (cA_601, ny6, .inl f_2003))] H := hP
      have hD : va_D A [(h0, .inr (6, [v6_0, .ref q_601, v6_2, .int (zI (z6_keeping)), .int (zI (z6_at))])), (q_601, .inl (cA_601, ny6, .inl f_2003))] := hD
      refine lv_aload_n hx hb dX6_putByte_30 rfl (lv_at hl 0 rfl) ?_
      refine lv_dup hx hb dX6_putByte_31 rfl ?_
      refine va_get (D := (dC, dI)) (ci := 6) (v := .int (zI (z6_at))) (C := RX6) (T := TX6) (N := 5) hx hb hts mem_X6_putByte_0 hown hK hP 0 rfl rfl 4 (by decide) (ow (k := 1) rfl) (fun _ h9 => h9) rfl dX6_putByte_32 ?_
      refine lv_iconst (v := 1) hx hb dX6_putByte_35 (by decide) ?_
      refine lv_iadd hx hb dX6_putByte_36 ?_
      refine lv_topi (fun z ez => ?_)
      obtain rfl : z = zI (z6_at + 1) := ez.trans (zI_add (z6_at) (1))
      refine va_put (D := (dC, dI)) (ci := 6) (v := .int (zI (z6_at + 1))) (ty := .int) (C := RX6) (T := TX6) (N := 5) hx hb hts mem_X6_putByte_0 tyX6 tyX6_ok nmX6 hown hK hP hD hS 0 rfl rfl 4 (by decide) (ow (k := 1) rfl) (fun _ h9 => h9) rfl (by decide +kernel) rfl rfl (Nat.le_of_ble_eq_true rfl) dX6_putByte_37 (fun H locs hP hD hS => ?_)
      have hP : va_P (dC, dI) vwP [(h0, .inr (6, [v6_0, .ref q_601, v6_2, .int (zI (z6_keeping)), .int (zI (z6_at + 1))])), (q_601, .inl (cA_601, ny6, .inl f_2003))] H := hP
      have hD : va_D A [(h0, .inr (6, [v6_0, .ref q_601, v6_2, .int (zI (z6_keeping)), .int (zI (z6_at + 1))])), (q_601, .inl (cA_601, ny6, .inl f_2003))] := hD
      obtain ⟨z_2004, ez_2004⟩ : ∃ z9 : Int, z9 = z6_at + 1 := ⟨_, rfl⟩
      rw [← ez_2004] at hP hD
      have hP : va_P (dC, dI) vwP [(h0, .inr (6, [v6_0, .ref q_601, v6_2, .int (zI (z6_keeping)), .int (zI (z_2004))])), (q_601, .inl (cA_601, ny6, .inl f_2003))] H := hP
      have hD : va_D A [(h0, .inr (6, [v6_0, .ref q_601, v6_2, .int (zI (z6_keeping)), .int (zI (z_2004))])), (q_601, .inl (cA_601, ny6, .inl f_2003))] := hD
      subst hQ
      refine W.widen (k := 0) (n := 0) (Nat.le_of_ble_eq_true rfl) (Nat.le_of_ble_eq_true rfl) ?_
      exact W.vret hx hb hr (fun t ht hW => ⟨⟨(), rfl, trivial, z_2004, f_2003, ⟨(by omega), (by omega)⟩, by rw [ht]; exact hP, va_K.moved hW.alike hK, hD⟩, hS.F ht⟩) hS.2.2 dX6_putByte_40
theorem dX6_putText_0 : decode cX6_putText 0 = .ok (.iconst 0, 1) := by decide +kernel
theorem dX6_putText_1 : decode cX6_putText 1 = .ok (.istore_n 2, 1) := by decide +kernel
theorem dX6_putText_2 : decode cX6_putText 2 = .ok (.iload_n 2, 1) := by decide +kernel
theorem dX6_putText_3 : decode cX6_putText 3 = .ok (.aload_n 1, 1) := by decide +kernel
theorem dX6_putText_4 : decode cX6_putText 4 = .ok (.invokevirtual 178, 3) := by decide +kernel
theorem dX6_putText_7 : decode cX6_putText 7 = .ok (.if_icmp .ge 18, 3) := by decide +kernel
theorem dX6_putText_25 : decode cX6_putText 25 = .ok (.return_, 1) := by decide +kernel
theorem dX6_putText_10 : decode cX6_putText 10 = .ok (.aload_n 0, 1) := by decide +kernel
theorem dX6_putText_11 : decode cX6_putText 11 = .ok (.aload_n 1, 1) := by decide +kernel
theorem dX6_putText_12 : decode cX6_putText 12 = .ok (.iload_n 2, 1) := by decide +kernel
theorem dX6_putText_13 : decode cX6_putText 13 = .ok (.invokevirtual 183, 3) := by decide +kernel
theorem dX6_putText_16 : decode cX6_putText 16 = .ok (.invokevirtual 93, 3) := by decide +kernel
theorem dX6_putText_19 : decode cX6_putText 19 = .ok (.iinc 2 1, 3) := by decide +kernel
theorem dX6_putText_22 : decode cX6_putText 22 = .ok (.goto (-20), 3) := by decide +kernel
def o_X6_putText : List Cond := [.methodLink RX6 178 yJ0_length_8abf5, .instanceMethod yJ0_length_8abf5, .selects RJ0 yJ0_length_8abf5 yJ0_length_8abf5, .initialized RJ0, .methodLink RX6 183 yJ0_charAt_5068e, .instanceMethod yJ0_charAt_5068e, .selects RJ0 yJ0_charAt_5068e yJ0_charAt_5068e, .methodLink RX6 93 yX6_putByte, .instanceMethod yX6_putByte, .selects RX6 yX6_putByte yX6_putByte, .initialized RX6]
def v_X6_putText : List Cond := .code yX6_putText cX6_putText 3 none :: (o_X6_putText ++ (v_J0_length ++ (v_J0_charAt ++ (v_X6_putByte ++ []))))
theorem mow_X6_putText : ∀ w ∈ o_X6_putText, w ∈ v_X6_putText := fun _ h => List.mem_cons_of_mem _ (List.mem_append_left _ h)
theorem mem_X6_putText_0 : ∀ w ∈ v_J0_length, w ∈ v_X6_putText := fun _ h => List.mem_cons_of_mem _ (List.mem_append_right _ (List.mem_append_left _ h))
theorem mem_X6_putText_1 : ∀ w ∈ v_J0_charAt, w ∈ v_X6_putText := fun _ h => List.mem_cons_of_mem _ (List.mem_append_right _ (List.mem_append_right _ (List.mem_append_left _ h)))
theorem mem_X6_putText_2 : ∀ w ∈ v_X6_putByte, w ∈ v_X6_putText := fun _ h => List.mem_cons_of_mem _ (List.mem_append_right _ (List.mem_append_right _ (List.mem_append_right _ (List.mem_append_left _ h))))
set_option maxRecDepth 20000 in
theorem gw_X6_putText : v_X6_putText.all goodWord = true := by decide +kernel
set_option maxRecDepth 20000 in
theorem g_X6_putText_J0_length : GoodIn v_X6_putText (wsV RX6 178 RJ0 yJ0_length_8abf5 v_J0_length) := goodIn_app (goodIn_sub (fun w h => mow_X6_putText w (by revert w h; decide +kernel)) (by decide +kernel)) (goodIn_sub mem_X6_putText_0 gw_J0_length)
set_option maxRecDepth 20000 in
theorem g_X6_putText_J0_charAt : GoodIn v_X6_putText (wsV RX6 183 RJ0 yJ0_charAt_5068e v_J0_charAt) := goodIn_app (goodIn_sub (fun w h => mow_X6_putText w (by revert w h; decide +kernel)) (by decide +kernel)) (goodIn_sub mem_X6_putText_1 gw_J0_charAt)
set_option maxRecDepth 20000 in
theorem g_X6_putText_X6_putByte : GoodIn v_X6_putText (wsV RX6 93 RX6 yX6_putByte v_X6_putByte) := goodIn_app (goodIn_sub (fun w h => mow_X6_putText w (by revert w h; decide +kernel)) (by decide +kernel)) (goodIn_sub mem_X6_putText_2 gw_X6_putByte)
set_option maxHeartbeats 4000000 in
set_option maxRecDepth 100000 in
theorem c_X6_putText (l : Launch) (dC : Nat → ClassId) (dI : Nat → Nat → Nat) (h0 : Nat) (v6_0 : Value) (v6_2 : Value) (z6_keeping : Int) (z6_at : Int) (q_601 : Nat) (cA_601 : ClassId) (ny6 : Nat) (fa6_result : Nat → Int32) (tx : Nat) (tv : Nat) (tn : Nat) (tf : Nat → Int32) (hNz6_keeping : 0 ≤ z6_keeping ∧ z6_keeping ≤ 1) (hNz6_at : 0 ≤ z6_at ∧ z6_at ≤ 200000000) (hNny6 : ny6 ≤ 65536) (hNtn : tn ≤ 100) (hNa : z6_at ≤ 190000000) (sz : Nat) (sx_fm : Nat) : Met l yX6_putText v_X6_putText ({ frames := 4, cells := 0, slots := 0, locals := 85 }) (va_Pc [.ref h0, .ref tx] (fun U => U.heap.size = sz ∧ va_P (dC, dI) vwP [(h0, .inr (6, [v6_0, .ref q_601, v6_2, .int (zI (z6_keeping)), .int (zI (z6_at))])), (q_601, .inl (cA_601, ny6, .inl fa6_result))] U.heap ∧ va_K (dC, dI) vwP [(cA_601, .byte)] U ∧ va_D (fun _ => True) [(h0, .inr (6, [v6_0, .ref q_601, v6_2, .int (zI (z6_keeping)), .int (zI (z6_at))])), (q_601, .inl (cA_601, ny6, .inl fa6_result))] ∧ vs_S tx tv tn tf (va_A [(h0, .inr (6, [v6_0, .ref q_601, v6_2, .int (zI (z6_keeping)), .int (zI (z6_at))])), (q_601, .inl (cA_601, ny6, .inl fa6_result))] sz) U U.heap ∧ va_Z "java/lang/String" "COMPACT_STRINGS" "Z" (.int 1) (va_A [(h0, .inr (6, [v6_0, .ref q_601, v6_2, .int (zI (z6_keeping)), .int (zI (z6_at))])), (q_601, .inl (cA_601, ny6, .inl fa6_result))] sz) U U.heap ∧ va_Z "jdk/internal/util/Preconditions" "SIOOBE_FORMATTER" "Ljava/util/function/BiFunction;" (.ref sx_fm) (va_A [(h0, .inr (6, [v6_0, .ref q_601, v6_2, .int (zI (z6_keeping)), .int (zI (z6_at))])), (q_601, .inl (cA_601, ny6, .inl fa6_result))] sz) U U.heap)) (va_Qv (fun _ : Unit => True) (fun (_ : Unit) (t : State) => ∃ (z0_9 : Int) (g1_9 : Nat → Int32), ((0 ≤ z0_9 ∧ z0_9 ≤ 200000000) ∧ (z6_at ≤ z0_9 ∧ z0_9 ≤ z6_at + (tn : Int))) ∧ va_P (dC, dI) vwP [(h0, .inr (6, [v6_0, .ref q_601, v6_2, .int (zI (z6_keeping)), .int (zI (z0_9))])), (q_601, .inl (cA_601, ny6, .inl g1_9))] t.heap ∧ va_K (dC, dI) vwP [(cA_601, .byte)] t ∧ va_D (va_A [(h0, .inr (6, [v6_0, .ref q_601, v6_2, .int (zI (z6_keeping)), .int (zI (z6_at))])), (q_601, .inl (cA_601, ny6, .inl fa6_result))] sz) [(h0, .inr (6, [v6_0, .ref q_601, v6_2, .int (zI (z6_keeping)), .int (zI (z0_9))])), (q_601, .inl (cA_601, ny6, .inl g1_9))]) (va_A [(h0, .inr (6, [v6_0, .ref q_601, v6_2, .int (zI (z6_keeping)), .int (zI (z6_at))])), (q_601, .inl (cA_601, ny6, .inl fa6_result))] sz)) 0 0 (va_A [(h0, .inr (6, [v6_0, .ref q_601, v6_2, .int (zI (z6_keeping)), .int (zI (z6_at))])), (q_601, .inl (cA_601, ny6, .inl fa6_result))] sz) := by
  refine Met.ofW (cc := cX6_putText) (maxL := 3) (ret := none) (by decide) rfl ?_
  intro p e s m args below meth c s₁ B hml hv
  obtain ⟨rfl, hsz, hP, hK, hD0, hp0, hp1, hp2⟩ := hv
  have hx := B.exec
  have hb := B.bytes
  have hr := B.returns
  have hts := atoms_spec (ws := v_X6_putText) B.pre
  have hown : s.vm.findClass RX6 = some m.cls := findClass_of_methodNamed B.named
  have hlocks := B.notSynchronized
  have ow : ∀ {k : Nat} {w : Cond}, o_X6_putText[k]? = some w → w.before ([.ref h0, .ref tx] : List Value).toArray s = true := fun h => hts _ (mow_X6_putText _ (List.mem_of_getElem? h))
  subst hsz
  have hD := hD0.self (sz := s.heap.size)
  generalize hAe : va_A [(h0, .inr (6, [v6_0, .ref q_601, v6_2, .int (zI (z6_keeping)), .int (zI (z6_at))])), (q_601, .inl (cA_601, ny6, .inl fa6_result))] s.heap.size = A at hD hp0 hp1 hp2 ⊢
  have hA : ∀ q : Nat, s.heap.size ≤ q → A q := fun q h => by rw [← hAe]; exact Or.inr h
  have hS : va_S A s.heap s.heap [] := va_S.rf
  have hP : va_P (dC, dI) vwP [(h0, .inr (6, [v6_0, .ref q_601, v6_2, .int (zI (z6_keeping)), .int (zI (z6_at))])), (q_601, .inl (cA_601, ny6, .inl fa6_result))] s.heap := hP
  have hl := lv_entry ([.ref h0, .ref tx]) (n := 3) (Nat.le_of_ble_eq_true rfl)
  rw [lg_entry_eq]
  generalize (lg_sl ([.ref h0, .ref tx]) ++ List.replicate (3 - (lg_sl ([.ref h0, .ref tx])).length) Slot.unset).toArray = ls at hl ⊢
  have hl : lv_has ls 3 [(0, .ref h0), (1, .ref tx)] := hl
  obtain ⟨H, hH⟩ : ∃ H, H = s.heap := ⟨_, rfl⟩
  rw [← hH] at hP
  have hS : va_S A s.heap H [] := by rw [hH]; exact hS
  rw [← hH]
  refine zW_cap (fun Q hQ => ?_)
  refine lv_iconst (v := 0) hx hb dX6_putText_0 (by decide) ?_
  refine lv_istore_n (lv' := [(2, .int 0), (0, .ref h0), (1, .ref tx)]) hx hb dX6_putText_1 rfl hl (by decide) rfl (fun ls hl => ?_)
  have key2 : ∀ n2 : Nat, ∀ (d2_2 : Int) (e2_0_4 : Int) (w2_601 : Nat → Int32) (ls : Array Slot) (H : Heap) (locs : List Loc), (0 ≤ d2_2 ∧ d2_2 ≤ (tn : Int)) → (0 ≤ e2_0_4 ∧ e2_0_4 ≤ 200000000) → (z6_at ≤ e2_0_4 ∧ e2_0_4 ≤ z6_at + d2_2) → ((((tn : Int)) - (d2_2) : Int).toNat) < n2 → lv_has ls 3 [(0, .ref h0), (1, .ref tx), (2, .int (zI (d2_2)))] → va_P (dC, dI) vwP [(h0, .inr (6, [v6_0, .ref q_601, v6_2, .int (zI (z6_keeping)), .int (zI (e2_0_4))])), (q_601, .inl (cA_601, ny6, .inl w2_601))] H → va_D A [(h0, .inr (6, [v6_0, .ref q_601, v6_2, .int (zI (z6_keeping)), .int (zI (e2_0_4))])), (q_601, .inl (cA_601, ny6, .inl w2_601))] → va_S A s.heap H locs → W p l e (headSpec v_X6_putText ({ frames := 4, cells := 0, slots := 0, locals := 85 })).room s m ([.ref h0, .ref tx] : List Value).toArray below meth c H locs 0 0 Q (F0 m 2 ls []) := by
    intro n2
    induction n2 with
    | zero => intro d2_2 e2_0_4 w2_601 ls H locs jd2_2 je2_0_4 jA hm2; exact absurd hm2 (by omega)
    | succ n2 ih2 =>
      intro d2_2 e2_0_4 w2_601 ls H locs jd2_2 je2_0_4 jA hm2 hl hP hD hS
      refine lv_iload_n hx hb dX6_putText_2 rfl (lv_at hl 2 rfl) ?_
      refine lv_aload_n hx hb dX6_putText_3 rfl (lv_at hl 1 rfl) ?_
      have hPc := hP.sub (ws' := []) [] rfl
      have hDc := hD.sub (ws' := []) [] (by decide) rfl
      have hKc := hK.sub (tys' := []) [] rfl
      have hFc := va_free (wc := []) hD hS hA [] rfl
      refine va_calli (va_runV (As := []) (rest := [.int (zI (d2_2))]) ⟨hx, hb, hml, hown, hts⟩ (c_J0_length l dC dI tx tv tn tf (by omega) H.size) (cwV 0 hts g_X6_putText_J0_length rfl rfl rfl (by decide +kernel) ⟨(Nat.le_of_ble_eq_true rfl), (Nat.le_of_ble_eq_true rfl)⟩) ⟨fun a U g mk q => by obtain ⟨q0, q1, qP, qK, qD, e0, e1⟩ := q; exact ⟨q0, q1, qP, va_K.moved (u := U) (U := U.calling g mk a) (Vm.Alike.refl U.vm) qK, qD, vs_S.moved (u := U) (U := U.calling g mk a) (Vm.Alike.refl U.vm) e0, va_Z.moved (u := U) (U := U.calling g mk a) (Vm.Alike.refl U.vm) e1⟩, vs_S.recv hp0 hS, fun U hU hW => ⟨rfl, by rw [hU], by rw [hU]; exact hPc, va_K.moved hW.alike hKc, hDc.weaken (fun _ _ _ _ => trivial), by rw [hU]; exact vs_S.narrow (vs_S.moved hW.alike (vs_S.kept hp0 hS.2.1)) hFc, by rw [hU]; exact va_Z.narrow (va_Z.moved hW.alike (va_Z.kept hp1 hS.2.1)) hFc⟩⟩ rfl rfl hl.1 rfl (lv_room (Nat.le_of_ble_eq_true rfl)) dX6_putText_4 ⟨(Nat.le_of_ble_eq_true rfl), (Nat.le_of_ble_eq_true rfl)⟩) hS (fun q _ h => hFc q h) hFc (fun r_2001 u t H1 locs ht hvm hw hB hz1 hk1 hS => ?_)
      obtain ⟨hP1, hK1, hD1⟩ := hB
      rw [ht] at hP1
      have hK1 := va_K.moved hvm.symm hK1
      obtain ⟨hP, hD⟩ := va_join (wr := [(h0, .inr (6, [v6_0, .ref q_601, v6_2, .int (zI (z6_keeping)), .int (zI (e2_0_4))])), (q_601, .inl (cA_601, ny6, .inl w2_601))]) (w1 := []) hP hD [] [0, 1] rfl rfl (by decide) (by decide) hk1 hFc hP1 hD1
      have hK := (hK.sub (tys' := [(cA_601, .byte)]) [0] rfl).app hK1
      generalize H1 = H at hP hS ⊢
      have hP : va_P (dC, dI) vwP [(h0, .inr (6, [v6_0, .ref q_601, v6_2, .int (zI (z6_keeping)), .int (zI (e2_0_4))])), (q_601, .inl (cA_601, ny6, .inl w2_601))] H := hP
      have hD : va_D A [(h0, .inr (6, [v6_0, .ref q_601, v6_2, .int (zI (z6_keeping)), .int (zI (e2_0_4))])), (q_601, .inl (cA_601, ny6, .inl w2_601))] := hD
      have hK : va_K (dC, dI) vwP [(cA_601, .byte)] s := hK
      refine W.widen (k := 0) (n := 0) (Nat.le_of_ble_eq_true rfl) (Nat.le_of_ble_eq_true rfl) ?_
      obtain rfl : r_2001 = (zI ((tn : Int))) := hw
      refine lv_icmp_ge (tgt := 25) hx hb dX6_putText_7 (by decide) (fun b7 => ?_) (fun b7 => ?_)
      · have yb7 : ((tn : Int) : Int) ≤ (d2_2 : Int) := (zI_le (a := (tn : Int)) (b := d2_2) (by omega) (by omega) (by omega) (by omega)).mp b7
        subst hQ
        refine W.widen (k := 0) (n := 0) (Nat.le_of_ble_eq_true rfl) (Nat.le_of_ble_eq_true rfl) ?_
        exact W.vret hx hb hr (fun t ht hW => ⟨⟨(), rfl, trivial, e2_0_4, w2_601, ⟨(by omega), (by omega)⟩, by rw [ht]; exact hP, va_K.moved hW.alike hK, hD⟩, hS.F ht⟩) hS.2.2 dX6_putText_25
      · have yb7 : ¬ ((tn : Int) : Int) ≤ (d2_2 : Int) := fun q => b7 ((zI_le (a := (tn : Int)) (b := d2_2) (by omega) (by omega) (by omega) (by omega)).mpr q)
        refine lv_aload_n hx hb dX6_putText_10 rfl (lv_at hl 0 rfl) ?_
        refine lv_aload_n hx hb dX6_putText_11 rfl (lv_at hl 1 rfl) ?_
        refine lv_iload_n hx hb dX6_putText_12 rfl (lv_at hl 2 rfl) ?_
        have hPc := hP.sub (ws' := []) [] rfl
        have hDc := hD.sub (ws' := []) [] (by decide) rfl
        have hKc := hK.sub (tys' := []) [] rfl
        have hFc := va_free (wc := []) hD hS hA [] rfl
        refine va_calli (va_runV (As := [.int (zI (d2_2))]) (rest := [.ref h0]) ⟨hx, hb, hml, hown, hts⟩ (c_J0_charAt l dC dI tx tv tn tf d2_2 (by omega) (by omega) H.size sx_fm) (cwV 1 hts g_X6_putText_J0_charAt rfl rfl rfl (by decide +kernel) ⟨(Nat.le_of_ble_eq_true rfl), (Nat.le_of_ble_eq_true rfl)⟩) ⟨fun a U g mk q => by obtain ⟨q0, q1, qP, qK, qD, e0, e1, e2⟩ := q; exact ⟨q0, q1, qP, va_K.moved (u := U) (U := U.calling g mk a) (Vm.Alike.refl U.vm) qK, qD, vs_S.moved (u := U) (U := U.calling g mk a) (Vm.Alike.refl U.vm) e0, va_Z.moved (u := U) (U := U.calling g mk a) (Vm.Alike.refl U.vm) e1, va_Z.moved (u := U) (U := U.calling g mk a) (Vm.Alike.refl U.vm) e2⟩, vs_S.recv hp0 hS, fun U hU hW => ⟨rfl, by rw [hU], by rw [hU]; exact hPc, va_K.moved hW.alike hKc, hDc.weaken (fun _ _ _ _ => trivial), by rw [hU]; exact vs_S.narrow (vs_S.moved hW.alike (vs_S.kept hp0 hS.2.1)) hFc, by rw [hU]; exact va_Z.narrow (va_Z.moved hW.alike (va_Z.kept hp1 hS.2.1)) hFc, by rw [hU]; exact va_Z.narrow (va_Z.moved hW.alike (va_Z.kept hp2 hS.2.1)) hFc⟩⟩ rfl rfl hl.1 rfl (lv_room (Nat.le_of_ble_eq_true rfl)) dX6_putText_13 ⟨(Nat.le_of_ble_eq_true rfl), (Nat.le_of_ble_eq_true rfl)⟩) hS (fun q _ h => hFc q h) hFc (fun r_2002 u t H1 locs ht hvm hw hB hz1 hk1 hS => ?_)
        obtain ⟨hP1, hK1, hD1⟩ := hB
        rw [ht] at hP1
        have hK1 := va_K.moved hvm.symm hK1
        obtain ⟨hP, hD⟩ := va_join (wr := [(h0, .inr (6, [v6_0, .ref q_601, v6_2, .int (zI (z6_keeping)), .int (zI (e2_0_4))])), (q_601, .inl (cA_601, ny6, .inl w2_601))]) (w1 := []) hP hD [] [0, 1] rfl rfl (by decide) (by decide) hk1 hFc hP1 hD1
        have hK := (hK.sub (tys' := [(cA_601, .byte)]) [0] rfl).app hK1
        generalize H1 = H at hP hS ⊢
        have hP : va_P (dC, dI) vwP [(h0, .inr (6, [v6_0, .ref q_601, v6_2, .int (zI (z6_keeping)), .int (zI (e2_0_4))])), (q_601, .inl (cA_601, ny6, .inl w2_601))] H := hP
        have hD : va_D A [(h0, .inr (6, [v6_0, .ref q_601, v6_2, .int (zI (z6_keeping)), .int (zI (e2_0_4))])), (q_601, .inl (cA_601, ny6, .inl w2_601))] := hD
        have hK : va_K (dC, dI) vwP [(cA_601, .byte)] s := hK
        refine W.widen (k := 0) (n := 0) (Nat.le_of_ble_eq_true rfl) (Nat.le_of_ble_eq_true rfl) ?_
        have hw_2003 := hw
        obtain ⟨z_2004, rfl, hzz_2004⟩ := hw_2003
        have hPc := hP.sub (ws' := [(h0, .inr (6, [v6_0, .ref q_601, v6_2, .int (zI (z6_keeping)), .int (zI (e2_0_4))])), (q_601, .inl (cA_601, ny6, .inl w2_601))]) [0, 1] rfl
        have hDc := hD.sub (ws' := [(h0, .inr (6, [v6_0, .ref q_601, v6_2, .int (zI (z6_keeping)), .int (zI (e2_0_4))])), (q_601, .inl (cA_601, ny6, .inl w2_601))]) [0, 1] (by decide) rfl
        have hKc := hK.sub (tys' := [(cA_601, .byte)]) [0] rfl
        have hFc := va_free (wc := [(h0, .inr (6, [v6_0, .ref q_601, v6_2, .int (zI (z6_keeping)), .int (zI (e2_0_4))])), (q_601, .inl (cA_601, ny6, .inl w2_601))]) hD hS hA [0, 1] rfl
        refine va_callv (va_runV (As := [.int (zI (z_2004))]) (rest := []) ⟨hx, hb, hml, hown, hts⟩ (c_X6_putByte l dC dI h0 v6_0 v6_2 z6_keeping e2_0_4 q_601 cA_601 ny6 w2_601 ((zI (z_2004))) (by omega) (by omega) (by omega) (by omega) H.size) (cwV 1 hts g_X6_putText_X6_putByte rfl rfl rfl (by decide +kernel) ⟨(Nat.le_of_ble_eq_true rfl), (Nat.le_of_ble_eq_true rfl)⟩) ⟨fun a U g mk q => by obtain ⟨q0, q1, qP, qK, qD⟩ := q; exact ⟨q0, q1, qP, va_K.moved (u := U) (U := U.calling g mk a) (Vm.Alike.refl U.vm) qK, qD⟩, va_recv hKc hPc (ci := 6) (q0 := 0) rfl rfl, fun U hU hW => ⟨rfl, by rw [hU], by rw [hU]; exact hPc, va_K.moved hW.alike hKc, hDc.weaken (fun _ _ _ _ => trivial)⟩⟩ rfl rfl hl.1 rfl (lv_room (Nat.le_of_ble_eq_true rfl)) dX6_putText_16 ⟨(Nat.le_of_ble_eq_true rfl), (Nat.le_of_ble_eq_true rfl)⟩) hS (fun q _ h => hFc q h) hFc (fun  u t H1 locs ht hvm hw hB hz1 hk1 hS => ?_)
        obtain ⟨z0_2005, g1_2006, hxt_2006, hP1, hK1, hD1⟩ := hB
        rw [ht] at hP1
        have hK1 := va_K.moved hvm.symm hK1
        obtain ⟨hP, hD⟩ := va_join (wr := []) (w1 := [(h0, .inr (6, [v6_0, .ref q_601, v6_2, .int (zI (z6_keeping)), .int (zI (z0_2005))])), (q_601, .inl (cA_601, ny6, .inl g1_2006))]) hP hD [0, 1] [] rfl rfl (by decide) (by decide) hk1 hFc hP1 hD1
        have hK := (hK.sub (tys' := []) [] rfl).app hK1
        generalize H1 = H at hP hS ⊢
        have hP : va_P (dC, dI) vwP [(h0, .inr (6, [v6_0, .ref q_601, v6_2, .int (zI (z6_keeping)), .int (zI (z0_2005))])), (q_601, .inl (cA_601, ny6, .inl g1_2006))] H := hP
        have hD : va_D A [(h0, .inr (6, [v6_0, .ref q_601, v6_2, .int (zI (z6_keeping)), .int (zI (z0_2005))])), (q_601, .inl (cA_601, ny6, .inl g1_2006))] := hD
        have hK : va_K (dC, dI) vwP [(cA_601, .byte)] s := hK
        refine W.widen (k := 0) (n := 0) (Nat.le_of_ble_eq_true rfl) (Nat.le_of_ble_eq_true rfl) ?_
        obtain ⟨rk_2007, hu_2007⟩ := hxt_2006
        refine lv_iinc (v := zI (d2_2 + 1)) (lv' := [(2, .int (zI (d2_2 + 1))), (0, .ref h0), (1, .ref tx)]) hx hb dX6_putText_19 hl (k := 2) rfl (zI_add (d2_2) (1)) (by decide) rfl (fun ls hl => ?_)
        refine lv_goto (tgt := 2) hx hb dX6_putText_22 (by decide) ?_
        exact ih2 (d2_2 + 1) z0_2005 g1_2006 ls H _ (by omega) (by omega) (by omega) (by omega) (lv_sub hl [1, 2, 0] rfl) hP hD hS
  exact key2 ((((tn : Int)) - (0) : Int).toNat + 1) 0 z6_at fa6_result ls H _ (by omega) (by omega) (by omega) (by omega) (lv_sub hl [1, 2, 0] rfl) hP hD hS
theorem dX6_putNumber_0 : decode cX6_putNumber 0 = .ok (.lload_n 1, 1) := by decide +kernel
theorem dX6_putNumber_1 : decode cX6_putNumber 1 = .ok (.lstore_n 3, 1) := by decide +kernel
theorem dX6_putNumber_2 : decode cX6_putNumber 2 = .ok (.lload_n 3, 1) := by decide +kernel
theorem dX6_putNumber_3 : decode cX6_putNumber 3 = .ok (.lconst 0, 1) := by decide +kernel
theorem dX6_putNumber_4 : decode cX6_putNumber 4 = .ok (.lcmp, 1) := by decide +kernel
theorem dX6_putNumber_5 : decode cX6_putNumber 5 = .ok (.ifCond .ge 12, 3) := by decide +kernel
theorem dX6_putNumber_17 : decode cX6_putNumber 17 = .ok (.iconst 0, 1) := by decide +kernel
theorem dX6_putNumber_18 : decode cX6_putNumber 18 = .ok (.istore 5, 2) := by decide +kernel
theorem dX6_putNumber_20 : decode cX6_putNumber 20 = .ok (.aload_n 0, 1) := by decide +kernel
theorem dX6_putNumber_21 : decode cX6_putNumber 21 = .ok (.getfield 19, 3) := by decide +kernel
theorem dX6_putNumber_24 : decode cX6_putNumber 24 = .ok (.iload 5, 2) := by decide +kernel
theorem dX6_putNumber_26 : decode cX6_putNumber 26 = .ok (.lload_n 3, 1) := by decide +kernel
theorem dX6_putNumber_27 : decode cX6_putNumber 27 = .ok (.ldc2_w 198, 3) := by decide +kernel
theorem dX6_putNumber_30 : decode cX6_putNumber 30 = .ok (.lrem, 1) := by decide +kernel
theorem dX6_putNumber_31 : decode cX6_putNumber 31 = .ok (.l2i, 1) := by decide +kernel
theorem dX6_putNumber_32 : decode cX6_putNumber 32 = .ok (.iastore, 1) := by decide +kernel
theorem dX6_putNumber_33 : decode cX6_putNumber 33 = .ok (.lload_n 3, 1) := by decide +kernel
theorem dX6_putNumber_34 : decode cX6_putNumber 34 = .ok (.ldc2_w 198, 3) := by decide +kernel
theorem dX6_putNumber_37 : decode cX6_putNumber 37 = .ok (.ldiv, 1) := by decide +kernel
theorem dX6_putNumber_38 : decode cX6_putNumber 38 = .ok (.lstore_n 3, 1) := by decide +kernel
theorem dX6_putNumber_39 : decode cX6_putNumber 39 = .ok (.iinc 5 1, 3) := by decide +kernel
theorem dX6_putNumber_42 : decode cX6_putNumber 42 = .ok (.lload_n 3, 1) := by decide +kernel
theorem dX6_putNumber_43 : decode cX6_putNumber 43 = .ok (.lconst 0, 1) := by decide +kernel
theorem dX6_putNumber_44 : decode cX6_putNumber 44 = .ok (.lcmp, 1) := by decide +kernel
theorem dX6_putNumber_45 : decode cX6_putNumber 45 = .ok (.ifCond .le 10, 3) := by decide +kernel
theorem dX6_putNumber_55 : decode cX6_putNumber 55 = .ok (.iload 5, 2) := by decide +kernel
theorem dX6_putNumber_57 : decode cX6_putNumber 57 = .ok (.iconst 1, 1) := by decide +kernel
theorem dX6_putNumber_58 : decode cX6_putNumber 58 = .ok (.isub, 1) := by decide +kernel
theorem dX6_putNumber_59 : decode cX6_putNumber 59 = .ok (.istore 6, 2) := by decide +kernel
theorem dX6_putNumber_61 : decode cX6_putNumber 61 = .ok (.iload 6, 2) := by decide +kernel
theorem dX6_putNumber_63 : decode cX6_putNumber 63 = .ok (.ifCond .lt 23, 3) := by decide +kernel
theorem dX6_putNumber_86 : decode cX6_putNumber 86 = .ok (.return_, 1) := by decide +kernel
theorem dX6_putNumber_66 : decode cX6_putNumber 66 = .ok (.aload_n 0, 1) := by decide +kernel
theorem dX6_putNumber_67 : decode cX6_putNumber 67 = .ok (.bipush 48, 2) := by decide +kernel
theorem dX6_putNumber_69 : decode cX6_putNumber 69 = .ok (.aload_n 0, 1) := by decide +kernel
theorem dX6_putNumber_70 : decode cX6_putNumber 70 = .ok (.getfield 19, 3) := by decide +kernel
theorem dX6_putNumber_73 : decode cX6_putNumber 73 = .ok (.iload 6, 2) := by decide +kernel
theorem dX6_putNumber_75 : decode cX6_putNumber 75 = .ok (.iaload, 1) := by decide +kernel
theorem dX6_putNumber_76 : decode cX6_putNumber 76 = .ok (.iadd, 1) := by decide +kernel
theorem dX6_putNumber_77 : decode cX6_putNumber 77 = .ok (.invokevirtual 93, 3) := by decide +kernel
theorem dX6_putNumber_80 : decode cX6_putNumber 80 = .ok (.iinc 6 (-1), 3) := by decide +kernel
theorem dX6_putNumber_83 : decode cX6_putNumber 83 = .ok (.goto (-22), 3) := by decide +kernel
theorem dX6_putNumber_48 : decode cX6_putNumber 48 = .ok (.iload 5, 2) := by decide +kernel
theorem dX6_putNumber_50 : decode cX6_putNumber 50 = .ok (.bipush 10, 2) := by decide +kernel
theorem dX6_putNumber_52 : decode cX6_putNumber 52 = .ok (.if_icmp .lt (-32), 3) := by decide +kernel
theorem dX6_putNumber_8 : decode cX6_putNumber 8 = .ok (.aload_n 0, 1) := by decide +kernel
theorem dX6_putNumber_9 : decode cX6_putNumber 9 = .ok (.bipush 45, 2) := by decide +kernel
theorem dX6_putNumber_11 : decode cX6_putNumber 11 = .ok (.invokevirtual 93, 3) := by decide +kernel
theorem dX6_putNumber_14 : decode cX6_putNumber 14 = .ok (.lload_n 3, 1) := by decide +kernel
theorem dX6_putNumber_15 : decode cX6_putNumber 15 = .ok (.lneg, 1) := by decide +kernel
theorem dX6_putNumber_16 : decode cX6_putNumber 16 = .ok (.lstore_n 3, 1) := by decide +kernel
def o_X6_putNumber : List Cond := [.fieldLink RX6 19 "SsaForge$Printer" "digits" "[I", .constantLong RX6 198 (10), .methodLink RX6 93 yX6_putByte, .instanceMethod yX6_putByte, .selects RX6 yX6_putByte yX6_putByte, .initialized RX6]
def v_X6_putNumber : List Cond := .code yX6_putNumber cX6_putNumber 7 none :: (o_X6_putNumber ++ (wsX60 ++ (v_X6_putByte ++ [])))
theorem mow_X6_putNumber : ∀ w ∈ o_X6_putNumber, w ∈ v_X6_putNumber := fun _ h => List.mem_cons_of_mem _ (List.mem_append_left _ h)
theorem mem_X6_putNumber_0 : ∀ w ∈ wsX60, w ∈ v_X6_putNumber := fun _ h => List.mem_cons_of_mem _ (List.mem_append_right _ (List.mem_append_left _ h))
theorem mem_X6_putNumber_1 : ∀ w ∈ v_X6_putByte, w ∈ v_X6_putNumber := fun _ h => List.mem_cons_of_mem _ (List.mem_append_right _ (List.mem_append_right _ (List.mem_append_left _ h)))
set_option maxRecDepth 20000 in
theorem gw_X6_putNumber : v_X6_putNumber.all goodWord = true := by decide +kernel
set_option maxRecDepth 20000 in
theorem g_X6_putNumber_X6_putByte : GoodIn v_X6_putNumber (wsV RX6 93 RX6 yX6_putByte v_X6_putByte) := goodIn_app (goodIn_sub (fun w h => mow_X6_putNumber w (by revert w h; decide +kernel)) (by decide +kernel)) (goodIn_sub mem_X6_putNumber_1 gw_X6_putByte)
set_option maxHeartbeats 4000000 in
set_option maxRecDepth 100000 in
theorem c_X6_putNumber (l : Launch) (dC : Nat → ClassId) (dI : Nat → Nat → Nat) (h0 : Nat) (v6_0 : Value) (q_602 : Nat) (cA_602 : ClassId) (fa6_digits : Nat → Int32) (z6_keeping : Int) (z6_at : Int) (q_601 : Nat) (cA_601 : ClassId) (ny6 : Nat) (fa6_result : Nat → Int32) (x : Int) (hNz6_keeping : 0 ≤ z6_keeping ∧ z6_keeping ≤ 1) (hNz6_at : 0 ≤ z6_at ∧ z6_at ≤ 200000000) (hNny6 : ny6 ≤ 65536) (hNx : -4611686018427387904 ≤ x ∧ x ≤ 4611686018427387904) (hNa : z6_at ≤ 190000000) (sz : Nat) : Met l yX6_putNumber v_X6_putNumber ({ frames := 1, cells := 0, slots := 0, locals := 21 }) (va_Pc [.ref h0, .long (lI (x))] (fun U => U.heap.size = sz ∧ va_P (dC, dI) vwP [(h0, .inr (6, [v6_0, .ref q_601, .ref q_602, .int (zI (z6_keeping)), .int (zI (z6_at))])), (q_602, .inl (cA_602, 10, .inl fa6_digits)), (q_601, .inl (cA_601, ny6, .inl fa6_result))] U.heap ∧ va_K (dC, dI) vwP [(cA_602, .int), (cA_601, .byte)] U ∧ va_D (fun _ => True) [(h0, .inr (6, [v6_0, .ref q_601, .ref q_602, .int (zI (z6_keeping)), .int (zI (z6_at))])), (q_602, .inl (cA_602, 10, .inl fa6_digits)), (q_601, .inl (cA_601, ny6, .inl fa6_result))])) (va_Qv (fun _ : Unit => True) (fun (_ : Unit) (t : State) => ∃ (z0_9 : Int) (g1_9 : Nat → Int32) (g2_9 : Nat → Int32), ((0 ≤ z0_9 ∧ z0_9 ≤ 200000000) ∧ (z6_at ≤ z0_9 ∧ z0_9 ≤ z6_at + 11)) ∧ va_P (dC, dI) vwP [(h0, .inr (6, [v6_0, .ref q_601, .ref q_602, .int (zI (z6_keeping)), .int (zI (z0_9))])), (q_602, .inl (cA_602, 10, .inl g1_9)), (q_601, .inl (cA_601, ny6, .inl g2_9))] t.heap ∧ va_K (dC, dI) vwP [(cA_602, .int), (cA_601, .byte)] t ∧ va_D (va_A [(h0, .inr (6, [v6_0, .ref q_601, .ref q_602, .int (zI (z6_keeping)), .int (zI (z6_at))])), (q_602, .inl (cA_602, 10, .inl fa6_digits)), (q_601, .inl (cA_601, ny6, .inl fa6_result))] sz) [(h0, .inr (6, [v6_0, .ref q_601, .ref q_602, .int (zI (z6_keeping)), .int (zI (z0_9))])), (q_602, .inl (cA_602, 10, .inl g1_9)), (q_601, .inl (cA_601, ny6, .inl g2_9))]) (va_A [(h0, .inr (6, [v6_0, .ref q_601, .ref q_602, .int (zI (z6_keeping)), .int (zI (z6_at))])), (q_602, .inl (cA_602, 10, .inl fa6_digits)), (q_601, .inl (cA_601, ny6, .inl fa6_result))] sz)) 0 0 (va_A [(h0, .inr (6, [v6_0, .ref q_601, .ref q_602, .int (zI (z6_keeping)), .int (zI (z6_at))])), (q_602, .inl (cA_602, 10, .inl fa6_digits)), (q_601, .inl (cA_601, ny6, .inl fa6_result))] sz) := by
  refine Met.ofW (cc := cX6_putNumber) (maxL := 7) (ret := none) (by decide) rfl ?_
  intro p e s m args below meth c s₁ B hml hv
  obtain ⟨rfl, hsz, hP, hK, hD0⟩ := hv
  have hx := B.exec
  have hb := B.bytes
  have hr := B.returns
  have hts := atoms_spec (ws := v_X6_putNumber) B.pre
  have hown : s.vm.findClass RX6 = some m.cls := findClass_of_methodNamed B.named
  have hlocks := B.notSynchronized
  have ow : ∀ {k : Nat} {w : Cond}, o_X6_putNumber[k]? = some w → w.before ([.ref h0, .long (lI (x))] : List Value).toArray s = true := fun h => hts _ (mow_X6_putNumber _ (List.mem_of_getElem? h))
  subst hsz
  have hD := hD0.self (sz := s.heap.size)
  generalize hAe : va_A [(h0, .inr (6, [v6_0, .ref q_601, .ref q_602, .int (zI (z6_keeping)), .int (zI (z6_at))])), (q_602, .inl (cA_602, 10, .inl fa6_digits)), (q_601, .inl (cA_601, ny6, .inl fa6_result))] s.heap.size = A at hD ⊢
  have hA : ∀ q : Nat, s.heap.size ≤ q → A q := fun q h => by rw [← hAe]; exact Or.inr h
  have hS : va_S A s.heap s.heap [] := va_S.rf
  have hP : va_P (dC, dI) vwP [(h0, .inr (6, [v6_0, .ref q_601, .ref q_602, .int (zI (z6_keeping)), .int (zI (z6_at))])), (q_602, .inl (cA_602, 10, .inl fa6_digits)), (q_601, .inl (cA_601, ny6, .inl fa6_result))] s.heap := hP
  have hl := lv_entry ([.ref h0, .long (lI (x))]) (n := 7) (Nat.le_of_ble_eq_true rfl)
  rw [lg_entry_eq]
  generalize (lg_sl ([.ref h0, .long (lI (x))]) ++ List.replicate (7 - (lg_sl ([.ref h0, .long (lI (x))])).length) Slot.unset).toArray = ls at hl ⊢
  have hl : lv_has ls 7 [(0, .ref h0), (1, .long (lI (x)))] := hl
  obtain ⟨H, hH⟩ : ∃ H, H = s.heap := ⟨_, rfl⟩
  rw [← hH] at hP
  have hS : va_S A s.heap H [] := by rw [hH]; exact hS
  rw [← hH]
  refine zW_cap (fun Q hQ => ?_)
  refine lv_lload_n hx hb dX6_putNumber_0 rfl (lv_at hl 1 rfl) ?_
  refine lv_lstore_n (lv' := [(3, .long (lI (x))), (0, .ref h0), (1, .long (lI (x)))]) hx hb dX6_putNumber_1 rfl hl (by decide) rfl (fun ls hl => ?_)
  refine lv_lload_n hx hb dX6_putNumber_2 rfl (lv_at hl 0 rfl) ?_
  refine lv_lconst (v := lI (0)) hx hb dX6_putNumber_3 (by decide) ?_
  refine W.lcmp hx hb dX6_putNumber_4 ?_
  refine lv_if_ge (tgt := 17) hx hb dX6_putNumber_5 (by decide) (fun b5 => ?_) (fun b5 => ?_)
  · have yb5 : (0 : Int) ≤ x := (lc_ge (a := x) (b := 0) (by omega) (by omega) (by omega) (by omega)).mp b5
    refine lv_iconst (v := 0) hx hb dX6_putNumber_17 (by decide) ?_
    refine lv_istore (lv' := [(5, .int 0), (3, .long (lI (x))), (0, .ref h0), (1, .long (lI (x)))]) hx hb dX6_putNumber_18 hl (by decide) rfl (fun ls hl => ?_)
    have key20 : ∀ n20 : Nat, ∀ (d20_5 : Int) (d20_3 : Int64) (w20_602 : Nat → Int32) (ls : Array Slot) (H : Heap) (locs : List Loc), (0 ≤ d20_5 ∧ d20_5 < 10) → ((10 - d20_5 : Int).toNat) < n20 → lv_has ls 7 [(0, .ref h0), (1, .long (lI (x))), (3, .long d20_3), (5, .int (zI (d20_5)))] → va_P (dC, dI) vwP [(h0, .inr (6, [v6_0, .ref q_601, .ref q_602, .int (zI (z6_keeping)), .int (zI (z6_at))])), (q_602, .inl (cA_602, 10, .inl w20_602)), (q_601, .inl (cA_601, ny6, .inl fa6_result))] H → va_D A [(h0, .inr (6, [v6_0, .ref q_601, .ref q_602, .int (zI (z6_keeping)), .int (zI (z6_at))])), (q_602, .inl (cA_602, 10, .inl w20_602)), (q_601, .inl (cA_601, ny6, .inl fa6_result))] → va_S A s.heap H locs → W p l e (headSpec v_X6_putNumber ({ frames := 1, cells := 0, slots := 0, locals := 21 })).room s m ([.ref h0, .long (lI (x))] : List Value).toArray below meth c H locs 0 0 Q (F0 m 20 ls []) := by
      intro n20
      induction n20 with
      | zero => intro d20_5 d20_3 w20_602 ls H locs jd20_5 hm20; exact absurd hm20 (by omega)
      | succ n20 ih20 =>
        intro d20_5 d20_3 w20_602 ls H locs jd20_5 hm20 hl hP hD hS
        refine lv_aload_n hx hb dX6_putNumber_20 rfl (lv_at hl 0 rfl) ?_
        refine va_get (D := (dC, dI)) (ci := 6) (v := .ref q_602) (C := RX6) (T := TX6) (N := 5) hx hb hts mem_X6_putNumber_0 hown hK hP 0 rfl rfl 2 (by decide) (ow (k := 0) rfl) (fun _ h9 => h9) rfl dX6_putNumber_21 ?_
        refine lv_iload hx hb dX6_putNumber_24 (lv_at hl 3 rfl) ?_
        refine lv_lload_n hx hb dX6_putNumber_26 rfl (lv_at hl 2 rfl) ?_
        refine lv_ldc2 (v := 10) hx hb hown (ow (k := 1) rfl) dX6_putNumber_27 ?_
        refine lv_topl (fun z ez => ?_)
        obtain rfl : z = lI (10) := ez
        refine lv_lrem hx hb dX6_putNumber_30 (by decide) ?_
        refine lv_topl (fun x_2001 _ => ?_)
        refine lv_l2i hx hb dX6_putNumber_31 rfl ?_
        refine lv_topi (fun x_2002 _ => ?_)
        refine va_iast (i := zI (d20_5)) hx hb hK hP hD hS 1 0 rfl rfl (zI_in (a := d20_5) (n := 10) (by omega) (by omega) (by decide)) dX6_putNumber_32 (fun H locs hP hD hS => ?_)
        have hP : va_P (dC, dI) vwP [(h0, .inr (6, [v6_0, .ref q_601, .ref q_602, .int (zI (z6_keeping)), .int (zI (z6_at))])), (q_602, .inl (cA_602, 10, .inl (upd w20_602 (zI (d20_5)).toNatClampNeg x_2002))), (q_601, .inl (cA_601, ny6, .inl fa6_result))] H := hP
        have hD : va_D A [(h0, .inr (6, [v6_0, .ref q_601, .ref q_602, .int (zI (z6_keeping)), .int (zI (z6_at))])), (q_602, .inl (cA_602, 10, .inl (upd w20_602 (zI (d20_5)).toNatClampNeg x_2002))), (q_601, .inl (cA_601, ny6, .inl fa6_result))] := hD
        generalize (upd w20_602 (zI (d20_5)).toNatClampNeg x_2002) = f_2003 at hP hD
        have hP : va_P (dC, dI) vwP [(h0, .inr (6, [v6_0, .ref q_601, .ref q_602, .int (zI (z6_keeping)), .int (zI (z6_at))])), (q_602, .inl (cA_602, 10, .inl f_2003)), (q_601, .inl (cA_601, ny6, .inl fa6_result))] H := hP
        have hD : va_D A [(h0, .inr (6, [v6_0, .ref q_601, .ref q_602, .int (zI (z6_keeping)), .int (zI (z6_at))])), (q_602, .inl (cA_602, 10, .inl f_2003)), (q_601, .inl (cA_601, ny6, .inl fa6_result))] := hD
        refine lv_lload_n hx hb dX6_putNumber_33 rfl (lv_at hl 2 rfl) ?_
        refine lv_ldc2 (v := 10) hx hb hown (ow (k := 1) rfl) dX6_putNumber_34 ?_
        refine lv_topl (fun z ez => ?_)
        obtain rfl : z = lI (10) := ez
        refine lv_ldiv hx hb dX6_putNumber_37 (by decide) ?_
        refine lv_topl (fun x_2004 _ => ?_)
        refine lv_lstore_n (lv' := [(3, .long x_2004), (0, .ref h0), (1, .long (lI (x))), (5, .int (zI (d20_5)))]) hx hb dX6_putNumber_38 rfl hl (by decide) rfl (fun ls hl => ?_)
        refine lv_iinc (v := zI (d20_5 + 1)) (lv' := [(5, .int (zI (d20_5 + 1))), (3, .long x_2004), (0, .ref h0), (1, .long (lI (x)))]) hx hb dX6_putNumber_39 hl (k := 3) rfl (zI_add (d20_5) (1)) (by decide) rfl (fun ls hl => ?_)
        refine lv_lload_n hx hb dX6_putNumber_42 rfl (lv_at hl 1 rfl) ?_
        refine lv_lconst (v := lI (0)) hx hb dX6_putNumber_43 (by decide) ?_
        refine W.lcmp hx hb dX6_putNumber_44 ?_
        refine lv_topi (fun x_2005 _ => ?_)
        refine lv_if_le (tgt := 55) hx hb dX6_putNumber_45 (by decide) (fun b45 => ?_) (fun b45 => ?_)
        · refine lv_iload hx hb dX6_putNumber_55 (lv_at hl 0 rfl) ?_
          refine lv_iconst (v := 1) hx hb dX6_putNumber_57 (by decide) ?_
          refine lv_isub hx hb dX6_putNumber_58 ?_
          refine lv_topi (fun z ez => ?_)
          obtain rfl : z = zI ((d20_5 + 1) - 1) := ez.trans (zI_sub (d20_5 + 1) (1))
          refine lv_istore (lv' := [(6, .int (zI ((d20_5 + 1) - 1))), (5, .int (zI (d20_5 + 1))), (3, .long x_2004), (0, .ref h0), (1, .long (lI (x)))]) hx hb dX6_putNumber_59 hl (by decide) rfl (fun ls hl => ?_)
          have key61 : ∀ n61 : Nat, ∀ (d61_6 : Int) (e61_0_4 : Int) (w61_601 : Nat → Int32) (ls : Array Slot) (H : Heap) (locs : List Loc), (-1 ≤ d61_6 ∧ d61_6 ≤ d20_5) → (0 ≤ e61_0_4 ∧ e61_0_4 ≤ 200000000) → (z6_at ≤ e61_0_4 ∧ e61_0_4 ≤ z6_at + 1 + (d20_5 - d61_6)) → (((d61_6) - (0) + 1 : Int).toNat) < n61 → lv_has ls 7 [(0, .ref h0), (1, .long (lI (x))), (3, .long x_2004), (5, .int (zI (d20_5 + 1))), (6, .int (zI (d61_6)))] → va_P (dC, dI) vwP [(h0, .inr (6, [v6_0, .ref q_601, .ref q_602, .int (zI (z6_keeping)), .int (zI (e61_0_4))])), (q_602, .inl (cA_602, 10, .inl f_2003)), (q_601, .inl (cA_601, ny6, .inl w61_601))] H → va_D A [(h0, .inr (6, [v6_0, .ref q_601, .ref q_602, .int (zI (z6_keeping)), .int (zI (e61_0_4))])), (q_602, .inl (cA_602, 10, .inl f_2003)), (q_601, .inl (cA_601, ny6, .inl w61_601))] → va_S A s.heap H locs → W p l e (headSpec v_X6_putNumber ({ frames := 1, cells := 0, slots := 0, locals := 21 })).room s m ([.ref h0, .long (lI (x))] : List Value).toArray below meth c H locs 0 0 Q (F0 m 61 ls []) := by
            intro n61
            induction n61 with
            | zero => intro d61_6 e61_0_4 w61_601 ls H locs jd61_6 je61_0_4 jA hm61; exact absurd hm61 (by omega)
            | succ n61 ih61 =>
              intro d61_6 e61_0_4 w61_601 ls H locs jd61_6 je61_0_4 jA hm61 hl hP hD hS
              refine lv_iload hx hb dX6_putNumber_61 (lv_at hl 4 rfl) ?_
              refine lv_if_lt (tgt := 86) hx hb dX6_putNumber_63 (by decide) (fun b63 => ?_) (fun b63 => ?_)
              · have yb63 : (d61_6 : Int) < (0 : Int) := (zI_lt (a := d61_6) (b := 0) (by omega) (by omega) (by omega) (by omega)).mp b63
                subst hQ
                refine W.widen (k := 0) (n := 0) (Nat.le_of_ble_eq_true rfl) (Nat.le_of_ble_eq_true rfl) ?_
                exact W.vret hx hb hr (fun t ht hW => ⟨⟨(), rfl, trivial, e61_0_4, f_2003, w61_601, ⟨(by omega), (by omega)⟩, by rw [ht]; exact hP, va_K.moved hW.alike hK, hD⟩, hS.F ht⟩) hS.2.2 dX6_putNumber_86
              · have yb63 : ¬ (d61_6 : Int) < (0 : Int) := fun q => b63 ((zI_lt (a := d61_6) (b := 0) (by omega) (by omega) (by omega) (by omega)).mpr q)
                refine lv_aload_n hx hb dX6_putNumber_66 rfl (lv_at hl 0 rfl) ?_
                refine lv_bipush (v := 48) hx hb dX6_putNumber_67 (by decide) ?_
                refine lv_aload_n hx hb dX6_putNumber_69 rfl (lv_at hl 0 rfl) ?_
                refine va_get (D := (dC, dI)) (ci := 6) (v := .ref q_602) (C := RX6) (T := TX6) (N := 5) hx hb hts mem_X6_putNumber_0 hown hK hP 0 rfl rfl 2 (by decide) (ow (k := 0) rfl) (fun _ h9 => h9) rfl dX6_putNumber_70 ?_
                refine lv_iload hx hb dX6_putNumber_73 (lv_at hl 4 rfl) ?_
                refine va_iald hx hb hK hP 1 0 rfl rfl (zI_in (a := d61_6) (n := 10) (by omega) (by omega) (by decide)) dX6_putNumber_75 ?_
                refine lv_topi (fun x_2006 _ => ?_)
                refine lv_iadd hx hb dX6_putNumber_76 ?_
                refine lv_topi (fun x_2007 _ => ?_)
                have hPc := hP.sub (ws' := [(h0, .inr (6, [v6_0, .ref q_601, .ref q_602, .int (zI (z6_keeping)), .int (zI (e61_0_4))])), (q_601, .inl (cA_601, ny6, .inl w61_601))]) [0, 2] rfl
                have hDc := hD.sub (ws' := [(h0, .inr (6, [v6_0, .ref q_601, .ref q_602, .int (zI (z6_keeping)), .int (zI (e61_0_4))])), (q_601, .inl (cA_601, ny6, .inl w61_601))]) [0, 2] (by decide) rfl
                have hKc := hK.sub (tys' := [(cA_601, .byte)]) [1] rfl
                have hFc := va_free (wc := [(h0, .inr (6, [v6_0, .ref q_601, .ref q_602, .int (zI (z6_keeping)), .int (zI (e61_0_4))])), (q_601, .inl (cA_601, ny6, .inl w61_601))]) hD hS hA [0, 2] rfl
                refine va_callv (va_runV (As := [.int x_2007]) (rest := []) ⟨hx, hb, hml, hown, hts⟩ (c_X6_putByte l dC dI h0 v6_0 (.ref q_602) z6_keeping e61_0_4 q_601 cA_601 ny6 w61_601 x_2007 (by omega) (by omega) (by omega) (by omega) H.size) (cwV 1 hts g_X6_putNumber_X6_putByte rfl rfl rfl (by decide +kernel) ⟨(Nat.le_of_ble_eq_true rfl), (Nat.le_of_ble_eq_true rfl)⟩) ⟨fun a U g mk q => by obtain ⟨q0, q1, qP, qK, qD⟩ := q; exact ⟨q0, q1, qP, va_K.moved (u := U) (U := U.calling g mk a) (Vm.Alike.refl U.vm) qK, qD⟩, va_recv hKc hPc (ci := 6) (q0 := 0) rfl rfl, fun U hU hW => ⟨rfl, by rw [hU], by rw [hU]; exact hPc, va_K.moved hW.alike hKc, hDc.weaken (fun _ _ _ _ => trivial)⟩⟩ rfl rfl hl.1 rfl (lv_room (Nat.le_of_ble_eq_true rfl)) dX6_putNumber_77 ⟨(Nat.le_of_ble_eq_true rfl), (Nat.le_of_ble_eq_true rfl)⟩) hS (fun q _ h => hFc q h) hFc (fun  u t H1 locs ht hvm hw hB hz1 hk1 hS => ?_)
                obtain ⟨z0_2008, g1_2009, hxt_2009, hP1, hK1, hD1⟩ := hB
                rw [ht] at hP1
                have hK1 := va_K.moved hvm.symm hK1
                obtain ⟨hP, hD⟩ := va_join (wr := [(q_602, .inl (cA_602, 10, .inl f_2003))]) (w1 := [(h0, .inr (6, [v6_0, .ref q_601, .ref q_602, .int (zI (z6_keeping)), .int (zI (z0_2008))])), (q_601, .inl (cA_601, ny6, .inl g1_2009))]) hP hD [0, 2] [1] rfl rfl (by decide) (by decide) hk1 hFc hP1 hD1
                have hK := (hK.sub (tys' := [(cA_602, .int)]) [0] rfl).app hK1
                generalize H1 = H at hP hS ⊢
                have hP : va_P (dC, dI) vwP [(q_602, .inl (cA_602, 10, .inl f_2003)), (h0, .inr (6, [v6_0, .ref q_601, .ref q_602, .int (zI (z6_keeping)), .int (zI (z0_2008))])), (q_601, .inl (cA_601, ny6, .inl g1_2009))] H := hP
                have hD : va_D A [(q_602, .inl (cA_602, 10, .inl f_2003)), (h0, .inr (6, [v6_0, .ref q_601, .ref q_602, .int (zI (z6_keeping)), .int (zI (z0_2008))])), (q_601, .inl (cA_601, ny6, .inl g1_2009))] := hD
                have hK : va_K (dC, dI) vwP [(cA_602, .int), (cA_601, .byte)] s := hK
                refine W.widen (k := 0) (n := 0) (Nat.le_of_ble_eq_true rfl) (Nat.le_of_ble_eq_true rfl) ?_
                obtain ⟨rk_2010, hu_2010⟩ := hxt_2009
                refine lv_iinc (v := zI (d61_6 - 1)) (lv' := [(6, .int (zI (d61_6 - 1))), (0, .ref h0), (1, .long (lI (x))), (3, .long x_2004), (5, .int (zI (d20_5 + 1)))]) hx hb dX6_putNumber_80 hl (k := 4) rfl (zI_dec (d61_6) (1)) (by decide) rfl (fun ls hl => ?_)
                refine lv_goto (tgt := 61) hx hb dX6_putNumber_83 (by decide) ?_
                have hP := hP.sub (ws' := [(h0, .inr (6, [v6_0, .ref q_601, .ref q_602, .int (zI (z6_keeping)), .int (zI (z0_2008))])), (q_602, .inl (cA_602, 10, .inl f_2003)), (q_601, .inl (cA_601, ny6, .inl g1_2009))]) [1, 0, 2] rfl
                have hD := hD.sub (ws' := [(h0, .inr (6, [v6_0, .ref q_601, .ref q_602, .int (zI (z6_keeping)), .int (zI (z0_2008))])), (q_602, .inl (cA_602, 10, .inl f_2003)), (q_601, .inl (cA_601, ny6, .inl g1_2009))]) [1, 0, 2] (by decide) rfl
                exact ih61 (d61_6 - 1) z0_2008 g1_2009 ls H _ (by omega) (by omega) (by omega) (by omega) (lv_sub hl [1, 2, 3, 4, 0] rfl) hP hD hS
          exact key61 ((((d20_5 + 1) - 1) - (0) + 1 : Int).toNat + 1) ((d20_5 + 1) - 1) z6_at fa6_result ls H _ (by omega) (by omega) (by omega) (by omega) (lv_sub hl [3, 4, 2, 1, 0] rfl) hP hD hS
        · refine lv_iload hx hb dX6_putNumber_48 (lv_at hl 0 rfl) ?_
          refine lv_bipush (v := 10) hx hb dX6_putNumber_50 (by decide) ?_
          refine lv_icmp_lt (tgt := 20) hx hb dX6_putNumber_52 (by decide) (fun b52 => ?_) (fun b52 => ?_)
          · have yb52 : (d20_5 + 1 : Int) < (10 : Int) := (zI_lt (a := d20_5 + 1) (b := 10) (by omega) (by omega) (by omega) (by omega)).mp b52
            exact ih20 (d20_5 + 1) x_2004 f_2003 ls H _ (by omega) (by omega) (lv_sub hl [2, 3, 1, 0] rfl) hP hD hS
          · have yb52 : ¬ (d20_5 + 1 : Int) < (10 : Int) := fun q => b52 ((zI_lt (a := d20_5 + 1) (b := 10) (by omega) (by omega) (by omega) (by omega)).mpr q)
            refine lv_iload hx hb dX6_putNumber_55 (lv_at hl 0 rfl) ?_
            refine lv_iconst (v := 1) hx hb dX6_putNumber_57 (by decide) ?_
            refine lv_isub hx hb dX6_putNumber_58 ?_
            refine lv_topi (fun z ez => ?_)
            obtain rfl : z = zI ((d20_5 + 1) - 1) := ez.trans (zI_sub (d20_5 + 1) (1))
            refine lv_istore (lv' := [(6, .int (zI ((d20_5 + 1) - 1))), (5, .int (zI (d20_5 + 1))), (3, .long x_2004), (0, .ref h0), (1, .long (lI (x)))]) hx hb dX6_putNumber_59 hl (by decide) rfl (fun ls hl => ?_)
            have key61 : ∀ n61 : Nat, ∀ (d61_6 : Int) (e61_0_4 : Int) (w61_601 : Nat → Int32) (ls : Array Slot) (H : Heap) (locs : List Loc), (-1 ≤ d61_6 ∧ d61_6 ≤ d20_5) → (0 ≤ e61_0_4 ∧ e61_0_4 ≤ 200000000) → (z6_at ≤ e61_0_4 ∧ e61_0_4 ≤ z6_at + 1 + (d20_5 - d61_6)) → (((d61_6) - (0) + 1 : Int).toNat) < n61 → lv_has ls 7 [(0, .ref h0), (1, .long (lI (x))), (3, .long x_2004), (5, .int (zI (d20_5 + 1))), (6, .int (zI (d61_6)))] → va_P (dC, dI) vwP [(h0, .inr (6, [v6_0, .ref q_601, .ref q_602, .int (zI (z6_keeping)), .int (zI (e61_0_4))])), (q_602, .inl (cA_602, 10, .inl f_2003)), (q_601, .inl (cA_601, ny6, .inl w61_601))] H → va_D A [(h0, .inr (6, [v6_0, .ref q_601, .ref q_602, .int (zI (z6_keeping)), .int (zI (e61_0_4))])), (q_602, .inl (cA_602, 10, .inl f_2003)), (q_601, .inl (cA_601, ny6, .inl w61_601))] → va_S A s.heap H locs → W p l e (headSpec v_X6_putNumber ({ frames := 1, cells := 0, slots := 0, locals := 21 })).room s m ([.ref h0, .long (lI (x))] : List Value).toArray below meth c H locs 0 0 Q (F0 m 61 ls []) := by
              intro n61
              induction n61 with
              | zero => intro d61_6 e61_0_4 w61_601 ls H locs jd61_6 je61_0_4 jA hm61; exact absurd hm61 (by omega)
              | succ n61 ih61 =>
                intro d61_6 e61_0_4 w61_601 ls H locs jd61_6 je61_0_4 jA hm61 hl hP hD hS
                refine lv_iload hx hb dX6_putNumber_61 (lv_at hl 4 rfl) ?_
                refine lv_if_lt (tgt := 86) hx hb dX6_putNumber_63 (by decide) (fun b63 => ?_) (fun b63 => ?_)
                · have yb63 : (d61_6 : Int) < (0 : Int) := (zI_lt (a := d61_6) (b := 0) (by omega) (by omega) (by omega) (by omega)).mp b63
                  subst hQ
                  refine W.widen (k := 0) (n := 0) (Nat.le_of_ble_eq_true rfl) (Nat.le_of_ble_eq_true rfl) ?_
                  exact W.vret hx hb hr (fun t ht hW => ⟨⟨(), rfl, trivial, e61_0_4, f_2003, w61_601, ⟨(by omega), (by omega)⟩, by rw [ht]; exact hP, va_K.moved hW.alike hK, hD⟩, hS.F ht⟩) hS.2.2 dX6_putNumber_86
                · have yb63 : ¬ (d61_6 : Int) < (0 : Int) := fun q => b63 ((zI_lt (a := d61_6) (b := 0) (by omega) (by omega) (by omega) (by omega)).mpr q)
                  refine lv_aload_n hx hb dX6_putNumber_66 rfl (lv_at hl 0 rfl) ?_
                  refine lv_bipush (v := 48) hx hb dX6_putNumber_67 (by decide) ?_
                  refine lv_aload_n hx hb dX6_putNumber_69 rfl (lv_at hl 0 rfl) ?_
                  refine va_get (D := (dC, dI)) (ci := 6) (v := .ref q_602) (C := RX6) (T := TX6) (N := 5) hx hb hts mem_X6_putNumber_0 hown hK hP 0 rfl rfl 2 (by decide) (ow (k := 0) rfl) (fun _ h9 => h9) rfl dX6_putNumber_70 ?_
                  refine lv_iload hx hb dX6_putNumber_73 (lv_at hl 4 rfl) ?_
                  refine va_iald hx hb hK hP 1 0 rfl rfl (zI_in (a := d61_6) (n := 10) (by omega) (by omega) (by decide)) dX6_putNumber_75 ?_
                  refine lv_topi (fun x_2011 _ => ?_)
                  refine lv_iadd hx hb dX6_putNumber_76 ?_
                  refine lv_topi (fun x_2012 _ => ?_)
                  have hPc := hP.sub (ws' := [(h0, .inr (6, [v6_0, .ref q_601, .ref q_602, .int (zI (z6_keeping)), .int (zI (e61_0_4))])), (q_601, .inl (cA_601, ny6, .inl w61_601))]) [0, 2] rfl
                  have hDc := hD.sub (ws' := [(h0, .inr (6, [v6_0, .ref q_601, .ref q_602, .int (zI (z6_keeping)), .int (zI (e61_0_4))])), (q_601, .inl (cA_601, ny6, .inl w61_601))]) [0, 2] (by decide) rfl
                  have hKc := hK.sub (tys' := [(cA_601, .byte)]) [1] rfl
                  have hFc := va_free (wc := [(h0, .inr (6, [v6_0, .ref q_601, .ref q_602, .int (zI (z6_keeping)), .int (zI (e61_0_4))])), (q_601, .inl (cA_601, ny6, .inl w61_601))]) hD hS hA [0, 2] rfl
                  refine va_callv (va_runV (As := [.int x_2012]) (rest := []) ⟨hx, hb, hml, hown, hts⟩ (c_X6_putByte l dC dI h0 v6_0 (.ref q_602) z6_keeping e61_0_4 q_601 cA_601 ny6 w61_601 x_2012 (by omega) (by omega) (by omega) (by omega) H.size) (cwV 1 hts g_X6_putNumber_X6_putByte rfl rfl rfl (by decide +kernel) ⟨(Nat.le_of_ble_eq_true rfl), (Nat.le_of_ble_eq_true rfl)⟩) ⟨fun a U g mk q => by obtain ⟨q0, q1, qP, qK, qD⟩ := q; exact ⟨q0, q1, qP, va_K.moved (u := U) (U := U.calling g mk a) (Vm.Alike.refl U.vm) qK, qD⟩, va_recv hKc hPc (ci := 6) (q0 := 0) rfl rfl, fun U hU hW => ⟨rfl, by rw [hU], by rw [hU]; exact hPc, va_K.moved hW.alike hKc, hDc.weaken (fun _ _ _ _ => trivial)⟩⟩ rfl rfl hl.1 rfl (lv_room (Nat.le_of_ble_eq_true rfl)) dX6_putNumber_77 ⟨(Nat.le_of_ble_eq_true rfl), (Nat.le_of_ble_eq_true rfl)⟩) hS (fun q _ h => hFc q h) hFc (fun  u t H1 locs ht hvm hw hB hz1 hk1 hS => ?_)
                  obtain ⟨z0_2013, g1_2014, hxt_2014, hP1, hK1, hD1⟩ := hB
                  rw [ht] at hP1
                  have hK1 := va_K.moved hvm.symm hK1
                  obtain ⟨hP, hD⟩ := va_join (wr := [(q_602, .inl (cA_602, 10, .inl f_2003))]) (w1 := [(h0, .inr (6, [v6_0, .ref q_601, .ref q_602, .int (zI (z6_keeping)), .int (zI (z0_2013))])), (q_601, .inl (cA_601, ny6, .inl g1_2014))]) hP hD [0, 2] [1] rfl rfl (by decide) (by decide) hk1 hFc hP1 hD1
                  have hK := (hK.sub (tys' := [(cA_602, .int)]) [0] rfl).app hK1
                  generalize H1 = H at hP hS ⊢
                  have hP : va_P (dC, dI) vwP [(q_602, .inl (cA_602, 10, .inl f_2003)), (h0, .inr (6, [v6_0, .ref q_601, .ref q_602, .int (zI (z6_keeping)), .int (zI (z0_2013))])), (q_601, .inl (cA_601, ny6, .inl g1_2014))] H := hP
                  have hD : va_D A [(q_602, .inl (cA_602, 10, .inl f_2003)), (h0, .inr (6, [v6_0, .ref q_601, .ref q_602, .int (zI (z6_keeping)), .int (zI (z0_2013))])), (q_601, .inl (cA_601, ny6, .inl g1_2014))] := hD
                  have hK : va_K (dC, dI) vwP [(cA_602, .int), (cA_601, .byte)] s := hK
                  refine W.widen (k := 0) (n := 0) (Nat.le_of_ble_eq_true rfl) (Nat.le_of_ble_eq_true rfl) ?_
                  obtain ⟨rk_2015, hu_2015⟩ := hxt_2014
                  refine lv_iinc (v := zI (d61_6 - 1)) (lv' := [(6, .int (zI (d61_6 - 1))), (0, .ref h0), (1, .long (lI (x))), (3, .long x_2004), (5, .int (zI (d20_5 + 1)))]) hx hb dX6_putNumber_80 hl (k := 4) rfl (zI_dec (d61_6) (1)) (by decide) rfl (fun ls hl => ?_)
                  refine lv_goto (tgt := 61) hx hb dX6_putNumber_83 (by decide) ?_
                  have hP := hP.sub (ws' := [(h0, .inr (6, [v6_0, .ref q_601, .ref q_602, .int (zI (z6_keeping)), .int (zI (z0_2013))])), (q_602, .inl (cA_602, 10, .inl f_2003)), (q_601, .inl (cA_601, ny6, .inl g1_2014))]) [1, 0, 2] rfl
                  have hD := hD.sub (ws' := [(h0, .inr (6, [v6_0, .ref q_601, .ref q_602, .int (zI (z6_keeping)), .int (zI (z0_2013))])), (q_602, .inl (cA_602, 10, .inl f_2003)), (q_601, .inl (cA_601, ny6, .inl g1_2014))]) [1, 0, 2] (by decide) rfl
                  exact ih61 (d61_6 - 1) z0_2013 g1_2014 ls H _ (by omega) (by omega) (by omega) (by omega) (lv_sub hl [1, 2, 3, 4, 0] rfl) hP hD hS
            exact key61 ((((d20_5 + 1) - 1) - (0) + 1 : Int).toNat + 1) ((d20_5 + 1) - 1) z6_at fa6_result ls H _ (by omega) (by omega) (by omega) (by omega) (lv_sub hl [3, 4, 2, 1, 0] rfl) hP hD hS
    exact key20 ((10 - 0 : Int).toNat + 1) 0 ((lI (x))) fa6_digits ls H _ (by omega) (by omega) (lv_sub hl [2, 3, 1, 0] rfl) hP hD hS
  · have yb5 : ¬ (0 : Int) ≤ x := fun q => b5 ((lc_ge (a := x) (b := 0) (by omega) (by omega) (by omega) (by omega)).mpr q)
    refine lv_aload_n hx hb dX6_putNumber_8 rfl (lv_at hl 1 rfl) ?_
    refine lv_bipush (v := 45) hx hb dX6_putNumber_9 (by decide) ?_
    have hPc := hP.sub (ws' := [(h0, .inr (6, [v6_0, .ref q_601, .ref q_602, .int (zI (z6_keeping)), .int (zI (z6_at))])), (q_601, .inl (cA_601, ny6, .inl fa6_result))]) [0, 2] rfl
    have hDc := hD.sub (ws' := [(h0, .inr (6, [v6_0, .ref q_601, .ref q_602, .int (zI (z6_keeping)), .int (zI (z6_at))])), (q_601, .inl (cA_601, ny6, .inl fa6_result))]) [0, 2] (by decide) rfl
    have hKc := hK.sub (tys' := [(cA_601, .byte)]) [1] rfl
    have hFc := va_free (wc := [(h0, .inr (6, [v6_0, .ref q_601, .ref q_602, .int (zI (z6_keeping)), .int (zI (z6_at))])), (q_601, .inl (cA_601, ny6, .inl fa6_result))]) hD hS hA [0, 2] rfl
    refine va_callv (va_runV (As := [.int 45]) (rest := []) ⟨hx, hb, hml, hown, hts⟩ (c_X6_putByte l dC dI h0 v6_0 (.ref q_602) z6_keeping z6_at q_601 cA_601 ny6 fa6_result 45 (by omega) (by omega) (by omega) (by omega) H.size) (cwV 1 hts g_X6_putNumber_X6_putByte rfl rfl rfl (by decide +kernel) ⟨(Nat.le_of_ble_eq_true rfl), (Nat.le_of_ble_eq_true rfl)⟩) ⟨fun a U g mk q => by obtain ⟨q0, q1, qP, qK, qD⟩ := q; exact ⟨q0, q1, qP, va_K.moved (u := U) (U := U.calling g mk a) (Vm.Alike.refl U.vm) qK, qD⟩, va_recv hKc hPc (ci := 6) (q0 := 0) rfl rfl, fun U hU hW => ⟨rfl, by rw [hU], by rw [hU]; exact hPc, va_K.moved hW.alike hKc, hDc.weaken (fun _ _ _ _ => trivial)⟩⟩ rfl rfl hl.1 rfl (lv_room (Nat.le_of_ble_eq_true rfl)) dX6_putNumber_11 ⟨(Nat.le_of_ble_eq_true rfl), (Nat.le_of_ble_eq_true rfl)⟩) hS (fun q _ h => hFc q h) hFc (fun  u t H1 locs ht hvm hw hB hz1 hk1 hS => ?_)
    obtain ⟨z0_2016, g1_2017, hxt_2017, hP1, hK1, hD1⟩ := hB
    rw [ht] at hP1
    have hK1 := va_K.moved hvm.symm hK1
    obtain ⟨hP, hD⟩ := va_join (wr := [(q_602, .inl (cA_602, 10, .inl fa6_digits))]) (w1 := [(h0, .inr (6, [v6_0, .ref q_601, .ref q_602, .int (zI (z6_keeping)), .int (zI (z0_2016))])), (q_601, .inl (cA_601, ny6, .inl g1_2017))]) hP hD [0, 2] [1] rfl rfl (by decide) (by decide) hk1 hFc hP1 hD1
    have hK := (hK.sub (tys' := [(cA_602, .int)]) [0] rfl).app hK1
    generalize H1 = H at hP hS ⊢
    have hP : va_P (dC, dI) vwP [(q_602, .inl (cA_602, 10, .inl fa6_digits)), (h0, .inr (6, [v6_0, .ref q_601, .ref q_602, .int (zI (z6_keeping)), .int (zI (z0_2016))])), (q_601, .inl (cA_601, ny6, .inl g1_2017))] H := hP
    have hD : va_D A [(q_602, .inl (cA_602, 10, .inl fa6_digits)), (h0, .inr (6, [v6_0, .ref q_601, .ref q_602, .int (zI (z6_keeping)), .int (zI (z0_2016))])), (q_601, .inl (cA_601, ny6, .inl g1_2017))] := hD
    have hK : va_K (dC, dI) vwP [(cA_602, .int), (cA_601, .byte)] s := hK
    refine W.widen (k := 0) (n := 0) (Nat.le_of_ble_eq_true rfl) (Nat.le_of_ble_eq_true rfl) ?_
    obtain ⟨rk_2018, hu_2018⟩ := hxt_2017
    refine lv_lload_n hx hb dX6_putNumber_14 rfl (lv_at hl 0 rfl) ?_
    refine lv_lneg hx hb dX6_putNumber_15 ?_
    refine lv_topl (fun x_2019 _ => ?_)
    refine lv_lstore_n (lv' := [(3, .long x_2019), (0, .ref h0), (1, .long (lI (x)))]) hx hb dX6_putNumber_16 rfl hl (by decide) rfl (fun ls hl => ?_)
    refine lv_iconst (v := 0) hx hb dX6_putNumber_17 (by decide) ?_
    refine lv_istore (lv' := [(5, .int 0), (3, .long x_2019), (0, .ref h0), (1, .long (lI (x)))]) hx hb dX6_putNumber_18 hl (by decide) rfl (fun ls hl => ?_)
    have key20 : ∀ n20 : Nat, ∀ (d20_5 : Int) (d20_3 : Int64) (w20_602 : Nat → Int32) (ls : Array Slot) (H : Heap) (locs : List Loc), (0 ≤ d20_5 ∧ d20_5 < 10) → ((10 - d20_5 : Int).toNat) < n20 → lv_has ls 7 [(0, .ref h0), (1, .long (lI (x))), (3, .long d20_3), (5, .int (zI (d20_5)))] → va_P (dC, dI) vwP [(q_602, .inl (cA_602, 10, .inl w20_602)), (h0, .inr (6, [v6_0, .ref q_601, .ref q_602, .int (zI (z6_keeping)), .int (zI (z0_2016))])), (q_601, .inl (cA_601, ny6, .inl g1_2017))] H → va_D A [(q_602, .inl (cA_602, 10, .inl w20_602)), (h0, .inr (6, [v6_0, .ref q_601, .ref q_602, .int (zI (z6_keeping)), .int (zI (z0_2016))])), (q_601, .inl (cA_601, ny6, .inl g1_2017))] → va_S A s.heap H locs → W p l e (headSpec v_X6_putNumber ({ frames := 1, cells := 0, slots := 0, locals := 21 })).room s m ([.ref h0, .long (lI (x))] : List Value).toArray below meth c H locs 0 0 Q (F0 m 20 ls []) := by
      intro n20
      induction n20 with
      | zero => intro d20_5 d20_3 w20_602 ls H locs jd20_5 hm20; exact absurd hm20 (by omega)
      | succ n20 ih20 =>
        intro d20_5 d20_3 w20_602 ls H locs jd20_5 hm20 hl hP hD hS
        refine lv_aload_n hx hb dX6_putNumber_20 rfl (lv_at hl 0 rfl) ?_
        refine va_get (D := (dC, dI)) (ci := 6) (v := .ref q_602) (C := RX6) (T := TX6) (N := 5) hx hb hts mem_X6_putNumber_0 hown hK hP 1 rfl rfl 2 (by decide) (ow (k := 0) rfl) (fun _ h9 => h9) rfl dX6_putNumber_21 ?_
        refine lv_iload hx hb dX6_putNumber_24 (lv_at hl 3 rfl) ?_
        refine lv_lload_n hx hb dX6_putNumber_26 rfl (lv_at hl 2 rfl) ?_
        refine lv_ldc2 (v := 10) hx hb hown (ow (k := 1) rfl) dX6_putNumber_27 ?_
        refine lv_topl (fun z ez => ?_)
        obtain rfl : z = lI (10) := ez
        refine lv_lrem hx hb dX6_putNumber_30 (by decide) ?_
        refine lv_topl (fun x_2020 _ => ?_)
        refine lv_l2i hx hb dX6_putNumber_31 rfl ?_
        refine lv_topi (fun x_2021 _ => ?_)
        refine va_iast (i := zI (d20_5)) hx hb hK hP hD hS 0 0 rfl rfl (zI_in (a := d20_5) (n := 10) (by omega) (by omega) (by decide)) dX6_putNumber_32 (fun H locs hP hD hS => ?_)
        have hP : va_P (dC, dI) vwP [(q_602, .inl (cA_602, 10, .inl (upd w20_602 (zI (d20_5)).toNatClampNeg x_2021))), (h0, .inr (6, [v6_0, .ref q_601, .ref q_602, .int (zI (z6_keeping)), .int (zI (z0_2016))])), (q_601, .inl (cA_601, ny6, .inl g1_2017))] H := hP
        have hD : va_D A [(q_602, .inl (cA_602, 10, .inl (upd w20_602 (zI (d20_5)).toNatClampNeg x_2021))), (h0, .inr (6, [v6_0, .ref q_601, .ref q_602, .int (zI (z6_keeping)), .int (zI (z0_2016))])), (q_601, .inl (cA_601, ny6, .inl g1_2017))] := hD
        generalize (upd w20_602 (zI (d20_5)).toNatClampNeg x_2021) = f_2022 at hP hD
        have hP : va_P (dC, dI) vwP [(q_602, .inl (cA_602, 10, .inl f_2022)), (h0, .inr (6, [v6_0, .ref q_601, .ref q_602, .int (zI (z6_keeping)), .int (zI (z0_2016))])), (q_601, .inl (cA_601, ny6, .inl g1_2017))] H := hP
        have hD : va_D A [(q_602, .inl (cA_602, 10, .inl f_2022)), (h0, .inr (6, [v6_0, .ref q_601, .ref q_602, .int (zI (z6_keeping)), .int (zI (z0_2016))])), (q_601, .inl (cA_601, ny6, .inl g1_2017))] := hD
        refine lv_lload_n hx hb dX6_putNumber_33 rfl (lv_at hl 2 rfl) ?_
        refine lv_ldc2 (v := 10) hx hb hown (ow (k := 1) rfl) dX6_putNumber_34 ?_
        refine lv_topl (fun z ez => ?_)
        obtain rfl : z = lI (10) := ez
        refine lv_ldiv hx hb dX6_putNumber_37 (by decide) ?_
        refine lv_topl (fun x_2023 _ => ?_)
        refine lv_lstore_n (lv' := [(3, .long x_2023), (0, .ref h0), (1, .long (lI (x))), (5, .int (zI (d20_5)))]) hx hb dX6_putNumber_38 rfl hl (by decide) rfl (fun ls hl => ?_)
        refine lv_iinc (v := zI (d20_5 + 1)) (lv' := [(5, .int (zI (d20_5 + 1))), (3, .long x_2023), (0, .ref h0), (1, .long (lI (x)))]) hx hb dX6_putNumber_39 hl (k := 3) rfl (zI_add (d20_5) (1)) (by decide) rfl (fun ls hl => ?_)
        refine lv_lload_n hx hb dX6_putNumber_42 rfl (lv_at hl 1 rfl) ?_
        refine lv_lconst (v := lI (0)) hx hb dX6_putNumber_43 (by decide) ?_
        refine W.lcmp hx hb dX6_putNumber_44 ?_
        refine lv_topi (fun x_2024 _ => ?_)
        refine lv_if_le (tgt := 55) hx hb dX6_putNumber_45 (by decide) (fun b45 => ?_) (fun b45 => ?_)
        · refine lv_iload hx hb dX6_putNumber_55 (lv_at hl 0 rfl) ?_
          refine lv_iconst (v := 1) hx hb dX6_putNumber_57 (by decide) ?_
          refine lv_isub hx hb dX6_putNumber_58 ?_
          refine lv_topi (fun z ez => ?_)
          obtain rfl : z = zI ((d20_5 + 1) - 1) := ez.trans (zI_sub (d20_5 + 1) (1))
          refine lv_istore (lv' := [(6, .int (zI ((d20_5 + 1) - 1))), (5, .int (zI (d20_5 + 1))), (3, .long x_2023), (0, .ref h0), (1, .long (lI (x)))]) hx hb dX6_putNumber_59 hl (by decide) rfl (fun ls hl => ?_)
          have key61 : ∀ n61 : Nat, ∀ (d61_6 : Int) (e61_1_4 : Int) (w61_601 : Nat → Int32) (ls : Array Slot) (H : Heap) (locs : List Loc), (-1 ≤ d61_6 ∧ d61_6 ≤ d20_5) → (0 ≤ e61_1_4 ∧ e61_1_4 ≤ 200000000) → (z6_at ≤ e61_1_4 ∧ e61_1_4 ≤ z6_at + 1 + (d20_5 - d61_6)) → (((d61_6) - (0) + 1 : Int).toNat) < n61 → lv_has ls 7 [(0, .ref h0), (1, .long (lI (x))), (3, .long x_2023), (5, .int (zI (d20_5 + 1))), (6, .int (zI (d61_6)))] → va_P (dC, dI) vwP [(q_602, .inl (cA_602, 10, .inl f_2022)), (h0, .inr (6, [v6_0, .ref q_601, .ref q_602, .int (zI (z6_keeping)), .int (zI (e61_1_4))])), (q_601, .inl (cA_601, ny6, .inl w61_601))] H → va_D A [(q_602, .inl (cA_602, 10, .inl f_2022)), (h0, .inr (6, [v6_0, .ref q_601, .ref q_602, .int (zI (z6_keeping)), .int (zI (e61_1_4))])), (q_601, .inl (cA_601, ny6, .inl w61_601))] → va_S A s.heap H locs → W p l e (headSpec v_X6_putNumber ({ frames := 1, cells := 0, slots := 0, locals := 21 })).room s m ([.ref h0, .long (lI (x))] : List Value).toArray below meth c H locs 0 0 Q (F0 m 61 ls []) := by
            intro n61
            induction n61 with
            | zero => intro d61_6 e61_1_4 w61_601 ls H locs jd61_6 je61_1_4 jA hm61; exact absurd hm61 (by omega)
            | succ n61 ih61 =>
              intro d61_6 e61_1_4 w61_601 ls H locs jd61_6 je61_1_4 jA hm61 hl hP hD hS
              refine lv_iload hx hb dX6_putNumber_61 (lv_at hl 4 rfl) ?_
              refine lv_if_lt (tgt := 86) hx hb dX6_putNumber_63 (by decide) (fun b63 => ?_) (fun b63 => ?_)
              · have yb63 : (d61_6 : Int) < (0 : Int) := (zI_lt (a := d61_6) (b := 0) (by omega) (by omega) (by omega) (by omega)).mp b63
                subst hQ
                have hP := hP.sub (ws' := [(h0, .inr (6, [v6_0, .ref q_601, .ref q_602, .int (zI (z6_keeping)), .int (zI (e61_1_4))])), (q_602, .inl (cA_602, 10, .inl f_2022)), (q_601, .inl (cA_601, ny6, .inl w61_601))]) [1, 0, 2] rfl
                have hD := hD.sub (ws' := [(h0, .inr (6, [v6_0, .ref q_601, .ref q_602, .int (zI (z6_keeping)), .int (zI (e61_1_4))])), (q_602, .inl (cA_602, 10, .inl f_2022)), (q_601, .inl (cA_601, ny6, .inl w61_601))]) [1, 0, 2] (by decide) rfl
                refine W.widen (k := 0) (n := 0) (Nat.le_of_ble_eq_true rfl) (Nat.le_of_ble_eq_true rfl) ?_
                exact W.vret hx hb hr (fun t ht hW => ⟨⟨(), rfl, trivial, e61_1_4, f_2022, w61_601, ⟨(by omega), (by omega)⟩, by rw [ht]; exact hP, va_K.moved hW.alike hK, hD⟩, hS.F ht⟩) hS.2.2 dX6_putNumber_86
              · have yb63 : ¬ (d61_6 : Int) < (0 : Int) := fun q => b63 ((zI_lt (a := d61_6) (b := 0) (by omega) (by omega) (by omega) (by omega)).mpr q)
                refine lv_aload_n hx hb dX6_putNumber_66 rfl (lv_at hl 0 rfl) ?_
                refine lv_bipush (v := 48) hx hb dX6_putNumber_67 (by decide) ?_
                refine lv_aload_n hx hb dX6_putNumber_69 rfl (lv_at hl 0 rfl) ?_
                refine va_get (D := (dC, dI)) (ci := 6) (v := .ref q_602) (C := RX6) (T := TX6) (N := 5) hx hb hts mem_X6_putNumber_0 hown hK hP 1 rfl rfl 2 (by decide) (ow (k := 0) rfl) (fun _ h9 => h9) rfl dX6_putNumber_70 ?_
                refine lv_iload hx hb dX6_putNumber_73 (lv_at hl 4 rfl) ?_
                refine va_iald hx hb hK hP 0 0 rfl rfl (zI_in (a := d61_6) (n := 10) (by omega) (by omega) (by decide)) dX6_putNumber_75 ?_
                refine lv_topi (fun x_2025 _ => ?_)
                refine lv_iadd hx hb dX6_putNumber_76 ?_
                refine lv_topi (fun x_2026 _ => ?_)
                have hPc := hP.sub (ws' := [(h0, .inr (6, [v6_0, .ref q_601, .ref q_602, .int (zI (z6_keeping)), .int (zI (e61_1_4))])), (q_601, .inl (cA_601, ny6, .inl w61_601))]) [1, 2] rfl
                have hDc := hD.sub (ws' := [(h0, .inr (6, [v6_0, .ref q_601, .ref q_602, .int (zI (z6_keeping)), .int (zI (e61_1_4))])), (q_601, .inl (cA_601, ny6, .inl w61_601))]) [1, 2] (by decide) rfl
                have hKc := hK.sub (tys' := [(cA_601, .byte)]) [1] rfl
                have hFc := va_free (wc := [(h0, .inr (6, [v6_0, .ref q_601, .ref q_602, .int (zI (z6_keeping)), .int (zI (e61_1_4))])), (q_601, .inl (cA_601, ny6, .inl w61_601))]) hD hS hA [1, 2] rfl
                refine va_callv (va_runV (As := [.int x_2026]) (rest := []) ⟨hx, hb, hml, hown, hts⟩ (c_X6_putByte l dC dI h0 v6_0 (.ref q_602) z6_keeping e61_1_4 q_601 cA_601 ny6 w61_601 x_2026 (by omega) (by omega) (by omega) (by omega) H.size) (cwV 1 hts g_X6_putNumber_X6_putByte rfl rfl rfl (by decide +kernel) ⟨(Nat.le_of_ble_eq_true rfl), (Nat.le_of_ble_eq_true rfl)⟩) ⟨fun a U g mk q => by obtain ⟨q0, q1, qP, qK, qD⟩ := q; exact ⟨q0, q1, qP, va_K.moved (u := U) (U := U.calling g mk a) (Vm.Alike.refl U.vm) qK, qD⟩, va_recv hKc hPc (ci := 6) (q0 := 0) rfl rfl, fun U hU hW => ⟨rfl, by rw [hU], by rw [hU]; exact hPc, va_K.moved hW.alike hKc, hDc.weaken (fun _ _ _ _ => trivial)⟩⟩ rfl rfl hl.1 rfl (lv_room (Nat.le_of_ble_eq_true rfl)) dX6_putNumber_77 ⟨(Nat.le_of_ble_eq_true rfl), (Nat.le_of_ble_eq_true rfl)⟩) hS (fun q _ h => hFc q h) hFc (fun  u t H1 locs ht hvm hw hB hz1 hk1 hS => ?_)
                obtain ⟨z0_2027, g1_2028, hxt_2028, hP1, hK1, hD1⟩ := hB
                rw [ht] at hP1
                have hK1 := va_K.moved hvm.symm hK1
                obtain ⟨hP, hD⟩ := va_join (wr := [(q_602, .inl (cA_602, 10, .inl f_2022))]) (w1 := [(h0, .inr (6, [v6_0, .ref q_601, .ref q_602, .int (zI (z6_keeping)), .int (zI (z0_2027))])), (q_601, .inl (cA_601, ny6, .inl g1_2028))]) hP hD [1, 2] [0] rfl rfl (by decide) (by decide) hk1 hFc hP1 hD1
                have hK := (hK.sub (tys' := [(cA_602, .int)]) [0] rfl).app hK1
                generalize H1 = H at hP hS ⊢
                have hP : va_P (dC, dI) vwP [(q_602, .inl (cA_602, 10, .inl f_2022)), (h0, .inr (6, [v6_0, .ref q_601, .ref q_602, .int (zI (z6_keeping)), .int (zI (z0_2027))])), (q_601, .inl (cA_601, ny6, .inl g1_2028))] H := hP
                have hD : va_D A [(q_602, .inl (cA_602, 10, .inl f_2022)), (h0, .inr (6, [v6_0, .ref q_601, .ref q_602, .int (zI (z6_keeping)), .int (zI (z0_2027))])), (q_601, .inl (cA_601, ny6, .inl g1_2028))] := hD
                have hK : va_K (dC, dI) vwP [(cA_602, .int), (cA_601, .byte)] s := hK
                refine W.widen (k := 0) (n := 0) (Nat.le_of_ble_eq_true rfl) (Nat.le_of_ble_eq_true rfl) ?_
                obtain ⟨rk_2029, hu_2029⟩ := hxt_2028
                refine lv_iinc (v := zI (d61_6 - 1)) (lv' := [(6, .int (zI (d61_6 - 1))), (0, .ref h0), (1, .long (lI (x))), (3, .long x_2023), (5, .int (zI (d20_5 + 1)))]) hx hb dX6_putNumber_80 hl (k := 4) rfl (zI_dec (d61_6) (1)) (by decide) rfl (fun ls hl => ?_)
                refine lv_goto (tgt := 61) hx hb dX6_putNumber_83 (by decide) ?_
                exact ih61 (d61_6 - 1) z0_2027 g1_2028 ls H _ (by omega) (by omega) (by omega) (by omega) (lv_sub hl [1, 2, 3, 4, 0] rfl) hP hD hS
          exact key61 ((((d20_5 + 1) - 1) - (0) + 1 : Int).toNat + 1) ((d20_5 + 1) - 1) z0_2016 g1_2017 ls H _ (by omega) (by omega) (by omega) (by omega) (lv_sub hl [3, 4, 2, 1, 0] rfl) hP hD hS
        · refine lv_iload hx hb dX6_putNumber_48 (lv_at hl 0 rfl) ?_
          refine lv_bipush (v := 10) hx hb dX6_putNumber_50 (by decide) ?_
          refine lv_icmp_lt (tgt := 20) hx hb dX6_putNumber_52 (by decide) (fun b52 => ?_) (fun b52 => ?_)
          · have yb52 : (d20_5 + 1 : Int) < (10 : Int) := (zI_lt (a := d20_5 + 1) (b := 10) (by omega) (by omega) (by omega) (by omega)).mp b52
            exact ih20 (d20_5 + 1) x_2023 f_2022 ls H _ (by omega) (by omega) (lv_sub hl [2, 3, 1, 0] rfl) hP hD hS
          · have yb52 : ¬ (d20_5 + 1 : Int) < (10 : Int) := fun q => b52 ((zI_lt (a := d20_5 + 1) (b := 10) (by omega) (by omega) (by omega) (by omega)).mpr q)
            refine lv_iload hx hb dX6_putNumber_55 (lv_at hl 0 rfl) ?_
            refine lv_iconst (v := 1) hx hb dX6_putNumber_57 (by decide) ?_
            refine lv_isub hx hb dX6_putNumber_58 ?_
            refine lv_topi (fun z ez => ?_)
            obtain rfl : z = zI ((d20_5 + 1) - 1) := ez.trans (zI_sub (d20_5 + 1) (1))
            refine lv_istore (lv' := [(6, .int (zI ((d20_5 + 1) - 1))), (5, .int (zI (d20_5 + 1))), (3, .long x_2023), (0, .ref h0), (1, .long (lI (x)))]) hx hb dX6_putNumber_59 hl (by decide) rfl (fun ls hl => ?_)
            have key61 : ∀ n61 : Nat, ∀ (d61_6 : Int) (e61_1_4 : Int) (w61_601 : Nat → Int32) (ls : Array Slot) (H : Heap) (locs : List Loc), (-1 ≤ d61_6 ∧ d61_6 ≤ d20_5) → (0 ≤ e61_1_4 ∧ e61_1_4 ≤ 200000000) → (z6_at ≤ e61_1_4 ∧ e61_1_4 ≤ z6_at + 1 + (d20_5 - d61_6)) → (((d61_6) - (0) + 1 : Int).toNat) < n61 → lv_has ls 7 [(0, .ref h0), (1, .long (lI (x))), (3, .long x_2023), (5, .int (zI (d20_5 + 1))), (6, .int (zI (d61_6)))] → va_P (dC, dI) vwP [(q_602, .inl (cA_602, 10, .inl f_2022)), (h0, .inr (6, [v6_0, .ref q_601, .ref q_602, .int (zI (z6_keeping)), .int (zI (e61_1_4))])), (q_601, .inl (cA_601, ny6, .inl w61_601))] H → va_D A [(q_602, .inl (cA_602, 10, .inl f_2022)), (h0, .inr (6, [v6_0, .ref q_601, .ref q_602, .int (zI (z6_keeping)), .int (zI (e61_1_4))])), (q_601, .inl (cA_601, ny6, .inl w61_601))] → va_S A s.heap H locs → W p l e (headSpec v_X6_putNumber ({ frames := 1, cells := 0, slots := 0, locals := 21 })).room s m ([.ref h0, .long (lI (x))] : List Value).toArray below meth c H locs 0 0 Q (F0 m 61 ls []) := by
              intro n61
              induction n61 with
              | zero => intro d61_6 e61_1_4 w61_601 ls H locs jd61_6 je61_1_4 jA hm61; exact absurd hm61 (by omega)
              | succ n61 ih61 =>
                intro d61_6 e61_1_4 w61_601 ls H locs jd61_6 je61_1_4 jA hm61 hl hP hD hS
                refine lv_iload hx hb dX6_putNumber_61 (lv_at hl 4 rfl) ?_
                refine lv_if_lt (tgt := 86) hx hb dX6_putNumber_63 (by decide) (fun b63 => ?_) (fun b63 => ?_)
                · have yb63 : (d61_6 : Int) < (0 : Int) := (zI_lt (a := d61_6) (b := 0) (by omega) (by omega) (by omega) (by omega)).mp b63
                  subst hQ
                  have hP := hP.sub (ws' := [(h0, .inr (6, [v6_0, .ref q_601, .ref q_602, .int (zI (z6_keeping)), .int (zI (e61_1_4))])), (q_602, .inl (cA_602, 10, .inl f_2022)), (q_601, .inl (cA_601, ny6, .inl w61_601))]) [1, 0, 2] rfl
                  have hD := hD.sub (ws' := [(h0, .inr (6, [v6_0, .ref q_601, .ref q_602, .int (zI (z6_keeping)), .int (zI (e61_1_4))])), (q_602, .inl (cA_602, 10, .inl f_2022)), (q_601, .inl (cA_601, ny6, .inl w61_601))]) [1, 0, 2] (by decide) rfl
                  refine W.widen (k := 0) (n := 0) (Nat.le_of_ble_eq_true rfl) (Nat.le_of_ble_eq_true rfl) ?_
                  exact W.vret hx hb hr (fun t ht hW => ⟨⟨(), rfl, trivial, e61_1_4, f_2022, w61_601, ⟨(by omega), (by omega)⟩, by rw [ht]; exact hP, va_K.moved hW.alike hK, hD⟩, hS.F ht⟩) hS.2.2 dX6_putNumber_86
                · have yb63 : ¬ (d61_6 : Int) < (0 : Int) := fun q => b63 ((zI_lt (a := d61_6) (b := 0) (by omega) (by omega) (by omega) (by omega)).mpr q)
                  refine lv_aload_n hx hb dX6_putNumber_66 rfl (lv_at hl 0 rfl) ?_
                  refine lv_bipush (v := 48) hx hb dX6_putNumber_67 (by decide) ?_
                  refine lv_aload_n hx hb dX6_putNumber_69 rfl (lv_at hl 0 rfl) ?_
                  refine va_get (D := (dC, dI)) (ci := 6) (v := .ref q_602) (C := RX6) (T := TX6) (N := 5) hx hb hts mem_X6_putNumber_0 hown hK hP 1 rfl rfl 2 (by decide) (ow (k := 0) rfl) (fun _ h9 => h9) rfl dX6_putNumber_70 ?_
                  refine lv_iload hx hb dX6_putNumber_73 (lv_at hl 4 rfl) ?_
                  refine va_iald hx hb hK hP 0 0 rfl rfl (zI_in (a := d61_6) (n := 10) (by omega) (by omega) (by decide)) dX6_putNumber_75 ?_
                  refine lv_topi (fun x_2030 _ => ?_)
                  refine lv_iadd hx hb dX6_putNumber_76 ?_
                  refine lv_topi (fun x_2031 _ => ?_)
                  have hPc := hP.sub (ws' := [(h0, .inr (6, [v6_0, .ref q_601, .ref q_602, .int (zI (z6_keeping)), .int (zI (e61_1_4))])), (q_601, .inl (cA_601, ny6, .inl w61_601))]) [1, 2] rfl
                  have hDc := hD.sub (ws' := [(h0, .inr (6, [v6_0, .ref q_601, .ref q_602, .int (zI (z6_keeping)), .int (zI (e61_1_4))])), (q_601, .inl (cA_601, ny6, .inl w61_601))]) [1, 2] (by decide) rfl
                  have hKc := hK.sub (tys' := [(cA_601, .byte)]) [1] rfl
                  have hFc := va_free (wc := [(h0, .inr (6, [v6_0, .ref q_601, .ref q_602, .int (zI (z6_keeping)), .int (zI (e61_1_4))])), (q_601, .inl (cA_601, ny6, .inl w61_601))]) hD hS hA [1, 2] rfl
                  refine va_callv (va_runV (As := [.int x_2031]) (rest := []) ⟨hx, hb, hml, hown, hts⟩ (c_X6_putByte l dC dI h0 v6_0 (.ref q_602) z6_keeping e61_1_4 q_601 cA_601 ny6 w61_601 x_2031 (by omega) (by omega) (by omega) (by omega) H.size) (cwV 1 hts g_X6_putNumber_X6_putByte rfl rfl rfl (by decide +kernel) ⟨(Nat.le_of_ble_eq_true rfl), (Nat.le_of_ble_eq_true rfl)⟩) ⟨fun a U g mk q => by obtain ⟨q0, q1, qP, qK, qD⟩ := q; exact ⟨q0, q1, qP, va_K.moved (u := U) (U := U.calling g mk a) (Vm.Alike.refl U.vm) qK, qD⟩, va_recv hKc hPc (ci := 6) (q0 := 0) rfl rfl, fun U hU hW => ⟨rfl, by rw [hU], by rw [hU]; exact hPc, va_K.moved hW.alike hKc, hDc.weaken (fun _ _ _ _ => trivial)⟩⟩ rfl rfl hl.1 rfl (lv_room (Nat.le_of_ble_eq_true rfl)) dX6_putNumber_77 ⟨(Nat.le_of_ble_eq_true rfl), (Nat.le_of_ble_eq_true rfl)⟩) hS (fun q _ h => hFc q h) hFc (fun  u t H1 locs ht hvm hw hB hz1 hk1 hS => ?_)
                  obtain ⟨z0_2032, g1_2033, hxt_2033, hP1, hK1, hD1⟩ := hB
                  rw [ht] at hP1
                  have hK1 := va_K.moved hvm.symm hK1
                  obtain ⟨hP, hD⟩ := va_join (wr := [(q_602, .inl (cA_602, 10, .inl f_2022))]) (w1 := [(h0, .inr (6, [v6_0, .ref q_601, .ref q_602, .int (zI (z6_keeping)), .int (zI (z0_2032))])), (q_601, .inl (cA_601, ny6, .inl g1_2033))]) hP hD [1, 2] [0] rfl rfl (by decide) (by decide) hk1 hFc hP1 hD1
                  have hK := (hK.sub (tys' := [(cA_602, .int)]) [0] rfl).app hK1
                  generalize H1 = H at hP hS ⊢
                  have hP : va_P (dC, dI) vwP [(q_602, .inl (cA_602, 10, .inl f_2022)), (h0, .inr (6, [v6_0, .ref q_601, .ref q_602, .int (zI (z6_keeping)), .int (zI (z0_2032))])), (q_601, .inl (cA_601, ny6, .inl g1_2033))] H := hP
                  have hD : va_D A [(q_602, .inl (cA_602, 10, .inl f_2022)), (h0, .inr (6, [v6_0, .ref q_601, .ref q_602, .int (zI (z6_keeping)), .int (zI (z0_2032))])), (q_601, .inl (cA_601, ny6, .inl g1_2033))] := hD
                  have hK : va_K (dC, dI) vwP [(cA_602, .int), (cA_601, .byte)] s := hK
                  refine W.widen (k := 0) (n := 0) (Nat.le_of_ble_eq_true rfl) (Nat.le_of_ble_eq_true rfl) ?_
                  obtain ⟨rk_2034, hu_2034⟩ := hxt_2033
                  refine lv_iinc (v := zI (d61_6 - 1)) (lv' := [(6, .int (zI (d61_6 - 1))), (0, .ref h0), (1, .long (lI (x))), (3, .long x_2023), (5, .int (zI (d20_5 + 1)))]) hx hb dX6_putNumber_80 hl (k := 4) rfl (zI_dec (d61_6) (1)) (by decide) rfl (fun ls hl => ?_)
                  refine lv_goto (tgt := 61) hx hb dX6_putNumber_83 (by decide) ?_
                  exact ih61 (d61_6 - 1) z0_2032 g1_2033 ls H _ (by omega) (by omega) (by omega) (by omega) (lv_sub hl [1, 2, 3, 4, 0] rfl) hP hD hS
            exact key61 ((((d20_5 + 1) - 1) - (0) + 1 : Int).toNat + 1) ((d20_5 + 1) - 1) z0_2016 g1_2017 ls H _ (by omega) (by omega) (by omega) (by omega) (lv_sub hl [3, 4, 2, 1, 0] rfl) hP hD hS
    exact key20 ((10 - 0 : Int).toNat + 1) 0 x_2019 fa6_digits ls H _ (by omega) (by omega) (lv_sub hl [2, 3, 1, 0] rfl) hP hD hS
theorem dX6_putNamed_0 : decode cX6_putNamed 0 = .ok (.aload_n 0, 1) := by decide +kernel
theorem dX6_putNamed_1 : decode cX6_putNamed 1 = .ok (.iload_n 1, 1) := by decide +kernel
theorem dX6_putNamed_2 : decode cX6_putNamed 2 = .ok (.invokevirtual 93, 3) := by decide +kernel
theorem dX6_putNamed_5 : decode cX6_putNamed 5 = .ok (.aload_n 0, 1) := by decide +kernel
theorem dX6_putNamed_6 : decode cX6_putNamed 6 = .ok (.iload_n 2, 1) := by decide +kernel
theorem dX6_putNamed_7 : decode cX6_putNamed 7 = .ok (.i2l, 1) := by decide +kernel
theorem dX6_putNamed_8 : decode cX6_putNamed 8 = .ok (.invokevirtual 187, 3) := by decide +kernel
theorem dX6_putNamed_11 : decode cX6_putNamed 11 = .ok (.return_, 1) := by decide +kernel
def o_X6_putNamed : List Cond := [.methodLink RX6 93 yX6_putByte, .instanceMethod yX6_putByte, .selects RX6 yX6_putByte yX6_putByte, .initialized RX6, .methodLink RX6 187 yX6_putNumber, .instanceMethod yX6_putNumber, .selects RX6 yX6_putNumber yX6_putNumber]
def v_X6_putNamed : List Cond := .code yX6_putNamed cX6_putNamed 3 none :: (o_X6_putNamed ++ (v_X6_putByte ++ (v_X6_putNumber ++ [])))
theorem mow_X6_putNamed : ∀ w ∈ o_X6_putNamed, w ∈ v_X6_putNamed := fun _ h => List.mem_cons_of_mem _ (List.mem_append_left _ h)
theorem mem_X6_putNamed_0 : ∀ w ∈ v_X6_putByte, w ∈ v_X6_putNamed := fun _ h => List.mem_cons_of_mem _ (List.mem_append_right _ (List.mem_append_left _ h))
theorem mem_X6_putNamed_1 : ∀ w ∈ v_X6_putNumber, w ∈ v_X6_putNamed := fun _ h => List.mem_cons_of_mem _ (List.mem_append_right _ (List.mem_append_right _ (List.mem_append_left _ h)))
set_option maxRecDepth 20000 in
theorem gw_X6_putNamed : v_X6_putNamed.all goodWord = true := by decide +kernel
set_option maxRecDepth 20000 in
theorem g_X6_putNamed_X6_putByte : GoodIn v_X6_putNamed (wsV RX6 93 RX6 yX6_putByte v_X6_putByte) := goodIn_app (goodIn_sub (fun w h => mow_X6_putNamed w (by revert w h; decide +kernel)) (by decide +kernel)) (goodIn_sub mem_X6_putNamed_0 gw_X6_putByte)
set_option maxRecDepth 20000 in
theorem g_X6_putNamed_X6_putNumber : GoodIn v_X6_putNamed (wsV RX6 187 RX6 yX6_putNumber v_X6_putNumber) := goodIn_app (goodIn_sub (fun w h => mow_X6_putNamed w (by revert w h; decide +kernel)) (by decide +kernel)) (goodIn_sub mem_X6_putNamed_1 gw_X6_putNumber)
set_option maxHeartbeats 4000000 in
set_option maxRecDepth 100000 in
theorem c_X6_putNamed (l : Launch) (dC : Nat → ClassId) (dI : Nat → Nat → Nat) (h0 : Nat) (v6_0 : Value) (q_602 : Nat) (cA_602 : ClassId) (fa6_digits : Nat → Int32) (z6_keeping : Int) (z6_at : Int) (q_601 : Nat) (cA_601 : ClassId) (ny6 : Nat) (fa6_result : Nat → Int32) (p0 : Int32) (n0 : Int) (hNz6_keeping : 0 ≤ z6_keeping ∧ z6_keeping ≤ 1) (hNz6_at : 0 ≤ z6_at ∧ z6_at ≤ 200000000) (hNny6 : ny6 ≤ 65536) (hNn : -1 ≤ n0 ∧ n0 ≤ 100000) (hNa : z6_at ≤ 180000000) (sz : Nat) : Met l yX6_putNamed v_X6_putNamed ({ frames := 2, cells := 0, slots := 0, locals := 47 }) (va_Pc [.ref h0, .int p0, .int (zI (n0))] (fun U => U.heap.size = sz ∧ va_P (dC, dI) vwP [(h0, .inr (6, [v6_0, .ref q_601, .ref q_602, .int (zI (z6_keeping)), .int (zI (z6_at))])), (q_602, .inl (cA_602, 10, .inl fa6_digits)), (q_601, .inl (cA_601, ny6, .inl fa6_result))] U.heap ∧ va_K (dC, dI) vwP [(cA_602, .int), (cA_601, .byte)] U ∧ va_D (fun _ => True) [(h0, .inr (6, [v6_0, .ref q_601, .ref q_602, .int (zI (z6_keeping)), .int (zI (z6_at))])), (q_602, .inl (cA_602, 10, .inl fa6_digits)), (q_601, .inl (cA_601, ny6, .inl fa6_result))])) (va_Qv (fun _ : Unit => True) (fun (_ : Unit) (t : State) => ∃ (z0_9 : Int) (g1_9 : Nat → Int32) (g2_9 : Nat → Int32), ((0 ≤ z0_9 ∧ z0_9 ≤ 200000000) ∧ (z6_at ≤ z0_9 ∧ z0_9 ≤ z6_at + 12)) ∧ va_P (dC, dI) vwP [(h0, .inr (6, [v6_0, .ref q_601, .ref q_602, .int (zI (z6_keeping)), .int (zI (z0_9))])), (q_602, .inl (cA_602, 10, .inl g1_9)), (q_601, .inl (cA_601, ny6, .inl g2_9))] t.heap ∧ va_K (dC, dI) vwP [(cA_602, .int), (cA_601, .byte)] t ∧ va_D (va_A [(h0, .inr (6, [v6_0, .ref q_601, .ref q_602, .int (zI (z6_keeping)), .int (zI (z6_at))])), (q_602, .inl (cA_602, 10, .inl fa6_digits)), (q_601, .inl (cA_601, ny6, .inl fa6_result))] sz) [(h0, .inr (6, [v6_0, .ref q_601, .ref q_602, .int (zI (z6_keeping)), .int (zI (z0_9))])), (q_602, .inl (cA_602, 10, .inl g1_9)), (q_601, .inl (cA_601, ny6, .inl g2_9))]) (va_A [(h0, .inr (6, [v6_0, .ref q_601, .ref q_602, .int (zI (z6_keeping)), .int (zI (z6_at))])), (q_602, .inl (cA_602, 10, .inl fa6_digits)), (q_601, .inl (cA_601, ny6, .inl fa6_result))] sz)) 0 0 (va_A [(h0, .inr (6, [v6_0, .ref q_601, .ref q_602, .int (zI (z6_keeping)), .int (zI (z6_at))])), (q_602, .inl (cA_602, 10, .inl fa6_digits)), (q_601, .inl (cA_601, ny6, .inl fa6_result))] sz) := by
  refine Met.ofW (cc := cX6_putNamed) (maxL := 3) (ret := none) (by decide) rfl ?_
  intro p e s m args below meth c s₁ B hml hv
  obtain ⟨rfl, hsz, hP, hK, hD0⟩ := hv
  have hx := B.exec
  have hb := B.bytes
  have hr := B.returns
  have hts := atoms_spec (ws := v_X6_putNamed) B.pre
  have hown : s.vm.findClass RX6 = some m.cls := findClass_of_methodNamed B.named
  have hlocks := B.notSynchronized
  have ow : ∀ {k : Nat} {w : Cond}, o_X6_putNamed[k]? = some w → w.before ([.ref h0, .int p0, .int (zI (n0))] : List Value).toArray s = true := fun h => hts _ (mow_X6_putNamed _ (List.mem_of_getElem? h))
  subst hsz
  have hD := hD0.self (sz := s.heap.size)
  generalize hAe : va_A [(h0, .inr (6, [v6_0, .ref q_601, .ref q_602, .int (zI (z6_keeping)), .int (zI (z6_at))])), (q_602, .inl (cA_602, 10, .inl fa6_digits)), (q_601, .inl (cA_601, ny6, .inl fa6_result))] s.heap.size = A at hD ⊢
  have hA : ∀ q : Nat, s.heap.size ≤ q → A q := fun q h => by rw [← hAe]; exact Or.inr h
  have hS : va_S A s.heap s.heap [] := va_S.rf
  have hP : va_P (dC, dI) vwP [(h0, .inr (6, [v6_0, .ref q_601, .ref q_602, .int (zI (z6_keeping)), .int (zI (z6_at))])), (q_602, .inl (cA_602, 10, .inl fa6_digits)), (q_601, .inl (cA_601, ny6, .inl fa6_result))] s.heap := hP
  have hl := lv_entry ([.ref h0, .int p0, .int (zI (n0))]) (n := 3) (Nat.le_of_ble_eq_true rfl)
  rw [lg_entry_eq]
  generalize (lg_sl ([.ref h0, .int p0, .int (zI (n0))]) ++ List.replicate (3 - (lg_sl ([.ref h0, .int p0, .int (zI (n0))])).length) Slot.unset).toArray = ls at hl ⊢
  have hl : lv_has ls 3 [(0, .ref h0), (1, .int p0), (2, .int (zI (n0)))] := hl
  obtain ⟨H, hH⟩ : ∃ H, H = s.heap := ⟨_, rfl⟩
  rw [← hH] at hP
  have hS : va_S A s.heap H [] := by rw [hH]; exact hS
  rw [← hH]
  refine zW_cap (fun Q hQ => ?_)
  refine lv_aload_n hx hb dX6_putNamed_0 rfl (lv_at hl 0 rfl) ?_
  refine lv_iload_n hx hb dX6_putNamed_1 rfl (lv_at hl 1 rfl) ?_
  have hPc := hP.sub (ws' := [(h0, .inr (6, [v6_0, .ref q_601, .ref q_602, .int (zI (z6_keeping)), .int (zI (z6_at))])), (q_601, .inl (cA_601, ny6, .inl fa6_result))]) [0, 2] rfl
  have hDc := hD.sub (ws' := [(h0, .inr (6, [v6_0, .ref q_601, .ref q_602, .int (zI (z6_keeping)), .int (zI (z6_at))])), (q_601, .inl (cA_601, ny6, .inl fa6_result))]) [0, 2] (by decide) rfl
  have hKc := hK.sub (tys' := [(cA_601, .byte)]) [1] rfl
  have hFc := va_free (wc := [(h0, .inr (6, [v6_0, .ref q_601, .ref q_602, .int (zI (z6_keeping)), .int (zI (z6_at))])), (q_601, .inl (cA_601, ny6, .inl fa6_result))]) hD hS hA [0, 2] rfl
  refine va_callv (va_runV (As := [.int p0]) (rest := []) ⟨hx, hb, hml, hown, hts⟩ (c_X6_putByte l dC dI h0 v6_0 (.ref q_602) z6_keeping z6_at q_601 cA_601 ny6 fa6_result p0 (by omega) (by omega) (by omega) (by omega) H.size) (cwV 1 hts g_X6_putNamed_X6_putByte rfl rfl rfl (by decide +kernel) ⟨(Nat.le_of_ble_eq_true rfl), (Nat.le_of_ble_eq_true rfl)⟩) ⟨fun a U g mk q => by obtain ⟨q0, q1, qP, qK, qD⟩ := q; exact ⟨q0, q1, qP, va_K.moved (u := U) (U := U.calling g mk a) (Vm.Alike.refl U.vm) qK, qD⟩, va_recv hKc hPc (ci := 6) (q0 := 0) rfl rfl, fun U hU hW => ⟨rfl, by rw [hU], by rw [hU]; exact hPc, va_K.moved hW.alike hKc, hDc.weaken (fun _ _ _ _ => trivial)⟩⟩ rfl rfl hl.1 rfl (lv_room (Nat.le_of_ble_eq_true rfl)) dX6_putNamed_2 ⟨(Nat.le_of_ble_eq_true rfl), (Nat.le_of_ble_eq_true rfl)⟩) hS (fun q _ h => hFc q h) hFc (fun  u t H1 locs ht hvm hw hB hz1 hk1 hS => ?_)
  obtain ⟨z0_2001, g1_2002, hxt_2002, hP1, hK1, hD1⟩ := hB
  rw [ht] at hP1
  have hK1 := va_K.moved hvm.symm hK1
  obtain ⟨hP, hD⟩ := va_join (wr := [(q_602, .inl (cA_602, 10, .inl fa6_digits))]) (w1 := [(h0, .inr (6, [v6_0, .ref q_601, .ref q_602, .int (zI (z6_keeping)), .int (zI (z0_2001))])), (q_601, .inl (cA_601, ny6, .inl g1_2002))]) hP hD [0, 2] [1] rfl rfl (by decide) (by decide) hk1 hFc hP1 hD1
  have hK := (hK.sub (tys' := [(cA_602, .int)]) [0] rfl).app hK1
  generalize H1 = H at hP hS ⊢
  have hP : va_P (dC, dI) vwP [(q_602, .inl (cA_602, 10, .inl fa6_digits)), (h0, .inr (6, [v6_0, .ref q_601, .ref q_602, .int (zI (z6_keeping)), .int (zI (z0_2001))])), (q_601, .inl (cA_601, ny6, .inl g1_2002))] H := hP
  have hD : va_D A [(q_602, .inl (cA_602, 10, .inl fa6_digits)), (h0, .inr (6, [v6_0, .ref q_601, .ref q_602, .int (zI (z6_keeping)), .int (zI (z0_2001))])), (q_601, .inl (cA_601, ny6, .inl g1_2002))] := hD
  have hK : va_K (dC, dI) vwP [(cA_602, .int), (cA_601, .byte)] s := hK
  refine W.widen (k := 0) (n := 0) (Nat.le_of_ble_eq_true rfl) (Nat.le_of_ble_eq_true rfl) ?_
  obtain ⟨rk_2003, hu_2003⟩ := hxt_2002
  refine lv_aload_n hx hb dX6_putNamed_5 rfl (lv_at hl 0 rfl) ?_
  refine lv_iload_n hx hb dX6_putNamed_6 rfl (lv_at hl 2 rfl) ?_
  refine lv_i2l (v := lI (n0)) hx hb dX6_putNamed_7 (zI_l (a := n0) (by omega) (by omega)) ?_
  have hPc := hP.sub (ws' := [(h0, .inr (6, [v6_0, .ref q_601, .ref q_602, .int (zI (z6_keeping)), .int (zI (z0_2001))])), (q_602, .inl (cA_602, 10, .inl fa6_digits)), (q_601, .inl (cA_601, ny6, .inl g1_2002))]) [1, 0, 2] rfl
  have hDc := hD.sub (ws' := [(h0, .inr (6, [v6_0, .ref q_601, .ref q_602, .int (zI (z6_keeping)), .int (zI (z0_2001))])), (q_602, .inl (cA_602, 10, .inl fa6_digits)), (q_601, .inl (cA_601, ny6, .inl g1_2002))]) [1, 0, 2] (by decide) rfl
  have hKc := hK.sub (tys' := [(cA_602, .int), (cA_601, .byte)]) [0, 1] rfl
  have hFc := va_free (wc := [(h0, .inr (6, [v6_0, .ref q_601, .ref q_602, .int (zI (z6_keeping)), .int (zI (z0_2001))])), (q_602, .inl (cA_602, 10, .inl fa6_digits)), (q_601, .inl (cA_601, ny6, .inl g1_2002))]) hD hS hA [1, 0, 2] rfl
  refine va_callv (va_runV (As := [.long (lI (n0))]) (rest := []) ⟨hx, hb, hml, hown, hts⟩ (c_X6_putNumber l dC dI h0 v6_0 q_602 cA_602 fa6_digits z6_keeping z0_2001 q_601 cA_601 ny6 g1_2002 n0 (by omega) (by omega) (by omega) (by omega) (by omega) H.size) (cwV 1 hts g_X6_putNamed_X6_putNumber rfl rfl rfl (by decide +kernel) ⟨(Nat.le_of_ble_eq_true rfl), (Nat.le_of_ble_eq_true rfl)⟩) ⟨fun a U g mk q => by obtain ⟨q0, q1, qP, qK, qD⟩ := q; exact ⟨q0, q1, qP, va_K.moved (u := U) (U := U.calling g mk a) (Vm.Alike.refl U.vm) qK, qD⟩, va_recv hKc hPc (ci := 6) (q0 := 0) rfl rfl, fun U hU hW => ⟨rfl, by rw [hU], by rw [hU]; exact hPc, va_K.moved hW.alike hKc, hDc.weaken (fun _ _ _ _ => trivial)⟩⟩ rfl rfl hl.1 rfl (lv_room (Nat.le_of_ble_eq_true rfl)) dX6_putNamed_8 ⟨(Nat.le_of_ble_eq_true rfl), (Nat.le_of_ble_eq_true rfl)⟩) hS (fun q _ h => hFc q h) hFc (fun  u t H1 locs ht hvm hw hB hz1 hk1 hS => ?_)
  obtain ⟨z0_2004, g1_2005, g2_2006, hxt_2006, hP1, hK1, hD1⟩ := hB
  rw [ht] at hP1
  have hK1 := va_K.moved hvm.symm hK1
  obtain ⟨hP, hD⟩ := va_join (wr := []) (w1 := [(h0, .inr (6, [v6_0, .ref q_601, .ref q_602, .int (zI (z6_keeping)), .int (zI (z0_2004))])), (q_602, .inl (cA_602, 10, .inl g1_2005)), (q_601, .inl (cA_601, ny6, .inl g2_2006))]) hP hD [1, 0, 2] [] rfl rfl (by decide) (by decide) hk1 hFc hP1 hD1
  have hK := (hK.sub (tys' := []) [] rfl).app hK1
  generalize H1 = H at hP hS ⊢
  have hP : va_P (dC, dI) vwP [(h0, .inr (6, [v6_0, .ref q_601, .ref q_602, .int (zI (z6_keeping)), .int (zI (z0_2004))])), (q_602, .inl (cA_602, 10, .inl g1_2005)), (q_601, .inl (cA_601, ny6, .inl g2_2006))] H := hP
  have hD : va_D A [(h0, .inr (6, [v6_0, .ref q_601, .ref q_602, .int (zI (z6_keeping)), .int (zI (z0_2004))])), (q_602, .inl (cA_602, 10, .inl g1_2005)), (q_601, .inl (cA_601, ny6, .inl g2_2006))] := hD
  have hK : va_K (dC, dI) vwP [(cA_602, .int), (cA_601, .byte)] s := hK
  refine W.widen (k := 0) (n := 0) (Nat.le_of_ble_eq_true rfl) (Nat.le_of_ble_eq_true rfl) ?_
  obtain ⟨rk_2007, hu_2007⟩ := hxt_2006
  subst hQ
  refine W.widen (k := 0) (n := 0) (Nat.le_of_ble_eq_true rfl) (Nat.le_of_ble_eq_true rfl) ?_
  exact W.vret hx hb hr (fun t ht hW => ⟨⟨(), rfl, trivial, z0_2004, g1_2005, g2_2006, ⟨(by omega), (by omega)⟩, by rw [ht]; exact hP, va_K.moved hW.alike hK, hD⟩, hS.F ht⟩) hS.2.2 dX6_putNamed_11
theorem dX6_putOperand_0 : decode cX6_putOperand 0 = .ok (.lload_n 1, 1) := by decide +kernel
theorem dX6_putOperand_1 : decode cX6_putOperand 1 = .ok (.invokestatic 190, 3) := by decide +kernel
theorem dX6_putOperand_4 : decode cX6_putOperand 4 = .ok (.ifCond .eq 16, 3) := by decide +kernel
theorem dX6_putOperand_20 : decode cX6_putOperand 20 = .ok (.aload_n 0, 1) := by decide +kernel
theorem dX6_putOperand_21 : decode cX6_putOperand 21 = .ok (.lload_n 1, 1) := by decide +kernel
theorem dX6_putOperand_22 : decode cX6_putOperand 22 = .ok (.invokevirtual 187, 3) := by decide +kernel
theorem dX6_putOperand_25 : decode cX6_putOperand 25 = .ok (.return_, 1) := by decide +kernel
theorem dX6_putOperand_7 : decode cX6_putOperand 7 = .ok (.aload_n 0, 1) := by decide +kernel
theorem dX6_putOperand_8 : decode cX6_putOperand 8 = .ok (.bipush 118, 2) := by decide +kernel
theorem dX6_putOperand_10 : decode cX6_putOperand 10 = .ok (.lload_n 1, 1) := by decide +kernel
theorem dX6_putOperand_11 : decode cX6_putOperand 11 = .ok (.invokestatic 194, 3) := by decide +kernel
theorem dX6_putOperand_14 : decode cX6_putOperand 14 = .ok (.invokevirtual 49, 3) := by decide +kernel
theorem dX6_putOperand_17 : decode cX6_putOperand 17 = .ok (.goto 8, 3) := by decide +kernel
def o_X6_putOperand : List Cond := [.initialized RX11, .static yX11_isRegister, .methodLink RX6 187 yX6_putNumber, .instanceMethod yX6_putNumber, .selects RX6 yX6_putNumber yX6_putNumber, .initialized RX6, .static yX11_registerOf, .methodLink RX6 49 yX6_putNamed, .instanceMethod yX6_putNamed, .selects RX6 yX6_putNamed yX6_putNamed]
def v_X6_putOperand : List Cond := .code yX6_putOperand cX6_putOperand 3 none :: (o_X6_putOperand ++ (v_X11_isRegister ++ (v_X6_putNumber ++ (v_X11_registerOf ++ (v_X6_putNamed ++ [])))))
theorem mow_X6_putOperand : ∀ w ∈ o_X6_putOperand, w ∈ v_X6_putOperand := fun _ h => List.mem_cons_of_mem _ (List.mem_append_left _ h)
theorem mem_X6_putOperand_0 : ∀ w ∈ v_X11_isRegister, w ∈ v_X6_putOperand := fun _ h => List.mem_cons_of_mem _ (List.mem_append_right _ (List.mem_append_left _ h))
theorem mem_X6_putOperand_1 : ∀ w ∈ v_X6_putNumber, w ∈ v_X6_putOperand := fun _ h => List.mem_cons_of_mem _ (List.mem_append_right _ (List.mem_append_right _ (List.mem_append_left _ h)))
theorem mem_X6_putOperand_2 : ∀ w ∈ v_X11_registerOf, w ∈ v_X6_putOperand := fun _ h => List.mem_cons_of_mem _ (List.mem_append_right _ (List.mem_append_right _ (List.mem_append_right _ (List.mem_append_left _ h))))
theorem mem_X6_putOperand_3 : ∀ w ∈ v_X6_putNamed, w ∈ v_X6_putOperand := fun _ h => List.mem_cons_of_mem _ (List.mem_append_right _ (List.mem_append_right _ (List.mem_append_right _ (List.mem_append_right _ (List.mem_append_left _ h)))))
set_option maxRecDepth 20000 in
theorem gw_X6_putOperand : v_X6_putOperand.all goodWord = true := by decide +kernel
set_option maxRecDepth 20000 in
theorem g_X6_putOperand_X6_putNumber : GoodIn v_X6_putOperand (wsV RX6 187 RX6 yX6_putNumber v_X6_putNumber) := goodIn_app (goodIn_sub (fun w h => mow_X6_putOperand w (by revert w h; decide +kernel)) (by decide +kernel)) (goodIn_sub mem_X6_putOperand_1 gw_X6_putNumber)
set_option maxRecDepth 20000 in
theorem g_X6_putOperand_X6_putNamed : GoodIn v_X6_putOperand (wsV RX6 49 RX6 yX6_putNamed v_X6_putNamed) := goodIn_app (goodIn_sub (fun w h => mow_X6_putOperand w (by revert w h; decide +kernel)) (by decide +kernel)) (goodIn_sub mem_X6_putOperand_3 gw_X6_putNamed)
set_option maxHeartbeats 4000000 in
set_option maxRecDepth 100000 in
theorem c_X6_putOperand (l : Launch) (dC : Nat → ClassId) (dI : Nat → Nat → Nat) (h0 : Nat) (v6_0 : Value) (q_602 : Nat) (cA_602 : ClassId) (fa6_digits : Nat → Int32) (z6_keeping : Int) (z6_at : Int) (q_601 : Nat) (cA_601 : ClassId) (ny6 : Nat) (fa6_result : Nat → Int32) (x : Int) (hNz6_keeping : 0 ≤ z6_keeping ∧ z6_keeping ≤ 1) (hNz6_at : 0 ≤ z6_at ∧ z6_at ≤ 200000000) (hNny6 : ny6 ≤ 65536) (hNx : ((-2147483648 ≤ x ∧ x ≤ 4294968319) ∨ x = 1099511627776)) (hNa : z6_at ≤ 170000000) (sz : Nat) : Met l yX6_putOperand v_X6_putOperand ({ frames := 3, cells := 0, slots := 0, locals := 69 }) (va_Pc [.ref h0, .long (lI (x))] (fun U => U.heap.size = sz ∧ va_P (dC, dI) vwP [(h0, .inr (6, [v6_0, .ref q_601, .ref q_602, .int (zI (z6_keeping)), .int (zI (z6_at))])), (q_602, .inl (cA_602, 10, .inl fa6_digits)), (q_601, .inl (cA_601, ny6, .inl fa6_result))] U.heap ∧ va_K (dC, dI) vwP [(cA_602, .int), (cA_601, .byte)] U ∧ va_D (fun _ => True) [(h0, .inr (6, [v6_0, .ref q_601, .ref q_602, .int (zI (z6_keeping)), .int (zI (z6_at))])), (q_602, .inl (cA_602, 10, .inl fa6_digits)), (q_601, .inl (cA_601, ny6, .inl fa6_result))] ∧ va_Nw (.methodLinkNest RX6 190 yX11_isRegister "SsaForge") U ∧ va_Nw (.methodLinkNest RX6 194 yX11_registerOf "SsaForge") U)) (va_Qv (fun _ : Unit => True) (fun (_ : Unit) (t : State) => ∃ (z0_9 : Int) (g1_9 : Nat → Int32) (g2_9 : Nat → Int32), ((0 ≤ z0_9 ∧ z0_9 ≤ 200000000) ∧ (z6_at ≤ z0_9 ∧ z0_9 ≤ z6_at + 12)) ∧ va_P (dC, dI) vwP [(h0, .inr (6, [v6_0, .ref q_601, .ref q_602, .int (zI (z6_keeping)), .int (zI (z0_9))])), (q_602, .inl (cA_602, 10, .inl g1_9)), (q_601, .inl (cA_601, ny6, .inl g2_9))] t.heap ∧ va_K (dC, dI) vwP [(cA_602, .int), (cA_601, .byte)] t ∧ va_D (va_A [(h0, .inr (6, [v6_0, .ref q_601, .ref q_602, .int (zI (z6_keeping)), .int (zI (z6_at))])), (q_602, .inl (cA_602, 10, .inl fa6_digits)), (q_601, .inl (cA_601, ny6, .inl fa6_result))] sz) [(h0, .inr (6, [v6_0, .ref q_601, .ref q_602, .int (zI (z6_keeping)), .int (zI (z0_9))])), (q_602, .inl (cA_602, 10, .inl g1_9)), (q_601, .inl (cA_601, ny6, .inl g2_9))]) (va_A [(h0, .inr (6, [v6_0, .ref q_601, .ref q_602, .int (zI (z6_keeping)), .int (zI (z6_at))])), (q_602, .inl (cA_602, 10, .inl fa6_digits)), (q_601, .inl (cA_601, ny6, .inl fa6_result))] sz)) 0 0 (va_A [(h0, .inr (6, [v6_0, .ref q_601, .ref q_602, .int (zI (z6_keeping)), .int (zI (z6_at))])), (q_602, .inl (cA_602, 10, .inl fa6_digits)), (q_601, .inl (cA_601, ny6, .inl fa6_result))] sz) := by
  refine Met.ofW (cc := cX6_putOperand) (maxL := 3) (ret := none) (by decide) rfl ?_
  intro p e s m args below meth c s₁ B hml hv
  obtain ⟨rfl, hsz, hP, hK, hD0, hp0, hp1⟩ := hv
  have hx := B.exec
  have hb := B.bytes
  have hr := B.returns
  have hts := atoms_spec (ws := v_X6_putOperand) B.pre
  have hown : s.vm.findClass RX6 = some m.cls := findClass_of_methodNamed B.named
  have hlocks := B.notSynchronized
  have ow : ∀ {k : Nat} {w : Cond}, o_X6_putOperand[k]? = some w → w.before ([.ref h0, .long (lI (x))] : List Value).toArray s = true := fun h => hts _ (mow_X6_putOperand _ (List.mem_of_getElem? h))
  subst hsz
  have hD := hD0.self (sz := s.heap.size)
  generalize hAe : va_A [(h0, .inr (6, [v6_0, .ref q_601, .ref q_602, .int (zI (z6_keeping)), .int (zI (z6_at))])), (q_602, .inl (cA_602, 10, .inl fa6_digits)), (q_601, .inl (cA_601, ny6, .inl fa6_result))] s.heap.size = A at hD ⊢
  have hA : ∀ q : Nat, s.heap.size ≤ q → A q := fun q h => by rw [← hAe]; exact Or.inr h
  have hS : va_S A s.heap s.heap [] := va_S.rf
  have hP : va_P (dC, dI) vwP [(h0, .inr (6, [v6_0, .ref q_601, .ref q_602, .int (zI (z6_keeping)), .int (zI (z6_at))])), (q_602, .inl (cA_602, 10, .inl fa6_digits)), (q_601, .inl (cA_601, ny6, .inl fa6_result))] s.heap := hP
  have hl := lv_entry ([.ref h0, .long (lI (x))]) (n := 3) (Nat.le_of_ble_eq_true rfl)
  rw [lg_entry_eq]
  generalize (lg_sl ([.ref h0, .long (lI (x))]) ++ List.replicate (3 - (lg_sl ([.ref h0, .long (lI (x))])).length) Slot.unset).toArray = ls at hl ⊢
  have hl : lv_has ls 3 [(0, .ref h0), (1, .long (lI (x)))] := hl
  obtain ⟨H, hH⟩ : ∃ H, H = s.heap := ⟨_, rfl⟩
  rw [← hH] at hP
  have hS : va_S A s.heap H [] := by rw [hH]; exact hS
  rw [← hH]
  refine zW_cap (fun Q hQ => ?_)
  refine lv_lload_n hx hb dX6_putOperand_0 rfl (lv_at hl 1 rfl) ?_
  have hPc := hP.sub (ws' := []) [] rfl
  have hDc := hD.sub (ws' := []) [] (by decide) rfl
  have hKc := hK.sub (tys' := []) [] rfl
  have hFc := va_free (wc := []) hD hS hA [] rfl
  refine va_calli (va_runSN (As := [.long (lI (x))]) (rest := []) ⟨hx, hb, hml, hown, hts⟩ (c_X11_isRegister l dC dI x (by omega) H.size) ⟨va_cnB 1 hts (goodIn_sub mem_X6_putOperand_0 gw_X11_isRegister) rfl rfl rfl hp0 (ow (k := 0) rfl) (by decide +kernel) ⟨(Nat.le_of_ble_eq_true rfl), (Nat.le_of_ble_eq_true rfl)⟩, (ow (k := 1) rfl), trivial⟩ ⟨fun a U g mk q => by obtain ⟨q0, q1, qP, qK, qD⟩ := q; exact ⟨q0, q1, qP, va_K.moved (u := U) (U := U.calling g mk a) (Vm.Alike.refl U.vm) qK, qD⟩, fun U hU hW => ⟨rfl, by rw [hU], by rw [hU]; exact hPc, va_K.moved hW.alike hKc, hDc.weaken (fun _ _ _ _ => trivial)⟩⟩ rfl rfl hl.1 rfl (lv_room (Nat.le_of_ble_eq_true rfl)) dX6_putOperand_1 ⟨(Nat.le_of_ble_eq_true rfl), (Nat.le_of_ble_eq_true rfl)⟩) hS (fun q _ h => hFc q h) hFc (fun r_2001 u t H1 locs ht hvm hw hB hz1 hk1 hS => ?_)
  obtain ⟨hP1, hK1, hD1⟩ := hB
  rw [ht] at hP1
  have hK1 := va_K.moved hvm.symm hK1
  obtain ⟨hP, hD⟩ := va_join (wr := [(h0, .inr (6, [v6_0, .ref q_601, .ref q_602, .int (zI (z6_keeping)), .int (zI (z6_at))])), (q_602, .inl (cA_602, 10, .inl fa6_digits)), (q_601, .inl (cA_601, ny6, .inl fa6_result))]) (w1 := []) hP hD [] [0, 1, 2] rfl rfl (by decide) (by decide) hk1 hFc hP1 hD1
  have hK := (hK.sub (tys' := [(cA_602, .int), (cA_601, .byte)]) [0, 1] rfl).app hK1
  generalize H1 = H at hP hS ⊢
  have hP : va_P (dC, dI) vwP [(h0, .inr (6, [v6_0, .ref q_601, .ref q_602, .int (zI (z6_keeping)), .int (zI (z6_at))])), (q_602, .inl (cA_602, 10, .inl fa6_digits)), (q_601, .inl (cA_601, ny6, .inl fa6_result))] H := hP
  have hD : va_D A [(h0, .inr (6, [v6_0, .ref q_601, .ref q_602, .int (zI (z6_keeping)), .int (zI (z6_at))])), (q_602, .inl (cA_602, 10, .inl fa6_digits)), (q_601, .inl (cA_601, ny6, .inl fa6_result))] := hD
  have hK : va_K (dC, dI) vwP [(cA_602, .int), (cA_601, .byte)] s := hK
  refine W.widen (k := 0) (n := 0) (Nat.le_of_ble_eq_true rfl) (Nat.le_of_ble_eq_true rfl) ?_
  obtain rfl : r_2001 = (zI (isR (x))) := hw
  have := isR_spec (x)
  refine lv_if_eq (tgt := 20) hx hb dX6_putOperand_4 (by decide) (fun b4 => ?_) (fun b4 => ?_)
  · have yb4 : (isR (x) : Int) = (0 : Int) := (zI_eq (a := isR (x)) (b := 0) (by omega) (by omega) (by omega) (by omega)).mp b4
    refine lv_aload_n hx hb dX6_putOperand_20 rfl (lv_at hl 0 rfl) ?_
    refine lv_lload_n hx hb dX6_putOperand_21 rfl (lv_at hl 1 rfl) ?_
    have hPc := hP.sub (ws' := [(h0, .inr (6, [v6_0, .ref q_601, .ref q_602, .int (zI (z6_keeping)), .int (zI (z6_at))])), (q_602, .inl (cA_602, 10, .inl fa6_digits)), (q_601, .inl (cA_601, ny6, .inl fa6_result))]) [0, 1, 2] rfl
    have hDc := hD.sub (ws' := [(h0, .inr (6, [v6_0, .ref q_601, .ref q_602, .int (zI (z6_keeping)), .int (zI (z6_at))])), (q_602, .inl (cA_602, 10, .inl fa6_digits)), (q_601, .inl (cA_601, ny6, .inl fa6_result))]) [0, 1, 2] (by decide) rfl
    have hKc := hK.sub (tys' := [(cA_602, .int), (cA_601, .byte)]) [0, 1] rfl
    have hFc := va_free (wc := [(h0, .inr (6, [v6_0, .ref q_601, .ref q_602, .int (zI (z6_keeping)), .int (zI (z6_at))])), (q_602, .inl (cA_602, 10, .inl fa6_digits)), (q_601, .inl (cA_601, ny6, .inl fa6_result))]) hD hS hA [0, 1, 2] rfl
    refine va_callv (va_runV (As := [.long (lI (x))]) (rest := []) ⟨hx, hb, hml, hown, hts⟩ (c_X6_putNumber l dC dI h0 v6_0 q_602 cA_602 fa6_digits z6_keeping z6_at q_601 cA_601 ny6 fa6_result x (by omega) (by omega) (by omega) (by omega) (by omega) H.size) (cwV 1 hts g_X6_putOperand_X6_putNumber rfl rfl rfl (by decide +kernel) ⟨(Nat.le_of_ble_eq_true rfl), (Nat.le_of_ble_eq_true rfl)⟩) ⟨fun a U g mk q => by obtain ⟨q0, q1, qP, qK, qD⟩ := q; exact ⟨q0, q1, qP, va_K.moved (u := U) (U := U.calling g mk a) (Vm.Alike.refl U.vm) qK, qD⟩, va_recv hKc hPc (ci := 6) (q0 := 0) rfl rfl, fun U hU hW => ⟨rfl, by rw [hU], by rw [hU]; exact hPc, va_K.moved hW.alike hKc, hDc.weaken (fun _ _ _ _ => trivial)⟩⟩ rfl rfl hl.1 rfl (lv_room (Nat.le_of_ble_eq_true rfl)) dX6_putOperand_22 ⟨(Nat.le_of_ble_eq_true rfl), (Nat.le_of_ble_eq_true rfl)⟩) hS (fun q _ h => hFc q h) hFc (fun  u t H1 locs ht hvm hw hB hz1 hk1 hS => ?_)
    obtain ⟨z0_2002, g1_2003, g2_2004, hxt_2004, hP1, hK1, hD1⟩ := hB
    rw [ht] at hP1
    have hK1 := va_K.moved hvm.symm hK1
    obtain ⟨hP, hD⟩ := va_join (wr := []) (w1 := [(h0, .inr (6, [v6_0, .ref q_601, .ref q_602, .int (zI (z6_keeping)), .int (zI (z0_2002))])), (q_602, .inl (cA_602, 10, .inl g1_2003)), (q_601, .inl (cA_601, ny6, .inl g2_2004))]) hP hD [0, 1, 2] [] rfl rfl (by decide) (by decide) hk1 hFc hP1 hD1
    have hK := (hK.sub (tys' := []) [] rfl).app hK1
    generalize H1 = H at hP hS ⊢
    have hP : va_P (dC, dI) vwP [(h0, .inr (6, [v6_0, .ref q_601, .ref q_602, .int (zI (z6_keeping)), .int (zI (z0_2002))])), (q_602, .inl (cA_602, 10, .inl g1_2003)), (q_601, .inl (cA_601, ny6, .inl g2_2004))] H := hP
    have hD : va_D A [(h0, .inr (6, [v6_0, .ref q_601, .ref q_602, .int (zI (z6_keeping)), .int (zI (z0_2002))])), (q_602, .inl (cA_602, 10, .inl g1_2003)), (q_601, .inl (cA_601, ny6, .inl g2_2004))] := hD
    have hK : va_K (dC, dI) vwP [(cA_602, .int), (cA_601, .byte)] s := hK
    refine W.widen (k := 0) (n := 0) (Nat.le_of_ble_eq_true rfl) (Nat.le_of_ble_eq_true rfl) ?_
    obtain ⟨rk_2005, hu_2005⟩ := hxt_2004
    subst hQ
    refine W.widen (k := 0) (n := 0) (Nat.le_of_ble_eq_true rfl) (Nat.le_of_ble_eq_true rfl) ?_
    exact W.vret hx hb hr (fun t ht hW => ⟨⟨(), rfl, trivial, z0_2002, g1_2003, g2_2004, ⟨(by omega), (by omega)⟩, by rw [ht]; exact hP, va_K.moved hW.alike hK, hD⟩, hS.F ht⟩) hS.2.2 dX6_putOperand_25
  · have yb4 : ¬ (isR (x) : Int) = (0 : Int) := fun q => b4 ((zI_eq (a := isR (x)) (b := 0) (by omega) (by omega) (by omega) (by omega)).mpr q)
    refine lv_aload_n hx hb dX6_putOperand_7 rfl (lv_at hl 0 rfl) ?_
    refine lv_bipush (v := 118) hx hb dX6_putOperand_8 (by decide) ?_
    refine lv_lload_n hx hb dX6_putOperand_10 rfl (lv_at hl 1 rfl) ?_
    have hPc := hP.sub (ws' := []) [] rfl
    have hDc := hD.sub (ws' := []) [] (by decide) rfl
    have hKc := hK.sub (tys' := []) [] rfl
    have hFc := va_free (wc := []) hD hS hA [] rfl
    refine va_calli (va_runSN (As := [.long (lI (x))]) (rest := [.int 118, .ref h0]) ⟨hx, hb, hml, hown, hts⟩ (c_X11_registerOf l dC dI x (by omega) H.size) ⟨va_cnB 1 hts (goodIn_sub mem_X6_putOperand_2 gw_X11_registerOf) rfl rfl rfl hp1 (ow (k := 0) rfl) (by decide +kernel) ⟨(Nat.le_of_ble_eq_true rfl), (Nat.le_of_ble_eq_true rfl)⟩, (ow (k := 6) rfl), trivial⟩ ⟨fun a U g mk q => by obtain ⟨q0, q1, qP, qK, qD⟩ := q; exact ⟨q0, q1, qP, va_K.moved (u := U) (U := U.calling g mk a) (Vm.Alike.refl U.vm) qK, qD⟩, fun U hU hW => ⟨rfl, by rw [hU], by rw [hU]; exact hPc, va_K.moved hW.alike hKc, hDc.weaken (fun _ _ _ _ => trivial)⟩⟩ rfl rfl hl.1 rfl (lv_room (Nat.le_of_ble_eq_true rfl)) dX6_putOperand_11 ⟨(Nat.le_of_ble_eq_true rfl), (Nat.le_of_ble_eq_true rfl)⟩) hS (fun q _ h => hFc q h) hFc (fun r_2006 u t H1 locs ht hvm hw hB hz1 hk1 hS => ?_)
    obtain ⟨hP1, hK1, hD1⟩ := hB
    rw [ht] at hP1
    have hK1 := va_K.moved hvm.symm hK1
    obtain ⟨hP, hD⟩ := va_join (wr := [(h0, .inr (6, [v6_0, .ref q_601, .ref q_602, .int (zI (z6_keeping)), .int (zI (z6_at))])), (q_602, .inl (cA_602, 10, .inl fa6_digits)), (q_601, .inl (cA_601, ny6, .inl fa6_result))]) (w1 := []) hP hD [] [0, 1, 2] rfl rfl (by decide) (by decide) hk1 hFc hP1 hD1
    have hK := (hK.sub (tys' := [(cA_602, .int), (cA_601, .byte)]) [0, 1] rfl).app hK1
    generalize H1 = H at hP hS ⊢
    have hP : va_P (dC, dI) vwP [(h0, .inr (6, [v6_0, .ref q_601, .ref q_602, .int (zI (z6_keeping)), .int (zI (z6_at))])), (q_602, .inl (cA_602, 10, .inl fa6_digits)), (q_601, .inl (cA_601, ny6, .inl fa6_result))] H := hP
    have hD : va_D A [(h0, .inr (6, [v6_0, .ref q_601, .ref q_602, .int (zI (z6_keeping)), .int (zI (z6_at))])), (q_602, .inl (cA_602, 10, .inl fa6_digits)), (q_601, .inl (cA_601, ny6, .inl fa6_result))] := hD
    have hK : va_K (dC, dI) vwP [(cA_602, .int), (cA_601, .byte)] s := hK
    refine W.widen (k := 0) (n := 0) (Nat.le_of_ble_eq_true rfl) (Nat.le_of_ble_eq_true rfl) ?_
    obtain rfl : r_2006 = (zI (x - 4294967296)) := hw
    have hPc := hP.sub (ws' := [(h0, .inr (6, [v6_0, .ref q_601, .ref q_602, .int (zI (z6_keeping)), .int (zI (z6_at))])), (q_602, .inl (cA_602, 10, .inl fa6_digits)), (q_601, .inl (cA_601, ny6, .inl fa6_result))]) [0, 1, 2] rfl
    have hDc := hD.sub (ws' := [(h0, .inr (6, [v6_0, .ref q_601, .ref q_602, .int (zI (z6_keeping)), .int (zI (z6_at))])), (q_602, .inl (cA_602, 10, .inl fa6_digits)), (q_601, .inl (cA_601, ny6, .inl fa6_result))]) [0, 1, 2] (by decide) rfl
    have hKc := hK.sub (tys' := [(cA_602, .int), (cA_601, .byte)]) [0, 1] rfl
    have hFc := va_free (wc := [(h0, .inr (6, [v6_0, .ref q_601, .ref q_602, .int (zI (z6_keeping)), .int (zI (z6_at))])), (q_602, .inl (cA_602, 10, .inl fa6_digits)), (q_601, .inl (cA_601, ny6, .inl fa6_result))]) hD hS hA [0, 1, 2] rfl
    refine va_callv (va_runV (As := [.int 118, .int (zI (x - 4294967296))]) (rest := []) ⟨hx, hb, hml, hown, hts⟩ (c_X6_putNamed l dC dI h0 v6_0 q_602 cA_602 fa6_digits z6_keeping z6_at q_601 cA_601 ny6 fa6_result 118 (x - 4294967296) (by omega) (by omega) (by omega) (by omega) (by omega) H.size) (cwV 2 hts g_X6_putOperand_X6_putNamed rfl rfl rfl (by decide +kernel) ⟨(Nat.le_of_ble_eq_true rfl), (Nat.le_of_ble_eq_true rfl)⟩) ⟨fun a U g mk q => by obtain ⟨q0, q1, qP, qK, qD⟩ := q; exact ⟨q0, q1, qP, va_K.moved (u := U) (U := U.calling g mk a) (Vm.Alike.refl U.vm) qK, qD⟩, va_recv hKc hPc (ci := 6) (q0 := 0) rfl rfl, fun U hU hW => ⟨rfl, by rw [hU], by rw [hU]; exact hPc, va_K.moved hW.alike hKc, hDc.weaken (fun _ _ _ _ => trivial)⟩⟩ rfl rfl hl.1 rfl (lv_room (Nat.le_of_ble_eq_true rfl)) dX6_putOperand_14 ⟨(Nat.le_of_ble_eq_true rfl), (Nat.le_of_ble_eq_true rfl)⟩) hS (fun q _ h => hFc q h) hFc (fun  u t H1 locs ht hvm hw hB hz1 hk1 hS => ?_)
    obtain ⟨z0_2007, g1_2008, g2_2009, hxt_2009, hP1, hK1, hD1⟩ := hB
    rw [ht] at hP1
    have hK1 := va_K.moved hvm.symm hK1
    obtain ⟨hP, hD⟩ := va_join (wr := []) (w1 := [(h0, .inr (6, [v6_0, .ref q_601, .ref q_602, .int (zI (z6_keeping)), .int (zI (z0_2007))])), (q_602, .inl (cA_602, 10, .inl g1_2008)), (q_601, .inl (cA_601, ny6, .inl g2_2009))]) hP hD [0, 1, 2] [] rfl rfl (by decide) (by decide) hk1 hFc hP1 hD1
    have hK := (hK.sub (tys' := []) [] rfl).app hK1
    generalize H1 = H at hP hS ⊢
    have hP : va_P (dC, dI) vwP [(h0, .inr (6, [v6_0, .ref q_601, .ref q_602, .int (zI (z6_keeping)), .int (zI (z0_2007))])), (q_602, .inl (cA_602, 10, .inl g1_2008)), (q_601, .inl (cA_601, ny6, .inl g2_2009))] H := hP
    have hD : va_D A [(h0, .inr (6, [v6_0, .ref q_601, .ref q_602, .int (zI (z6_keeping)), .int (zI (z0_2007))])), (q_602, .inl (cA_602, 10, .inl g1_2008)), (q_601, .inl (cA_601, ny6, .inl g2_2009))] := hD
    have hK : va_K (dC, dI) vwP [(cA_602, .int), (cA_601, .byte)] s := hK
    refine W.widen (k := 0) (n := 0) (Nat.le_of_ble_eq_true rfl) (Nat.le_of_ble_eq_true rfl) ?_
    obtain ⟨rk_2010, hu_2010⟩ := hxt_2009
    refine lv_goto (tgt := 25) hx hb dX6_putOperand_17 (by decide) ?_
    subst hQ
    refine W.widen (k := 0) (n := 0) (Nat.le_of_ble_eq_true rfl) (Nat.le_of_ble_eq_true rfl) ?_
    exact W.vret hx hb hr (fun t ht hW => ⟨⟨(), rfl, trivial, z0_2007, g1_2008, g2_2009, ⟨(by omega), (by omega)⟩, by rw [ht]; exact hP, va_K.moved hW.alike hK, hD⟩, hS.F ht⟩) hS.2.2 dX6_putOperand_25
theorem dX6_signOf_0 : decode cX6_signOf 0 = .ok (.iload_n 0, 1) := by decide +kernel
theorem dX6_signOf_1 : decode cX6_signOf 1 = .ok (.tableswitch 106 3 15 #[67, 70, 73, 76, 79, 82, 85, 88, 91, 94, 97, 100, 103], 67) := by decide +kernel
theorem dX6_signOf_68 : decode cX6_signOf 68 = .ok (.ldc 150, 2) := by decide +kernel
theorem dX6_signOf_70 : decode cX6_signOf 70 = .ok (.areturn, 1) := by decide +kernel
theorem dX6_signOf_71 : decode cX6_signOf 71 = .ok (.ldc 152, 2) := by decide +kernel
theorem dX6_signOf_73 : decode cX6_signOf 73 = .ok (.areturn, 1) := by decide +kernel
theorem dX6_signOf_74 : decode cX6_signOf 74 = .ok (.ldc 154, 2) := by decide +kernel
theorem dX6_signOf_76 : decode cX6_signOf 76 = .ok (.areturn, 1) := by decide +kernel
theorem dX6_signOf_77 : decode cX6_signOf 77 = .ok (.ldc 156, 2) := by decide +kernel
theorem dX6_signOf_79 : decode cX6_signOf 79 = .ok (.areturn, 1) := by decide +kernel
theorem dX6_signOf_80 : decode cX6_signOf 80 = .ok (.ldc 158, 2) := by decide +kernel
theorem dX6_signOf_82 : decode cX6_signOf 82 = .ok (.areturn, 1) := by decide +kernel
theorem dX6_signOf_83 : decode cX6_signOf 83 = .ok (.ldc 160, 2) := by decide +kernel
theorem dX6_signOf_85 : decode cX6_signOf 85 = .ok (.areturn, 1) := by decide +kernel
theorem dX6_signOf_86 : decode cX6_signOf 86 = .ok (.ldc 162, 2) := by decide +kernel
theorem dX6_signOf_88 : decode cX6_signOf 88 = .ok (.areturn, 1) := by decide +kernel
theorem dX6_signOf_89 : decode cX6_signOf 89 = .ok (.ldc 164, 2) := by decide +kernel
theorem dX6_signOf_91 : decode cX6_signOf 91 = .ok (.areturn, 1) := by decide +kernel
theorem dX6_signOf_92 : decode cX6_signOf 92 = .ok (.ldc 166, 2) := by decide +kernel
theorem dX6_signOf_94 : decode cX6_signOf 94 = .ok (.areturn, 1) := by decide +kernel
theorem dX6_signOf_95 : decode cX6_signOf 95 = .ok (.ldc 168, 2) := by decide +kernel
theorem dX6_signOf_97 : decode cX6_signOf 97 = .ok (.areturn, 1) := by decide +kernel
theorem dX6_signOf_98 : decode cX6_signOf 98 = .ok (.ldc 170, 2) := by decide +kernel
theorem dX6_signOf_100 : decode cX6_signOf 100 = .ok (.areturn, 1) := by decide +kernel
theorem dX6_signOf_101 : decode cX6_signOf 101 = .ok (.ldc 172, 2) := by decide +kernel
theorem dX6_signOf_103 : decode cX6_signOf 103 = .ok (.areturn, 1) := by decide +kernel
theorem dX6_signOf_104 : decode cX6_signOf 104 = .ok (.ldc 174, 2) := by decide +kernel
theorem dX6_signOf_106 : decode cX6_signOf 106 = .ok (.areturn, 1) := by decide +kernel
theorem dX6_signOf_107 : decode cX6_signOf 107 = .ok (.ldc 176, 2) := by decide +kernel
theorem dX6_signOf_109 : decode cX6_signOf 109 = .ok (.areturn, 1) := by decide +kernel
def o_X6_signOf : List Cond := []
def v_X6_signOf : List Cond := .code yX6_signOf cX6_signOf 1 (some (.object "java/lang/String")) :: (o_X6_signOf ++ [])
theorem mow_X6_signOf : ∀ w ∈ o_X6_signOf, w ∈ v_X6_signOf := fun _ h => List.mem_cons_of_mem _ (List.mem_append_left _ h)
set_option maxRecDepth 20000 in
theorem gw_X6_signOf : v_X6_signOf.all goodWord = true := by decide +kernel
set_option maxHeartbeats 4000000 in
set_option maxRecDepth 100000 in
theorem c_X6_signOf (l : Launch) (dC : Nat → ClassId) (dI : Nat → Nat → Nat) (o : Int) (hNo : -1 ≤ o ∧ o ≤ 100) (sz : Nat) (sa_RX6_150 : Nat) (sa_RX6_152 : Nat) (sa_RX6_154 : Nat) (sa_RX6_156 : Nat) (sa_RX6_158 : Nat) (sa_RX6_160 : Nat) (sa_RX6_162 : Nat) (sa_RX6_164 : Nat) (sa_RX6_166 : Nat) (sa_RX6_168 : Nat) (sa_RX6_170 : Nat) (sa_RX6_172 : Nat) (sa_RX6_174 : Nat) (sa_RX6_176 : Nat) : Met l yX6_signOf v_X6_signOf ({ frames := 0, cells := 0, slots := 0, locals := 0 }) (va_Pc [.int (zI (o))] (fun U => U.heap.size = sz ∧ va_P (dC, dI) vwP [] U.heap ∧ va_K (dC, dI) vwP [] U ∧ va_D (fun _ => True) [] ∧ vk_R RX6 150 "+" sa_RX6_150 U ∧ vk_R RX6 152 "-" sa_RX6_152 U ∧ vk_R RX6 154 "*" sa_RX6_154 U ∧ vk_R RX6 156 "/" sa_RX6_156 U ∧ vk_R RX6 158 "%" sa_RX6_158 U ∧ vk_R RX6 160 "&" sa_RX6_160 U ∧ vk_R RX6 162 "|" sa_RX6_162 U ∧ vk_R RX6 164 "^" sa_RX6_164 U ∧ vk_R RX6 166 "<<" sa_RX6_166 U ∧ vk_R RX6 168 ">>" sa_RX6_168 U ∧ vk_R RX6 170 "<" sa_RX6_170 U ∧ vk_R RX6 172 "<=" sa_RX6_172 U ∧ vk_R RX6 174 "==" sa_RX6_174 U ∧ vk_R RX6 176 "!=" sa_RX6_176 U)) (va_Qr (fun _ : Unit => True) (fun (_ : Unit) (rq : Nat) (t : State) => (rq = sa_RX6_150 ∨ rq = sa_RX6_152 ∨ rq = sa_RX6_154 ∨ rq = sa_RX6_156 ∨ rq = sa_RX6_158 ∨ rq = sa_RX6_160 ∨ rq = sa_RX6_162 ∨ rq = sa_RX6_164 ∨ rq = sa_RX6_166 ∨ rq = sa_RX6_168 ∨ rq = sa_RX6_170 ∨ rq = sa_RX6_172 ∨ rq = sa_RX6_174 ∨ rq = sa_RX6_176) ∧ va_P (dC, dI) vwP [] t.heap ∧ va_K (dC, dI) vwP [] t ∧ va_D (va_A [] sz) []) (va_A [] sz)) 0 0 (va_A [] sz) := by
  refine Met.ofW (cc := cX6_signOf) (maxL := 1) (ret := (some (.object "java/lang/String"))) (by decide) rfl ?_
  intro p e s m args below meth c s₁ B hml hv
  obtain ⟨rfl, hsz, hP, hK, hD0, hp0, hp1, hp2, hp3, hp4, hp5, hp6, hp7, hp8, hp9, hp10, hp11, hp12, hp13⟩ := hv
  have hx := B.exec
  have hb := B.bytes
  have hr := B.returns
  have hts := atoms_spec (ws := v_X6_signOf) B.pre
  have hown : s.vm.findClass RX6 = some m.cls := findClass_of_methodNamed B.named
  have hlocks := B.notSynchronized
  have ow : ∀ {k : Nat} {w : Cond}, o_X6_signOf[k]? = some w → w.before ([.int (zI (o))] : List Value).toArray s = true := fun h => hts _ (mow_X6_signOf _ (List.mem_of_getElem? h))
  subst hsz
  have hD := hD0.self (sz := s.heap.size)
  generalize hAe : va_A [] s.heap.size = A at hD ⊢
  have hA : ∀ q : Nat, s.heap.size ≤ q → A q := fun q h => by rw [← hAe]; exact Or.inr h
  have hS : va_S A s.heap s.heap [] := va_S.rf
  have hP : va_P (dC, dI) vwP [] s.heap := hP
  have hl := lv_entry ([.int (zI (o))]) (n := 1) (Nat.le_of_ble_eq_true rfl)
  rw [lg_entry_eq]
  generalize (lg_sl ([.int (zI (o))]) ++ List.replicate (1 - (lg_sl ([.int (zI (o))])).length) Slot.unset).toArray = ls at hl ⊢
  have hl : lv_has ls 1 [(0, .int (zI (o)))] := hl
  obtain ⟨H, hH⟩ : ∃ H, H = s.heap := ⟨_, rfl⟩
  rw [← hH] at hP
  have hS : va_S A s.heap H [] := by rw [hH]; exact hS
  rw [← hH]
  refine zW_cap (fun Q hQ => ?_)
  refine lv_iload_n hx hb dX6_signOf_0 rfl (lv_at hl 0 rfl) ?_
  by_cases s1_0 : o = 3
  · refine lv_tableIn (off := 67) (tgt := 68) hx hb dX6_signOf_1 (by rw [s1_0]; decide) (by rw [s1_0]; decide) (by rw [s1_0]; decide) (by decide) ?_
    refine va_ldcS hx hb hown hp0 dX6_signOf_68 ?_
    subst hQ
    refine W.widen (k := 0) (n := 0) (Nat.le_of_ble_eq_true rfl) (Nat.le_of_ble_eq_true rfl) ?_
    exact W.aret (v := .ref sa_RX6_150) hx hb hr (Or.inl ⟨_, rfl⟩) (Or.inr ⟨_, rfl⟩) (fun t ht hW => ⟨⟨(), sa_RX6_150, rfl, trivial, Or.inl rfl, by rw [ht]; exact hP, va_K.moved hW.alike hK, hD⟩, hS.F ht⟩) hS.2.2 dX6_signOf_70
  by_cases s1_1 : o = 4
  · refine lv_tableIn (off := 70) (tgt := 71) hx hb dX6_signOf_1 (by rw [s1_1]; decide) (by rw [s1_1]; decide) (by rw [s1_1]; decide) (by decide) ?_
    refine va_ldcS hx hb hown hp1 dX6_signOf_71 ?_
    subst hQ
    refine W.widen (k := 0) (n := 0) (Nat.le_of_ble_eq_true rfl) (Nat.le_of_ble_eq_true rfl) ?_
    exact W.aret (v := .ref sa_RX6_152) hx hb hr (Or.inl ⟨_, rfl⟩) (Or.inr ⟨_, rfl⟩) (fun t ht hW => ⟨⟨(), sa_RX6_152, rfl, trivial, Or.inr (Or.inl rfl), by rw [ht]; exact hP, va_K.moved hW.alike hK, hD⟩, hS.F ht⟩) hS.2.2 dX6_signOf_73
  by_cases s1_2 : o = 5
  · refine lv_tableIn (off := 73) (tgt := 74) hx hb dX6_signOf_1 (by rw [s1_2]; decide) (by rw [s1_2]; decide) (by rw [s1_2]; decide) (by decide) ?_
    refine va_ldcS hx hb hown hp2 dX6_signOf_74 ?_
    subst hQ
    refine W.widen (k := 0) (n := 0) (Nat.le_of_ble_eq_true rfl) (Nat.le_of_ble_eq_true rfl) ?_
    exact W.aret (v := .ref sa_RX6_154) hx hb hr (Or.inl ⟨_, rfl⟩) (Or.inr ⟨_, rfl⟩) (fun t ht hW => ⟨⟨(), sa_RX6_154, rfl, trivial, Or.inr (Or.inr (Or.inl rfl)), by rw [ht]; exact hP, va_K.moved hW.alike hK, hD⟩, hS.F ht⟩) hS.2.2 dX6_signOf_76
  by_cases s1_3 : o = 6
  · refine lv_tableIn (off := 76) (tgt := 77) hx hb dX6_signOf_1 (by rw [s1_3]; decide) (by rw [s1_3]; decide) (by rw [s1_3]; decide) (by decide) ?_
    refine va_ldcS hx hb hown hp3 dX6_signOf_77 ?_
    subst hQ
    refine W.widen (k := 0) (n := 0) (Nat.le_of_ble_eq_true rfl) (Nat.le_of_ble_eq_true rfl) ?_
    exact W.aret (v := .ref sa_RX6_156) hx hb hr (Or.inl ⟨_, rfl⟩) (Or.inr ⟨_, rfl⟩) (fun t ht hW => ⟨⟨(), sa_RX6_156, rfl, trivial, Or.inr (Or.inr (Or.inr (Or.inl rfl))), by rw [ht]; exact hP, va_K.moved hW.alike hK, hD⟩, hS.F ht⟩) hS.2.2 dX6_signOf_79
  by_cases s1_4 : o = 7
  · refine lv_tableIn (off := 79) (tgt := 80) hx hb dX6_signOf_1 (by rw [s1_4]; decide) (by rw [s1_4]; decide) (by rw [s1_4]; decide) (by decide) ?_
    refine va_ldcS hx hb hown hp4 dX6_signOf_80 ?_
    subst hQ
    refine W.widen (k := 0) (n := 0) (Nat.le_of_ble_eq_true rfl) (Nat.le_of_ble_eq_true rfl) ?_
    exact W.aret (v := .ref sa_RX6_158) hx hb hr (Or.inl ⟨_, rfl⟩) (Or.inr ⟨_, rfl⟩) (fun t ht hW => ⟨⟨(), sa_RX6_158, rfl, trivial, Or.inr (Or.inr (Or.inr (Or.inr (Or.inl rfl)))), by rw [ht]; exact hP, va_K.moved hW.alike hK, hD⟩, hS.F ht⟩) hS.2.2 dX6_signOf_82
  by_cases s1_5 : o = 8
  · refine lv_tableIn (off := 82) (tgt := 83) hx hb dX6_signOf_1 (by rw [s1_5]; decide) (by rw [s1_5]; decide) (by rw [s1_5]; decide) (by decide) ?_
    refine va_ldcS hx hb hown hp5 dX6_signOf_83 ?_
    subst hQ
    refine W.widen (k := 0) (n := 0) (Nat.le_of_ble_eq_true rfl) (Nat.le_of_ble_eq_true rfl) ?_
    exact W.aret (v := .ref sa_RX6_160) hx hb hr (Or.inl ⟨_, rfl⟩) (Or.inr ⟨_, rfl⟩) (fun t ht hW => ⟨⟨(), sa_RX6_160, rfl, trivial, Or.inr (Or.inr (Or.inr (Or.inr (Or.inr (Or.inl rfl))))), by rw [ht]; exact hP, va_K.moved hW.alike hK, hD⟩, hS.F ht⟩) hS.2.2 dX6_signOf_85
  by_cases s1_6 : o = 9
  · refine lv_tableIn (off := 85) (tgt := 86) hx hb dX6_signOf_1 (by rw [s1_6]; decide) (by rw [s1_6]; decide) (by rw [s1_6]; decide) (by decide) ?_
    refine va_ldcS hx hb hown hp6 dX6_signOf_86 ?_
    subst hQ
    refine W.widen (k := 0) (n := 0) (Nat.le_of_ble_eq_true rfl) (Nat.le_of_ble_eq_true rfl) ?_
    exact W.aret (v := .ref sa_RX6_162) hx hb hr (Or.inl ⟨_, rfl⟩) (Or.inr ⟨_, rfl⟩) (fun t ht hW => ⟨⟨(), sa_RX6_162, rfl, trivial, Or.inr (Or.inr (Or.inr (Or.inr (Or.inr (Or.inr (Or.inl rfl)))))), by rw [ht]; exact hP, va_K.moved hW.alike hK, hD⟩, hS.F ht⟩) hS.2.2 dX6_signOf_88
  by_cases s1_7 : o = 10
  · refine lv_tableIn (off := 88) (tgt := 89) hx hb dX6_signOf_1 (by rw [s1_7]; decide) (by rw [s1_7]; decide) (by rw [s1_7]; decide) (by decide) ?_
    refine va_ldcS hx hb hown hp7 dX6_signOf_89 ?_
    subst hQ
    refine W.widen (k := 0) (n := 0) (Nat.le_of_ble_eq_true rfl) (Nat.le_of_ble_eq_true rfl) ?_
    exact W.aret (v := .ref sa_RX6_164) hx hb hr (Or.inl ⟨_, rfl⟩) (Or.inr ⟨_, rfl⟩) (fun t ht hW => ⟨⟨(), sa_RX6_164, rfl, trivial, Or.inr (Or.inr (Or.inr (Or.inr (Or.inr (Or.inr (Or.inr (Or.inl rfl))))))), by rw [ht]; exact hP, va_K.moved hW.alike hK, hD⟩, hS.F ht⟩) hS.2.2 dX6_signOf_91
  by_cases s1_8 : o = 11
  · refine lv_tableIn (off := 91) (tgt := 92) hx hb dX6_signOf_1 (by rw [s1_8]; decide) (by rw [s1_8]; decide) (by rw [s1_8]; decide) (by decide) ?_
    refine va_ldcS hx hb hown hp8 dX6_signOf_92 ?_
    subst hQ
    refine W.widen (k := 0) (n := 0) (Nat.le_of_ble_eq_true rfl) (Nat.le_of_ble_eq_true rfl) ?_
    exact W.aret (v := .ref sa_RX6_166) hx hb hr (Or.inl ⟨_, rfl⟩) (Or.inr ⟨_, rfl⟩) (fun t ht hW => ⟨⟨(), sa_RX6_166, rfl, trivial, Or.inr (Or.inr (Or.inr (Or.inr (Or.inr (Or.inr (Or.inr (Or.inr (Or.inl rfl)))))))), by rw [ht]; exact hP, va_K.moved hW.alike hK, hD⟩, hS.F ht⟩) hS.2.2 dX6_signOf_94
  by_cases s1_9 : o = 12
  · refine lv_tableIn (off := 94) (tgt := 95) hx hb dX6_signOf_1 (by rw [s1_9]; decide) (by rw [s1_9]; decide) (by rw [s1_9]; decide) (by decide) ?_
    refine va_ldcS hx hb hown hp9 dX6_signOf_95 ?_
    subst hQ
    refine W.widen (k := 0) (n := 0) (Nat.le_of_ble_eq_true rfl) (Nat.le_of_ble_eq_true rfl) ?_
    exact W.aret (v := .ref sa_RX6_168) hx hb hr (Or.inl ⟨_, rfl⟩) (Or.inr ⟨_, rfl⟩) (fun t ht hW => ⟨⟨(), sa_RX6_168, rfl, trivial, Or.inr (Or.inr (Or.inr (Or.inr (Or.inr (Or.inr (Or.inr (Or.inr (Or.inr (Or.inl rfl))))))))), by rw [ht]; exact hP, va_K.moved hW.alike hK, hD⟩, hS.F ht⟩) hS.2.2 dX6_signOf_97
  by_cases s1_10 : o = 13
  · refine lv_tableIn (off := 97) (tgt := 98) hx hb dX6_signOf_1 (by rw [s1_10]; decide) (by rw [s1_10]; decide) (by rw [s1_10]; decide) (by decide) ?_
    refine va_ldcS hx hb hown hp10 dX6_signOf_98 ?_
    subst hQ
    refine W.widen (k := 0) (n := 0) (Nat.le_of_ble_eq_true rfl) (Nat.le_of_ble_eq_true rfl) ?_
    exact W.aret (v := .ref sa_RX6_170) hx hb hr (Or.inl ⟨_, rfl⟩) (Or.inr ⟨_, rfl⟩) (fun t ht hW => ⟨⟨(), sa_RX6_170, rfl, trivial, Or.inr (Or.inr (Or.inr (Or.inr (Or.inr (Or.inr (Or.inr (Or.inr (Or.inr (Or.inr (Or.inl rfl)))))))))), by rw [ht]; exact hP, va_K.moved hW.alike hK, hD⟩, hS.F ht⟩) hS.2.2 dX6_signOf_100
  by_cases s1_11 : o = 14
  · refine lv_tableIn (off := 100) (tgt := 101) hx hb dX6_signOf_1 (by rw [s1_11]; decide) (by rw [s1_11]; decide) (by rw [s1_11]; decide) (by decide) ?_
    refine va_ldcS hx hb hown hp11 dX6_signOf_101 ?_
    subst hQ
    refine W.widen (k := 0) (n := 0) (Nat.le_of_ble_eq_true rfl) (Nat.le_of_ble_eq_true rfl) ?_
    exact W.aret (v := .ref sa_RX6_172) hx hb hr (Or.inl ⟨_, rfl⟩) (Or.inr ⟨_, rfl⟩) (fun t ht hW => ⟨⟨(), sa_RX6_172, rfl, trivial, Or.inr (Or.inr (Or.inr (Or.inr (Or.inr (Or.inr (Or.inr (Or.inr (Or.inr (Or.inr (Or.inr (Or.inl rfl))))))))))), by rw [ht]; exact hP, va_K.moved hW.alike hK, hD⟩, hS.F ht⟩) hS.2.2 dX6_signOf_103
  by_cases s1_12 : o = 15
  · refine lv_tableIn (off := 103) (tgt := 104) hx hb dX6_signOf_1 (by rw [s1_12]; decide) (by rw [s1_12]; decide) (by rw [s1_12]; decide) (by decide) ?_
    refine va_ldcS hx hb hown hp12 dX6_signOf_104 ?_
    subst hQ
    refine W.widen (k := 0) (n := 0) (Nat.le_of_ble_eq_true rfl) (Nat.le_of_ble_eq_true rfl) ?_
    exact W.aret (v := .ref sa_RX6_174) hx hb hr (Or.inl ⟨_, rfl⟩) (Or.inr ⟨_, rfl⟩) (fun t ht hW => ⟨⟨(), sa_RX6_174, rfl, trivial, Or.inr (Or.inr (Or.inr (Or.inr (Or.inr (Or.inr (Or.inr (Or.inr (Or.inr (Or.inr (Or.inr (Or.inr (Or.inl rfl)))))))))))), by rw [ht]; exact hP, va_K.moved hW.alike hK, hD⟩, hS.F ht⟩) hS.2.2 dX6_signOf_106
  refine lv_tableOut (tgt := 107) hx hb dX6_signOf_1 (by rw [zI_toInt (by omega) (by omega)]; omega) (by decide) ?_
  refine va_ldcS hx hb hown hp13 dX6_signOf_107 ?_
  subst hQ
  refine W.widen (k := 0) (n := 0) (Nat.le_of_ble_eq_true rfl) (Nat.le_of_ble_eq_true rfl) ?_
  exact W.aret (v := .ref sa_RX6_176) hx hb hr (Or.inl ⟨_, rfl⟩) (Or.inr ⟨_, rfl⟩) (fun t ht hW => ⟨⟨(), sa_RX6_176, rfl, trivial, Or.inr (Or.inr (Or.inr (Or.inr (Or.inr (Or.inr (Or.inr (Or.inr (Or.inr (Or.inr (Or.inr (Or.inr (Or.inr (rfl))))))))))))), by rw [ht]; exact hP, va_K.moved hW.alike hK, hD⟩, hS.F ht⟩) hS.2.2 dX6_signOf_109
