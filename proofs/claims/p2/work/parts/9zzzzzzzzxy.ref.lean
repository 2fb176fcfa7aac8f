theorem dX19_room_0 : decode cX19_room 0 = .ok (.aload_n 0, 1) := by decide +kernel
theorem dX19_room_1 : decode cX19_room 1 = .ok (.getfield 92, 3) := by decide +kernel
theorem dX19_room_4 : decode cX19_room 4 = .ok (.arraylength, 1) := by decide +kernel
theorem dX19_room_5 : decode cX19_room 5 = .ok (.iload_n 1, 1) := by decide +kernel
theorem dX19_room_6 : decode cX19_room 6 = .ok (.if_icmp .ge 12, 3) := by decide +kernel
theorem dX19_room_18 : decode cX19_room 18 = .ok (.return_, 1) := by decide +kernel
theorem dX19_room_9 : decode cX19_room 9 = .ok (.aload_n 0, 1) := by decide +kernel
theorem dX19_room_10 : decode cX19_room 10 = .ok (.iconst 2, 1) := by decide +kernel
theorem dX19_room_11 : decode cX19_room 11 = .ok (.iload_n 1, 1) := by decide +kernel
theorem dX19_room_12 : decode cX19_room 12 = .ok (.imul, 1) := by decide +kernel
theorem dX19_room_13 : decode cX19_room 13 = .ok (.newarray .int, 2) := by decide +kernel
theorem dX19_room_15 : decode cX19_room 15 = .ok (.putfield 92, 3) := by decide +kernel
def o_X19_room : List Cond := [.fieldLink RX19 92 "SsaForgeModel" "numbers" "[I", .arrayClass .int]
def v_X19_room : List Cond := .code yX19_room cX19_room 2 none :: (o_X19_room ++ (wsX190 ++ []))
theorem mow_X19_room : ∀ w ∈ o_X19_room, w ∈ v_X19_room := fun _ h => List.mem_cons_of_mem _ (List.mem_append_left _ h)
theorem mem_X19_room_0 : ∀ w ∈ wsX190, w ∈ v_X19_room := fun _ h => List.mem_cons_of_mem _ (List.mem_append_right _ (List.mem_append_left _ h))
set_option maxRecDepth 20000 in
theorem gw_X19_room : v_X19_room.all goodWord = true := by decide +kernel
set_option maxHeartbeats 4000000 in
set_option maxRecDepth 100000 in
theorem c_X19_room (l : Launch) (dC : Nat → ClassId) (dI : Nat → Nat → Nat) (h0 : Nat) (v19_0 : Value) (v19_1 : Value) (v19_2 : Value) (v19_4 : Value) (v19_5 : Value) (v19_6 : Value) (v19_7 : Value) (v19_8 : Value) (v19_9 : Value) (v19_10 : Value) (v19_11 : Value) (v19_12 : Value) (v19_13 : Value) (v19_14 : Value) (v19_15 : Value) (v19_16 : Value) (v19_17 : Value) (v19_18 : Value) (v19_19 : Value) (v19_20 : Value) (v19_21 : Value) (v19_22 : Value) (v19_23 : Value) (v19_24 : Value) (v19_25 : Value) (v19_26 : Value) (v19_27 : Value) (v19_28 : Value) (v19_29 : Value) (v19_30 : Value) (v19_31 : Value) (v19_32 : Value) (v19_33 : Value) (v19_34 : Value) (v19_35 : Value) (v19_36 : Value) (v19_37 : Value) (v19_38 : Value) (v19_39 : Value) (v19_40 : Value) (q_1903 : Nat) (cA_1903 : ClassId) (n19_numbers : Nat) (a19_numbers : Int → Int) (n0 : Int) (hNn19_numbers : n19_numbers ≤ 1000) (hR_a19_numbers : ∀ j : Int, -1 ≤ a19_numbers j ∧ a19_numbers j ≤ 299) (hNn : 0 ≤ n0 ∧ n0 ≤ 300) (sz : Nat) (HU : Heap) : Met l yX19_room v_X19_room ({ frames := 0, cells := (1), slots := ((2 * n0).toNat), locals := 0 }) (va_Pc [.ref h0, .int (zI (n0))] (fun U => U.heap.size = sz ∧ va_P (dC, dI) vwQ [(h0, .inr (16, [v19_0, v19_1, v19_2, .ref q_1903, v19_4, v19_5, v19_6, v19_7, v19_8, v19_9, v19_10, v19_11, v19_12, v19_13, v19_14, v19_15, v19_16, v19_17, v19_18, v19_19, v19_20, v19_21, v19_22, v19_23, v19_24, v19_25, v19_26, v19_27, v19_28, v19_29, v19_30, v19_31, v19_32, v19_33, v19_34, v19_35, v19_36, v19_37, v19_38, v19_39, v19_40])), (q_1903, .inl (cA_1903, n19_numbers, .inl (fun j : Nat => zI (a19_numbers (j : Int)))))] U.heap ∧ va_K (dC, dI) vwQ [(cA_1903, .int)] U ∧ va_D (fun _ => True) [(h0, .inr (16, [v19_0, v19_1, v19_2, .ref q_1903, v19_4, v19_5, v19_6, v19_7, v19_8, v19_9, v19_10, v19_11, v19_12, v19_13, v19_14, v19_15, v19_16, v19_17, v19_18, v19_19, v19_20, v19_21, v19_22, v19_23, v19_24, v19_25, v19_26, v19_27, v19_28, v19_29, v19_30, v19_31, v19_32, v19_33, v19_34, v19_35, v19_36, v19_37, v19_38, v19_39, v19_40])), (q_1903, .inl (cA_1903, n19_numbers, .inl (fun j : Nat => zI (a19_numbers (j : Int)))))] ∧ U.heap = HU)) (va_Qv (fun _ : Unit => True) (fun (_ : Unit) (t : State) => ∃ (qn0_9 : Nat) (cn0_9 : ClassId) (nn0_9 : Nat) (an0_9 : Int → Int) (kc_9 : Nat) (ks_9 : Nat), ((RM HU t.heap kc_9 ks_9 ∧ ((ks_9 : Int) ≤ 2 * ((nn0_9 : Int) - n19_numbers) ∧ (kc_9 : Int) ≤ (nn0_9 : Int) - n19_numbers ∧ (ks_9 : Int) ≤ 600 ∧ (kc_9 : Int) ≤ 1)) ∧ ((∀ j : Int, -1 ≤ an0_9 j ∧ an0_9 j ≤ 299) ∧ ((n0 ≤ nn0_9 ∧ (n19_numbers : Int) ≤ nn0_9 ∧ ((nn0_9 : Int) = n19_numbers ∨ (nn0_9 : Int) = 2 * n0))))) ∧ va_P (dC, dI) vwQ [(h0, .inr (16, [v19_0, v19_1, v19_2, .ref qn0_9, v19_4, v19_5, v19_6, v19_7, v19_8, v19_9, v19_10, v19_11, v19_12, v19_13, v19_14, v19_15, v19_16, v19_17, v19_18, v19_19, v19_20, v19_21, v19_22, v19_23, v19_24, v19_25, v19_26, v19_27, v19_28, v19_29, v19_30, v19_31, v19_32, v19_33, v19_34, v19_35, v19_36, v19_37, v19_38, v19_39, v19_40])), (qn0_9, .inl (cn0_9, nn0_9, .inl (fun j : Nat => zI (an0_9 (j : Int)))))] t.heap ∧ va_K (dC, dI) vwQ [(cn0_9, .int)] t ∧ va_D (va_A [(h0, .inr (16, [v19_0, v19_1, v19_2, .ref q_1903, v19_4, v19_5, v19_6, v19_7, v19_8, v19_9, v19_10, v19_11, v19_12, v19_13, v19_14, v19_15, v19_16, v19_17, v19_18, v19_19, v19_20, v19_21, v19_22, v19_23, v19_24, v19_25, v19_26, v19_27, v19_28, v19_29, v19_30, v19_31, v19_32, v19_33, v19_34, v19_35, v19_36, v19_37, v19_38, v19_39, v19_40])), (q_1903, .inl (cA_1903, n19_numbers, .inl (fun j : Nat => zI (a19_numbers (j : Int)))))] sz) [(h0, .inr (16, [v19_0, v19_1, v19_2, .ref qn0_9, v19_4, v19_5, v19_6, v19_7, v19_8, v19_9, v19_10, v19_11, v19_12, v19_13, v19_14, v19_15, v19_16, v19_17, v19_18, v19_19, v19_20, v19_21, v19_22, v19_23, v19_24, v19_25, v19_26, v19_27, v19_28, v19_29, v19_30, v19_31, v19_32, v19_33, v19_34, v19_35, v19_36, v19_37, v19_38, v19_39, v19_40])), (qn0_9, .inl (cn0_9, nn0_9, .inl (fun j : Nat => zI (an0_9 (j : Int)))))]) (va_A [(h0, .inr (16, [v19_0, v19_1, v19_2, .ref q_1903, v19_4, v19_5, v19_6, v19_7, v19_8, v19_9, v19_10, v19_11, v19_12, v19_13, v19_14, v19_15, v19_16, v19_17, v19_18, v19_19, v19_20, v19_21, v19_22, v19_23, v19_24, v19_25, v19_26, v19_27, v19_28, v19_29, v19_30, v19_31, v19_32, v19_33, v19_34, v19_35, v19_36, v19_37, v19_38, v19_39, v19_40])), (q_1903, .inl (cA_1903, n19_numbers, .inl (fun j : Nat => zI (a19_numbers (j : Int)))))] sz)) (1) ((2 * n0).toNat) (va_A [(h0, .inr (16, [v19_0, v19_1, v19_2, .ref q_1903, v19_4, v19_5, v19_6, v19_7, v19_8, v19_9, v19_10, v19_11, v19_12, v19_13, v19_14, v19_15, v19_16, v19_17, v19_18, v19_19, v19_20, v19_21, v19_22, v19_23, v19_24, v19_25, v19_26, v19_27, v19_28, v19_29, v19_30, v19_31, v19_32, v19_33, v19_34, v19_35, v19_36, v19_37, v19_38, v19_39, v19_40])), (q_1903, .inl (cA_1903, n19_numbers, .inl (fun j : Nat => zI (a19_numbers (j : Int)))))] sz) := by
  refine Met.ofW (cc := cX19_room) (maxL := 2) (ret := none) (by decide) rfl ?_
  intro p e s m args below meth c s₁ B hml hv
  obtain ⟨rfl, hsz, hP, hK, hD0, hp0⟩ := hv
  have hx := B.exec
  have hb := B.bytes
  have hr := B.returns
  have hts := atoms_spec (ws := v_X19_room) B.pre
  have hown : s.vm.findClass RX19 = some m.cls := findClass_of_methodNamed B.named
  have hlocks := B.notSynchronized
  have ow : ∀ {k : Nat} {w : Cond}, o_X19_room[k]? = some w → w.before ([.ref h0, .int (zI (n0))] : List Value).toArray s = true := fun h => hts _ (mow_X19_room _ (List.mem_of_getElem? h))
  subst hsz
  have hD := hD0.self (sz := s.heap.size)
  generalize hAe : va_A [(h0, .inr (16, [v19_0, v19_1, v19_2, .ref q_1903, v19_4, v19_5, v19_6, v19_7, v19_8, v19_9, v19_10, v19_11, v19_12, v19_13, v19_14, v19_15, v19_16, v19_17, v19_18, v19_19, v19_20, v19_21, v19_22, v19_23, v19_24, v19_25, v19_26, v19_27, v19_28, v19_29, v19_30, v19_31, v19_32, v19_33, v19_34, v19_35, v19_36, v19_37, v19_38, v19_39, v19_40])), (q_1903, .inl (cA_1903, n19_numbers, .inl (fun j : Nat => zI (a19_numbers (j : Int)))))] s.heap.size = A at hD ⊢
  have hA : ∀ q : Nat, s.heap.size ≤ q → A q := fun q h => by rw [← hAe]; exact Or.inr h
  have hS : va_S A s.heap s.heap [] := va_S.rf
  have hP : va_P (dC, dI) vwQ [(h0, .inr (16, [v19_0, v19_1, v19_2, .ref q_1903, v19_4, v19_5, v19_6, v19_7, v19_8, v19_9, v19_10, v19_11, v19_12, v19_13, v19_14, v19_15, v19_16, v19_17, v19_18, v19_19, v19_20, v19_21, v19_22, v19_23, v19_24, v19_25, v19_26, v19_27, v19_28, v19_29, v19_30, v19_31, v19_32, v19_33, v19_34, v19_35, v19_36, v19_37, v19_38, v19_39, v19_40])), (q_1903, .inl (cA_1903, n19_numbers, .inl (fun j : Nat => zI (a19_numbers (j : Int)))))] s.heap := hP
  have hl := lv_entry ([.ref h0, .int (zI (n0))]) (n := 2) (Nat.le_of_ble_eq_true rfl)
  rw [lg_entry_eq]
  generalize (lg_sl ([.ref h0, .int (zI (n0))]) ++ List.replicate (2 - (lg_sl ([.ref h0, .int (zI (n0))])).length) Slot.unset).toArray = ls at hl ⊢
  have hl : lv_has ls 2 [(0, .ref h0), (1, .int (zI (n0)))] := hl
  obtain ⟨H, hH⟩ : ∃ H, H = s.heap := ⟨_, rfl⟩
  rw [← hH] at hP
  have hS : va_S A s.heap H [] := by rw [hH]; exact hS
  rw [← hH]
  refine zW_cap (fun Q hQ => ?_)
  refine lv_aload_n hx hb dX19_room_0 rfl (lv_at hl 0 rfl) ?_
  refine va_get (D := (dC, dI)) (ci := 16) (v := .ref q_1903) (C := RX19) (T := TX19) (N := 41) hx hb hts mem_X19_room_0 hown hK hP 0 rfl rfl 3 (by decide) (ow (k := 0) rfl) (fun _ h9 => h9) rfl dX19_room_1 ?_
  refine va_alen (v := zI ((n19_numbers : Int))) hx hb hK hP 1 0 rfl rfl (zI_ofNat n19_numbers) dX19_room_4 ?_
  refine lv_iload_n hx hb dX19_room_5 rfl (lv_at hl 1 rfl) ?_
  refine lv_icmp_ge (tgt := 18) hx hb dX19_room_6 (by decide) (fun b6 => ?_) (fun b6 => ?_)
  · have yb6 : (n0 : Int) ≤ ((n19_numbers : Int) : Int) := (zI_le (a := n0) (b := (n19_numbers : Int)) (by omega) (by omega) (by omega) (by omega)).mp b6
    subst hQ
    refine W_knowS (fun hrm9 => ?_)
    refine W.widen (k := (1)) (n := ((2 * n0).toNat)) (by omega) (by omega) ?_
    exact W.vret hx hb hr (fun t ht hW => ⟨⟨(), rfl, trivial, q_1903, cA_1903, n19_numbers, a19_numbers, 0, 0, ⟨⟨(by rw [ht, ← hp0]; exact hrm9), (by omega)⟩, ⟨hR_a19_numbers, (by omega)⟩⟩, by rw [ht]; exact hP, va_K.moved hW.alike hK, hD⟩, hS.F ht⟩) hS.2.2 dX19_room_18
  · have yb6 : ¬ (n0 : Int) ≤ ((n19_numbers : Int) : Int) := fun q => b6 ((zI_le (a := n0) (b := (n19_numbers : Int)) (by omega) (by omega) (by omega) (by omega)).mpr q)
    refine lv_aload_n hx hb dX19_room_9 rfl (lv_at hl 0 rfl) ?_
    refine lv_iconst (v := 2) hx hb dX19_room_10 (by decide) ?_
    refine lv_iload_n hx hb dX19_room_11 rfl (lv_at hl 1 rfl) ?_
    refine lv_imul hx hb dX19_room_12 ?_
    refine lv_topi (fun z ez => ?_)
    obtain rfl : z = zI (2 * n0) := ez.trans (zI_mul (2) (n0))
    obtain ⟨nw_2003, enw_2003⟩ : ∃ n9 : Nat, (n9 : Int) = 2 * n0 := ⟨(2 * n0).toNat, by omega⟩
    refine va_newa (ty := .int) (n := zI (2 * n0)) (N' := nw_2003) (a0 := (nw_2003, .inl (fun _ => 0))) hx hb (ow (k := 1) rfl) rfl hK hP hD hS hA (fun _ => rfl) (zI_nn (by omega) (by omega)) (by rw [zI_cl (by omega) (by omega)]; omega) (by show nw_2003 * 4 ≤ 536870912; omega) (show 0 + 1 ≤ 1 from (by omega)) (show 0 + nw_2003 ≤ (2 * n0).toNat from (by omega)) dX19_room_13 (fun q_2001 cA_2002 H hK hP hD hS => ?_)
    obtain ⟨az_2004, eaz_2004⟩ : ∃ f9 : Int → Int, f9 = (fun _ => 0) := ⟨_, rfl⟩
    have hP : va_P (dC, dI) vwQ [(h0, .inr (16, [v19_0, v19_1, v19_2, .ref q_1903, v19_4, v19_5, v19_6, v19_7, v19_8, v19_9, v19_10, v19_11, v19_12, v19_13, v19_14, v19_15, v19_16, v19_17, v19_18, v19_19, v19_20, v19_21, v19_22, v19_23, v19_24, v19_25, v19_26, v19_27, v19_28, v19_29, v19_30, v19_31, v19_32, v19_33, v19_34, v19_35, v19_36, v19_37, v19_38, v19_39, v19_40])), (q_1903, .inl (cA_1903, n19_numbers, .inl (fun j : Nat => zI (a19_numbers (j : Int))))), (q_2001, .inl (cA_2002, nw_2003, .inl (fun _ => 0)))] H := hP
    have hD : va_D A [(h0, .inr (16, [v19_0, v19_1, v19_2, .ref q_1903, v19_4, v19_5, v19_6, v19_7, v19_8, v19_9, v19_10, v19_11, v19_12, v19_13, v19_14, v19_15, v19_16, v19_17, v19_18, v19_19, v19_20, v19_21, v19_22, v19_23, v19_24, v19_25, v19_26, v19_27, v19_28, v19_29, v19_30, v19_31, v19_32, v19_33, v19_34, v19_35, v19_36, v19_37, v19_38, v19_39, v19_40])), (q_1903, .inl (cA_1903, n19_numbers, .inl (fun j : Nat => zI (a19_numbers (j : Int))))), (q_2001, .inl (cA_2002, nw_2003, .inl (fun _ => 0)))] := hD
    rw [show (fun _ : Nat => (0 : Int32)) = (fun j : Nat => zI (az_2004 (j : Int))) from (by rw [eaz_2004]; rfl)] at hP hD
    have hP : va_P (dC, dI) vwQ [(h0, .inr (16, [v19_0, v19_1, v19_2, .ref q_1903, v19_4, v19_5, v19_6, v19_7, v19_8, v19_9, v19_10, v19_11, v19_12, v19_13, v19_14, v19_15, v19_16, v19_17, v19_18, v19_19, v19_20, v19_21, v19_22, v19_23, v19_24, v19_25, v19_26, v19_27, v19_28, v19_29, v19_30, v19_31, v19_32, v19_33, v19_34, v19_35, v19_36, v19_37, v19_38, v19_39, v19_40])), (q_1903, .inl (cA_1903, n19_numbers, .inl (fun j : Nat => zI (a19_numbers (j : Int))))), (q_2001, .inl (cA_2002, nw_2003, .inl (fun j : Nat => zI (az_2004 (j : Int)))))] H := hP
    have hD : va_D A [(h0, .inr (16, [v19_0, v19_1, v19_2, .ref q_1903, v19_4, v19_5, v19_6, v19_7, v19_8, v19_9, v19_10, v19_11, v19_12, v19_13, v19_14, v19_15, v19_16, v19_17, v19_18, v19_19, v19_20, v19_21, v19_22, v19_23, v19_24, v19_25, v19_26, v19_27, v19_28, v19_29, v19_30, v19_31, v19_32, v19_33, v19_34, v19_35, v19_36, v19_37, v19_38, v19_39, v19_40])), (q_1903, .inl (cA_1903, n19_numbers, .inl (fun j : Nat => zI (a19_numbers (j : Int))))), (q_2001, .inl (cA_2002, nw_2003, .inl (fun j : Nat => zI (az_2004 (j : Int)))))] := hD
    have raz_2004 : ∀ j : Int, -1 ≤ az_2004 j ∧ az_2004 j ≤ 299 := (fun j => by rw [eaz_2004]; show -1 ≤ (0 : Int) ∧ (0 : Int) ≤ 299; omega)
    have hK : va_K (dC, dI) vwQ [(cA_1903, .int), (cA_2002, .int)] s := hK
    refine va_put (D := (dC, dI)) (ci := 16) (v := .ref q_2001) (ty := .array .int) (C := RX19) (T := TX19) (N := 41) hx hb hts mem_X19_room_0 tyX19 tyX19_ok nmX19 hown hK hP hD hS 0 rfl rfl 3 (by decide) (ow (k := 0) rfl) (fun _ h9 => h9) rfl (by decide +kernel) rfl rfl (by first | exact Nat.le_of_ble_eq_true rfl | exact (show 1 ≤ 1 from (by omega)) | exact (show (0 + nw_2003) ≤ (2 * n0).toNat from (by omega))) dX19_room_15 (fun H locs hP hD hS => ?_)
    have hP : va_P (dC, dI) vwQ [(h0, .inr (16, [v19_0, v19_1, v19_2, .ref q_2001, v19_4, v19_5, v19_6, v19_7, v19_8, v19_9, v19_10, v19_11, v19_12, v19_13, v19_14, v19_15, v19_16, v19_17, v19_18, v19_19, v19_20, v19_21, v19_22, v19_23, v19_24, v19_25, v19_26, v19_27, v19_28, v19_29, v19_30, v19_31, v19_32, v19_33, v19_34, v19_35, v19_36, v19_37, v19_38, v19_39, v19_40])), (q_1903, .inl (cA_1903, n19_numbers, .inl (fun j : Nat => zI (a19_numbers (j : Int))))), (q_2001, .inl (cA_2002, nw_2003, .inl (fun j : Nat => zI (az_2004 (j : Int)))))] H := hP
    have hD : va_D A [(h0, .inr (16, [v19_0, v19_1, v19_2, .ref q_2001, v19_4, v19_5, v19_6, v19_7, v19_8, v19_9, v19_10, v19_11, v19_12, v19_13, v19_14, v19_15, v19_16, v19_17, v19_18, v19_19, v19_20, v19_21, v19_22, v19_23, v19_24, v19_25, v19_26, v19_27, v19_28, v19_29, v19_30, v19_31, v19_32, v19_33, v19_34, v19_35, v19_36, v19_37, v19_38, v19_39, v19_40])), (q_1903, .inl (cA_1903, n19_numbers, .inl (fun j : Nat => zI (a19_numbers (j : Int))))), (q_2001, .inl (cA_2002, nw_2003, .inl (fun j : Nat => zI (az_2004 (j : Int)))))] := hD
    subst hQ
    have hP := hP.sub (ws' := [(h0, .inr (16, [v19_0, v19_1, v19_2, .ref q_2001, v19_4, v19_5, v19_6, v19_7, v19_8, v19_9, v19_10, v19_11, v19_12, v19_13, v19_14, v19_15, v19_16, v19_17, v19_18, v19_19, v19_20, v19_21, v19_22, v19_23, v19_24, v19_25, v19_26, v19_27, v19_28, v19_29, v19_30, v19_31, v19_32, v19_33, v19_34, v19_35, v19_36, v19_37, v19_38, v19_39, v19_40])), (q_2001, .inl (cA_2002, nw_2003, .inl (fun j : Nat => zI (az_2004 (j : Int)))))]) [0, 2] rfl
    have hD := hD.sub (ws' := [(h0, .inr (16, [v19_0, v19_1, v19_2, .ref q_2001, v19_4, v19_5, v19_6, v19_7, v19_8, v19_9, v19_10, v19_11, v19_12, v19_13, v19_14, v19_15, v19_16, v19_17, v19_18, v19_19, v19_20, v19_21, v19_22, v19_23, v19_24, v19_25, v19_26, v19_27, v19_28, v19_29, v19_30, v19_31, v19_32, v19_33, v19_34, v19_35, v19_36, v19_37, v19_38, v19_39, v19_40])), (q_2001, .inl (cA_2002, nw_2003, .inl (fun j : Nat => zI (az_2004 (j : Int)))))]) [0, 2] (by decide) rfl
    have hK := hK.sub (tys' := [(cA_2002, .int)]) [1] rfl
    refine W_knowS (fun hrm9 => ?_)
    refine W.widen (k := (1)) (n := ((2 * n0).toNat)) (by omega) (by omega) ?_
    exact W.vret hx hb hr (fun t ht hW => ⟨⟨(), rfl, trivial, q_2001, cA_2002, nw_2003, az_2004, 1, (0 + nw_2003), ⟨⟨(by rw [ht, ← hp0]; exact hrm9), (by omega)⟩, ⟨raz_2004, (by omega)⟩⟩, by rw [ht]; exact hP, va_K.moved hW.alike hK, hD⟩, hS.F ht⟩) hS.2.2 dX19_room_18
def o_J7_copyOfI1 : List Cond := [.arrayClass .int, .methodLink RJ7 304 Lib.Math.min.name, .static Lib.Math.min.name, .initialized "java/lang/Math", .code Lib.Math.min.name Lib.Math.min.code 2 (some .int), .methodLink RJ7 150 arraycopyName, .native arraycopyName, .static arraycopyName, .initialized "java/lang/System"]
def v_J7_copyOfI1 : List Cond := .code yJ7_copyOf_59c91 cJ7_copyOf_59c91 3 (some (.array .int)) :: (o_J7_copyOfI1 ++ [])
theorem mow_J7_copyOfI1 : ∀ w ∈ o_J7_copyOfI1, w ∈ v_J7_copyOfI1 := fun _ h => List.mem_cons_of_mem _ (List.mem_append_left _ h)
set_option maxRecDepth 20000 in
theorem gw_J7_copyOfI1 : v_J7_copyOfI1.all goodWord = true := by decide +kernel
set_option maxHeartbeats 4000000 in
set_option maxRecDepth 100000 in
theorem c_J7_copyOfI1 (l : Launch) (dC : Nat → ClassId) (dI : Nat → Nat → Nat) (q_o : Nat) (cI : ClassId) (no : Nat) (a_o : Int → Int) (n : Int) (hNno : no ≤ 20000) (hR_a_o : ∀ j : Int, 0 ≤ a_o j ∧ a_o j ≤ 1001) (hNn : (no : Int) < n ∧ n ≤ 20000) (sz : Nat) : Met l yJ7_copyOf_59c91 v_J7_copyOfI1 ({ frames := 1, cells := (1), slots := ((n).toNat), locals := 60 }) (va_Pc [.ref q_o, .int (zI (n))] (fun U => U.heap.size = sz ∧ va_P (dC, dI) vwQ [(q_o, .inl (cI, no, .inl (fun j : Nat => zI (a_o (j : Int)))))] U.heap ∧ va_K (dC, dI) vwQ [(cI, .int)] U ∧ va_D (fun _ => True) [(q_o, .inl (cI, no, .inl (fun j : Nat => zI (a_o (j : Int)))))])) (va_Qr (fun _ : Unit => True) (fun (_ : Unit) (rq : Nat) (t : State) => ∃ (cn_9 : ClassId) (nn_9 : Nat) (fn_9 : Int → Int), (((nn_9 : Int) = n ∧ ∀ j : Int, 0 ≤ fn_9 j ∧ fn_9 j ≤ 1001)) ∧ va_P (dC, dI) vwQ [(q_o, .inl (cI, no, .inl (fun j : Nat => zI (a_o (j : Int))))), (rq, .inl (cn_9, nn_9, .inl (fun j : Nat => zI (fn_9 (j : Int)))))] t.heap ∧ va_K (dC, dI) vwQ [(cI, .int), (cn_9, .int)] t ∧ va_D (va_A [(q_o, .inl (cI, no, .inl (fun j : Nat => zI (a_o (j : Int)))))] sz) [(q_o, .inl (cI, no, .inl (fun j : Nat => zI (a_o (j : Int))))), (rq, .inl (cn_9, nn_9, .inl (fun j : Nat => zI (fn_9 (j : Int)))))]) (va_A [(q_o, .inl (cI, no, .inl (fun j : Nat => zI (a_o (j : Int)))))] sz)) (1) ((n).toNat) (va_A [(q_o, .inl (cI, no, .inl (fun j : Nat => zI (a_o (j : Int)))))] sz) := by
  refine Met.ofW (cc := cJ7_copyOf_59c91) (maxL := 3) (ret := (some (.array .int))) (by decide) rfl ?_
  intro p e s m args below meth c s₁ B hml hv
  obtain ⟨rfl, hsz, hP, hK, hD0⟩ := hv
  have hx := B.exec
  have hb := B.bytes
  have hr := B.returns
  have hts := atoms_spec (ws := v_J7_copyOfI1) B.pre
  have hown : s.vm.findClass RJ7 = some m.cls := findClass_of_methodNamed B.named
  have hlocks := B.notSynchronized
  have ow : ∀ {k : Nat} {w : Cond}, o_J7_copyOfI1[k]? = some w → w.before ([.ref q_o, .int (zI (n))] : List Value).toArray s = true := fun h => hts _ (mow_J7_copyOfI1 _ (List.mem_of_getElem? h))
  subst hsz
  have hD := hD0.self (sz := s.heap.size)
  generalize hAe : va_A [(q_o, .inl (cI, no, .inl (fun j : Nat => zI (a_o (j : Int)))))] s.heap.size = A at hD ⊢
  have hA : ∀ q : Nat, s.heap.size ≤ q → A q := fun q h => by rw [← hAe]; exact Or.inr h
  have hS : va_S A s.heap s.heap [] := va_S.rf
  have hP : va_P (dC, dI) vwQ [(q_o, .inl (cI, no, .inl (fun j : Nat => zI (a_o (j : Int)))))] s.heap := hP
  have hl := lv_entry ([.ref q_o, .int (zI (n))]) (n := 3) (Nat.le_of_ble_eq_true rfl)
  rw [lg_entry_eq]
  generalize (lg_sl ([.ref q_o, .int (zI (n))]) ++ List.replicate (3 - (lg_sl ([.ref q_o, .int (zI (n))])).length) Slot.unset).toArray = ls at hl ⊢
  have hl : lv_has ls 3 [(0, .ref q_o), (1, .int (zI (n)))] := hl
  obtain ⟨H, hH⟩ : ∃ H, H = s.heap := ⟨_, rfl⟩
  rw [← hH] at hP
  have hS : va_S A s.heap H [] := by rw [hH]; exact hS
  rw [← hH]
  refine zW_cap (fun Q hQ => ?_)
  refine lv_iload_n hx hb dJ7_copyOf_59c91_0 rfl (lv_at hl 1 rfl) ?_
  refine lv_aload_n hx hb dJ7_copyOf_59c91_1 rfl (lv_at hl 0 rfl) ?_
  refine va_alen (v := zI ((no : Int))) hx hb hK hP 0 0 rfl rfl (zI_ofNat no) dJ7_copyOf_59c91_2 ?_
  refine lv_icmp_ne (tgt := 14) hx hb dJ7_copyOf_59c91_3 (by decide) (fun b3 => ?_) (fun b3 => ?_)
  · have yb3 : ¬ (n : Int) = ((no : Int) : Int) := fun q => b3 ((zI_eq (a := n) (b := (no : Int)) (by omega) (by omega) (by omega) (by omega)).mpr q)
    refine lv_iload_n hx hb dJ7_copyOf_59c91_14 rfl (lv_at hl 1 rfl) ?_
    obtain ⟨nw_3, enw_3⟩ : ∃ n9 : Nat, (n9 : Int) = n := ⟨(n).toNat, by omega⟩
    refine va_newa (ty := .int) (n := zI (n)) (N' := nw_3) (a0 := (nw_3, .inl (fun _ => 0))) hx hb (ow (k := 0) rfl) rfl hK hP hD hS hA (fun _ => rfl) (zI_nn (by omega) (by omega)) (by rw [zI_cl (by omega) (by omega)]; omega) (by show nw_3 * 4 ≤ 536870912; omega) (show 0 + 1 ≤ 1 from (by omega)) (show 0 + nw_3 ≤ (n).toNat from (by omega)) dJ7_copyOf_59c91_15 (fun q_1 cA_2 H hK hP hD hS => ?_)
    obtain ⟨az_4, eaz_4⟩ : ∃ f9 : Int → Int, f9 = (fun _ => 0) := ⟨_, rfl⟩
    have hP : va_P (dC, dI) vwQ [(q_o, .inl (cI, no, .inl (fun j : Nat => zI (a_o (j : Int))))), (q_1, .inl (cA_2, nw_3, .inl (fun _ => 0)))] H := hP
    have hD : va_D A [(q_o, .inl (cI, no, .inl (fun j : Nat => zI (a_o (j : Int))))), (q_1, .inl (cA_2, nw_3, .inl (fun _ => 0)))] := hD
    rw [show (fun _ : Nat => (0 : Int32)) = (fun j : Nat => zI (az_4 (j : Int))) from (by rw [eaz_4]; rfl)] at hP hD
    have hP : va_P (dC, dI) vwQ [(q_o, .inl (cI, no, .inl (fun j : Nat => zI (a_o (j : Int))))), (q_1, .inl (cA_2, nw_3, .inl (fun j : Nat => zI (az_4 (j : Int)))))] H := hP
    have hD : va_D A [(q_o, .inl (cI, no, .inl (fun j : Nat => zI (a_o (j : Int))))), (q_1, .inl (cA_2, nw_3, .inl (fun j : Nat => zI (az_4 (j : Int)))))] := hD
    have raz_4 : ∀ j : Int, 0 ≤ az_4 j ∧ az_4 j ≤ 1001 := (fun j => by rw [eaz_4]; show 0 ≤ (0 : Int) ∧ (0 : Int) ≤ 1001; omega)
    have hK : va_K (dC, dI) vwQ [(cI, .int), (cA_2, .int)] s := hK
    refine lv_astore_n (lv' := [(2, .ref q_1), (0, .ref q_o), (1, .int (zI (n)))]) hx hb dJ7_copyOf_59c91_17 rfl hl (by decide) rfl (fun ls hl => ?_)
    refine lv_aload_n hx hb dJ7_copyOf_59c91_18 rfl (lv_at hl 1 rfl) ?_
    refine lv_iconst (v := 0) hx hb dJ7_copyOf_59c91_19 (by decide) ?_
    refine lv_aload_n hx hb dJ7_copyOf_59c91_20 rfl (lv_at hl 0 rfl) ?_
    refine lv_iconst (v := 0) hx hb dJ7_copyOf_59c91_21 (by decide) ?_
    refine lv_aload_n hx hb dJ7_copyOf_59c91_22 rfl (lv_at hl 1 rfl) ?_
    refine va_alen (v := zI ((no : Int))) hx hb hK hP 0 0 rfl rfl (zI_ofNat no) dJ7_copyOf_59c91_23 ?_
    refine lv_iload_n hx hb dJ7_copyOf_59c91_24 rfl (lv_at hl 2 rfl) ?_
    refine va_mmin hx hb (hml.trans hl.1.symm) hown (ow (k := 1) rfl) (ow (k := 2) rfl) (ow (k := 3) rfl) (ow (k := 4) rfl) (by first | exact Nat.le_of_ble_eq_true rfl | exact (show 1 ≤ 1 from (by omega)) | exact (show (0 + nw_3) ≤ (n).toNat from (by omega))) (by first | exact Nat.le_of_ble_eq_true rfl | exact (show 1 ≤ 1 from (by omega)) | exact (show (0 + nw_3) ≤ (n).toNat from (by omega))) (by first | exact Nat.le_of_ble_eq_true rfl | exact (show 1 ≤ 1 from (by omega)) | exact (show (0 + nw_3) ≤ (n).toNat from (by omega))) (by first | exact Nat.le_of_ble_eq_true rfl | exact (show 1 ≤ 1 from (by omega)) | exact (show (0 + nw_3) ≤ (n).toNat from (by omega))) dJ7_copyOf_59c91_25 ?_
    refine lv_topi (fun z9 ez => ?_)
    obtain ⟨z_5, rfl, hzz_5⟩ := zI_min (a := (no : Int)) (b := n) (by omega) (by omega) (by omega) (by omega) ez
    refine va_copyi (sp := zI (0)) (dp := zI (0)) (n := zI (z_5)) hx hb (hml.trans hl.1.symm) hown (ow (k := 5) rfl) (ow (k := 6) rfl) (ow (k := 7) rfl) (ow (k := 8) rfl) hK hP hD hS 0 1 0 1 rfl rfl rfl rfl rfl (zI_nn (by omega) (by omega)) (zI_nn (by omega) (by omega)) (zI_nn (by omega) (by omega)) (zI_sum (by omega) (by omega) (by omega) (by omega) (by omega)) (zI_sum (by omega) (by omega) (by omega) (by omega) (by omega)) (fun _ _ => rfl) (by first | exact Nat.le_of_ble_eq_true rfl | exact (show 1 ≤ 1 from (by omega)) | exact (show (0 + nw_3) ≤ (n).toNat from (by omega))) (by first | exact Nat.le_of_ble_eq_true rfl | exact (show 1 ≤ 1 from (by omega)) | exact (show (0 + nw_3) ≤ (n).toNat from (by omega))) dJ7_copyOf_59c91_28 (fun H locs hP hD hS => ?_)
    obtain ⟨a_6, ea_6, ra_6⟩ := cpy_zI (P := fun x9 => 0 ≤ x9 ∧ x9 ≤ 1001) az_4 hR_a_o raz_4 (sp := (zI (0)).toNatClampNeg) (dp := (zI (0)).toNatClampNeg) (n := (zI (z_5)).toNatClampNeg)
    rw [ea_6] at hP hD
    have hP : va_P (dC, dI) vwQ [(q_o, .inl (cI, no, .inl (fun j : Nat => zI (a_o (j : Int))))), (q_1, .inl (cA_2, nw_3, .inl (fun j : Nat => zI (a_6 (j : Int)))))] H := hP
    have hD : va_D A [(q_o, .inl (cI, no, .inl (fun j : Nat => zI (a_o (j : Int))))), (q_1, .inl (cA_2, nw_3, .inl (fun j : Nat => zI (a_6 (j : Int)))))] := hD
    refine lv_aload_n hx hb dJ7_copyOf_59c91_31 rfl (lv_at hl 0 rfl) ?_
    subst hQ
    refine W.widen (k := (1)) (n := ((n).toNat)) (by omega) (by omega) ?_
    exact W.aret (v := .ref q_1) hx hb hr (Or.inr ⟨_, rfl⟩) (Or.inr ⟨_, rfl⟩) (fun t ht hW => ⟨⟨(), q_1, rfl, trivial, cA_2, nw_3, a_6, ⟨by omega, ra_6⟩, by rw [ht]; exact hP, va_K.moved hW.alike hK, hD⟩, hS.F ht⟩) hS.2.2 dJ7_copyOf_59c91_32
  · have yb3 : (n : Int) = ((no : Int) : Int) := (zI_eq (a := n) (b := (no : Int)) (by omega) (by omega) (by omega) (by omega)).mp b3
    exfalso
    omega
def o_J7_copyOfI3 : List Cond := [.arrayClass .int, .methodLink RJ7 304 Lib.Math.min.name, .static Lib.Math.min.name, .initialized "java/lang/Math", .code Lib.Math.min.name Lib.Math.min.code 2 (some .int), .methodLink RJ7 150 arraycopyName, .native arraycopyName, .static arraycopyName, .initialized "java/lang/System"]
def v_J7_copyOfI3 : List Cond := .code yJ7_copyOf_59c91 cJ7_copyOf_59c91 3 (some (.array .int)) :: (o_J7_copyOfI3 ++ [])
theorem mow_J7_copyOfI3 : ∀ w ∈ o_J7_copyOfI3, w ∈ v_J7_copyOfI3 := fun _ h => List.mem_cons_of_mem _ (List.mem_append_left _ h)
set_option maxRecDepth 20000 in
theorem gw_J7_copyOfI3 : v_J7_copyOfI3.all goodWord = true := by decide +kernel
set_option maxHeartbeats 4000000 in
set_option maxRecDepth 100000 in
theorem c_J7_copyOfI3 (l : Launch) (dC : Nat → ClassId) (dI : Nat → Nat → Nat) (q_o : Nat) (cI : ClassId) (no : Nat) (a_o : Int → Int) (n : Int) (hNno : no ≤ 20000) (hR_a_o : ∀ j : Int, -2147483648 ≤ a_o j ∧ a_o j ≤ 2147483647) (hNn : (no : Int) < n ∧ n ≤ 20000) (sz : Nat) : Met l yJ7_copyOf_59c91 v_J7_copyOfI3 ({ frames := 1, cells := (1), slots := ((n).toNat), locals := 60 }) (va_Pc [.ref q_o, .int (zI (n))] (fun U => U.heap.size = sz ∧ va_P (dC, dI) vwQ [(q_o, .inl (cI, no, .inl (fun j : Nat => zI (a_o (j : Int)))))] U.heap ∧ va_K (dC, dI) vwQ [(cI, .int)] U ∧ va_D (fun _ => True) [(q_o, .inl (cI, no, .inl (fun j : Nat => zI (a_o (j : Int)))))])) (va_Qr (fun _ : Unit => True) (fun (_ : Unit) (rq : Nat) (t : State) => ∃ (cn_9 : ClassId) (nn_9 : Nat) (fn_9 : Int → Int), (((nn_9 : Int) = n ∧ ∀ j : Int, -2147483648 ≤ fn_9 j ∧ fn_9 j ≤ 2147483647)) ∧ va_P (dC, dI) vwQ [(q_o, .inl (cI, no, .inl (fun j : Nat => zI (a_o (j : Int))))), (rq, .inl (cn_9, nn_9, .inl (fun j : Nat => zI (fn_9 (j : Int)))))] t.heap ∧ va_K (dC, dI) vwQ [(cI, .int), (cn_9, .int)] t ∧ va_D (va_A [(q_o, .inl (cI, no, .inl (fun j : Nat => zI (a_o (j : Int)))))] sz) [(q_o, .inl (cI, no, .inl (fun j : Nat => zI (a_o (j : Int))))), (rq, .inl (cn_9, nn_9, .inl (fun j : Nat => zI (fn_9 (j : Int)))))]) (va_A [(q_o, .inl (cI, no, .inl (fun j : Nat => zI (a_o (j : Int)))))] sz)) (1) ((n).toNat) (va_A [(q_o, .inl (cI, no, .inl (fun j : Nat => zI (a_o (j : Int)))))] sz) := by
  refine Met.ofW (cc := cJ7_copyOf_59c91) (maxL := 3) (ret := (some (.array .int))) (by decide) rfl ?_
  intro p e s m args below meth c s₁ B hml hv
  obtain ⟨rfl, hsz, hP, hK, hD0⟩ := hv
  have hx := B.exec
  have hb := B.bytes
  have hr := B.returns
  have hts := atoms_spec (ws := v_J7_copyOfI3) B.pre
  have hown : s.vm.findClass RJ7 = some m.cls := findClass_of_methodNamed B.named
  have hlocks := B.notSynchronized
  have ow : ∀ {k : Nat} {w : Cond}, o_J7_copyOfI3[k]? = some w → w.before ([.ref q_o, .int (zI (n))] : List Value).toArray s = true := fun h => hts _ (mow_J7_copyOfI3 _ (List.mem_of_getElem? h))
  subst hsz
  have hD := hD0.self (sz := s.heap.size)
  generalize hAe : va_A [(q_o, .inl (cI, no, .inl (fun j : Nat => zI (a_o (j : Int)))))] s.heap.size = A at hD ⊢
  have hA : ∀ q : Nat, s.heap.size ≤ q → A q := fun q h => by rw [← hAe]; exact Or.inr h
  have hS : va_S A s.heap s.heap [] := va_S.rf
  have hP : va_P (dC, dI) vwQ [(q_o, .inl (cI, no, .inl (fun j : Nat => zI (a_o (j : Int)))))] s.heap := hP
  have hl := lv_entry ([.ref q_o, .int (zI (n))]) (n := 3) (Nat.le_of_ble_eq_true rfl)
  rw [lg_entry_eq]
  generalize (lg_sl ([.ref q_o, .int (zI (n))]) ++ List.replicate (3 - (lg_sl ([.ref q_o, .int (zI (n))])).length) Slot.unset).toArray = ls at hl ⊢
  have hl : lv_has ls 3 [(0, .ref q_o), (1, .int (zI (n)))] := hl
  obtain ⟨H, hH⟩ : ∃ H, H = s.heap := ⟨_, rfl⟩
  rw [← hH] at hP
  have hS : va_S A s.heap H [] := by rw [hH]; exact hS
  rw [← hH]
  refine zW_cap (fun Q hQ => ?_)
  refine lv_iload_n hx hb dJ7_copyOf_59c91_0 rfl (lv_at hl 1 rfl) ?_
  refine lv_aload_n hx hb dJ7_copyOf_59c91_1 rfl (lv_at hl 0 rfl) ?_
  refine va_alen (v := zI ((no : Int))) hx hb hK hP 0 0 rfl rfl (zI_ofNat no) dJ7_copyOf_59c91_2 ?_
  refine lv_icmp_ne (tgt := 14) hx hb dJ7_copyOf_59c91_3 (by decide) (fun b3 => ?_) (fun b3 => ?_)
  · have yb3 : ¬ (n : Int) = ((no : Int) : Int) := fun q => b3 ((zI_eq (a := n) (b := (no : Int)) (by omega) (by omega) (by omega) (by omega)).mpr q)
    refine lv_iload_n hx hb dJ7_copyOf_59c91_14 rfl (lv_at hl 1 rfl) ?_
    obtain ⟨nw_3, enw_3⟩ : ∃ n9 : Nat, (n9 : Int) = n := ⟨(n).toNat, by omega⟩
    refine va_newa (ty := .int) (n := zI (n)) (N' := nw_3) (a0 := (nw_3, .inl (fun _ => 0))) hx hb (ow (k := 0) rfl) rfl hK hP hD hS hA (fun _ => rfl) (zI_nn (by omega) (by omega)) (by rw [zI_cl (by omega) (by omega)]; omega) (by show nw_3 * 4 ≤ 536870912; omega) (show 0 + 1 ≤ 1 from (by omega)) (show 0 + nw_3 ≤ (n).toNat from (by omega)) dJ7_copyOf_59c91_15 (fun q_1 cA_2 H hK hP hD hS => ?_)
    obtain ⟨az_4, eaz_4⟩ : ∃ f9 : Int → Int, f9 = (fun _ => 0) := ⟨_, rfl⟩
    have hP : va_P (dC, dI) vwQ [(q_o, .inl (cI, no, .inl (fun j : Nat => zI (a_o (j : Int))))), (q_1, .inl (cA_2, nw_3, .inl (fun _ => 0)))] H := hP
    have hD : va_D A [(q_o, .inl (cI, no, .inl (fun j : Nat => zI (a_o (j : Int))))), (q_1, .inl (cA_2, nw_3, .inl (fun _ => 0)))] := hD
    rw [show (fun _ : Nat => (0 : Int32)) = (fun j : Nat => zI (az_4 (j : Int))) from (by rw [eaz_4]; rfl)] at hP hD
    have hP : va_P (dC, dI) vwQ [(q_o, .inl (cI, no, .inl (fun j : Nat => zI (a_o (j : Int))))), (q_1, .inl (cA_2, nw_3, .inl (fun j : Nat => zI (az_4 (j : Int)))))] H := hP
    have hD : va_D A [(q_o, .inl (cI, no, .inl (fun j : Nat => zI (a_o (j : Int))))), (q_1, .inl (cA_2, nw_3, .inl (fun j : Nat => zI (az_4 (j : Int)))))] := hD
    have raz_4 : ∀ j : Int, -2147483648 ≤ az_4 j ∧ az_4 j ≤ 2147483647 := (fun j => by rw [eaz_4]; show -2147483648 ≤ (0 : Int) ∧ (0 : Int) ≤ 2147483647; omega)
    have hK : va_K (dC, dI) vwQ [(cI, .int), (cA_2, .int)] s := hK
    refine lv_astore_n (lv' := [(2, .ref q_1), (0, .ref q_o), (1, .int (zI (n)))]) hx hb dJ7_copyOf_59c91_17 rfl hl (by decide) rfl (fun ls hl => ?_)
    refine lv_aload_n hx hb dJ7_copyOf_59c91_18 rfl (lv_at hl 1 rfl) ?_
    refine lv_iconst (v := 0) hx hb dJ7_copyOf_59c91_19 (by decide) ?_
    refine lv_aload_n hx hb dJ7_copyOf_59c91_20 rfl (lv_at hl 0 rfl) ?_
    refine lv_iconst (v := 0) hx hb dJ7_copyOf_59c91_21 (by decide) ?_
    refine lv_aload_n hx hb dJ7_copyOf_59c91_22 rfl (lv_at hl 1 rfl) ?_
    refine va_alen (v := zI ((no : Int))) hx hb hK hP 0 0 rfl rfl (zI_ofNat no) dJ7_copyOf_59c91_23 ?_
    refine lv_iload_n hx hb dJ7_copyOf_59c91_24 rfl (lv_at hl 2 rfl) ?_
    refine va_mmin hx hb (hml.trans hl.1.symm) hown (ow (k := 1) rfl) (ow (k := 2) rfl) (ow (k := 3) rfl) (ow (k := 4) rfl) (by first | exact Nat.le_of_ble_eq_true rfl | exact (show 1 ≤ 1 from (by omega)) | exact (show (0 + nw_3) ≤ (n).toNat from (by omega))) (by first | exact Nat.le_of_ble_eq_true rfl | exact (show 1 ≤ 1 from (by omega)) | exact (show (0 + nw_3) ≤ (n).toNat from (by omega))) (by first | exact Nat.le_of_ble_eq_true rfl | exact (show 1 ≤ 1 from (by omega)) | exact (show (0 + nw_3) ≤ (n).toNat from (by omega))) (by first | exact Nat.le_of_ble_eq_true rfl | exact (show 1 ≤ 1 from (by omega)) | exact (show (0 + nw_3) ≤ (n).toNat from (by omega))) dJ7_copyOf_59c91_25 ?_
    refine lv_topi (fun z9 ez => ?_)
    obtain ⟨z_5, rfl, hzz_5⟩ := zI_min (a := (no : Int)) (b := n) (by omega) (by omega) (by omega) (by omega) ez
    refine va_copyi (sp := zI (0)) (dp := zI (0)) (n := zI (z_5)) hx hb (hml.trans hl.1.symm) hown (ow (k := 5) rfl) (ow (k := 6) rfl) (ow (k := 7) rfl) (ow (k := 8) rfl) hK hP hD hS 0 1 0 1 rfl rfl rfl rfl rfl (zI_nn (by omega) (by omega)) (zI_nn (by omega) (by omega)) (zI_nn (by omega) (by omega)) (zI_sum (by omega) (by omega) (by omega) (by omega) (by omega)) (zI_sum (by omega) (by omega) (by omega) (by omega) (by omega)) (fun _ _ => rfl) (by first | exact Nat.le_of_ble_eq_true rfl | exact (show 1 ≤ 1 from (by omega)) | exact (show (0 + nw_3) ≤ (n).toNat from (by omega))) (by first | exact Nat.le_of_ble_eq_true rfl | exact (show 1 ≤ 1 from (by omega)) | exact (show (0 + nw_3) ≤ (n).toNat from (by omega))) dJ7_copyOf_59c91_28 (fun H locs hP hD hS => ?_)
    obtain ⟨a_6, ea_6, ra_6⟩ := cpy_zI (P := fun x9 => -2147483648 ≤ x9 ∧ x9 ≤ 2147483647) az_4 hR_a_o raz_4 (sp := (zI (0)).toNatClampNeg) (dp := (zI (0)).toNatClampNeg) (n := (zI (z_5)).toNatClampNeg)
    rw [ea_6] at hP hD
    have hP : va_P (dC, dI) vwQ [(q_o, .inl (cI, no, .inl (fun j : Nat => zI (a_o (j : Int))))), (q_1, .inl (cA_2, nw_3, .inl (fun j : Nat => zI (a_6 (j : Int)))))] H := hP
    have hD : va_D A [(q_o, .inl (cI, no, .inl (fun j : Nat => zI (a_o (j : Int))))), (q_1, .inl (cA_2, nw_3, .inl (fun j : Nat => zI (a_6 (j : Int)))))] := hD
    refine lv_aload_n hx hb dJ7_copyOf_59c91_31 rfl (lv_at hl 0 rfl) ?_
    subst hQ
    refine W.widen (k := (1)) (n := ((n).toNat)) (by omega) (by omega) ?_
    exact W.aret (v := .ref q_1) hx hb hr (Or.inr ⟨_, rfl⟩) (Or.inr ⟨_, rfl⟩) (fun t ht hW => ⟨⟨(), q_1, rfl, trivial, cA_2, nw_3, a_6, ⟨by omega, ra_6⟩, by rw [ht]; exact hP, va_K.moved hW.alike hK, hD⟩, hS.F ht⟩) hS.2.2 dJ7_copyOf_59c91_32
  · have yb3 : (n : Int) = ((no : Int) : Int) := (zI_eq (a := n) (b := (no : Int)) (by omega) (by omega) (by omega) (by omega)).mp b3
    exfalso
    omega
