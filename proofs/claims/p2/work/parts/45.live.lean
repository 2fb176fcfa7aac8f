theorem dJ13_bitCount_95d88_0 : decode cJ13_bitCount_95d88 0 = .ok (.lload_n 0, 1) := by decide +kernel
theorem dJ13_bitCount_95d88_1 : decode cJ13_bitCount_95d88 1 = .ok (.lload_n 0, 1) := by decide +kernel
theorem dJ13_bitCount_95d88_2 : decode cJ13_bitCount_95d88 2 = .ok (.iconst 1, 1) := by decide +kernel
theorem dJ13_bitCount_95d88_3 : decode cJ13_bitCount_95d88 3 = .ok (.lushr, 1) := by decide +kernel
theorem dJ13_bitCount_95d88_4 : decode cJ13_bitCount_95d88 4 = .ok (.ldc2_w 314, 3) := by decide +kernel
theorem dJ13_bitCount_95d88_7 : decode cJ13_bitCount_95d88 7 = .ok (.land, 1) := by decide +kernel
theorem dJ13_bitCount_95d88_8 : decode cJ13_bitCount_95d88 8 = .ok (.lsub, 1) := by decide +kernel
theorem dJ13_bitCount_95d88_9 : decode cJ13_bitCount_95d88 9 = .ok (.lstore_n 0, 1) := by decide +kernel
theorem dJ13_bitCount_95d88_10 : decode cJ13_bitCount_95d88 10 = .ok (.lload_n 0, 1) := by decide +kernel
theorem dJ13_bitCount_95d88_11 : decode cJ13_bitCount_95d88 11 = .ok (.ldc2_w 316, 3) := by decide +kernel
theorem dJ13_bitCount_95d88_14 : decode cJ13_bitCount_95d88 14 = .ok (.land, 1) := by decide +kernel
theorem dJ13_bitCount_95d88_15 : decode cJ13_bitCount_95d88 15 = .ok (.lload_n 0, 1) := by decide +kernel
theorem dJ13_bitCount_95d88_16 : decode cJ13_bitCount_95d88 16 = .ok (.iconst 2, 1) := by decide +kernel
theorem dJ13_bitCount_95d88_17 : decode cJ13_bitCount_95d88 17 = .ok (.lushr, 1) := by decide +kernel
theorem dJ13_bitCount_95d88_18 : decode cJ13_bitCount_95d88 18 = .ok (.ldc2_w 316, 3) := by decide +kernel
theorem dJ13_bitCount_95d88_21 : decode cJ13_bitCount_95d88 21 = .ok (.land, 1) := by decide +kernel
theorem dJ13_bitCount_95d88_22 : decode cJ13_bitCount_95d88 22 = .ok (.ladd, 1) := by decide +kernel
theorem dJ13_bitCount_95d88_23 : decode cJ13_bitCount_95d88 23 = .ok (.lstore_n 0, 1) := by decide +kernel
theorem dJ13_bitCount_95d88_24 : decode cJ13_bitCount_95d88 24 = .ok (.lload_n 0, 1) := by decide +kernel
theorem dJ13_bitCount_95d88_25 : decode cJ13_bitCount_95d88 25 = .ok (.lload_n 0, 1) := by decide +kernel
theorem dJ13_bitCount_95d88_26 : decode cJ13_bitCount_95d88 26 = .ok (.iconst 4, 1) := by decide +kernel
theorem dJ13_bitCount_95d88_27 : decode cJ13_bitCount_95d88 27 = .ok (.lushr, 1) := by decide +kernel
theorem dJ13_bitCount_95d88_28 : decode cJ13_bitCount_95d88 28 = .ok (.ladd, 1) := by decide +kernel
theorem dJ13_bitCount_95d88_29 : decode cJ13_bitCount_95d88 29 = .ok (.ldc2_w 318, 3) := by decide +kernel
theorem dJ13_bitCount_95d88_32 : decode cJ13_bitCount_95d88 32 = .ok (.land, 1) := by decide +kernel
theorem dJ13_bitCount_95d88_33 : decode cJ13_bitCount_95d88 33 = .ok (.lstore_n 0, 1) := by decide +kernel
theorem dJ13_bitCount_95d88_34 : decode cJ13_bitCount_95d88 34 = .ok (.lload_n 0, 1) := by decide +kernel
theorem dJ13_bitCount_95d88_35 : decode cJ13_bitCount_95d88 35 = .ok (.lload_n 0, 1) := by decide +kernel
theorem dJ13_bitCount_95d88_36 : decode cJ13_bitCount_95d88 36 = .ok (.bipush 8, 2) := by decide +kernel
theorem dJ13_bitCount_95d88_38 : decode cJ13_bitCount_95d88 38 = .ok (.lushr, 1) := by decide +kernel
theorem dJ13_bitCount_95d88_39 : decode cJ13_bitCount_95d88 39 = .ok (.ladd, 1) := by decide +kernel
theorem dJ13_bitCount_95d88_40 : decode cJ13_bitCount_95d88 40 = .ok (.lstore_n 0, 1) := by decide +kernel
theorem dJ13_bitCount_95d88_41 : decode cJ13_bitCount_95d88 41 = .ok (.lload_n 0, 1) := by decide +kernel
theorem dJ13_bitCount_95d88_42 : decode cJ13_bitCount_95d88 42 = .ok (.lload_n 0, 1) := by decide +kernel
theorem dJ13_bitCount_95d88_43 : decode cJ13_bitCount_95d88 43 = .ok (.bipush 16, 2) := by decide +kernel
theorem dJ13_bitCount_95d88_45 : decode cJ13_bitCount_95d88 45 = .ok (.lushr, 1) := by decide +kernel
theorem dJ13_bitCount_95d88_46 : decode cJ13_bitCount_95d88 46 = .ok (.ladd, 1) := by decide +kernel
theorem dJ13_bitCount_95d88_47 : decode cJ13_bitCount_95d88 47 = .ok (.lstore_n 0, 1) := by decide +kernel
theorem dJ13_bitCount_95d88_48 : decode cJ13_bitCount_95d88 48 = .ok (.lload_n 0, 1) := by decide +kernel
theorem dJ13_bitCount_95d88_49 : decode cJ13_bitCount_95d88 49 = .ok (.lload_n 0, 1) := by decide +kernel
theorem dJ13_bitCount_95d88_50 : decode cJ13_bitCount_95d88 50 = .ok (.bipush 32, 2) := by decide +kernel
theorem dJ13_bitCount_95d88_52 : decode cJ13_bitCount_95d88 52 = .ok (.lushr, 1) := by decide +kernel
theorem dJ13_bitCount_95d88_53 : decode cJ13_bitCount_95d88 53 = .ok (.ladd, 1) := by decide +kernel
theorem dJ13_bitCount_95d88_54 : decode cJ13_bitCount_95d88 54 = .ok (.lstore_n 0, 1) := by decide +kernel
theorem dJ13_bitCount_95d88_55 : decode cJ13_bitCount_95d88 55 = .ok (.lload_n 0, 1) := by decide +kernel
theorem dJ13_bitCount_95d88_56 : decode cJ13_bitCount_95d88 56 = .ok (.l2i, 1) := by decide +kernel
theorem dJ13_bitCount_95d88_57 : decode cJ13_bitCount_95d88 57 = .ok (.bipush 127, 2) := by decide +kernel
theorem dJ13_bitCount_95d88_59 : decode cJ13_bitCount_95d88 59 = .ok (.iand, 1) := by decide +kernel
theorem dJ13_bitCount_95d88_60 : decode cJ13_bitCount_95d88 60 = .ok (.ireturn, 1) := by decide +kernel
def o_J13_bitCount : List Cond := [.constantLong RJ13 314 (6148914691236517205), .constantLong RJ13 316 (3689348814741910323), .constantLong RJ13 318 (1085102592571150095)]
def v_J13_bitCount : List Cond := .code yJ13_bitCount_95d88 cJ13_bitCount_95d88 2 (some .int) :: (o_J13_bitCount ++ [])
theorem mow_J13_bitCount : ∀ w ∈ o_J13_bitCount, w ∈ v_J13_bitCount := fun _ h => List.mem_cons_of_mem _ (List.mem_append_left _ h)
set_option maxRecDepth 20000 in
theorem gw_J13_bitCount : v_J13_bitCount.all goodWord = true := by decide +kernel
set_option maxHeartbeats 4000000 in
set_option maxRecDepth 100000 in
theorem c_J13_bitCount (l : Launch) (dC : Nat → ClassId) (dI : Nat → Nat → Nat) (x : Int64) (sz : Nat) : Met l yJ13_bitCount_95d88 v_J13_bitCount ({ frames := 0, cells := 0, slots := 0, locals := 0 }) (va_Pc [.long x] (fun U => U.heap.size = sz ∧ va_P (dC, dI) vwP [] U.heap ∧ va_K (dC, dI) vwP [] U ∧ va_D (fun _ => True) [])) (va_Qi (fun (r : Int32) (_ : Unit) => ∃ z : Int, r = zI z ∧ (0 ≤ z ∧ z ≤ 127)) (fun (_ : Unit) (t : State) => va_P (dC, dI) vwP [] t.heap ∧ va_K (dC, dI) vwP [] t ∧ va_D (va_A [] sz) []) (va_A [] sz)) 0 0 (va_A [] sz) := by
  refine Met.ofW (cc := cJ13_bitCount_95d88) (maxL := 2) (ret := (some .int)) (by decide) rfl ?_
  intro p e s m args below meth c s₁ B hml hv
  obtain ⟨rfl, hsz, hP, hK, hD0⟩ := hv
  have hx := B.exec
  have hb := B.bytes
  have hr := B.returns
  have hts := atoms_spec (ws := v_J13_bitCount) B.pre
  have hown : s.vm.findClass RJ13 = some m.cls := findClass_of_methodNamed B.named
  have hlocks := B.notSynchronized
  have ow : ∀ {k : Nat} {w : Cond}, o_J13_bitCount[k]? = some w → w.before ([.long x] : List Value).toArray s = true := fun h => hts _ (mow_J13_bitCount _ (List.mem_of_getElem? h))
  subst hsz
  have hD := hD0.self (sz := s.heap.size)
  generalize hAe : va_A [] s.heap.size = A at hD ⊢
  have hA : ∀ q : Nat, s.heap.size ≤ q → A q := fun q h => by rw [← hAe]; exact Or.inr h
  have hS : va_S A s.heap s.heap [] := va_S.rf
  have hP : va_P (dC, dI) vwP [] s.heap := hP
  have hl := lv_entry ([.long x]) (n := 2) (Nat.le_of_ble_eq_true rfl)
  rw [lg_entry_eq]
  generalize (lg_sl ([.long x]) ++ List.replicate (2 - (lg_sl ([.long x])).length) Slot.unset).toArray = ls at hl ⊢
  have hl : lv_has ls 2 [(0, .long x)] := hl
  obtain ⟨H, hH⟩ : ∃ H, H = s.heap := ⟨_, rfl⟩
  rw [← hH] at hP
  have hS : va_S A s.heap H [] := by rw [hH]; exact hS
  rw [← hH]
  refine zW_cap (fun Q hQ => ?_)
  refine lv_lload_n hx hb dJ13_bitCount_95d88_0 rfl (lv_at hl 0 rfl) ?_
  refine lv_lload_n hx hb dJ13_bitCount_95d88_1 rfl (lv_at hl 0 rfl) ?_
  refine lv_iconst (v := 1) hx hb dJ13_bitCount_95d88_2 (by decide) ?_
  refine lv_lushr hx hb dJ13_bitCount_95d88_3 rfl ?_
  refine lv_topl (fun x_1 _ => ?_)
  refine lv_ldc2 (v := 6148914691236517205) hx hb hown (ow (k := 0) rfl) dJ13_bitCount_95d88_4 ?_
  refine lv_topl (fun z ez => ?_)
  obtain rfl : z = lI (6148914691236517205) := ez
  refine lv_land hx hb dJ13_bitCount_95d88_7 ?_
  refine lv_topl (fun x_2 _ => ?_)
  refine lv_lsub hx hb dJ13_bitCount_95d88_8 ?_
  refine lv_topl (fun x_3 _ => ?_)
  refine lv_lstore_n (lv' := [(0, .long x_3)]) hx hb dJ13_bitCount_95d88_9 rfl hl (by decide) rfl (fun ls hl => ?_)
  refine lv_lload_n hx hb dJ13_bitCount_95d88_10 rfl (lv_at hl 0 rfl) ?_
  refine lv_ldc2 (v := 3689348814741910323) hx hb hown (ow (k := 1) rfl) dJ13_bitCount_95d88_11 ?_
  refine lv_topl (fun z ez => ?_)
  obtain rfl : z = lI (3689348814741910323) := ez
  refine lv_land hx hb dJ13_bitCount_95d88_14 ?_
  refine lv_topl (fun x_4 _ => ?_)
  refine lv_lload_n hx hb dJ13_bitCount_95d88_15 rfl (lv_at hl 0 rfl) ?_
  refine lv_iconst (v := 2) hx hb dJ13_bitCount_95d88_16 (by decide) ?_
  refine lv_lushr hx hb dJ13_bitCount_95d88_17 rfl ?_
  refine lv_topl (fun x_5 _ => ?_)
  refine lv_ldc2 (v := 3689348814741910323) hx hb hown (ow (k := 1) rfl) dJ13_bitCount_95d88_18 ?_
  refine lv_topl (fun z ez => ?_)
  obtain rfl : z = lI (3689348814741910323) := ez
  refine lv_land hx hb dJ13_bitCount_95d88_21 ?_
  refine lv_topl (fun x_6 _ => ?_)
  refine lv_ladd hx hb dJ13_bitCount_95d88_22 ?_
  refine lv_topl (fun x_7 _ => ?_)
  refine lv_lstore_n (lv' := [(0, .long x_7)]) hx hb dJ13_bitCount_95d88_23 rfl hl (by decide) rfl (fun ls hl => ?_)
  refine lv_lload_n hx hb dJ13_bitCount_95d88_24 rfl (lv_at hl 0 rfl) ?_
  refine lv_lload_n hx hb dJ13_bitCount_95d88_25 rfl (lv_at hl 0 rfl) ?_
  refine lv_iconst (v := 4) hx hb dJ13_bitCount_95d88_26 (by decide) ?_
  refine lv_lushr hx hb dJ13_bitCount_95d88_27 rfl ?_
  refine lv_topl (fun x_8 _ => ?_)
  refine lv_ladd hx hb dJ13_bitCount_95d88_28 ?_
  refine lv_topl (fun x_9 _ => ?_)
  refine lv_ldc2 (v := 1085102592571150095) hx hb hown (ow (k := 2) rfl) dJ13_bitCount_95d88_29 ?_
  refine lv_topl (fun z ez => ?_)
  obtain rfl : z = lI (1085102592571150095) := ez
  refine lv_land hx hb dJ13_bitCount_95d88_32 ?_
  refine lv_topl (fun x_10 _ => ?_)
  refine lv_lstore_n (lv' := [(0, .long x_10)]) hx hb dJ13_bitCount_95d88_33 rfl hl (by decide) rfl (fun ls hl => ?_)
  refine lv_lload_n hx hb dJ13_bitCount_95d88_34 rfl (lv_at hl 0 rfl) ?_
  refine lv_lload_n hx hb dJ13_bitCount_95d88_35 rfl (lv_at hl 0 rfl) ?_
  refine lv_bipush (v := 8) hx hb dJ13_bitCount_95d88_36 (by decide) ?_
  refine lv_lushr hx hb dJ13_bitCount_95d88_38 rfl ?_
  refine lv_topl (fun x_11 _ => ?_)
  refine lv_ladd hx hb dJ13_bitCount_95d88_39 ?_
  refine lv_topl (fun x_12 _ => ?_)
  refine lv_lstore_n (lv' := [(0, .long x_12)]) hx hb dJ13_bitCount_95d88_40 rfl hl (by decide) rfl (fun ls hl => ?_)
  refine lv_lload_n hx hb dJ13_bitCount_95d88_41 rfl (lv_at hl 0 rfl) ?_
  refine lv_lload_n hx hb dJ13_bitCount_95d88_42 rfl (lv_at hl 0 rfl) ?_
  refine lv_bipush (v := 16) hx hb dJ13_bitCount_95d88_43 (by decide) ?_
  refine lv_lushr hx hb dJ13_bitCount_95d88_45 rfl ?_
  refine lv_topl (fun x_13 _ => ?_)
  refine lv_ladd hx hb dJ13_bitCount_95d88_46 ?_
  refine lv_topl (fun x_14 _ => ?_)
  refine lv_lstore_n (lv' := [(0, .long x_14)]) hx hb dJ13_bitCount_95d88_47 rfl hl (by decide) rfl (fun ls hl => ?_)
  refine lv_lload_n hx hb dJ13_bitCount_95d88_48 rfl (lv_at hl 0 rfl) ?_
  refine lv_lload_n hx hb dJ13_bitCount_95d88_49 rfl (lv_at hl 0 rfl) ?_
  refine lv_bipush (v := 32) hx hb dJ13_bitCount_95d88_50 (by decide) ?_
  refine lv_lushr hx hb dJ13_bitCount_95d88_52 rfl ?_
  refine lv_topl (fun x_15 _ => ?_)
  refine lv_ladd hx hb dJ13_bitCount_95d88_53 ?_
  refine lv_topl (fun x_16 _ => ?_)
  refine lv_lstore_n (lv' := [(0, .long x_16)]) hx hb dJ13_bitCount_95d88_54 rfl hl (by decide) rfl (fun ls hl => ?_)
  refine lv_lload_n hx hb dJ13_bitCount_95d88_55 rfl (lv_at hl 0 rfl) ?_
  refine lv_l2i hx hb dJ13_bitCount_95d88_56 rfl ?_
  refine lv_topi (fun x_17 _ => ?_)
  refine lv_bipush (v := 127) hx hb dJ13_bitCount_95d88_57 (by decide) ?_
  refine lv_iand hx hb dJ13_bitCount_95d88_59 ?_
  refine lv_topi (fun z9 ez => ?_)
  obtain ⟨z_18, rfl, hzz_18⟩ := zI_and 7 (m := 127) (by decide) (by decide) ez
  subst hQ
  refine W.widen (k := 0) (n := 0) (Nat.le_of_ble_eq_true rfl) (Nat.le_of_ble_eq_true rfl) ?_
  exact W.iret (v := (zI (z_18))) hx hb hr (fun t ht hW => ⟨⟨(zI (z_18)), (), rfl, ⟨z_18, rfl, by omega⟩, by rw [ht]; exact hP, va_K.moved hW.alike hK, hD⟩, hS.F ht⟩) hS.2.2 dJ13_bitCount_95d88_60
theorem dX11_countBits_0 : decode cX11_countBits 0 = .ok (.iconst 0, 1) := by decide +kernel
theorem dX11_countBits_1 : decode cX11_countBits 1 = .ok (.istore_n 3, 1) := by decide +kernel
theorem dX11_countBits_2 : decode cX11_countBits 2 = .ok (.iconst 0, 1) := by decide +kernel
theorem dX11_countBits_3 : decode cX11_countBits 3 = .ok (.istore 4, 2) := by decide +kernel
theorem dX11_countBits_5 : decode cX11_countBits 5 = .ok (.iload 4, 2) := by decide +kernel
theorem dX11_countBits_7 : decode cX11_countBits 7 = .ok (.iload_n 2, 1) := by decide +kernel
theorem dX11_countBits_8 : decode cX11_countBits 8 = .ok (.if_icmp .ge 21, 3) := by decide +kernel
theorem dX11_countBits_29 : decode cX11_countBits 29 = .ok (.iload_n 3, 1) := by decide +kernel
theorem dX11_countBits_30 : decode cX11_countBits 30 = .ok (.ireturn, 1) := by decide +kernel
theorem dX11_countBits_11 : decode cX11_countBits 11 = .ok (.iload_n 3, 1) := by decide +kernel
theorem dX11_countBits_12 : decode cX11_countBits 12 = .ok (.aload_n 0, 1) := by decide +kernel
theorem dX11_countBits_13 : decode cX11_countBits 13 = .ok (.iload_n 1, 1) := by decide +kernel
theorem dX11_countBits_14 : decode cX11_countBits 14 = .ok (.iload 4, 2) := by decide +kernel
theorem dX11_countBits_16 : decode cX11_countBits 16 = .ok (.iadd, 1) := by decide +kernel
theorem dX11_countBits_17 : decode cX11_countBits 17 = .ok (.laload, 1) := by decide +kernel
theorem dX11_countBits_18 : decode cX11_countBits 18 = .ok (.invokestatic 332, 3) := by decide +kernel
theorem dX11_countBits_21 : decode cX11_countBits 21 = .ok (.iadd, 1) := by decide +kernel
theorem dX11_countBits_22 : decode cX11_countBits 22 = .ok (.istore_n 3, 1) := by decide +kernel
theorem dX11_countBits_23 : decode cX11_countBits 23 = .ok (.iinc 4 1, 3) := by decide +kernel
theorem dX11_countBits_26 : decode cX11_countBits 26 = .ok (.goto (-21), 3) := by decide +kernel
def o_X11_countBits : List Cond := [.methodLink RX11 332 yJ13_bitCount_95d88, .static yJ13_bitCount_95d88, .initialized RJ13]
def v_X11_countBits : List Cond := .code yX11_countBits cX11_countBits 5 (some .int) :: (o_X11_countBits ++ (v_J13_bitCount ++ []))
theorem mow_X11_countBits : ∀ w ∈ o_X11_countBits, w ∈ v_X11_countBits := fun _ h => List.mem_cons_of_mem _ (List.mem_append_left _ h)
theorem mem_X11_countBits_0 : ∀ w ∈ v_J13_bitCount, w ∈ v_X11_countBits := fun _ h => List.mem_cons_of_mem _ (List.mem_append_right _ (List.mem_append_left _ h))
set_option maxRecDepth 20000 in
theorem gw_X11_countBits : v_X11_countBits.all goodWord = true := by decide +kernel
set_option maxRecDepth 20000 in
theorem g_X11_countBits_J13_bitCount : GoodIn v_X11_countBits (va_wsS RX11 332 yJ13_bitCount_95d88 v_J13_bitCount) := goodIn_app (goodIn_sub (fun w h => mow_X11_countBits w (by revert w h; decide +kernel)) (by decide +kernel)) (goodIn_sub mem_X11_countBits_0 gw_J13_bitCount)
set_option maxHeartbeats 4000000 in
set_option maxRecDepth 100000 in
theorem c_X11_countBits (l : Launch) (dC : Nat → ClassId) (dI : Nat → Nat → Nat) (q_1 : Nat) (cA_1 : ClassId) (nn : Nat) (fl_1 : Nat → Int64) (fr : Int) (nw : Int) (hNb : 0 ≤ fr ∧ 0 ≤ nw ∧ nw ≤ 100 ∧ fr + nw ≤ nn ∧ nn < 1000000) (sz : Nat) : Met l yX11_countBits v_X11_countBits ({ frames := 1, cells := 0, slots := 0, locals := 21 }) (va_Pc [.ref q_1, .int (zI (fr)), .int (zI (nw))] (fun U => U.heap.size = sz ∧ va_P (dC, dI) vwP [(q_1, .inl (cA_1, nn, .inr (.inl fl_1)))] U.heap ∧ va_K (dC, dI) vwP [(cA_1, .long)] U ∧ va_D (fun _ => True) [(q_1, .inl (cA_1, nn, .inr (.inl fl_1)))])) (va_Qi (fun (r : Int32) (_ : Unit) => ∃ z : Int, r = zI z ∧ (0 ≤ z ∧ z ≤ 12700)) (fun (_ : Unit) (t : State) => va_P (dC, dI) vwP [(q_1, .inl (cA_1, nn, .inr (.inl fl_1)))] t.heap ∧ va_K (dC, dI) vwP [(cA_1, .long)] t ∧ va_D (va_A [(q_1, .inl (cA_1, nn, .inr (.inl fl_1)))] sz) [(q_1, .inl (cA_1, nn, .inr (.inl fl_1)))]) (va_A [(q_1, .inl (cA_1, nn, .inr (.inl fl_1)))] sz)) 0 0 (va_A [(q_1, .inl (cA_1, nn, .inr (.inl fl_1)))] sz) := by
  refine Met.ofW (cc := cX11_countBits) (maxL := 5) (ret := (some .int)) (by decide) rfl ?_
  intro p e s m args below meth c s₁ B hml hv
  obtain ⟨rfl, hsz, hP, hK, hD0⟩ := hv
  have hx := B.exec
  have hb := B.bytes
  have hr := B.returns
  have hts := atoms_spec (ws := v_X11_countBits) B.pre
  have hown : s.vm.findClass RX11 = some m.cls := findClass_of_methodNamed B.named
  have hlocks := B.notSynchronized
  have ow : ∀ {k : Nat} {w : Cond}, o_X11_countBits[k]? = some w → w.before ([.ref q_1, .int (zI (fr)), .int (zI (nw))] : List Value).toArray s = true := fun h => hts _ (mow_X11_countBits _ (List.mem_of_getElem? h))
  subst hsz
  have hD := hD0.self (sz := s.heap.size)
  generalize hAe : va_A [(q_1, .inl (cA_1, nn, .inr (.inl fl_1)))] s.heap.size = A at hD ⊢
  have hA : ∀ q : Nat, s.heap.size ≤ q → A q := fun q h => by rw [← hAe]; exact Or.inr h
  have hS : va_S A s.heap s.heap [] := va_S.rf
  have hP : va_P (dC, dI) vwP [(q_1, .inl (cA_1, nn, .inr (.inl fl_1)))] s.heap := hP
  have hl := lv_entry ([.ref q_1, .int (zI (fr)), .int (zI (nw))]) (n := 5) (Nat.le_of_ble_eq_true rfl)
  rw [lg_entry_eq]
  generalize (lg_sl ([.ref q_1, .int (zI (fr)), .int (zI (nw))]) ++ List.replicate (5 - (lg_sl ([.ref q_1, .int (zI (fr)), .int (zI (nw))])).length) Slot.unset).toArray = ls at hl ⊢
  have hl : lv_has ls 5 [(0, .ref q_1), (1, .int (zI (fr))), (2, .int (zI (nw)))] := hl
  obtain ⟨H, hH⟩ : ∃ H, H = s.heap := ⟨_, rfl⟩
  rw [← hH] at hP
  have hS : va_S A s.heap H [] := by rw [hH]; exact hS
  rw [← hH]
  refine zW_cap (fun Q hQ => ?_)
  refine lv_iconst (v := 0) hx hb dX11_countBits_0 (by decide) ?_
  refine lv_istore_n (lv' := [(3, .int 0), (0, .ref q_1), (1, .int (zI (fr))), (2, .int (zI (nw)))]) hx hb dX11_countBits_1 rfl hl (by decide) rfl (fun ls hl => ?_)
  refine lv_iconst (v := 0) hx hb dX11_countBits_2 (by decide) ?_
  refine lv_istore (lv' := [(4, .int 0), (3, .int 0), (0, .ref q_1), (1, .int (zI (fr))), (2, .int (zI (nw)))]) hx hb dX11_countBits_3 hl (by decide) rfl (fun ls hl => ?_)
  have key5 : ∀ n5 : Nat, ∀ (d5_4 : Int) (d5_3 : Int) (ls : Array Slot) (H : Heap) (locs : List Loc), (0 ≤ d5_4 ∧ d5_4 ≤ 1000000000) → (0 ≤ d5_3 ∧ d5_3 ≤ 127 * d5_4) → (d5_4 ≤ nw) → (((nw) - (d5_4) : Int).toNat) < n5 → lv_has ls 5 [(0, .ref q_1), (1, .int (zI (fr))), (2, .int (zI (nw))), (3, .int (zI (d5_3))), (4, .int (zI (d5_4)))] → va_P (dC, dI) vwP [(q_1, .inl (cA_1, nn, .inr (.inl fl_1)))] H → va_D A [(q_1, .inl (cA_1, nn, .inr (.inl fl_1)))] → va_S A s.heap H locs → W p l e (headSpec v_X11_countBits ({ frames := 1, cells := 0, slots := 0, locals := 21 })).room s m ([.ref q_1, .int (zI (fr)), .int (zI (nw))] : List Value).toArray below meth c H locs 0 0 Q (F0 m 5 ls []) := by
    intro n5
    induction n5 with
    | zero => intro d5_4 d5_3 ls H locs jd5_4 jd5_3 jl hm5; exact absurd hm5 (by omega)
    | succ n5 ih5 =>
      intro d5_4 d5_3 ls H locs jd5_4 jd5_3 jl hm5 hl hP hD hS
      refine lv_iload hx hb dX11_countBits_5 (lv_at hl 4 rfl) ?_
      refine lv_iload_n hx hb dX11_countBits_7 rfl (lv_at hl 2 rfl) ?_
      refine lv_icmp_ge (tgt := 29) hx hb dX11_countBits_8 (by decide) (fun b8 => ?_) (fun b8 => ?_)
      · have yb8 : (nw : Int) ≤ (d5_4 : Int) := (zI_le (a := nw) (b := d5_4) (by omega) (by omega) (by omega) (by omega)).mp b8
        refine lv_iload_n hx hb dX11_countBits_29 rfl (lv_at hl 3 rfl) ?_
        subst hQ
        refine W.widen (k := 0) (n := 0) (Nat.le_of_ble_eq_true rfl) (Nat.le_of_ble_eq_true rfl) ?_
        exact W.iret (v := (zI (d5_3))) hx hb hr (fun t ht hW => ⟨⟨(zI (d5_3)), (), rfl, ⟨d5_3, rfl, by omega⟩, by rw [ht]; exact hP, va_K.moved hW.alike hK, hD⟩, hS.F ht⟩) hS.2.2 dX11_countBits_30
      · have yb8 : ¬ (nw : Int) ≤ (d5_4 : Int) := fun q => b8 ((zI_le (a := nw) (b := d5_4) (by omega) (by omega) (by omega) (by omega)).mpr q)
        refine lv_iload_n hx hb dX11_countBits_11 rfl (lv_at hl 3 rfl) ?_
        refine lv_aload_n hx hb dX11_countBits_12 rfl (lv_at hl 0 rfl) ?_
        refine lv_iload_n hx hb dX11_countBits_13 rfl (lv_at hl 1 rfl) ?_
        refine lv_iload hx hb dX11_countBits_14 (lv_at hl 4 rfl) ?_
        refine lv_iadd hx hb dX11_countBits_16 ?_
        refine lv_topi (fun z ez => ?_)
        obtain rfl : z = zI (fr + d5_4) := ez.trans (zI_add (fr) (d5_4))
        refine va_lald hx hb hK hP 0 0 rfl rfl (zI_in (a := fr + d5_4) (n := nn) (by omega) (by omega) (by omega)) dX11_countBits_17 ?_
        refine lv_topl (fun x_2001 _ => ?_)
        have hPc := hP.sub (ws' := []) [] rfl
        have hDc := hD.sub (ws' := []) [] (by decide) rfl
        have hKc := hK.sub (tys' := []) [] rfl
        have hFc := va_free (wc := []) hD hS hA [] rfl
        refine va_calli (va_runS (As := [.long x_2001]) (rest := [.int (zI (d5_3))]) ⟨hx, hb, hml, hown, hts⟩ (c_J13_bitCount l dC dI x_2001 H.size) (va_cwS 1 hts g_X11_countBits_J13_bitCount rfl rfl rfl (by decide +kernel) ⟨(Nat.le_of_ble_eq_true rfl), (Nat.le_of_ble_eq_true rfl)⟩) ⟨fun a U g mk q => by obtain ⟨q0, q1, qP, qK, qD⟩ := q; exact ⟨q0, q1, qP, va_K.moved (u := U) (U := U.calling g mk a) (Vm.Alike.refl U.vm) qK, qD⟩, fun U hU hW => ⟨rfl, by rw [hU], by rw [hU]; exact hPc, va_K.moved hW.alike hKc, hDc.weaken (fun _ _ _ _ => trivial)⟩⟩ rfl rfl hl.1 rfl (lv_room (Nat.le_of_ble_eq_true rfl)) dX11_countBits_18 ⟨(Nat.le_of_ble_eq_true rfl), (Nat.le_of_ble_eq_true rfl)⟩) hS (fun q _ h => hFc q h) hFc (fun r_2002 u t H1 locs ht hvm hw hB hz1 hk1 hS => ?_)
        obtain ⟨hP1, hK1, hD1⟩ := hB
        rw [ht] at hP1
        have hK1 := va_K.moved hvm.symm hK1
        obtain ⟨hP, hD⟩ := va_join (wr := [(q_1, .inl (cA_1, nn, .inr (.inl fl_1)))]) (w1 := []) hP hD [] [0] rfl rfl (by decide) (by decide) hk1 hFc hP1 hD1
        have hK := (hK.sub (tys' := [(cA_1, .long)]) [0] rfl).app hK1
        generalize H1 = H at hP hS ⊢
        have hP : va_P (dC, dI) vwP [(q_1, .inl (cA_1, nn, .inr (.inl fl_1)))] H := hP
        have hD : va_D A [(q_1, .inl (cA_1, nn, .inr (.inl fl_1)))] := hD
        have hK : va_K (dC, dI) vwP [(cA_1, .long)] s := hK
        refine W.widen (k := 0) (n := 0) (Nat.le_of_ble_eq_true rfl) (Nat.le_of_ble_eq_true rfl) ?_
        have hw_2003 := hw
        obtain ⟨z_2004, rfl, hzz_2004⟩ := hw_2003
        refine lv_iadd hx hb dX11_countBits_21 ?_
        refine lv_topi (fun z ez => ?_)
        obtain rfl : z = zI (d5_3 + z_2004) := ez.trans (zI_add (d5_3) (z_2004))
        refine lv_istore_n (lv' := [(3, .int (zI (d5_3 + z_2004))), (0, .ref q_1), (1, .int (zI (fr))), (2, .int (zI (nw))), (4, .int (zI (d5_4)))]) hx hb dX11_countBits_22 rfl hl (by decide) rfl (fun ls hl => ?_)
        refine lv_iinc (v := zI (d5_4 + 1)) (lv' := [(4, .int (zI (d5_4 + 1))), (3, .int (zI (d5_3 + z_2004))), (0, .ref q_1), (1, .int (zI (fr))), (2, .int (zI (nw)))]) hx hb dX11_countBits_23 hl (k := 4) rfl (zI_add (d5_4) (1)) (by decide) rfl (fun ls hl => ?_)
        refine lv_goto (tgt := 5) hx hb dX11_countBits_26 (by decide) ?_
        exact ih5 (d5_4 + 1) (d5_3 + z_2004) ls H _ (by omega) (by omega) (by omega) (by omega) (lv_sub hl [2, 3, 4, 1, 0] rfl) hP hD hS
  exact key5 (((nw) - (0) : Int).toNat + 1) 0 0 ls H _ (by omega) (by omega) (by omega) (by omega) (lv_sub hl [2, 3, 4, 1, 0] rfl) hP hD hS
theorem dX4_addNow_0 : decode cX4_addNow 0 = .ok (.lload_n 1, 1) := by decide +kernel
theorem dX4_addNow_1 : decode cX4_addNow 1 = .ok (.invokestatic 90, 3) := by decide +kernel
theorem dX4_addNow_4 : decode cX4_addNow 4 = .ok (.ifCond .eq 18, 3) := by decide +kernel
theorem dX4_addNow_22 : decode cX4_addNow 22 = .ok (.iconst 0, 1) := by decide +kernel
theorem dX4_addNow_23 : decode cX4_addNow 23 = .ok (.ireturn, 1) := by decide +kernel
theorem dX4_addNow_7 : decode cX4_addNow 7 = .ok (.aload_n 0, 1) := by decide +kernel
theorem dX4_addNow_8 : decode cX4_addNow 8 = .ok (.getfield 34, 3) := by decide +kernel
theorem dX4_addNow_11 : decode cX4_addNow 11 = .ok (.iconst 0, 1) := by decide +kernel
theorem dX4_addNow_12 : decode cX4_addNow 12 = .ok (.lload_n 1, 1) := by decide +kernel
theorem dX4_addNow_13 : decode cX4_addNow 13 = .ok (.invokestatic 94, 3) := by decide +kernel
theorem dX4_addNow_16 : decode cX4_addNow 16 = .ok (.invokestatic 98, 3) := by decide +kernel
theorem dX4_addNow_19 : decode cX4_addNow 19 = .ok (.ifCond .eq 5, 3) := by decide +kernel
theorem dX4_addNow_24 : decode cX4_addNow 24 = .ok (.aload_n 0, 1) := by decide +kernel
theorem dX4_addNow_25 : decode cX4_addNow 25 = .ok (.getfield 34, 3) := by decide +kernel
theorem dX4_addNow_28 : decode cX4_addNow 28 = .ok (.iconst 0, 1) := by decide +kernel
theorem dX4_addNow_29 : decode cX4_addNow 29 = .ok (.lload_n 1, 1) := by decide +kernel
theorem dX4_addNow_30 : decode cX4_addNow 30 = .ok (.invokestatic 94, 3) := by decide +kernel
theorem dX4_addNow_33 : decode cX4_addNow 33 = .ok (.invokestatic 83, 3) := by decide +kernel
theorem dX4_addNow_36 : decode cX4_addNow 36 = .ok (.iconst 1, 1) := by decide +kernel
theorem dX4_addNow_37 : decode cX4_addNow 37 = .ok (.ireturn, 1) := by decide +kernel
def o_X4_addNow : List Cond := [.initialized RX11, .static yX11_isRegister, .fieldLink RX4 34 "SsaForge$Live" "now" "[J", .static yX11_registerOf, .static yX11_hasBit, .static yX11_putBit]
def v_X4_addNow : List Cond := .code yX4_addNow cX4_addNow 3 (some .int) :: (o_X4_addNow ++ (v_X11_isRegister ++ (wsX40 ++ (v_X11_registerOf ++ (v_X11_hasBit ++ (v_X11_putBit ++ []))))))
theorem mow_X4_addNow : ∀ w ∈ o_X4_addNow, w ∈ v_X4_addNow := fun _ h => List.mem_cons_of_mem _ (List.mem_append_left _ h)
theorem mem_X4_addNow_0 : ∀ w ∈ v_X11_isRegister, w ∈ v_X4_addNow := fun _ h => List.mem_cons_of_mem _ (List.mem_append_right _ (List.mem_append_left _ h))
theorem mem_X4_addNow_1 : ∀ w ∈ wsX40, w ∈ v_X4_addNow := fun _ h => List.mem_cons_of_mem _ (List.mem_append_right _ (List.mem_append_right _ (List.mem_append_left _ h)))
theorem mem_X4_addNow_2 : ∀ w ∈ v_X11_registerOf, w ∈ v_X4_addNow := fun _ h => List.mem_cons_of_mem _ (List.mem_append_right _ (List.mem_append_right _ (List.mem_append_right _ (List.mem_append_left _ h))))
theorem mem_X4_addNow_3 : ∀ w ∈ v_X11_hasBit, w ∈ v_X4_addNow := fun _ h => List.mem_cons_of_mem _ (List.mem_append_right _ (List.mem_append_right _ (List.mem_append_right _ (List.mem_append_right _ (List.mem_append_left _ h)))))
theorem mem_X4_addNow_4 : ∀ w ∈ v_X11_putBit, w ∈ v_X4_addNow := fun _ h => List.mem_cons_of_mem _ (List.mem_append_right _ (List.mem_append_right _ (List.mem_append_right _ (List.mem_append_right _ (List.mem_append_right _ (List.mem_append_left _ h))))))
set_option maxRecDepth 20000 in
theorem gw_X4_addNow : v_X4_addNow.all goodWord = true := by decide +kernel
set_option maxHeartbeats 4000000 in
set_option maxRecDepth 100000 in
theorem c_X4_addNow (l : Launch) (dC : Nat → ClassId) (dI : Nat → Nat → Nat) (h0 : Nat) (v4_0 : Value) (v4_1 : Value) (v4_2 : Value) (v4_3 : Value) (v4_4 : Value) (v4_5 : Value) (v4_6 : Value) (q_407 : Nat) (cA_407 : ClassId) (fa4_now : Nat → Int64) (x : Int) (hNx : ((-2147483648 ≤ x ∧ x ≤ 4294968319) ∨ x = 1099511627776)) (sz : Nat) : Met l yX4_addNow v_X4_addNow ({ frames := 1, cells := 0, slots := 0, locals := 22 }) (va_Pc [.ref h0, .long (lI (x))] (fun U => U.heap.size = sz ∧ va_P (dC, dI) vwP [(h0, .inr (4, [v4_0, v4_1, v4_2, v4_3, v4_4, v4_5, v4_6, .ref q_407])), (q_407, .inl (cA_407, 16, .inr (.inl fa4_now)))] U.heap ∧ va_K (dC, dI) vwP [(cA_407, .long)] U ∧ va_D (fun _ => True) [(h0, .inr (4, [v4_0, v4_1, v4_2, v4_3, v4_4, v4_5, v4_6, .ref q_407])), (q_407, .inl (cA_407, 16, .inr (.inl fa4_now)))] ∧ va_Nw (.methodLinkNest RX4 90 yX11_isRegister "SsaForge") U ∧ va_Nw (.methodLinkNest RX4 94 yX11_registerOf "SsaForge") U ∧ va_Nw (.methodLinkNest RX4 98 yX11_hasBit "SsaForge") U ∧ va_Nw (.methodLinkNest RX4 83 yX11_putBit "SsaForge") U)) (va_Qi (fun (r : Int32) (_ : Unit) => ∃ z : Int, r = zI z ∧ (0 ≤ z ∧ z ≤ 1)) (fun (_ : Unit) (t : State) => ∃ (g0_9 : Nat → Int64), va_P (dC, dI) vwP [(h0, .inr (4, [v4_0, v4_1, v4_2, v4_3, v4_4, v4_5, v4_6, .ref q_407])), (q_407, .inl (cA_407, 16, .inr (.inl g0_9)))] t.heap ∧ va_K (dC, dI) vwP [(cA_407, .long)] t ∧ va_D (va_A [(h0, .inr (4, [v4_0, v4_1, v4_2, v4_3, v4_4, v4_5, v4_6, .ref q_407])), (q_407, .inl (cA_407, 16, .inr (.inl fa4_now)))] sz) [(h0, .inr (4, [v4_0, v4_1, v4_2, v4_3, v4_4, v4_5, v4_6, .ref q_407])), (q_407, .inl (cA_407, 16, .inr (.inl g0_9)))]) (va_A [(h0, .inr (4, [v4_0, v4_1, v4_2, v4_3, v4_4, v4_5, v4_6, .ref q_407])), (q_407, .inl (cA_407, 16, .inr (.inl fa4_now)))] sz)) 0 0 (va_A [(h0, .inr (4, [v4_0, v4_1, v4_2, v4_3, v4_4, v4_5, v4_6, .ref q_407])), (q_407, .inl (cA_407, 16, .inr (.inl fa4_now)))] sz) := by
  refine Met.ofW (cc := cX4_addNow) (maxL := 3) (ret := (some .int)) (by decide) rfl ?_
  intro p e s m args below meth c s₁ B hml hv
  obtain ⟨rfl, hsz, hP, hK, hD0, hp0, hp1, hp2, hp3⟩ := hv
  have hx := B.exec
  have hb := B.bytes
  have hr := B.returns
  have hts := atoms_spec (ws := v_X4_addNow) B.pre
  have hown : s.vm.findClass RX4 = some m.cls := findClass_of_methodNamed B.named
  have hlocks := B.notSynchronized
  have ow : ∀ {k : Nat} {w : Cond}, o_X4_addNow[k]? = some w → w.before ([.ref h0, .long (lI (x))] : List Value).toArray s = true := fun h => hts _ (mow_X4_addNow _ (List.mem_of_getElem? h))
  subst hsz
  have hD := hD0.self (sz := s.heap.size)
  generalize hAe : va_A [(h0, .inr (4, [v4_0, v4_1, v4_2, v4_3, v4_4, v4_5, v4_6, .ref q_407])), (q_407, .inl (cA_407, 16, .inr (.inl fa4_now)))] s.heap.size = A at hD ⊢
  have hA : ∀ q : Nat, s.heap.size ≤ q → A q := fun q h => by rw [← hAe]; exact Or.inr h
  have hS : va_S A s.heap s.heap [] := va_S.rf
  have hP : va_P (dC, dI) vwP [(h0, .inr (4, [v4_0, v4_1, v4_2, v4_3, v4_4, v4_5, v4_6, .ref q_407])), (q_407, .inl (cA_407, 16, .inr (.inl fa4_now)))] s.heap := hP
  have hl := lv_entry ([.ref h0, .long (lI (x))]) (n := 3) (Nat.le_of_ble_eq_true rfl)
  rw [lg_entry_eq]
  generalize (lg_sl ([.ref h0, .long (lI (x))]) ++ List.replicate (3 - (lg_sl ([.ref h0, .long (lI (x))])).length) Slot.unset).toArray = ls at hl ⊢
  have hl : lv_has ls 3 [(0, .ref h0), (1, .long (lI (x)))] := hl
  obtain ⟨H, hH⟩ : ∃ H, H = s.heap := ⟨_, rfl⟩
  rw [← hH] at hP
  have hS : va_S A s.heap H [] := by rw [hH]; exact hS
  rw [← hH]
  refine zW_cap (fun Q hQ => ?_)
  refine lv_lload_n hx hb dX4_addNow_0 rfl (lv_at hl 1 rfl) ?_
  have hPc := hP.sub (ws' := []) [] rfl
  have hDc := hD.sub (ws' := []) [] (by decide) rfl
  have hKc := hK.sub (tys' := []) [] rfl
  have hFc := va_free (wc := []) hD hS hA [] rfl
  refine va_calli (va_runSN (As := [.long (lI (x))]) (rest := []) ⟨hx, hb, hml, hown, hts⟩ (c_X11_isRegister l dC dI x (by omega) H.size) ⟨va_cnB 1 hts (goodIn_sub mem_X4_addNow_0 gw_X11_isRegister) rfl rfl rfl hp0 (ow (k := 0) rfl) (by decide +kernel) ⟨(Nat.le_of_ble_eq_true rfl), (Nat.le_of_ble_eq_true rfl)⟩, (ow (k := 1) rfl), trivial⟩ ⟨fun a U g mk q => by obtain ⟨q0, q1, qP, qK, qD⟩ := q; exact ⟨q0, q1, qP, va_K.moved (u := U) (U := U.calling g mk a) (Vm.Alike.refl U.vm) qK, qD⟩, fun U hU hW => ⟨rfl, by rw [hU], by rw [hU]; exact hPc, va_K.moved hW.alike hKc, hDc.weaken (fun _ _ _ _ => trivial)⟩⟩ rfl rfl hl.1 rfl (lv_room (Nat.le_of_ble_eq_true rfl)) dX4_addNow_1 ⟨(Nat.le_of_ble_eq_true rfl), (Nat.le_of_ble_eq_true rfl)⟩) hS (fun q _ h => hFc q h) hFc (fun r_2001 u t H1 locs ht hvm hw hB hz1 hk1 hS => ?_)
  obtain ⟨hP1, hK1, hD1⟩ := hB
  rw [ht] at hP1
  have hK1 := va_K.moved hvm.symm hK1
  obtain ⟨hP, hD⟩ := va_join (wr := [(h0, .inr (4, [v4_0, v4_1, v4_2, v4_3, v4_4, v4_5, v4_6, .ref q_407])), (q_407, .inl (cA_407, 16, .inr (.inl fa4_now)))]) (w1 := []) hP hD [] [0, 1] rfl rfl (by decide) (by decide) hk1 hFc hP1 hD1
  have hK := (hK.sub (tys' := [(cA_407, .long)]) [0] rfl).app hK1
  generalize H1 = H at hP hS ⊢
  have hP : va_P (dC, dI) vwP [(h0, .inr (4, [v4_0, v4_1, v4_2, v4_3, v4_4, v4_5, v4_6, .ref q_407])), (q_407, .inl (cA_407, 16, .inr (.inl fa4_now)))] H := hP
  have hD : va_D A [(h0, .inr (4, [v4_0, v4_1, v4_2, v4_3, v4_4, v4_5, v4_6, .ref q_407])), (q_407, .inl (cA_407, 16, .inr (.inl fa4_now)))] := hD
  have hK : va_K (dC, dI) vwP [(cA_407, .long)] s := hK
  refine W.widen (k := 0) (n := 0) (Nat.le_of_ble_eq_true rfl) (Nat.le_of_ble_eq_true rfl) ?_
  obtain rfl : r_2001 = (zI (isR (x))) := hw
  have := isR_spec (x)
  refine lv_if_eq (tgt := 22) hx hb dX4_addNow_4 (by decide) (fun b4 => ?_) (fun b4 => ?_)
  · have yb4 : (isR (x) : Int) = (0 : Int) := (zI_eq (a := isR (x)) (b := 0) (by omega) (by omega) (by omega) (by omega)).mp b4
    refine lv_iconst (v := 0) hx hb dX4_addNow_22 (by decide) ?_
    subst hQ
    refine W.widen (k := 0) (n := 0) (Nat.le_of_ble_eq_true rfl) (Nat.le_of_ble_eq_true rfl) ?_
    exact W.iret (v := 0) hx hb hr (fun t ht hW => ⟨⟨0, (), rfl, ⟨0, rfl, by omega⟩, fa4_now, by rw [ht]; exact hP, va_K.moved hW.alike hK, hD⟩, hS.F ht⟩) hS.2.2 dX4_addNow_23
  · have yb4 : ¬ (isR (x) : Int) = (0 : Int) := fun q => b4 ((zI_eq (a := isR (x)) (b := 0) (by omega) (by omega) (by omega) (by omega)).mpr q)
    refine lv_aload_n hx hb dX4_addNow_7 rfl (lv_at hl 0 rfl) ?_
    refine va_get (D := (dC, dI)) (ci := 4) (v := .ref q_407) (C := RX4) (T := TX4) (N := 8) hx hb hts mem_X4_addNow_1 hown hK hP 0 rfl rfl 7 (by decide) (ow (k := 2) rfl) (fun _ h9 => h9) rfl dX4_addNow_8 ?_
    refine lv_iconst (v := 0) hx hb dX4_addNow_11 (by decide) ?_
    refine lv_lload_n hx hb dX4_addNow_12 rfl (lv_at hl 1 rfl) ?_
    have hPc := hP.sub (ws' := []) [] rfl
    have hDc := hD.sub (ws' := []) [] (by decide) rfl
    have hKc := hK.sub (tys' := []) [] rfl
    have hFc := va_free (wc := []) hD hS hA [] rfl
    refine va_calli (va_runSN (As := [.long (lI (x))]) (rest := [.int 0, .ref q_407]) ⟨hx, hb, hml, hown, hts⟩ (c_X11_registerOf l dC dI x (by omega) H.size) ⟨va_cnB 1 hts (goodIn_sub mem_X4_addNow_2 gw_X11_registerOf) rfl rfl rfl hp1 (ow (k := 0) rfl) (by decide +kernel) ⟨(Nat.le_of_ble_eq_true rfl), (Nat.le_of_ble_eq_true rfl)⟩, (ow (k := 3) rfl), trivial⟩ ⟨fun a U g mk q => by obtain ⟨q0, q1, qP, qK, qD⟩ := q; exact ⟨q0, q1, qP, va_K.moved (u := U) (U := U.calling g mk a) (Vm.Alike.refl U.vm) qK, qD⟩, fun U hU hW => ⟨rfl, by rw [hU], by rw [hU]; exact hPc, va_K.moved hW.alike hKc, hDc.weaken (fun _ _ _ _ => trivial)⟩⟩ rfl rfl hl.1 rfl (lv_room (Nat.le_of_ble_eq_true rfl)) dX4_addNow_13 ⟨(Nat.le_of_ble_eq_true rfl), (Nat.le_of_ble_eq_true rfl)⟩) hS (fun q _ h => hFc q h) hFc (fun r_2002 u t H1 locs ht hvm hw hB hz1 hk1 hS => ?_)
    obtain ⟨hP1, hK1, hD1⟩ := hB
    rw [ht] at hP1
    have hK1 := va_K.moved hvm.symm hK1
    obtain ⟨hP, hD⟩ := va_join (wr := [(h0, .inr (4, [v4_0, v4_1, v4_2, v4_3, v4_4, v4_5, v4_6, .ref q_407])), (q_407, .inl (cA_407, 16, .inr (.inl fa4_now)))]) (w1 := []) hP hD [] [0, 1] rfl rfl (by decide) (by decide) hk1 hFc hP1 hD1
    have hK := (hK.sub (tys' := [(cA_407, .long)]) [0] rfl).app hK1
    generalize H1 = H at hP hS ⊢
    have hP : va_P (dC, dI) vwP [(h0, .inr (4, [v4_0, v4_1, v4_2, v4_3, v4_4, v4_5, v4_6, .ref q_407])), (q_407, .inl (cA_407, 16, .inr (.inl fa4_now)))] H := hP
    have hD : va_D A [(h0, .inr (4, [v4_0, v4_1, v4_2, v4_3, v4_4, v4_5, v4_6, .ref q_407])), (q_407, .inl (cA_407, 16, .inr (.inl fa4_now)))] := hD
    have hK : va_K (dC, dI) vwP [(cA_407, .long)] s := hK
    refine W.widen (k := 0) (n := 0) (Nat.le_of_ble_eq_true rfl) (Nat.le_of_ble_eq_true rfl) ?_
    obtain rfl : r_2002 = (zI (x - 4294967296)) := hw
    have hPc := hP.sub (ws' := [(q_407, .inl (cA_407, 16, .inr (.inl fa4_now)))]) [1] rfl
    have hDc := hD.sub (ws' := [(q_407, .inl (cA_407, 16, .inr (.inl fa4_now)))]) [1] (by decide) rfl
    have hKc := hK.sub (tys' := [(cA_407, .long)]) [0] rfl
    have hFc := va_free (wc := [(q_407, .inl (cA_407, 16, .inr (.inl fa4_now)))]) hD hS hA [1] rfl
    refine va_calli (va_runSN (As := [.ref q_407, .int 0, .int (zI (x - 4294967296))]) (rest := []) ⟨hx, hb, hml, hown, hts⟩ (c_X11_hasBit l dC dI q_407 cA_407 16 fa4_now 0 (x - 4294967296) (by omega) H.size) ⟨va_cnB 3 hts (goodIn_sub mem_X4_addNow_3 gw_X11_hasBit) rfl rfl rfl hp2 (ow (k := 0) rfl) (by decide +kernel) ⟨(Nat.le_of_ble_eq_true rfl), (Nat.le_of_ble_eq_true rfl)⟩, (ow (k := 4) rfl), trivial⟩ ⟨fun a U g mk q => by obtain ⟨q0, q1, qP, qK, qD⟩ := q; exact ⟨q0, q1, qP, va_K.moved (u := U) (U := U.calling g mk a) (Vm.Alike.refl U.vm) qK, qD⟩, fun U hU hW => ⟨rfl, by rw [hU], by rw [hU]; exact hPc, va_K.moved hW.alike hKc, hDc.weaken (fun _ _ _ _ => trivial)⟩⟩ rfl rfl hl.1 rfl (lv_room (Nat.le_of_ble_eq_true rfl)) dX4_addNow_16 ⟨(Nat.le_of_ble_eq_true rfl), (Nat.le_of_ble_eq_true rfl)⟩) hS (fun q _ h => hFc q h) hFc (fun r_2003 u t H1 locs ht hvm hw hB hz1 hk1 hS => ?_)
    obtain ⟨hP1, hK1, hD1⟩ := hB
    rw [ht] at hP1
    have hK1 := va_K.moved hvm.symm hK1
    obtain ⟨hP, hD⟩ := va_join (wr := [(h0, .inr (4, [v4_0, v4_1, v4_2, v4_3, v4_4, v4_5, v4_6, .ref q_407]))]) (w1 := [(q_407, .inl (cA_407, 16, .inr (.inl fa4_now)))]) hP hD [1] [0] rfl rfl (by decide) (by decide) hk1 hFc hP1 hD1
    have hK := (hK.sub (tys' := []) [] rfl).app hK1
    generalize H1 = H at hP hS ⊢
    have hP : va_P (dC, dI) vwP [(h0, .inr (4, [v4_0, v4_1, v4_2, v4_3, v4_4, v4_5, v4_6, .ref q_407])), (q_407, .inl (cA_407, 16, .inr (.inl fa4_now)))] H := hP
    have hD : va_D A [(h0, .inr (4, [v4_0, v4_1, v4_2, v4_3, v4_4, v4_5, v4_6, .ref q_407])), (q_407, .inl (cA_407, 16, .inr (.inl fa4_now)))] := hD
    have hK : va_K (dC, dI) vwP [(cA_407, .long)] s := hK
    refine W.widen (k := 0) (n := 0) (Nat.le_of_ble_eq_true rfl) (Nat.le_of_ble_eq_true rfl) ?_
    have hw_2004 := hw
    obtain ⟨z_2005, rfl, hzz_2005⟩ := hw_2004
    refine lv_if_eq (tgt := 24) hx hb dX4_addNow_19 (by decide) (fun b19 => ?_) (fun b19 => ?_)
    · have yb19 : (z_2005 : Int) = (0 : Int) := (zI_eq (a := z_2005) (b := 0) (by omega) (by omega) (by omega) (by omega)).mp b19
      refine lv_aload_n hx hb dX4_addNow_24 rfl (lv_at hl 0 rfl) ?_
      refine va_get (D := (dC, dI)) (ci := 4) (v := .ref q_407) (C := RX4) (T := TX4) (N := 8) hx hb hts mem_X4_addNow_1 hown hK hP 0 rfl rfl 7 (by decide) (ow (k := 2) rfl) (fun _ h9 => h9) rfl dX4_addNow_25 ?_
      refine lv_iconst (v := 0) hx hb dX4_addNow_28 (by decide) ?_
      refine lv_lload_n hx hb dX4_addNow_29 rfl (lv_at hl 1 rfl) ?_
      have hPc := hP.sub (ws' := []) [] rfl
      have hDc := hD.sub (ws' := []) [] (by decide) rfl
      have hKc := hK.sub (tys' := []) [] rfl
      have hFc := va_free (wc := []) hD hS hA [] rfl
      refine va_calli (va_runSN (As := [.long (lI (x))]) (rest := [.int 0, .ref q_407]) ⟨hx, hb, hml, hown, hts⟩ (c_X11_registerOf l dC dI x (by omega) H.size) ⟨va_cnB 1 hts (goodIn_sub mem_X4_addNow_2 gw_X11_registerOf) rfl rfl rfl hp1 (ow (k := 0) rfl) (by decide +kernel) ⟨(Nat.le_of_ble_eq_true rfl), (Nat.le_of_ble_eq_true rfl)⟩, (ow (k := 3) rfl), trivial⟩ ⟨fun a U g mk q => by obtain ⟨q0, q1, qP, qK, qD⟩ := q; exact ⟨q0, q1, qP, va_K.moved (u := U) (U := U.calling g mk a) (Vm.Alike.refl U.vm) qK, qD⟩, fun U hU hW => ⟨rfl, by rw [hU], by rw [hU]; exact hPc, va_K.moved hW.alike hKc, hDc.weaken (fun _ _ _ _ => trivial)⟩⟩ rfl rfl hl.1 rfl (lv_room (Nat.le_of_ble_eq_true rfl)) dX4_addNow_30 ⟨(Nat.le_of_ble_eq_true rfl), (Nat.le_of_ble_eq_true rfl)⟩) hS (fun q _ h => hFc q h) hFc (fun r_2006 u t H1 locs ht hvm hw hB hz1 hk1 hS => ?_)
      obtain ⟨hP1, hK1, hD1⟩ := hB
      rw [ht] at hP1
      have hK1 := va_K.moved hvm.symm hK1
      obtain ⟨hP, hD⟩ := va_join (wr := [(h0, .inr (4, [v4_0, v4_1, v4_2, v4_3, v4_4, v4_5, v4_6, .ref q_407])), (q_407, .inl (cA_407, 16, .inr (.inl fa4_now)))]) (w1 := []) hP hD [] [0, 1] rfl rfl (by decide) (by decide) hk1 hFc hP1 hD1
      have hK := (hK.sub (tys' := [(cA_407, .long)]) [0] rfl).app hK1
      generalize H1 = H at hP hS ⊢
      have hP : va_P (dC, dI) vwP [(h0, .inr (4, [v4_0, v4_1, v4_2, v4_3, v4_4, v4_5, v4_6, .ref q_407])), (q_407, .inl (cA_407, 16, .inr (.inl fa4_now)))] H := hP
      have hD : va_D A [(h0, .inr (4, [v4_0, v4_1, v4_2, v4_3, v4_4, v4_5, v4_6, .ref q_407])), (q_407, .inl (cA_407, 16, .inr (.inl fa4_now)))] := hD
      have hK : va_K (dC, dI) vwP [(cA_407, .long)] s := hK
      refine W.widen (k := 0) (n := 0) (Nat.le_of_ble_eq_true rfl) (Nat.le_of_ble_eq_true rfl) ?_
      obtain rfl : r_2006 = (zI (x - 4294967296)) := hw
      have hPc := hP.sub (ws' := [(q_407, .inl (cA_407, 16, .inr (.inl fa4_now)))]) [1] rfl
      have hDc := hD.sub (ws' := [(q_407, .inl (cA_407, 16, .inr (.inl fa4_now)))]) [1] (by decide) rfl
      have hKc := hK.sub (tys' := [(cA_407, .long)]) [0] rfl
      have hFc := va_free (wc := [(q_407, .inl (cA_407, 16, .inr (.inl fa4_now)))]) hD hS hA [1] rfl
      refine va_callv (va_runSN (As := [.ref q_407, .int 0, .int (zI (x - 4294967296))]) (rest := []) ⟨hx, hb, hml, hown, hts⟩ (c_X11_putBit l dC dI q_407 cA_407 16 fa4_now 0 (x - 4294967296) (by omega) H.size) ⟨va_cnB 3 hts (goodIn_sub mem_X4_addNow_4 gw_X11_putBit) rfl rfl rfl hp3 (ow (k := 0) rfl) (by decide +kernel) ⟨(Nat.le_of_ble_eq_true rfl), (Nat.le_of_ble_eq_true rfl)⟩, (ow (k := 5) rfl), trivial⟩ ⟨fun a U g mk q => by obtain ⟨q0, q1, qP, qK, qD⟩ := q; exact ⟨q0, q1, qP, va_K.moved (u := U) (U := U.calling g mk a) (Vm.Alike.refl U.vm) qK, qD⟩, fun U hU hW => ⟨rfl, by rw [hU], by rw [hU]; exact hPc, va_K.moved hW.alike hKc, hDc.weaken (fun _ _ _ _ => trivial)⟩⟩ rfl rfl hl.1 rfl (lv_room (Nat.le_of_ble_eq_true rfl)) dX4_addNow_33 ⟨(Nat.le_of_ble_eq_true rfl), (Nat.le_of_ble_eq_true rfl)⟩) hS (fun q _ h => hFc q h) hFc (fun  u t H1 locs ht hvm hw hB hz1 hk1 hS => ?_)
      obtain ⟨g0_2007, hP1, hK1, hD1⟩ := hB
      rw [ht] at hP1
      have hK1 := va_K.moved hvm.symm hK1
      obtain ⟨hP, hD⟩ := va_join (wr := [(h0, .inr (4, [v4_0, v4_1, v4_2, v4_3, v4_4, v4_5, v4_6, .ref q_407]))]) (w1 := [(q_407, .inl (cA_407, 16, .inr (.inl g0_2007)))]) hP hD [1] [0] rfl rfl (by decide) (by decide) hk1 hFc hP1 hD1
      have hK := (hK.sub (tys' := []) [] rfl).app hK1
      generalize H1 = H at hP hS ⊢
      have hP : va_P (dC, dI) vwP [(h0, .inr (4, [v4_0, v4_1, v4_2, v4_3, v4_4, v4_5, v4_6, .ref q_407])), (q_407, .inl (cA_407, 16, .inr (.inl g0_2007)))] H := hP
      have hD : va_D A [(h0, .inr (4, [v4_0, v4_1, v4_2, v4_3, v4_4, v4_5, v4_6, .ref q_407])), (q_407, .inl (cA_407, 16, .inr (.inl g0_2007)))] := hD
      have hK : va_K (dC, dI) vwP [(cA_407, .long)] s := hK
      refine W.widen (k := 0) (n := 0) (Nat.le_of_ble_eq_true rfl) (Nat.le_of_ble_eq_true rfl) ?_
      refine lv_iconst (v := 1) hx hb dX4_addNow_36 (by decide) ?_
      subst hQ
      refine W.widen (k := 0) (n := 0) (Nat.le_of_ble_eq_true rfl) (Nat.le_of_ble_eq_true rfl) ?_
      exact W.iret (v := 1) hx hb hr (fun t ht hW => ⟨⟨1, (), rfl, ⟨1, rfl, by omega⟩, g0_2007, by rw [ht]; exact hP, va_K.moved hW.alike hK, hD⟩, hS.F ht⟩) hS.2.2 dX4_addNow_37
    · have yb19 : ¬ (z_2005 : Int) = (0 : Int) := fun q => b19 ((zI_eq (a := z_2005) (b := 0) (by omega) (by omega) (by omega) (by omega)).mpr q)
      refine lv_iconst (v := 0) hx hb dX4_addNow_22 (by decide) ?_
      subst hQ
      refine W.widen (k := 0) (n := 0) (Nat.le_of_ble_eq_true rfl) (Nat.le_of_ble_eq_true rfl) ?_
      exact W.iret (v := 0) hx hb hr (fun t ht hW => ⟨⟨0, (), rfl, ⟨0, rfl, by omega⟩, fa4_now, by rw [ht]; exact hP, va_K.moved hW.alike hK, hD⟩, hS.F ht⟩) hS.2.2 dX4_addNow_23
theorem dX4_noteUse_0 : decode cX4_noteUse 0 = .ok (.lload_n 2, 1) := by decide +kernel
theorem dX4_noteUse_1 : decode cX4_noteUse 1 = .ok (.invokestatic 90, 3) := by decide +kernel
theorem dX4_noteUse_4 : decode cX4_noteUse 4 = .ok (.ifCond .eq 40, 3) := by decide +kernel
theorem dX4_noteUse_44 : decode cX4_noteUse 44 = .ok (.return_, 1) := by decide +kernel
theorem dX4_noteUse_7 : decode cX4_noteUse 7 = .ok (.aload_n 0, 1) := by decide +kernel
theorem dX4_noteUse_8 : decode cX4_noteUse 8 = .ok (.getfield 22, 3) := by decide +kernel
theorem dX4_noteUse_11 : decode cX4_noteUse 11 = .ok (.iload_n 1, 1) := by decide +kernel
theorem dX4_noteUse_12 : decode cX4_noteUse 12 = .ok (.aload_n 0, 1) := by decide +kernel
theorem dX4_noteUse_13 : decode cX4_noteUse 13 = .ok (.getfield 9, 3) := by decide +kernel
theorem dX4_noteUse_16 : decode cX4_noteUse 16 = .ok (.imul, 1) := by decide +kernel
theorem dX4_noteUse_17 : decode cX4_noteUse 17 = .ok (.lload_n 2, 1) := by decide +kernel
theorem dX4_noteUse_18 : decode cX4_noteUse 18 = .ok (.invokestatic 94, 3) := by decide +kernel
theorem dX4_noteUse_21 : decode cX4_noteUse 21 = .ok (.invokestatic 98, 3) := by decide +kernel
theorem dX4_noteUse_24 : decode cX4_noteUse 24 = .ok (.ifCond .ne 20, 3) := by decide +kernel
theorem dX4_noteUse_27 : decode cX4_noteUse 27 = .ok (.aload_n 0, 1) := by decide +kernel
theorem dX4_noteUse_28 : decode cX4_noteUse 28 = .ok (.getfield 25, 3) := by decide +kernel
theorem dX4_noteUse_31 : decode cX4_noteUse 31 = .ok (.iload_n 1, 1) := by decide +kernel
theorem dX4_noteUse_32 : decode cX4_noteUse 32 = .ok (.aload_n 0, 1) := by decide +kernel
theorem dX4_noteUse_33 : decode cX4_noteUse 33 = .ok (.getfield 9, 3) := by decide +kernel
theorem dX4_noteUse_36 : decode cX4_noteUse 36 = .ok (.imul, 1) := by decide +kernel
theorem dX4_noteUse_37 : decode cX4_noteUse 37 = .ok (.lload_n 2, 1) := by decide +kernel
theorem dX4_noteUse_38 : decode cX4_noteUse 38 = .ok (.invokestatic 94, 3) := by decide +kernel
theorem dX4_noteUse_41 : decode cX4_noteUse 41 = .ok (.invokestatic 83, 3) := by decide +kernel
def o_X4_noteUse : List Cond := [.initialized RX11, .static yX11_isRegister, .fieldLink RX4 22 "SsaForge$Live" "sets" "[J", .fieldLink RX4 9 "SsaForge$Live" "words" "I", .static yX11_registerOf, .static yX11_hasBit, .fieldLink RX4 25 "SsaForge$Live" "uses" "[J", .static yX11_putBit]
def v_X4_noteUse : List Cond := .code yX4_noteUse cX4_noteUse 4 none :: (o_X4_noteUse ++ (v_X11_isRegister ++ (wsX40 ++ (v_X11_registerOf ++ (v_X11_hasBit ++ (v_X11_putBit ++ []))))))
theorem mow_X4_noteUse : ∀ w ∈ o_X4_noteUse, w ∈ v_X4_noteUse := fun _ h => List.mem_cons_of_mem _ (List.mem_append_left _ h)
theorem mem_X4_noteUse_0 : ∀ w ∈ v_X11_isRegister, w ∈ v_X4_noteUse := fun _ h => List.mem_cons_of_mem _ (List.mem_append_right _ (List.mem_append_left _ h))
theorem mem_X4_noteUse_1 : ∀ w ∈ wsX40, w ∈ v_X4_noteUse := fun _ h => List.mem_cons_of_mem _ (List.mem_append_right _ (List.mem_append_right _ (List.mem_append_left _ h)))
theorem mem_X4_noteUse_2 : ∀ w ∈ v_X11_registerOf, w ∈ v_X4_noteUse := fun _ h => List.mem_cons_of_mem _ (List.mem_append_right _ (List.mem_append_right _ (List.mem_append_right _ (List.mem_append_left _ h))))
theorem mem_X4_noteUse_3 : ∀ w ∈ v_X11_hasBit, w ∈ v_X4_noteUse := fun _ h => List.mem_cons_of_mem _ (List.mem_append_right _ (List.mem_append_right _ (List.mem_append_right _ (List.mem_append_right _ (List.mem_append_left _ h)))))
theorem mem_X4_noteUse_4 : ∀ w ∈ v_X11_putBit, w ∈ v_X4_noteUse := fun _ h => List.mem_cons_of_mem _ (List.mem_append_right _ (List.mem_append_right _ (List.mem_append_right _ (List.mem_append_right _ (List.mem_append_right _ (List.mem_append_left _ h))))))
set_option maxRecDepth 20000 in
theorem gw_X4_noteUse : v_X4_noteUse.all goodWord = true := by decide +kernel
set_option maxHeartbeats 4000000 in
set_option maxRecDepth 100000 in
theorem c_X4_noteUse (l : Launch) (dC : Nat → ClassId) (dI : Nat → Nat → Nat) (h0 : Nat) (z4_words : Int) (v4_1 : Value) (v4_2 : Value) (q_403 : Nat) (cA_403 : ClassId) (fa4_sets : Nat → Int64) (q_404 : Nat) (cA_404 : ClassId) (fa4_uses : Nat → Int64) (v4_5 : Value) (v4_6 : Value) (v4_7 : Value) (b : Int) (x : Int) (hNz4_words : 0 ≤ z4_words ∧ z4_words ≤ 16) (hNb : 0 ≤ b ∧ b < 300) (hNx : ((-2147483648 ≤ x ∧ x ≤ 4294968319) ∨ x = 1099511627776)) (sz : Nat) : Met l yX4_noteUse v_X4_noteUse ({ frames := 1, cells := 0, slots := 0, locals := 22 }) (va_Pc [.ref h0, .int (zI (b)), .long (lI (x))] (fun U => U.heap.size = sz ∧ va_P (dC, dI) vwP [(h0, .inr (4, [.int (zI (z4_words)), v4_1, v4_2, .ref q_403, .ref q_404, v4_5, v4_6, v4_7])), (q_403, .inl (cA_403, 4800, .inr (.inl fa4_sets))), (q_404, .inl (cA_404, 4800, .inr (.inl fa4_uses)))] U.heap ∧ va_K (dC, dI) vwP [(cA_403, .long), (cA_404, .long)] U ∧ va_D (fun _ => True) [(h0, .inr (4, [.int (zI (z4_words)), v4_1, v4_2, .ref q_403, .ref q_404, v4_5, v4_6, v4_7])), (q_403, .inl (cA_403, 4800, .inr (.inl fa4_sets))), (q_404, .inl (cA_404, 4800, .inr (.inl fa4_uses)))] ∧ va_Nw (.methodLinkNest RX4 90 yX11_isRegister "SsaForge") U ∧ va_Nw (.methodLinkNest RX4 94 yX11_registerOf "SsaForge") U ∧ va_Nw (.methodLinkNest RX4 98 yX11_hasBit "SsaForge") U ∧ va_Nw (.methodLinkNest RX4 83 yX11_putBit "SsaForge") U)) (va_Qv (fun _ : Unit => True) (fun (_ : Unit) (t : State) => ∃ (g0_9 : Nat → Int64), va_P (dC, dI) vwP [(h0, .inr (4, [.int (zI (z4_words)), v4_1, v4_2, .ref q_403, .ref q_404, v4_5, v4_6, v4_7])), (q_403, .inl (cA_403, 4800, .inr (.inl fa4_sets))), (q_404, .inl (cA_404, 4800, .inr (.inl g0_9)))] t.heap ∧ va_K (dC, dI) vwP [(cA_403, .long), (cA_404, .long)] t ∧ va_D (va_A [(h0, .inr (4, [.int (zI (z4_words)), v4_1, v4_2, .ref q_403, .ref q_404, v4_5, v4_6, v4_7])), (q_403, .inl (cA_403, 4800, .inr (.inl fa4_sets))), (q_404, .inl (cA_404, 4800, .inr (.inl fa4_uses)))] sz) [(h0, .inr (4, [.int (zI (z4_words)), v4_1, v4_2, .ref q_403, .ref q_404, v4_5, v4_6, v4_7])), (q_403, .inl (cA_403, 4800, .inr (.inl fa4_sets))), (q_404, .inl (cA_404, 4800, .inr (.inl g0_9)))]) (va_A [(h0, .inr (4, [.int (zI (z4_words)), v4_1, v4_2, .ref q_403, .ref q_404, v4_5, v4_6, v4_7])), (q_403, .inl (cA_403, 4800, .inr (.inl fa4_sets))), (q_404, .inl (cA_404, 4800, .inr (.inl fa4_uses)))] sz)) 0 0 (va_A [(h0, .inr (4, [.int (zI (z4_words)), v4_1, v4_2, .ref q_403, .ref q_404, v4_5, v4_6, v4_7])), (q_403, .inl (cA_403, 4800, .inr (.inl fa4_sets))), (q_404, .inl (cA_404, 4800, .inr (.inl fa4_uses)))] sz) := by
  refine Met.ofW (cc := cX4_noteUse) (maxL := 4) (ret := none) (by decide) rfl ?_
  intro p e s m args below meth c s₁ B hml hv
  obtain ⟨rfl, hsz, hP, hK, hD0, hp0, hp1, hp2, hp3⟩ := hv
  have hx := B.exec
  have hb := B.bytes
  have hr := B.returns
  have hts := atoms_spec (ws := v_X4_noteUse) B.pre
  have hown : s.vm.findClass RX4 = some m.cls := findClass_of_methodNamed B.named
  have hlocks := B.notSynchronized
  have ow : ∀ {k : Nat} {w : Cond}, o_X4_noteUse[k]? = some w → w.before ([.ref h0, .int (zI (b)), .long (lI (x))] : List Value).toArray s = true := fun h => hts _ (mow_X4_noteUse _ (List.mem_of_getElem? h))
  subst hsz
  have hD := hD0.self (sz := s.heap.size)
  generalize hAe : va_A [(h0, .inr (4, [.int (zI (z4_words)), v4_1, v4_2, .ref q_403, .ref q_404, v4_5, v4_6, v4_7])), (q_403, .inl (cA_403, 4800, .inr (.inl fa4_sets))), (q_404, .inl (cA_404, 4800, .inr (.inl fa4_uses)))] s.heap.size = A at hD ⊢
  have hA : ∀ q : Nat, s.heap.size ≤ q → A q := fun q h => by rw [← hAe]; exact Or.inr h
  have hS : va_S A s.heap s.heap [] := va_S.rf
  have hP : va_P (dC, dI) vwP [(h0, .inr (4, [.int (zI (z4_words)), v4_1, v4_2, .ref q_403, .ref q_404, v4_5, v4_6, v4_7])), (q_403, .inl (cA_403, 4800, .inr (.inl fa4_sets))), (q_404, .inl (cA_404, 4800, .inr (.inl fa4_uses)))] s.heap := hP
  have hl := lv_entry ([.ref h0, .int (zI (b)), .long (lI (x))]) (n := 4) (Nat.le_of_ble_eq_true rfl)
  rw [lg_entry_eq]
  generalize (lg_sl ([.ref h0, .int (zI (b)), .long (lI (x))]) ++ List.replicate (4 - (lg_sl ([.ref h0, .int (zI (b)), .long (lI (x))])).length) Slot.unset).toArray = ls at hl ⊢
  have hl : lv_has ls 4 [(0, .ref h0), (1, .int (zI (b))), (2, .long (lI (x)))] := hl
  obtain ⟨H, hH⟩ : ∃ H, H = s.heap := ⟨_, rfl⟩
  rw [← hH] at hP
  have hS : va_S A s.heap H [] := by rw [hH]; exact hS
  rw [← hH]
  refine zW_cap (fun Q hQ => ?_)
  refine lv_lload_n hx hb dX4_noteUse_0 rfl (lv_at hl 2 rfl) ?_
  have hPc := hP.sub (ws' := []) [] rfl
  have hDc := hD.sub (ws' := []) [] (by decide) rfl
  have hKc := hK.sub (tys' := []) [] rfl
  have hFc := va_free (wc := []) hD hS hA [] rfl
  refine va_calli (va_runSN (As := [.long (lI (x))]) (rest := []) ⟨hx, hb, hml, hown, hts⟩ (c_X11_isRegister l dC dI x (by omega) H.size) ⟨va_cnB 1 hts (goodIn_sub mem_X4_noteUse_0 gw_X11_isRegister) rfl rfl rfl hp0 (ow (k := 0) rfl) (by decide +kernel) ⟨(Nat.le_of_ble_eq_true rfl), (Nat.le_of_ble_eq_true rfl)⟩, (ow (k := 1) rfl), trivial⟩ ⟨fun a U g mk q => by obtain ⟨q0, q1, qP, qK, qD⟩ := q; exact ⟨q0, q1, qP, va_K.moved (u := U) (U := U.calling g mk a) (Vm.Alike.refl U.vm) qK, qD⟩, fun U hU hW => ⟨rfl, by rw [hU], by rw [hU]; exact hPc, va_K.moved hW.alike hKc, hDc.weaken (fun _ _ _ _ => trivial)⟩⟩ rfl rfl hl.1 rfl (lv_room (Nat.le_of_ble_eq_true rfl)) dX4_noteUse_1 ⟨(Nat.le_of_ble_eq_true rfl), (Nat.le_of_ble_eq_true rfl)⟩) hS (fun q _ h => hFc q h) hFc (fun r_2001 u t H1 locs ht hvm hw hB hz1 hk1 hS => ?_)
  obtain ⟨hP1, hK1, hD1⟩ := hB
  rw [ht] at hP1
  have hK1 := va_K.moved hvm.symm hK1
  obtain ⟨hP, hD⟩ := va_join (wr := [(h0, .inr (4, [.int (zI (z4_words)), v4_1, v4_2, .ref q_403, .ref q_404, v4_5, v4_6, v4_7])), (q_403, .inl (cA_403, 4800, .inr (.inl fa4_sets))), (q_404, .inl (cA_404, 4800, .inr (.inl fa4_uses)))]) (w1 := []) hP hD [] [0, 1, 2] rfl rfl (by decide) (by decide) hk1 hFc hP1 hD1
  have hK := (hK.sub (tys' := [(cA_403, .long), (cA_404, .long)]) [0, 1] rfl).app hK1
  generalize H1 = H at hP hS ⊢
  have hP : va_P (dC, dI) vwP [(h0, .inr (4, [.int (zI (z4_words)), v4_1, v4_2, .ref q_403, .ref q_404, v4_5, v4_6, v4_7])), (q_403, .inl (cA_403, 4800, .inr (.inl fa4_sets))), (q_404, .inl (cA_404, 4800, .inr (.inl fa4_uses)))] H := hP
  have hD : va_D A [(h0, .inr (4, [.int (zI (z4_words)), v4_1, v4_2, .ref q_403, .ref q_404, v4_5, v4_6, v4_7])), (q_403, .inl (cA_403, 4800, .inr (.inl fa4_sets))), (q_404, .inl (cA_404, 4800, .inr (.inl fa4_uses)))] := hD
  have hK : va_K (dC, dI) vwP [(cA_403, .long), (cA_404, .long)] s := hK
  refine W.widen (k := 0) (n := 0) (Nat.le_of_ble_eq_true rfl) (Nat.le_of_ble_eq_true rfl) ?_
  obtain rfl : r_2001 = (zI (isR (x))) := hw
  have := isR_spec (x)
  refine lv_if_eq (tgt := 44) hx hb dX4_noteUse_4 (by decide) (fun b4 => ?_) (fun b4 => ?_)
  · have yb4 : (isR (x) : Int) = (0 : Int) := (zI_eq (a := isR (x)) (b := 0) (by omega) (by omega) (by omega) (by omega)).mp b4
    subst hQ
    refine W.widen (k := 0) (n := 0) (Nat.le_of_ble_eq_true rfl) (Nat.le_of_ble_eq_true rfl) ?_
    exact W.vret hx hb hr (fun t ht hW => ⟨⟨(), rfl, trivial, fa4_uses, by rw [ht]; exact hP, va_K.moved hW.alike hK, hD⟩, hS.F ht⟩) hS.2.2 dX4_noteUse_44
  · have yb4 : ¬ (isR (x) : Int) = (0 : Int) := fun q => b4 ((zI_eq (a := isR (x)) (b := 0) (by omega) (by omega) (by omega) (by omega)).mpr q)
    refine lv_aload_n hx hb dX4_noteUse_7 rfl (lv_at hl 0 rfl) ?_
    refine va_get (D := (dC, dI)) (ci := 4) (v := .ref q_403) (C := RX4) (T := TX4) (N := 8) hx hb hts mem_X4_noteUse_1 hown hK hP 0 rfl rfl 3 (by decide) (ow (k := 2) rfl) (fun _ h9 => h9) rfl dX4_noteUse_8 ?_
    refine lv_iload_n hx hb dX4_noteUse_11 rfl (lv_at hl 1 rfl) ?_
    refine lv_aload_n hx hb dX4_noteUse_12 rfl (lv_at hl 0 rfl) ?_
    refine va_get (D := (dC, dI)) (ci := 4) (v := .int (zI (z4_words))) (C := RX4) (T := TX4) (N := 8) hx hb hts mem_X4_noteUse_1 hown hK hP 0 rfl rfl 0 (by decide) (ow (k := 3) rfl) (fun _ h9 => h9) rfl dX4_noteUse_13 ?_
    refine lv_imul hx hb dX4_noteUse_16 ?_
    refine lv_topi (fun z ez => ?_)
    obtain rfl : z = zI (b * z4_words) := ez.trans (zI_mul (b) (z4_words))
    have km17 := mulb (a := b) (b := z4_words) (by omega) (by omega) (by omega)
    refine lv_lload_n hx hb dX4_noteUse_17 rfl (lv_at hl 2 rfl) ?_
    have hPc := hP.sub (ws' := []) [] rfl
    have hDc := hD.sub (ws' := []) [] (by decide) rfl
    have hKc := hK.sub (tys' := []) [] rfl
    have hFc := va_free (wc := []) hD hS hA [] rfl
    refine va_calli (va_runSN (As := [.long (lI (x))]) (rest := [.int (zI (b * z4_words)), .ref q_403]) ⟨hx, hb, hml, hown, hts⟩ (c_X11_registerOf l dC dI x (by omega) H.size) ⟨va_cnB 1 hts (goodIn_sub mem_X4_noteUse_2 gw_X11_registerOf) rfl rfl rfl hp1 (ow (k := 0) rfl) (by decide +kernel) ⟨(Nat.le_of_ble_eq_true rfl), (Nat.le_of_ble_eq_true rfl)⟩, (ow (k := 4) rfl), trivial⟩ ⟨fun a U g mk q => by obtain ⟨q0, q1, qP, qK, qD⟩ := q; exact ⟨q0, q1, qP, va_K.moved (u := U) (U := U.calling g mk a) (Vm.Alike.refl U.vm) qK, qD⟩, fun U hU hW => ⟨rfl, by rw [hU], by rw [hU]; exact hPc, va_K.moved hW.alike hKc, hDc.weaken (fun _ _ _ _ => trivial)⟩⟩ rfl rfl hl.1 rfl (lv_room (Nat.le_of_ble_eq_true rfl)) dX4_noteUse_18 ⟨(Nat.le_of_ble_eq_true rfl), (Nat.le_of_ble_eq_true rfl)⟩) hS (fun q _ h => hFc q h) hFc (fun r_2002 u t H1 locs ht hvm hw hB hz1 hk1 hS => ?_)
    obtain ⟨hP1, hK1, hD1⟩ := hB
    rw [ht] at hP1
    have hK1 := va_K.moved hvm.symm hK1
    obtain ⟨hP, hD⟩ := va_join (wr := [(h0, .inr (4, [.int (zI (z4_words)), v4_1, v4_2, .ref q_403, .ref q_404, v4_5, v4_6, v4_7])), (q_403, .inl (cA_403, 4800, .inr (.inl fa4_sets))), (q_404, .inl (cA_404, 4800, .inr (.inl fa4_uses)))]) (w1 := []) hP hD [] [0, 1, 2] rfl rfl (by decide) (by decide) hk1 hFc hP1 hD1
    have hK := (hK.sub (tys' := [(cA_403, .long), (cA_404, .long)]) [0, 1] rfl).app hK1
    generalize H1 = H at hP hS ⊢
    have hP : va_P (dC, dI) vwP [(h0, .inr (4, [.int (zI (z4_words)), v4_1, v4_2, .ref q_403, .ref q_404, v4_5, v4_6, v4_7])), (q_403, .inl (cA_403, 4800, .inr (.inl fa4_sets))), (q_404, .inl (cA_404, 4800, .inr (.inl fa4_uses)))] H := hP
    have hD : va_D A [(h0, .inr (4, [.int (zI (z4_words)), v4_1, v4_2, .ref q_403, .ref q_404, v4_5, v4_6, v4_7])), (q_403, .inl (cA_403, 4800, .inr (.inl fa4_sets))), (q_404, .inl (cA_404, 4800, .inr (.inl fa4_uses)))] := hD
    have hK : va_K (dC, dI) vwP [(cA_403, .long), (cA_404, .long)] s := hK
    refine W.widen (k := 0) (n := 0) (Nat.le_of_ble_eq_true rfl) (Nat.le_of_ble_eq_true rfl) ?_
    obtain rfl : r_2002 = (zI (x - 4294967296)) := hw
    have hPc := hP.sub (ws' := [(q_403, .inl (cA_403, 4800, .inr (.inl fa4_sets)))]) [1] rfl
    have hDc := hD.sub (ws' := [(q_403, .inl (cA_403, 4800, .inr (.inl fa4_sets)))]) [1] (by decide) rfl
    have hKc := hK.sub (tys' := [(cA_403, .long)]) [0] rfl
    have hFc := va_free (wc := [(q_403, .inl (cA_403, 4800, .inr (.inl fa4_sets)))]) hD hS hA [1] rfl
    refine va_calli (va_runSN (As := [.ref q_403, .int (zI (b * z4_words)), .int (zI (x - 4294967296))]) (rest := []) ⟨hx, hb, hml, hown, hts⟩ (c_X11_hasBit l dC dI q_403 cA_403 4800 fa4_sets (b * z4_words) (x - 4294967296) (by omega) H.size) ⟨va_cnB 3 hts (goodIn_sub mem_X4_noteUse_3 gw_X11_hasBit) rfl rfl rfl hp2 (ow (k := 0) rfl) (by decide +kernel) ⟨(Nat.le_of_ble_eq_true rfl), (Nat.le_of_ble_eq_true rfl)⟩, (ow (k := 5) rfl), trivial⟩ ⟨fun a U g mk q => by obtain ⟨q0, q1, qP, qK, qD⟩ := q; exact ⟨q0, q1, qP, va_K.moved (u := U) (U := U.calling g mk a) (Vm.Alike.refl U.vm) qK, qD⟩, fun U hU hW => ⟨rfl, by rw [hU], by rw [hU]; exact hPc, va_K.moved hW.alike hKc, hDc.weaken (fun _ _ _ _ => trivial)⟩⟩ rfl rfl hl.1 rfl (lv_room (Nat.le_of_ble_eq_true rfl)) dX4_noteUse_21 ⟨(Nat.le_of_ble_eq_true rfl), (Nat.le_of_ble_eq_true rfl)⟩) hS (fun q _ h => hFc q h) hFc (fun r_2003 u t H1 locs ht hvm hw hB hz1 hk1 hS => ?_)
    obtain ⟨hP1, hK1, hD1⟩ := hB
    rw [ht] at hP1
    have hK1 := va_K.moved hvm.symm hK1
    obtain ⟨hP, hD⟩ := va_join (wr := [(h0, .inr (4, [.int (zI (z4_words)), v4_1, v4_2, .ref q_403, .ref q_404, v4_5, v4_6, v4_7])), (q_404, .inl (cA_404, 4800, .inr (.inl fa4_uses)))]) (w1 := [(q_403, .inl (cA_403, 4800, .inr (.inl fa4_sets)))]) hP hD [1] [0, 2] rfl rfl (by decide) (by decide) hk1 hFc hP1 hD1
    have hK := (hK.sub (tys' := [(cA_404, .long)]) [1] rfl).app hK1
    generalize H1 = H at hP hS ⊢
    have hP : va_P (dC, dI) vwP [(h0, .inr (4, [.int (zI (z4_words)), v4_1, v4_2, .ref q_403, .ref q_404, v4_5, v4_6, v4_7])), (q_404, .inl (cA_404, 4800, .inr (.inl fa4_uses))), (q_403, .inl (cA_403, 4800, .inr (.inl fa4_sets)))] H := hP
    have hD : va_D A [(h0, .inr (4, [.int (zI (z4_words)), v4_1, v4_2, .ref q_403, .ref q_404, v4_5, v4_6, v4_7])), (q_404, .inl (cA_404, 4800, .inr (.inl fa4_uses))), (q_403, .inl (cA_403, 4800, .inr (.inl fa4_sets)))] := hD
    have hK : va_K (dC, dI) vwP [(cA_404, .long), (cA_403, .long)] s := hK
    refine W.widen (k := 0) (n := 0) (Nat.le_of_ble_eq_true rfl) (Nat.le_of_ble_eq_true rfl) ?_
    have hw_2004 := hw
    obtain ⟨z_2005, rfl, hzz_2005⟩ := hw_2004
    refine lv_if_ne (tgt := 44) hx hb dX4_noteUse_24 (by decide) (fun b24 => ?_) (fun b24 => ?_)
    · have yb24 : ¬ (z_2005 : Int) = (0 : Int) := fun q => b24 ((zI_eq (a := z_2005) (b := 0) (by omega) (by omega) (by omega) (by omega)).mpr q)
      subst hQ
      have hP := hP.sub (ws' := [(h0, .inr (4, [.int (zI (z4_words)), v4_1, v4_2, .ref q_403, .ref q_404, v4_5, v4_6, v4_7])), (q_403, .inl (cA_403, 4800, .inr (.inl fa4_sets))), (q_404, .inl (cA_404, 4800, .inr (.inl fa4_uses)))]) [0, 2, 1] rfl
      have hD := hD.sub (ws' := [(h0, .inr (4, [.int (zI (z4_words)), v4_1, v4_2, .ref q_403, .ref q_404, v4_5, v4_6, v4_7])), (q_403, .inl (cA_403, 4800, .inr (.inl fa4_sets))), (q_404, .inl (cA_404, 4800, .inr (.inl fa4_uses)))]) [0, 2, 1] (by decide) rfl
      have hK := hK.sub (tys' := [(cA_403, .long), (cA_404, .long)]) [1, 0] rfl
      refine W.widen (k := 0) (n := 0) (Nat.le_of_ble_eq_true rfl) (Nat.le_of_ble_eq_true rfl) ?_
      exact W.vret hx hb hr (fun t ht hW => ⟨⟨(), rfl, trivial, fa4_uses, by rw [ht]; exact hP, va_K.moved hW.alike hK, hD⟩, hS.F ht⟩) hS.2.2 dX4_noteUse_44
    · have yb24 : (z_2005 : Int) = (0 : Int) := (zI_eq (a := z_2005) (b := 0) (by omega) (by omega) (by omega) (by omega)).mp b24
      refine lv_aload_n hx hb dX4_noteUse_27 rfl (lv_at hl 0 rfl) ?_
      refine va_get (D := (dC, dI)) (ci := 4) (v := .ref q_404) (C := RX4) (T := TX4) (N := 8) hx hb hts mem_X4_noteUse_1 hown hK hP 0 rfl rfl 4 (by decide) (ow (k := 6) rfl) (fun _ h9 => h9) rfl dX4_noteUse_28 ?_
      refine lv_iload_n hx hb dX4_noteUse_31 rfl (lv_at hl 1 rfl) ?_
      refine lv_aload_n hx hb dX4_noteUse_32 rfl (lv_at hl 0 rfl) ?_
      refine va_get (D := (dC, dI)) (ci := 4) (v := .int (zI (z4_words))) (C := RX4) (T := TX4) (N := 8) hx hb hts mem_X4_noteUse_1 hown hK hP 0 rfl rfl 0 (by decide) (ow (k := 3) rfl) (fun _ h9 => h9) rfl dX4_noteUse_33 ?_
      refine lv_imul hx hb dX4_noteUse_36 ?_
      refine lv_topi (fun z ez => ?_)
      obtain rfl : z = zI (b * z4_words) := ez.trans (zI_mul (b) (z4_words))
      have km37 := mulb (a := b) (b := z4_words) (by omega) (by omega) (by omega)
      refine lv_lload_n hx hb dX4_noteUse_37 rfl (lv_at hl 2 rfl) ?_
      have hPc := hP.sub (ws' := []) [] rfl
      have hDc := hD.sub (ws' := []) [] (by decide) rfl
      have hKc := hK.sub (tys' := []) [] rfl
      have hFc := va_free (wc := []) hD hS hA [] rfl
      refine va_calli (va_runSN (As := [.long (lI (x))]) (rest := [.int (zI (b * z4_words)), .ref q_404]) ⟨hx, hb, hml, hown, hts⟩ (c_X11_registerOf l dC dI x (by omega) H.size) ⟨va_cnB 1 hts (goodIn_sub mem_X4_noteUse_2 gw_X11_registerOf) rfl rfl rfl hp1 (ow (k := 0) rfl) (by decide +kernel) ⟨(Nat.le_of_ble_eq_true rfl), (Nat.le_of_ble_eq_true rfl)⟩, (ow (k := 4) rfl), trivial⟩ ⟨fun a U g mk q => by obtain ⟨q0, q1, qP, qK, qD⟩ := q; exact ⟨q0, q1, qP, va_K.moved (u := U) (U := U.calling g mk a) (Vm.Alike.refl U.vm) qK, qD⟩, fun U hU hW => ⟨rfl, by rw [hU], by rw [hU]; exact hPc, va_K.moved hW.alike hKc, hDc.weaken (fun _ _ _ _ => trivial)⟩⟩ rfl rfl hl.1 rfl (lv_room (Nat.le_of_ble_eq_true rfl)) dX4_noteUse_38 ⟨(Nat.le_of_ble_eq_true rfl), (Nat.le_of_ble_eq_true rfl)⟩) hS (fun q _ h => hFc q h) hFc (fun r_2006 u t H1 locs ht hvm hw hB hz1 hk1 hS => ?_)
      obtain ⟨hP1, hK1, hD1⟩ := hB
      rw [ht] at hP1
      have hK1 := va_K.moved hvm.symm hK1
      obtain ⟨hP, hD⟩ := va_join (wr := [(h0, .inr (4, [.int (zI (z4_words)), v4_1, v4_2, .ref q_403, .ref q_404, v4_5, v4_6, v4_7])), (q_404, .inl (cA_404, 4800, .inr (.inl fa4_uses))), (q_403, .inl (cA_403, 4800, .inr (.inl fa4_sets)))]) (w1 := []) hP hD [] [0, 1, 2] rfl rfl (by decide) (by decide) hk1 hFc hP1 hD1
      have hK := (hK.sub (tys' := [(cA_404, .long), (cA_403, .long)]) [0, 1] rfl).app hK1
      generalize H1 = H at hP hS ⊢
      have hP : va_P (dC, dI) vwP [(h0, .inr (4, [.int (zI (z4_words)), v4_1, v4_2, .ref q_403, .ref q_404, v4_5, v4_6, v4_7])), (q_404, .inl (cA_404, 4800, .inr (.inl fa4_uses))), (q_403, .inl (cA_403, 4800, .inr (.inl fa4_sets)))] H := hP
      have hD : va_D A [(h0, .inr (4, [.int (zI (z4_words)), v4_1, v4_2, .ref q_403, .ref q_404, v4_5, v4_6, v4_7])), (q_404, .inl (cA_404, 4800, .inr (.inl fa4_uses))), (q_403, .inl (cA_403, 4800, .inr (.inl fa4_sets)))] := hD
      have hK : va_K (dC, dI) vwP [(cA_404, .long), (cA_403, .long)] s := hK
      refine W.widen (k := 0) (n := 0) (Nat.le_of_ble_eq_true rfl) (Nat.le_of_ble_eq_true rfl) ?_
      obtain rfl : r_2006 = (zI (x - 4294967296)) := hw
      have hPc := hP.sub (ws' := [(q_404, .inl (cA_404, 4800, .inr (.inl fa4_uses)))]) [1] rfl
      have hDc := hD.sub (ws' := [(q_404, .inl (cA_404, 4800, .inr (.inl fa4_uses)))]) [1] (by decide) rfl
      have hKc := hK.sub (tys' := [(cA_404, .long)]) [0] rfl
      have hFc := va_free (wc := [(q_404, .inl (cA_404, 4800, .inr (.inl fa4_uses)))]) hD hS hA [1] rfl
      refine va_callv (va_runSN (As := [.ref q_404, .int (zI (b * z4_words)), .int (zI (x - 4294967296))]) (rest := []) ⟨hx, hb, hml, hown, hts⟩ (c_X11_putBit l dC dI q_404 cA_404 4800 fa4_uses (b * z4_words) (x - 4294967296) (by omega) H.size) ⟨va_cnB 3 hts (goodIn_sub mem_X4_noteUse_4 gw_X11_putBit) rfl rfl rfl hp3 (ow (k := 0) rfl) (by decide +kernel) ⟨(Nat.le_of_ble_eq_true rfl), (Nat.le_of_ble_eq_true rfl)⟩, (ow (k := 7) rfl), trivial⟩ ⟨fun a U g mk q => by obtain ⟨q0, q1, qP, qK, qD⟩ := q; exact ⟨q0, q1, qP, va_K.moved (u := U) (U := U.calling g mk a) (Vm.Alike.refl U.vm) qK, qD⟩, fun U hU hW => ⟨rfl, by rw [hU], by rw [hU]; exact hPc, va_K.moved hW.alike hKc, hDc.weaken (fun _ _ _ _ => trivial)⟩⟩ rfl rfl hl.1 rfl (lv_room (Nat.le_of_ble_eq_true rfl)) dX4_noteUse_41 ⟨(Nat.le_of_ble_eq_true rfl), (Nat.le_of_ble_eq_true rfl)⟩) hS (fun q _ h => hFc q h) hFc (fun  u t H1 locs ht hvm hw hB hz1 hk1 hS => ?_)
      obtain ⟨g0_2007, hP1, hK1, hD1⟩ := hB
      rw [ht] at hP1
      have hK1 := va_K.moved hvm.symm hK1
      obtain ⟨hP, hD⟩ := va_join (wr := [(h0, .inr (4, [.int (zI (z4_words)), v4_1, v4_2, .ref q_403, .ref q_404, v4_5, v4_6, v4_7])), (q_403, .inl (cA_403, 4800, .inr (.inl fa4_sets)))]) (w1 := [(q_404, .inl (cA_404, 4800, .inr (.inl g0_2007)))]) hP hD [1] [0, 2] rfl rfl (by decide) (by decide) hk1 hFc hP1 hD1
      have hK := (hK.sub (tys' := [(cA_403, .long)]) [1] rfl).app hK1
      generalize H1 = H at hP hS ⊢
      have hP : va_P (dC, dI) vwP [(h0, .inr (4, [.int (zI (z4_words)), v4_1, v4_2, .ref q_403, .ref q_404, v4_5, v4_6, v4_7])), (q_403, .inl (cA_403, 4800, .inr (.inl fa4_sets))), (q_404, .inl (cA_404, 4800, .inr (.inl g0_2007)))] H := hP
      have hD : va_D A [(h0, .inr (4, [.int (zI (z4_words)), v4_1, v4_2, .ref q_403, .ref q_404, v4_5, v4_6, v4_7])), (q_403, .inl (cA_403, 4800, .inr (.inl fa4_sets))), (q_404, .inl (cA_404, 4800, .inr (.inl g0_2007)))] := hD
      have hK : va_K (dC, dI) vwP [(cA_403, .long), (cA_404, .long)] s := hK
      refine W.widen (k := 0) (n := 0) (Nat.le_of_ble_eq_true rfl) (Nat.le_of_ble_eq_true rfl) ?_
      subst hQ
      refine W.widen (k := 0) (n := 0) (Nat.le_of_ble_eq_true rfl) (Nat.le_of_ble_eq_true rfl) ?_
      exact W.vret hx hb hr (fun t ht hW => ⟨⟨(), rfl, trivial, g0_2007, by rw [ht]; exact hP, va_K.moved hW.alike hK, hD⟩, hS.F ht⟩) hS.2.2 dX4_noteUse_44
theorem dX4_noteRows_0 : decode cX4_noteRows 0 = .ok (.aload_n 1, 1) := by decide +kernel
theorem dX4_noteRows_1 : decode cX4_noteRows 1 = .ok (.getfield 66, 3) := by decide +kernel
theorem dX4_noteRows_4 : decode cX4_noteRows 4 = .ok (.iload_n 2, 1) := by decide +kernel
theorem dX4_noteRows_5 : decode cX4_noteRows 5 = .ok (.iaload, 1) := by decide +kernel
theorem dX4_noteRows_6 : decode cX4_noteRows 6 = .ok (.istore_n 3, 1) := by decide +kernel
theorem dX4_noteRows_7 : decode cX4_noteRows 7 = .ok (.iload_n 3, 1) := by decide +kernel
theorem dX4_noteRows_8 : decode cX4_noteRows 8 = .ok (.aload_n 1, 1) := by decide +kernel
theorem dX4_noteRows_9 : decode cX4_noteRows 9 = .ok (.getfield 66, 3) := by decide +kernel
theorem dX4_noteRows_12 : decode cX4_noteRows 12 = .ok (.iload_n 2, 1) := by decide +kernel
theorem dX4_noteRows_13 : decode cX4_noteRows 13 = .ok (.iconst 1, 1) := by decide +kernel
theorem dX4_noteRows_14 : decode cX4_noteRows 14 = .ok (.iadd, 1) := by decide +kernel
theorem dX4_noteRows_15 : decode cX4_noteRows 15 = .ok (.iaload, 1) := by decide +kernel
theorem dX4_noteRows_16 : decode cX4_noteRows 16 = .ok (.if_icmp .ge 59, 3) := by decide +kernel
theorem dX4_noteRows_75 : decode cX4_noteRows 75 = .ok (.aload_n 0, 1) := by decide +kernel
theorem dX4_noteRows_76 : decode cX4_noteRows 76 = .ok (.iload_n 2, 1) := by decide +kernel
theorem dX4_noteRows_77 : decode cX4_noteRows 77 = .ok (.aload_n 1, 1) := by decide +kernel
theorem dX4_noteRows_78 : decode cX4_noteRows 78 = .ok (.getfield 87, 3) := by decide +kernel
theorem dX4_noteRows_81 : decode cX4_noteRows 81 = .ok (.iload_n 2, 1) := by decide +kernel
theorem dX4_noteRows_82 : decode cX4_noteRows 82 = .ok (.laload, 1) := by decide +kernel
theorem dX4_noteRows_83 : decode cX4_noteRows 83 = .ok (.invokevirtual 73, 3) := by decide +kernel
theorem dX4_noteRows_86 : decode cX4_noteRows 86 = .ok (.return_, 1) := by decide +kernel
theorem dX4_noteRows_19 : decode cX4_noteRows 19 = .ok (.aload_n 0, 1) := by decide +kernel
theorem dX4_noteRows_20 : decode cX4_noteRows 20 = .ok (.iload_n 2, 1) := by decide +kernel
theorem dX4_noteRows_21 : decode cX4_noteRows 21 = .ok (.aload_n 1, 1) := by decide +kernel
theorem dX4_noteRows_22 : decode cX4_noteRows 22 = .ok (.getfield 70, 3) := by decide +kernel
theorem dX4_noteRows_25 : decode cX4_noteRows 25 = .ok (.iload_n 3, 1) := by decide +kernel
theorem dX4_noteRows_26 : decode cX4_noteRows 26 = .ok (.laload, 1) := by decide +kernel
theorem dX4_noteRows_27 : decode cX4_noteRows 27 = .ok (.invokevirtual 73, 3) := by decide +kernel
theorem dX4_noteRows_30 : decode cX4_noteRows 30 = .ok (.aload_n 0, 1) := by decide +kernel
theorem dX4_noteRows_31 : decode cX4_noteRows 31 = .ok (.iload_n 2, 1) := by decide +kernel
theorem dX4_noteRows_32 : decode cX4_noteRows 32 = .ok (.aload_n 1, 1) := by decide +kernel
theorem dX4_noteRows_33 : decode cX4_noteRows 33 = .ok (.getfield 77, 3) := by decide +kernel
theorem dX4_noteRows_36 : decode cX4_noteRows 36 = .ok (.iload_n 3, 1) := by decide +kernel
theorem dX4_noteRows_37 : decode cX4_noteRows 37 = .ok (.laload, 1) := by decide +kernel
theorem dX4_noteRows_38 : decode cX4_noteRows 38 = .ok (.invokevirtual 73, 3) := by decide +kernel
theorem dX4_noteRows_41 : decode cX4_noteRows 41 = .ok (.aload_n 1, 1) := by decide +kernel
theorem dX4_noteRows_42 : decode cX4_noteRows 42 = .ok (.getfield 80, 3) := by decide +kernel
theorem dX4_noteRows_45 : decode cX4_noteRows 45 = .ok (.iload_n 3, 1) := by decide +kernel
theorem dX4_noteRows_46 : decode cX4_noteRows 46 = .ok (.iaload, 1) := by decide +kernel
theorem dX4_noteRows_47 : decode cX4_noteRows 47 = .ok (.ifCond .lt 22, 3) := by decide +kernel
theorem dX4_noteRows_69 : decode cX4_noteRows 69 = .ok (.iinc 3 1, 3) := by decide +kernel
theorem dX4_noteRows_72 : decode cX4_noteRows 72 = .ok (.goto (-65), 3) := by decide +kernel
theorem dX4_noteRows_50 : decode cX4_noteRows 50 = .ok (.aload_n 0, 1) := by decide +kernel
theorem dX4_noteRows_51 : decode cX4_noteRows 51 = .ok (.getfield 22, 3) := by decide +kernel
theorem dX4_noteRows_54 : decode cX4_noteRows 54 = .ok (.iload_n 2, 1) := by decide +kernel
theorem dX4_noteRows_55 : decode cX4_noteRows 55 = .ok (.aload_n 0, 1) := by decide +kernel
theorem dX4_noteRows_56 : decode cX4_noteRows 56 = .ok (.getfield 9, 3) := by decide +kernel
theorem dX4_noteRows_59 : decode cX4_noteRows 59 = .ok (.imul, 1) := by decide +kernel
theorem dX4_noteRows_60 : decode cX4_noteRows 60 = .ok (.aload_n 1, 1) := by decide +kernel
theorem dX4_noteRows_61 : decode cX4_noteRows 61 = .ok (.getfield 80, 3) := by decide +kernel
theorem dX4_noteRows_64 : decode cX4_noteRows 64 = .ok (.iload_n 3, 1) := by decide +kernel
theorem dX4_noteRows_65 : decode cX4_noteRows 65 = .ok (.iaload, 1) := by decide +kernel
theorem dX4_noteRows_66 : decode cX4_noteRows 66 = .ok (.invokestatic 83, 3) := by decide +kernel
def o_X4_noteRows : List Cond := [.fieldLink RX4 66 "SsaForge$Code" "rowStart" "[I", .fieldLink RX4 87 "SsaForge$Code" "endUse" "[J", .methodLink RX4 73 yX4_noteUse, .instanceMethod yX4_noteUse, .selects RX4 yX4_noteUse yX4_noteUse, .initialized RX4, .fieldLink RX4 70 "SsaForge$Code" "left" "[J", .fieldLink RX4 77 "SsaForge$Code" "right" "[J", .fieldLink RX4 80 "SsaForge$Code" "target" "[I", .fieldLink RX4 22 "SsaForge$Live" "sets" "[J", .fieldLink RX4 9 "SsaForge$Live" "words" "I", .initialized RX11, .static yX11_putBit]
def v_X4_noteRows : List Cond := .code yX4_noteRows cX4_noteRows 4 none :: (o_X4_noteRows ++ (wsX00 ++ (v_X4_noteUse ++ (wsX40 ++ (v_X11_putBit ++ [])))))
theorem mow_X4_noteRows : ∀ w ∈ o_X4_noteRows, w ∈ v_X4_noteRows := fun _ h => List.mem_cons_of_mem _ (List.mem_append_left _ h)
theorem mem_X4_noteRows_0 : ∀ w ∈ wsX00, w ∈ v_X4_noteRows := fun _ h => List.mem_cons_of_mem _ (List.mem_append_right _ (List.mem_append_left _ h))
theorem mem_X4_noteRows_1 : ∀ w ∈ v_X4_noteUse, w ∈ v_X4_noteRows := fun _ h => List.mem_cons_of_mem _ (List.mem_append_right _ (List.mem_append_right _ (List.mem_append_left _ h)))
theorem mem_X4_noteRows_2 : ∀ w ∈ wsX40, w ∈ v_X4_noteRows := fun _ h => List.mem_cons_of_mem _ (List.mem_append_right _ (List.mem_append_right _ (List.mem_append_right _ (List.mem_append_left _ h))))
theorem mem_X4_noteRows_3 : ∀ w ∈ v_X11_putBit, w ∈ v_X4_noteRows := fun _ h => List.mem_cons_of_mem _ (List.mem_append_right _ (List.mem_append_right _ (List.mem_append_right _ (List.mem_append_right _ (List.mem_append_left _ h)))))
set_option maxRecDepth 20000 in
theorem gw_X4_noteRows : v_X4_noteRows.all goodWord = true := by decide +kernel
set_option maxRecDepth 20000 in
theorem g_X4_noteRows_X4_noteUse : GoodIn v_X4_noteRows (wsV RX4 73 RX4 yX4_noteUse v_X4_noteUse) := goodIn_app (goodIn_sub (fun w h => mow_X4_noteRows w (by revert w h; decide +kernel)) (by decide +kernel)) (goodIn_sub mem_X4_noteRows_1 gw_X4_noteUse)
set_option maxHeartbeats 4000000 in
set_option maxRecDepth 100000 in
theorem c_X4_noteRows (l : Launch) (dC : Nat → ClassId) (dI : Nat → Nat → Nat) (h0 : Nat) (z4_words : Int) (v4_1 : Value) (v4_2 : Value) (q_403 : Nat) (cA_403 : ClassId) (fa4_sets : Nat → Int64) (q_404 : Nat) (cA_404 : ClassId) (fa4_uses : Nat → Int64) (v4_5 : Value) (v4_6 : Value) (v4_7 : Value) (hc : Nat) (v_0 : Value) (v_1 : Value) (v_2 : Value) (v_3 : Value) (q_704 : Nat) (cA_704 : ClassId) (a_4 : Int → Int) (v_5 : Value) (q_706 : Nat) (cA_706 : ClassId) (a_6 : Int → Int) (q_707 : Nat) (cA_707 : ClassId) (a_7 : Int → Int) (q_708 : Nat) (cA_708 : ClassId) (a_8 : Int → Int) (v_9 : Value) (q_710 : Nat) (cA_710 : ClassId) (a_10 : Int → Int) (v_11 : Value) (v_12 : Value) (v_13 : Value) (v_14 : Value) (v_15 : Value) (v_16 : Value) (v_17 : Value) (v_18 : Value) (b : Int) (hNz4_words : 0 ≤ z4_words ∧ z4_words ≤ 16) (hR_a_4 : ∀ j : Int, 0 ≤ a_4 j ∧ a_4 j ≤ 2000) (hR_a_6 : ∀ j : Int, -1 ≤ a_6 j ∧ a_6 j ≤ 1023) (hR_a_7 : ∀ j : Int, ((-2147483648 ≤ a_7 j ∧ a_7 j ≤ 4294968319) ∨ a_7 j = 1099511627776)) (hR_a_8 : ∀ j : Int, ((-2147483648 ≤ a_8 j ∧ a_8 j ≤ 4294968319) ∨ a_8 j = 1099511627776)) (hR_a_10 : ∀ j : Int, ((-2147483648 ≤ a_10 j ∧ a_10 j ≤ 4294968319) ∨ a_10 j = 1099511627776)) (hNb : 0 ≤ b ∧ b < 300) (sz : Nat) : Met l yX4_noteRows v_X4_noteRows ({ frames := 2, cells := 0, slots := 0, locals := 45 }) (va_Pc [.ref h0, .ref hc, .int (zI (b))] (fun U => U.heap.size = sz ∧ va_P (dC, dI) vwP [(h0, .inr (4, [.int (zI (z4_words)), v4_1, v4_2, .ref q_403, .ref q_404, v4_5, v4_6, v4_7])), (q_403, .inl (cA_403, 4800, .inr (.inl fa4_sets))), (q_404, .inl (cA_404, 4800, .inr (.inl fa4_uses))), (hc, .inr (0, [v_0, v_1, v_2, v_3, .ref q_704, v_5, .ref q_706, .ref q_707, .ref q_708, v_9, .ref q_710, v_11, v_12, v_13, v_14, v_15, v_16, v_17, v_18])), (q_704, .inl (cA_704, 301, .inl (fun j : Nat => zI (a_4 (j : Int))))), (q_706, .inl (cA_706, 2000, .inl (fun j : Nat => zI (a_6 (j : Int))))), (q_707, .inl (cA_707, 2000, .inr (.inl (fun j : Nat => lI (a_7 (j : Int)))))), (q_708, .inl (cA_708, 2000, .inr (.inl (fun j : Nat => lI (a_8 (j : Int)))))), (q_710, .inl (cA_710, 300, .inr (.inl (fun j : Nat => lI (a_10 (j : Int))))))] U.heap ∧ va_K (dC, dI) vwP [(cA_403, .long), (cA_404, .long), (cA_704, .int), (cA_706, .int), (cA_707, .long), (cA_708, .long), (cA_710, .long)] U ∧ va_D (fun _ => True) [(h0, .inr (4, [.int (zI (z4_words)), v4_1, v4_2, .ref q_403, .ref q_404, v4_5, v4_6, v4_7])), (q_403, .inl (cA_403, 4800, .inr (.inl fa4_sets))), (q_404, .inl (cA_404, 4800, .inr (.inl fa4_uses))), (hc, .inr (0, [v_0, v_1, v_2, v_3, .ref q_704, v_5, .ref q_706, .ref q_707, .ref q_708, v_9, .ref q_710, v_11, v_12, v_13, v_14, v_15, v_16, v_17, v_18])), (q_704, .inl (cA_704, 301, .inl (fun j : Nat => zI (a_4 (j : Int))))), (q_706, .inl (cA_706, 2000, .inl (fun j : Nat => zI (a_6 (j : Int))))), (q_707, .inl (cA_707, 2000, .inr (.inl (fun j : Nat => lI (a_7 (j : Int)))))), (q_708, .inl (cA_708, 2000, .inr (.inl (fun j : Nat => lI (a_8 (j : Int)))))), (q_710, .inl (cA_710, 300, .inr (.inl (fun j : Nat => lI (a_10 (j : Int))))))] ∧ va_Nw (.methodLinkNest RX4 90 yX11_isRegister "SsaForge") U ∧ va_Nw (.methodLinkNest RX4 94 yX11_registerOf "SsaForge") U ∧ va_Nw (.methodLinkNest RX4 98 yX11_hasBit "SsaForge") U ∧ va_Nw (.methodLinkNest RX4 83 yX11_putBit "SsaForge") U)) (va_Qv (fun _ : Unit => True) (fun (_ : Unit) (t : State) => ∃ (g0_9 : Nat → Int64) (g1_9 : Nat → Int64), va_P (dC, dI) vwP [(h0, .inr (4, [.int (zI (z4_words)), v4_1, v4_2, .ref q_403, .ref q_404, v4_5, v4_6, v4_7])), (q_403, .inl (cA_403, 4800, .inr (.inl g0_9))), (q_404, .inl (cA_404, 4800, .inr (.inl g1_9))), (hc, .inr (0, [v_0, v_1, v_2, v_3, .ref q_704, v_5, .ref q_706, .ref q_707, .ref q_708, v_9, .ref q_710, v_11, v_12, v_13, v_14, v_15, v_16, v_17, v_18])), (q_704, .inl (cA_704, 301, .inl (fun j : Nat => zI (a_4 (j : Int))))), (q_706, .inl (cA_706, 2000, .inl (fun j : Nat => zI (a_6 (j : Int))))), (q_707, .inl (cA_707, 2000, .inr (.inl (fun j : Nat => lI (a_7 (j : Int)))))), (q_708, .inl (cA_708, 2000, .inr (.inl (fun j : Nat => lI (a_8 (j : Int)))))), (q_710, .inl (cA_710, 300, .inr (.inl (fun j : Nat => lI (a_10 (j : Int))))))] t.heap ∧ va_K (dC, dI) vwP [(cA_403, .long), (cA_404, .long), (cA_704, .int), (cA_706, .int), (cA_707, .long), (cA_708, .long), (cA_710, .long)] t ∧ va_D (va_A [(h0, .inr (4, [.int (zI (z4_words)), v4_1, v4_2, .ref q_403, .ref q_404, v4_5, v4_6, v4_7])), (q_403, .inl (cA_403, 4800, .inr (.inl fa4_sets))), (q_404, .inl (cA_404, 4800, .inr (.inl fa4_uses))), (hc, .inr (0, [v_0, v_1, v_2, v_3, .ref q_704, v_5, .ref q_706, .ref q_707, .ref q_708, v_9, .ref q_710, v_11, v_12, v_13, v_14, v_15, v_16, v_17, v_18])), (q_704, .inl (cA_704, 301, .inl (fun j : Nat => zI (a_4 (j : Int))))), (q_706, .inl (cA_706, 2000, .inl (fun j : Nat => zI (a_6 (j : Int))))), (q_707, .inl (cA_707, 2000, .inr (.inl (fun j : Nat => lI (a_7 (j : Int)))))), (q_708, .inl (cA_708, 2000, .inr (.inl (fun j : Nat => lI (a_8 (j : Int)))))), (q_710, .inl (cA_710, 300, .inr (.inl (fun j : Nat => lI (a_10 (j : Int))))))] sz) [(h0, .inr (4, [.int (zI (z4_words)), v4_1, v4_2, .ref q_403, .ref q_404, v4_5, v4_6, v4_7])), (q_403, .inl (cA_403, 4800, .inr (.inl g0_9))), (q_404, .inl (cA_404, 4800, .inr (.inl g1_9))), (hc, .inr (0, [v_0, v_1, v_2, v_3, .ref q_704, v_5, .ref q_706, .ref q_707, .ref q_708, v_9, .ref q_710, v_11, v_12, v_13, v_14, v_15, v_16, v_17, v_18])), (q_704, .inl (cA_704, 301, .inl (fun j : Nat => zI (a_4 (j : Int))))), (q_706, .inl (cA_706, 2000, .inl (fun j : Nat => zI (a_6 (j : Int))))), (q_707, .inl (cA_707, 2000, .inr (.inl (fun j : Nat => lI (a_7 (j : Int)))))), (q_708, .inl (cA_708, 2000, .inr (.inl (fun j : Nat => lI (a_8 (j : Int)))))), (q_710, .inl (cA_710, 300, .inr (.inl (fun j : Nat => lI (a_10 (j : Int))))))]) (va_A [(h0, .inr (4, [.int (zI (z4_words)), v4_1, v4_2, .ref q_403, .ref q_404, v4_5, v4_6, v4_7])), (q_403, .inl (cA_403, 4800, .inr (.inl fa4_sets))), (q_404, .inl (cA_404, 4800, .inr (.inl fa4_uses))), (hc, .inr (0, [v_0, v_1, v_2, v_3, .ref q_704, v_5, .ref q_706, .ref q_707, .ref q_708, v_9, .ref q_710, v_11, v_12, v_13, v_14, v_15, v_16, v_17, v_18])), (q_704, .inl (cA_704, 301, .inl (fun j : Nat => zI (a_4 (j : Int))))), (q_706, .inl (cA_706, 2000, .inl (fun j : Nat => zI (a_6 (j : Int))))), (q_707, .inl (cA_707, 2000, .inr (.inl (fun j : Nat => lI (a_7 (j : Int)))))), (q_708, .inl (cA_708, 2000, .inr (.inl (fun j : Nat => lI (a_8 (j : Int)))))), (q_710, .inl (cA_710, 300, .inr (.inl (fun j : Nat => lI (a_10 (j : Int))))))] sz)) 0 0 (va_A [(h0, .inr (4, [.int (zI (z4_words)), v4_1, v4_2, .ref q_403, .ref q_404, v4_5, v4_6, v4_7])), (q_403, .inl (cA_403, 4800, .inr (.inl fa4_sets))), (q_404, .inl (cA_404, 4800, .inr (.inl fa4_uses))), (hc, .inr (0, [v_0, v_1, v_2, v_3, .ref q_704, v_5, .ref q_706, .ref q_707, .ref q_708, v_9, .ref q_710, v_11, v_12, v_13, v_14, v_15, v_16, v_17, v_18])), (q_704, .inl (cA_704, 301, .inl (fun j : Nat => zI (a_4 (j : Int))))), (q_706, .inl (cA_706, 2000, .inl (fun j : Nat => zI (a_6 (j : Int))))), (q_707, .inl (cA_707, 2000, .inr (.inl (fun j : Nat => lI (a_7 (j : Int)))))), (q_708, .inl (cA_708, 2000, .inr (.inl (fun j : Nat => lI (a_8 (j : Int)))))), (q_710, .inl (cA_710, 300, .inr (.inl (fun j : Nat => lI (a_10 (j : Int))))))] sz) := by
  refine Met.ofW (cc := cX4_noteRows) (maxL := 4) (ret := none) (by decide) rfl ?_
  intro p e s m args below meth c s₁ B hml hv
  obtain ⟨rfl, hsz, hP, hK, hD0, hp0, hp1, hp2, hp3⟩ := hv
  have hx := B.exec
  have hb := B.bytes
  have hr := B.returns
  have hts := atoms_spec (ws := v_X4_noteRows) B.pre
  have hown : s.vm.findClass RX4 = some m.cls := findClass_of_methodNamed B.named
  have hlocks := B.notSynchronized
  have ow : ∀ {k : Nat} {w : Cond}, o_X4_noteRows[k]? = some w → w.before ([.ref h0, .ref hc, .int (zI (b))] : List Value).toArray s = true := fun h => hts _ (mow_X4_noteRows _ (List.mem_of_getElem? h))
  subst hsz
  have hD := hD0.self (sz := s.heap.size)
  generalize hAe : va_A [(h0, .inr (4, [.int (zI (z4_words)), v4_1, v4_2, .ref q_403, .ref q_404, v4_5, v4_6, v4_7])), (q_403, .inl (cA_403, 4800, .inr (.inl fa4_sets))), (q_404, .inl (cA_404, 4800, .inr (.inl fa4_uses))), (hc, .inr (0, [v_0, v_1, v_2, v_3, .ref q_704, v_5, .ref q_706, .ref q_707, .ref q_708, v_9, .ref q_710, v_11, v_12, v_13, v_14, v_15, v_16, v_17, v_18])), (q_704, .inl (cA_704, 301, .inl (fun j : Nat => zI (a_4 (j : Int))))), (q_706, .inl (cA_706, 2000, .inl (fun j : Nat => zI (a_6 (j : Int))))), (q_707, .inl (cA_707, 2000, .inr (.inl (fun j : Nat => lI (a_7 (j : Int)))))), (q_708, .inl (cA_708, 2000, .inr (.inl (fun j : Nat => lI (a_8 (j : Int)))))), (q_710, .inl (cA_710, 300, .inr (.inl (fun j : Nat => lI (a_10 (j : Int))))))] s.heap.size = A at hD ⊢
  have hA : ∀ q : Nat, s.heap.size ≤ q → A q := fun q h => by rw [← hAe]; exact Or.inr h
  have hS : va_S A s.heap s.heap [] := va_S.rf
  have hP : va_P (dC, dI) vwP [(h0, .inr (4, [.int (zI (z4_words)), v4_1, v4_2, .ref q_403, .ref q_404, v4_5, v4_6, v4_7])), (q_403, .inl (cA_403, 4800, .inr (.inl fa4_sets))), (q_404, .inl (cA_404, 4800, .inr (.inl fa4_uses))), (hc, .inr (0, [v_0, v_1, v_2, v_3, .ref q_704, v_5, .ref q_706, .ref q_707, .ref q_708, v_9, .ref q_710, v_11, v_12, v_13, v_14, v_15, v_16, v_17, v_18])), (q_704, .inl (cA_704, 301, .inl (fun j : Nat => zI (a_4 (j : Int))))), (q_706, .inl (cA_706, 2000, .inl (fun j : Nat => zI (a_6 (j : Int))))), (q_707, .inl (cA_707, 2000, .inr (.inl (fun j : Nat => lI (a_7 (j : Int)))))), (q_708, .inl (cA_708, 2000, .inr (.inl (fun j : Nat => lI (a_8 (j : Int)))))), (q_710, .inl (cA_710, 300, .inr (.inl (fun j : Nat => lI (a_10 (j : Int))))))] s.heap := hP
  have hl := lv_entry ([.ref h0, .ref hc, .int (zI (b))]) (n := 4) (Nat.le_of_ble_eq_true rfl)
  rw [lg_entry_eq]
  generalize (lg_sl ([.ref h0, .ref hc, .int (zI (b))]) ++ List.replicate (4 - (lg_sl ([.ref h0, .ref hc, .int (zI (b))])).length) Slot.unset).toArray = ls at hl ⊢
  have hl : lv_has ls 4 [(0, .ref h0), (1, .ref hc), (2, .int (zI (b)))] := hl
  obtain ⟨H, hH⟩ : ∃ H, H = s.heap := ⟨_, rfl⟩
  rw [← hH] at hP
  have hS : va_S A s.heap H [] := by rw [hH]; exact hS
  rw [← hH]
  refine zW_cap (fun Q hQ => ?_)
  refine lv_aload_n hx hb dX4_noteRows_0 rfl (lv_at hl 1 rfl) ?_
  refine va_get (D := (dC, dI)) (ci := 0) (v := .ref q_704) (C := RX0) (T := TX0) (N := 19) hx hb hts mem_X4_noteRows_0 hown hK hP 3 rfl rfl 4 (by decide) (ow (k := 0) rfl) (fun _ h9 => h9) rfl dX4_noteRows_1 ?_
  refine lv_iload_n hx hb dX4_noteRows_4 rfl (lv_at hl 2 rfl) ?_
  refine va_iald hx hb hK hP 4 2 rfl rfl (zI_in (a := b) (n := 301) (by omega) (by omega) (by decide)) dX4_noteRows_5 ?_
  refine lv_topi (fun z ez => ?_)
  obtain rfl : z = zI (a_4 (b)) := ez.trans (zI_ld (a_4) (by omega) (by omega))
  have k1 := hR_a_4 (b)
  refine lv_istore_n (lv' := [(3, .int (zI (a_4 (b)))), (0, .ref h0), (1, .ref hc), (2, .int (zI (b)))]) hx hb dX4_noteRows_6 rfl hl (by decide) rfl (fun ls hl => ?_)
  have key7 : ∀ n7 : Nat, ∀ (d7_3 : Int) (w7_403 : Nat → Int64) (w7_404 : Nat → Int64) (ls : Array Slot) (H : Heap) (locs : List Loc), (a_4 (b) ≤ d7_3 ∧ d7_3 ≤ 1000000000) → (((a_4 (b + 1)) - (d7_3) : Int).toNat) < n7 → lv_has ls 4 [(0, .ref h0), (1, .ref hc), (2, .int (zI (b))), (3, .int (zI (d7_3)))] → va_P (dC, dI) vwP [(h0, .inr (4, [.int (zI (z4_words)), v4_1, v4_2, .ref q_403, .ref q_404, v4_5, v4_6, v4_7])), (q_403, .inl (cA_403, 4800, .inr (.inl w7_403))), (q_404, .inl (cA_404, 4800, .inr (.inl w7_404))), (hc, .inr (0, [v_0, v_1, v_2, v_3, .ref q_704, v_5, .ref q_706, .ref q_707, .ref q_708, v_9, .ref q_710, v_11, v_12, v_13, v_14, v_15, v_16, v_17, v_18])), (q_704, .inl (cA_704, 301, .inl (fun j : Nat => zI (a_4 (j : Int))))), (q_706, .inl (cA_706, 2000, .inl (fun j : Nat => zI (a_6 (j : Int))))), (q_707, .inl (cA_707, 2000, .inr (.inl (fun j : Nat => lI (a_7 (j : Int)))))), (q_708, .inl (cA_708, 2000, .inr (.inl (fun j : Nat => lI (a_8 (j : Int)))))), (q_710, .inl (cA_710, 300, .inr (.inl (fun j : Nat => lI (a_10 (j : Int))))))] H → va_D A [(h0, .inr (4, [.int (zI (z4_words)), v4_1, v4_2, .ref q_403, .ref q_404, v4_5, v4_6, v4_7])), (q_403, .inl (cA_403, 4800, .inr (.inl w7_403))), (q_404, .inl (cA_404, 4800, .inr (.inl w7_404))), (hc, .inr (0, [v_0, v_1, v_2, v_3, .ref q_704, v_5, .ref q_706, .ref q_707, .ref q_708, v_9, .ref q_710, v_11, v_12, v_13, v_14, v_15, v_16, v_17, v_18])), (q_704, .inl (cA_704, 301, .inl (fun j : Nat => zI (a_4 (j : Int))))), (q_706, .inl (cA_706, 2000, .inl (fun j : Nat => zI (a_6 (j : Int))))), (q_707, .inl (cA_707, 2000, .inr (.inl (fun j : Nat => lI (a_7 (j : Int)))))), (q_708, .inl (cA_708, 2000, .inr (.inl (fun j : Nat => lI (a_8 (j : Int)))))), (q_710, .inl (cA_710, 300, .inr (.inl (fun j : Nat => lI (a_10 (j : Int))))))] → va_S A s.heap H locs → W p l e (headSpec v_X4_noteRows ({ frames := 2, cells := 0, slots := 0, locals := 45 })).room s m ([.ref h0, .ref hc, .int (zI (b))] : List Value).toArray below meth c H locs 0 0 Q (F0 m 7 ls []) := by
    intro n7
    induction n7 with
    | zero => intro d7_3 w7_403 w7_404 ls H locs jd7_3 hm7; exact absurd hm7 (by omega)
    | succ n7 ih7 =>
      intro d7_3 w7_403 w7_404 ls H locs jd7_3 hm7 hl hP hD hS
      refine lv_iload_n hx hb dX4_noteRows_7 rfl (lv_at hl 3 rfl) ?_
      refine lv_aload_n hx hb dX4_noteRows_8 rfl (lv_at hl 1 rfl) ?_
      refine va_get (D := (dC, dI)) (ci := 0) (v := .ref q_704) (C := RX0) (T := TX0) (N := 19) hx hb hts mem_X4_noteRows_0 hown hK hP 3 rfl rfl 4 (by decide) (ow (k := 0) rfl) (fun _ h9 => h9) rfl dX4_noteRows_9 ?_
      refine lv_iload_n hx hb dX4_noteRows_12 rfl (lv_at hl 2 rfl) ?_
      refine lv_iconst (v := 1) hx hb dX4_noteRows_13 (by decide) ?_
      refine lv_iadd hx hb dX4_noteRows_14 ?_
      refine lv_topi (fun z ez => ?_)
      obtain rfl : z = zI (b + 1) := ez.trans (zI_add (b) (1))
      refine va_iald hx hb hK hP 4 2 rfl rfl (zI_in (a := b + 1) (n := 301) (by omega) (by omega) (by decide)) dX4_noteRows_15 ?_
      refine lv_topi (fun z ez => ?_)
      obtain rfl : z = zI (a_4 (b + 1)) := ez.trans (zI_ld (a_4) (by omega) (by omega))
      have k2 := hR_a_4 (b + 1)
      refine lv_icmp_ge (tgt := 75) hx hb dX4_noteRows_16 (by decide) (fun b16 => ?_) (fun b16 => ?_)
      · have yb16 : (a_4 (b + 1) : Int) ≤ (d7_3 : Int) := (zI_le (a := a_4 (b + 1)) (b := d7_3) (by omega) (by omega) (by omega) (by omega)).mp b16
        refine lv_aload_n hx hb dX4_noteRows_75 rfl (lv_at hl 0 rfl) ?_
        refine lv_iload_n hx hb dX4_noteRows_76 rfl (lv_at hl 2 rfl) ?_
        refine lv_aload_n hx hb dX4_noteRows_77 rfl (lv_at hl 1 rfl) ?_
        refine va_get (D := (dC, dI)) (ci := 0) (v := .ref q_710) (C := RX0) (T := TX0) (N := 19) hx hb hts mem_X4_noteRows_0 hown hK hP 3 rfl rfl 10 (by decide) (ow (k := 1) rfl) (fun _ h9 => h9) rfl dX4_noteRows_78 ?_
        refine lv_iload_n hx hb dX4_noteRows_81 rfl (lv_at hl 2 rfl) ?_
        refine va_lald hx hb hK hP 8 6 rfl rfl (zI_in (a := b) (n := 300) (by omega) (by omega) (by decide)) dX4_noteRows_82 ?_
        refine lv_topl (fun z ez => ?_)
        obtain rfl : z = lI (a_10 (b)) := ez.trans (lI_ld (a_10) (by omega) (by omega))
        have k3 := hR_a_10 (b)
        have hPc := hP.sub (ws' := [(h0, .inr (4, [.int (zI (z4_words)), v4_1, v4_2, .ref q_403, .ref q_404, v4_5, v4_6, v4_7])), (q_403, .inl (cA_403, 4800, .inr (.inl w7_403))), (q_404, .inl (cA_404, 4800, .inr (.inl w7_404)))]) [0, 1, 2] rfl
        have hDc := hD.sub (ws' := [(h0, .inr (4, [.int (zI (z4_words)), v4_1, v4_2, .ref q_403, .ref q_404, v4_5, v4_6, v4_7])), (q_403, .inl (cA_403, 4800, .inr (.inl w7_403))), (q_404, .inl (cA_404, 4800, .inr (.inl w7_404)))]) [0, 1, 2] (by decide) rfl
        have hKc := hK.sub (tys' := [(cA_403, .long), (cA_404, .long)]) [0, 1] rfl
        have hFc := va_free (wc := [(h0, .inr (4, [.int (zI (z4_words)), v4_1, v4_2, .ref q_403, .ref q_404, v4_5, v4_6, v4_7])), (q_403, .inl (cA_403, 4800, .inr (.inl w7_403))), (q_404, .inl (cA_404, 4800, .inr (.inl w7_404)))]) hD hS hA [0, 1, 2] rfl
        refine va_callv (va_runV (As := [.int (zI (b)), .long (lI (a_10 (b)))]) (rest := []) ⟨hx, hb, hml, hown, hts⟩ (c_X4_noteUse l dC dI h0 z4_words v4_1 v4_2 q_403 cA_403 w7_403 q_404 cA_404 w7_404 v4_5 v4_6 v4_7 b (a_10 (b)) (by omega) (by omega) (by omega) H.size) (cwV 2 hts g_X4_noteRows_X4_noteUse rfl rfl rfl (by decide +kernel) ⟨(Nat.le_of_ble_eq_true rfl), (Nat.le_of_ble_eq_true rfl)⟩) ⟨fun a U g mk q => by obtain ⟨q0, q1, qP, qK, qD, e0, e1, e2, e3⟩ := q; exact ⟨q0, q1, qP, va_K.moved (u := U) (U := U.calling g mk a) (Vm.Alike.refl U.vm) qK, qD, va_Nw.same rfl (u := U) (U := U.calling g mk a) rfl e0, va_Nw.same rfl (u := U) (U := U.calling g mk a) rfl e1, va_Nw.same rfl (u := U) (U := U.calling g mk a) rfl e2, va_Nw.same rfl (u := U) (U := U.calling g mk a) rfl e3⟩, va_recv hKc hPc (ci := 4) (q0 := 0) rfl rfl, fun U hU hW => ⟨rfl, by rw [hU], by rw [hU]; exact hPc, va_K.moved hW.alike hKc, hDc.weaken (fun _ _ _ _ => trivial), va_Nw.warmM hW hp0, va_Nw.warmM hW hp1, va_Nw.warmM hW hp2, va_Nw.warmM hW hp3⟩⟩ rfl rfl hl.1 rfl (lv_room (Nat.le_of_ble_eq_true rfl)) dX4_noteRows_83 ⟨(Nat.le_of_ble_eq_true rfl), (Nat.le_of_ble_eq_true rfl)⟩) hS (fun q _ h => hFc q h) hFc (fun  u t H1 locs ht hvm hw hB hz1 hk1 hS => ?_)
        obtain ⟨g0_2001, hP1, hK1, hD1⟩ := hB
        rw [ht] at hP1
        have hK1 := va_K.moved hvm.symm hK1
        obtain ⟨hP, hD⟩ := va_join (wr := [(hc, .inr (0, [v_0, v_1, v_2, v_3, .ref q_704, v_5, .ref q_706, .ref q_707, .ref q_708, v_9, .ref q_710, v_11, v_12, v_13, v_14, v_15, v_16, v_17, v_18])), (q_704, .inl (cA_704, 301, .inl (fun j : Nat => zI (a_4 (j : Int))))), (q_706, .inl (cA_706, 2000, .inl (fun j : Nat => zI (a_6 (j : Int))))), (q_707, .inl (cA_707, 2000, .inr (.inl (fun j : Nat => lI (a_7 (j : Int)))))), (q_708, .inl (cA_708, 2000, .inr (.inl (fun j : Nat => lI (a_8 (j : Int)))))), (q_710, .inl (cA_710, 300, .inr (.inl (fun j : Nat => lI (a_10 (j : Int))))))]) (w1 := [(h0, .inr (4, [.int (zI (z4_words)), v4_1, v4_2, .ref q_403, .ref q_404, v4_5, v4_6, v4_7])), (q_403, .inl (cA_403, 4800, .inr (.inl w7_403))), (q_404, .inl (cA_404, 4800, .inr (.inl g0_2001)))]) hP hD [0, 1, 2] [3, 4, 5, 6, 7, 8] rfl rfl (by decide) (by decide) hk1 hFc hP1 hD1
        have hK := (hK.sub (tys' := [(cA_704, .int), (cA_706, .int), (cA_707, .long), (cA_708, .long), (cA_710, .long)]) [2, 3, 4, 5, 6] rfl).app hK1
        generalize H1 = H at hP hS ⊢
        have hP : va_P (dC, dI) vwP [(hc, .inr (0, [v_0, v_1, v_2, v_3, .ref q_704, v_5, .ref q_706, .ref q_707, .ref q_708, v_9, .ref q_710, v_11, v_12, v_13, v_14, v_15, v_16, v_17, v_18])), (q_704, .inl (cA_704, 301, .inl (fun j : Nat => zI (a_4 (j : Int))))), (q_706, .inl (cA_706, 2000, .inl (fun j : Nat => zI (a_6 (j : Int))))), (q_707, .inl (cA_707, 2000, .inr (.inl (fun j : Nat => lI (a_7 (j : Int)))))), (q_708, .inl (cA_708, 2000, .inr (.inl (fun j : Nat => lI (a_8 (j : Int)))))), (q_710, .inl (cA_710, 300, .inr (.inl (fun j : Nat => lI (a_10 (j : Int)))))), (h0, .inr (4, [.int (zI (z4_words)), v4_1, v4_2, .ref q_403, .ref q_404, v4_5, v4_6, v4_7])), (q_403, .inl (cA_403, 4800, .inr (.inl w7_403))), (q_404, .inl (cA_404, 4800, .inr (.inl g0_2001)))] H := hP
        have hD : va_D A [(hc, .inr (0, [v_0, v_1, v_2, v_3, .ref q_704, v_5, .ref q_706, .ref q_707, .ref q_708, v_9, .ref q_710, v_11, v_12, v_13, v_14, v_15, v_16, v_17, v_18])), (q_704, .inl (cA_704, 301, .inl (fun j : Nat => zI (a_4 (j : Int))))), (q_706, .inl (cA_706, 2000, .inl (fun j : Nat => zI (a_6 (j : Int))))), (q_707, .inl (cA_707, 2000, .inr (.inl (fun j : Nat => lI (a_7 (j : Int)))))), (q_708, .inl (cA_708, 2000, .inr (.inl (fun j : Nat => lI (a_8 (j : Int)))))), (q_710, .inl (cA_710, 300, .inr (.inl (fun j : Nat => lI (a_10 (j : Int)))))), (h0, .inr (4, [.int (zI (z4_words)), v4_1, v4_2, .ref q_403, .ref q_404, v4_5, v4_6, v4_7])), (q_403, .inl (cA_403, 4800, .inr (.inl w7_403))), (q_404, .inl (cA_404, 4800, .inr (.inl g0_2001)))] := hD
        have hK : va_K (dC, dI) vwP [(cA_704, .int), (cA_706, .int), (cA_707, .long), (cA_708, .long), (cA_710, .long), (cA_403, .long), (cA_404, .long)] s := hK
        refine W.widen (k := 0) (n := 0) (Nat.le_of_ble_eq_true rfl) (Nat.le_of_ble_eq_true rfl) ?_
        subst hQ
        have hP := hP.sub (ws' := [(h0, .inr (4, [.int (zI (z4_words)), v4_1, v4_2, .ref q_403, .ref q_404, v4_5, v4_6, v4_7])), (q_403, .inl (cA_403, 4800, .inr (.inl w7_403))), (q_404, .inl (cA_404, 4800, .inr (.inl g0_2001))), (hc, .inr (0, [v_0, v_1, v_2, v_3, .ref q_704, v_5, .ref q_706, .ref q_707, .ref q_708, v_9, .ref q_710, v_11, v_12, v_13, v_14, v_15, v_16, v_17, v_18])), (q_704, .inl (cA_704, 301, .inl (fun j : Nat => zI (a_4 (j : Int))))), (q_706, .inl (cA_706, 2000, .inl (fun j : Nat => zI (a_6 (j : Int))))), (q_707, .inl (cA_707, 2000, .inr (.inl (fun j : Nat => lI (a_7 (j : Int)))))), (q_708, .inl (cA_708, 2000, .inr (.inl (fun j : Nat => lI (a_8 (j : Int)))))), (q_710, .inl (cA_710, 300, .inr (.inl (fun j : Nat => lI (a_10 (j : Int))))))]) [6, 7, 8, 0, 1, 2, 3, 4, 5] rfl
        have hD := hD.sub (ws' := [(h0, .inr (4, [.int (zI (z4_words)), v4_1, v4_2, .ref q_403, .ref q_404, v4_5, v4_6, v4_7])), (q_403, .inl (cA_403, 4800, .inr (.inl w7_403))), (q_404, .inl (cA_404, 4800, .inr (.inl g0_2001))), (hc, .inr (0, [v_0, v_1, v_2, v_3, .ref q_704, v_5, .ref q_706, .ref q_707, .ref q_708, v_9, .ref q_710, v_11, v_12, v_13, v_14, v_15, v_16, v_17, v_18])), (q_704, .inl (cA_704, 301, .inl (fun j : Nat => zI (a_4 (j : Int))))), (q_706, .inl (cA_706, 2000, .inl (fun j : Nat => zI (a_6 (j : Int))))), (q_707, .inl (cA_707, 2000, .inr (.inl (fun j : Nat => lI (a_7 (j : Int)))))), (q_708, .inl (cA_708, 2000, .inr (.inl (fun j : Nat => lI (a_8 (j : Int)))))), (q_710, .inl (cA_710, 300, .inr (.inl (fun j : Nat => lI (a_10 (j : Int))))))]) [6, 7, 8, 0, 1, 2, 3, 4, 5] (by decide) rfl
        have hK := hK.sub (tys' := [(cA_403, .long), (cA_404, .long), (cA_704, .int), (cA_706, .int), (cA_707, .long), (cA_708, .long), (cA_710, .long)]) [5, 6, 0, 1, 2, 3, 4] rfl
        refine W.widen (k := 0) (n := 0) (Nat.le_of_ble_eq_true rfl) (Nat.le_of_ble_eq_true rfl) ?_
        exact W.vret hx hb hr (fun t ht hW => ⟨⟨(), rfl, trivial, w7_403, g0_2001, by rw [ht]; exact hP, va_K.moved hW.alike hK, hD⟩, hS.F ht⟩) hS.2.2 dX4_noteRows_86
      · have yb16 : ¬ (a_4 (b + 1) : Int) ≤ (d7_3 : Int) := fun q => b16 ((zI_le (a := a_4 (b + 1)) (b := d7_3) (by omega) (by omega) (by omega) (by omega)).mpr q)
        refine lv_aload_n hx hb dX4_noteRows_19 rfl (lv_at hl 0 rfl) ?_
        refine lv_iload_n hx hb dX4_noteRows_20 rfl (lv_at hl 2 rfl) ?_
        refine lv_aload_n hx hb dX4_noteRows_21 rfl (lv_at hl 1 rfl) ?_
        refine va_get (D := (dC, dI)) (ci := 0) (v := .ref q_707) (C := RX0) (T := TX0) (N := 19) hx hb hts mem_X4_noteRows_0 hown hK hP 3 rfl rfl 7 (by decide) (ow (k := 6) rfl) (fun _ h9 => h9) rfl dX4_noteRows_22 ?_
        refine lv_iload_n hx hb dX4_noteRows_25 rfl (lv_at hl 3 rfl) ?_
        refine va_lald hx hb hK hP 6 4 rfl rfl (zI_in (a := d7_3) (n := 2000) (by omega) (by omega) (by decide)) dX4_noteRows_26 ?_
        refine lv_topl (fun z ez => ?_)
        obtain rfl : z = lI (a_7 (d7_3)) := ez.trans (lI_ld (a_7) (by omega) (by omega))
        have k4 := hR_a_7 (d7_3)
        have hPc := hP.sub (ws' := [(h0, .inr (4, [.int (zI (z4_words)), v4_1, v4_2, .ref q_403, .ref q_404, v4_5, v4_6, v4_7])), (q_403, .inl (cA_403, 4800, .inr (.inl w7_403))), (q_404, .inl (cA_404, 4800, .inr (.inl w7_404)))]) [0, 1, 2] rfl
        have hDc := hD.sub (ws' := [(h0, .inr (4, [.int (zI (z4_words)), v4_1, v4_2, .ref q_403, .ref q_404, v4_5, v4_6, v4_7])), (q_403, .inl (cA_403, 4800, .inr (.inl w7_403))), (q_404, .inl (cA_404, 4800, .inr (.inl w7_404)))]) [0, 1, 2] (by decide) rfl
        have hKc := hK.sub (tys' := [(cA_403, .long), (cA_404, .long)]) [0, 1] rfl
        have hFc := va_free (wc := [(h0, .inr (4, [.int (zI (z4_words)), v4_1, v4_2, .ref q_403, .ref q_404, v4_5, v4_6, v4_7])), (q_403, .inl (cA_403, 4800, .inr (.inl w7_403))), (q_404, .inl (cA_404, 4800, .inr (.inl w7_404)))]) hD hS hA [0, 1, 2] rfl
        refine va_callv (va_runV (As := [.int (zI (b)), .long (lI (a_7 (d7_3)))]) (rest := []) ⟨hx, hb, hml, hown, hts⟩ (c_X4_noteUse l dC dI h0 z4_words v4_1 v4_2 q_403 cA_403 w7_403 q_404 cA_404 w7_404 v4_5 v4_6 v4_7 b (a_7 (d7_3)) (by omega) (by omega) (by omega) H.size) (cwV 2 hts g_X4_noteRows_X4_noteUse rfl rfl rfl (by decide +kernel) ⟨(Nat.le_of_ble_eq_true rfl), (Nat.le_of_ble_eq_true rfl)⟩) ⟨fun a U g mk q => by obtain ⟨q0, q1, qP, qK, qD, e0, e1, e2, e3⟩ := q; exact ⟨q0, q1, qP, va_K.moved (u := U) (U := U.calling g mk a) (Vm.Alike.refl U.vm) qK, qD, va_Nw.same rfl (u := U) (U := U.calling g mk a) rfl e0, va_Nw.same rfl (u := U) (U := U.calling g mk a) rfl e1, va_Nw.same rfl (u := U) (U := U.calling g mk a) rfl e2, va_Nw.same rfl (u := U) (U := U.calling g mk a) rfl e3⟩, va_recv hKc hPc (ci := 4) (q0 := 0) rfl rfl, fun U hU hW => ⟨rfl, by rw [hU], by rw [hU]; exact hPc, va_K.moved hW.alike hKc, hDc.weaken (fun _ _ _ _ => trivial), va_Nw.warmM hW hp0, va_Nw.warmM hW hp1, va_Nw.warmM hW hp2, va_Nw.warmM hW hp3⟩⟩ rfl rfl hl.1 rfl (lv_room (Nat.le_of_ble_eq_true rfl)) dX4_noteRows_27 ⟨(Nat.le_of_ble_eq_true rfl), (Nat.le_of_ble_eq_true rfl)⟩) hS (fun q _ h => hFc q h) hFc (fun  u t H1 locs ht hvm hw hB hz1 hk1 hS => ?_)
        obtain ⟨g0_2002, hP1, hK1, hD1⟩ := hB
        rw [ht] at hP1
        have hK1 := va_K.moved hvm.symm hK1
        obtain ⟨hP, hD⟩ := va_join (wr := [(hc, .inr (0, [v_0, v_1, v_2, v_3, .ref q_704, v_5, .ref q_706, .ref q_707, .ref q_708, v_9, .ref q_710, v_11, v_12, v_13, v_14, v_15, v_16, v_17, v_18])), (q_704, .inl (cA_704, 301, .inl (fun j : Nat => zI (a_4 (j : Int))))), (q_706, .inl (cA_706, 2000, .inl (fun j : Nat => zI (a_6 (j : Int))))), (q_707, .inl (cA_707, 2000, .inr (.inl (fun j : Nat => lI (a_7 (j : Int)))))), (q_708, .inl (cA_708, 2000, .inr (.inl (fun j : Nat => lI (a_8 (j : Int)))))), (q_710, .inl (cA_710, 300, .inr (.inl (fun j : Nat => lI (a_10 (j : Int))))))]) (w1 := [(h0, .inr (4, [.int (zI (z4_words)), v4_1, v4_2, .ref q_403, .ref q_404, v4_5, v4_6, v4_7])), (q_403, .inl (cA_403, 4800, .inr (.inl w7_403))), (q_404, .inl (cA_404, 4800, .inr (.inl g0_2002)))]) hP hD [0, 1, 2] [3, 4, 5, 6, 7, 8] rfl rfl (by decide) (by decide) hk1 hFc hP1 hD1
        have hK := (hK.sub (tys' := [(cA_704, .int), (cA_706, .int), (cA_707, .long), (cA_708, .long), (cA_710, .long)]) [2, 3, 4, 5, 6] rfl).app hK1
        generalize H1 = H at hP hS ⊢
        have hP : va_P (dC, dI) vwP [(hc, .inr (0, [v_0, v_1, v_2, v_3, .ref q_704, v_5, .ref q_706, .ref q_707, .ref q_708, v_9, .ref q_710, v_11, v_12, v_13, v_14, v_15, v_16, v_17, v_18])), (q_704, .inl (cA_704, 301, .inl (fun j : Nat => zI (a_4 (j : Int))))), (q_706, .inl (cA_706, 2000, .inl (fun j : Nat => zI (a_6 (j : Int))))), (q_707, .inl (cA_707, 2000, .inr (.inl (fun j : Nat => lI (a_7 (j : Int)))))), (q_708, .inl (cA_708, 2000, .inr (.inl (fun j : Nat => lI (a_8 (j : Int)))))), (q_710, .inl (cA_710, 300, .inr (.inl (fun j : Nat => lI (a_10 (j : Int)))))), (h0, .inr (4, [.int (zI (z4_words)), v4_1, v4_2, .ref q_403, .ref q_404, v4_5, v4_6, v4_7])), (q_403, .inl (cA_403, 4800, .inr (.inl w7_403))), (q_404, .inl (cA_404, 4800, .inr (.inl g0_2002)))] H := hP
        have hD : va_D A [(hc, .inr (0, [v_0, v_1, v_2, v_3, .ref q_704, v_5, .ref q_706, .ref q_707, .ref q_708, v_9, .ref q_710, v_11, v_12, v_13, v_14, v_15, v_16, v_17, v_18])), (q_704, .inl (cA_704, 301, .inl (fun j : Nat => zI (a_4 (j : Int))))), (q_706, .inl (cA_706, 2000, .inl (fun j : Nat => zI (a_6 (j : Int))))), (q_707, .inl (cA_707, 2000, .inr (.inl (fun j : Nat => lI (a_7 (j : Int)))))), (q_708, .inl (cA_708, 2000, .inr (.inl (fun j : Nat => lI (a_8 (j : Int)))))), (q_710, .inl (cA_710, 300, .inr (.inl (fun j : Nat => lI (a_10 (j : Int)))))), (h0, .inr (4, [.int (zI (z4_words)), v4_1, v4_2, .ref q_403, .ref q_404, v4_5, v4_6, v4_7])), (q_403, .inl (cA_403, 4800, .inr (.inl w7_403))), (q_404, .inl (cA_404, 4800, .inr (.inl g0_2002)))] := hD
        have hK : va_K (dC, dI) vwP [(cA_704, .int), (cA_706, .int), (cA_707, .long), (cA_708, .long), (cA_710, .long), (cA_403, .long), (cA_404, .long)] s := hK
        refine W.widen (k := 0) (n := 0) (Nat.le_of_ble_eq_true rfl) (Nat.le_of_ble_eq_true rfl) ?_
        refine lv_aload_n hx hb dX4_noteRows_30 rfl (lv_at hl 0 rfl) ?_
        refine lv_iload_n hx hb dX4_noteRows_31 rfl (lv_at hl 2 rfl) ?_
        refine lv_aload_n hx hb dX4_noteRows_32 rfl (lv_at hl 1 rfl) ?_
        refine va_get (D := (dC, dI)) (ci := 0) (v := .ref q_708) (C := RX0) (T := TX0) (N := 19) hx hb hts mem_X4_noteRows_0 hown hK hP 0 rfl rfl 8 (by decide) (ow (k := 7) rfl) (fun _ h9 => h9) rfl dX4_noteRows_33 ?_
        refine lv_iload_n hx hb dX4_noteRows_36 rfl (lv_at hl 3 rfl) ?_
        refine va_lald hx hb hK hP 4 3 rfl rfl (zI_in (a := d7_3) (n := 2000) (by omega) (by omega) (by decide)) dX4_noteRows_37 ?_
        refine lv_topl (fun z ez => ?_)
        obtain rfl : z = lI (a_8 (d7_3)) := ez.trans (lI_ld (a_8) (by omega) (by omega))
        have k5 := hR_a_8 (d7_3)
        have hPc := hP.sub (ws' := [(h0, .inr (4, [.int (zI (z4_words)), v4_1, v4_2, .ref q_403, .ref q_404, v4_5, v4_6, v4_7])), (q_403, .inl (cA_403, 4800, .inr (.inl w7_403))), (q_404, .inl (cA_404, 4800, .inr (.inl g0_2002)))]) [6, 7, 8] rfl
        have hDc := hD.sub (ws' := [(h0, .inr (4, [.int (zI (z4_words)), v4_1, v4_2, .ref q_403, .ref q_404, v4_5, v4_6, v4_7])), (q_403, .inl (cA_403, 4800, .inr (.inl w7_403))), (q_404, .inl (cA_404, 4800, .inr (.inl g0_2002)))]) [6, 7, 8] (by decide) rfl
        have hKc := hK.sub (tys' := [(cA_403, .long), (cA_404, .long)]) [5, 6] rfl
        have hFc := va_free (wc := [(h0, .inr (4, [.int (zI (z4_words)), v4_1, v4_2, .ref q_403, .ref q_404, v4_5, v4_6, v4_7])), (q_403, .inl (cA_403, 4800, .inr (.inl w7_403))), (q_404, .inl (cA_404, 4800, .inr (.inl g0_2002)))]) hD hS hA [6, 7, 8] rfl
        refine va_callv (va_runV (As := [.int (zI (b)), .long (lI (a_8 (d7_3)))]) (rest := []) ⟨hx, hb, hml, hown, hts⟩ (c_X4_noteUse l dC dI h0 z4_words v4_1 v4_2 q_403 cA_403 w7_403 q_404 cA_404 g0_2002 v4_5 v4_6 v4_7 b (a_8 (d7_3)) (by omega) (by omega) (by omega) H.size) (cwV 2 hts g_X4_noteRows_X4_noteUse rfl rfl rfl (by decide +kernel) ⟨(Nat.le_of_ble_eq_true rfl), (Nat.le_of_ble_eq_true rfl)⟩) ⟨fun a U g mk q => by obtain ⟨q0, q1, qP, qK, qD, e0, e1, e2, e3⟩ := q; exact ⟨q0, q1, qP, va_K.moved (u := U) (U := U.calling g mk a) (Vm.Alike.refl U.vm) qK, qD, va_Nw.same rfl (u := U) (U := U.calling g mk a) rfl e0, va_Nw.same rfl (u := U) (U := U.calling g mk a) rfl e1, va_Nw.same rfl (u := U) (U := U.calling g mk a) rfl e2, va_Nw.same rfl (u := U) (U := U.calling g mk a) rfl e3⟩, va_recv hKc hPc (ci := 4) (q0 := 0) rfl rfl, fun U hU hW => ⟨rfl, by rw [hU], by rw [hU]; exact hPc, va_K.moved hW.alike hKc, hDc.weaken (fun _ _ _ _ => trivial), va_Nw.warmM hW hp0, va_Nw.warmM hW hp1, va_Nw.warmM hW hp2, va_Nw.warmM hW hp3⟩⟩ rfl rfl hl.1 rfl (lv_room (Nat.le_of_ble_eq_true rfl)) dX4_noteRows_38 ⟨(Nat.le_of_ble_eq_true rfl), (Nat.le_of_ble_eq_true rfl)⟩) hS (fun q _ h => hFc q h) hFc (fun  u t H1 locs ht hvm hw hB hz1 hk1 hS => ?_)
        obtain ⟨g0_2003, hP1, hK1, hD1⟩ := hB
        rw [ht] at hP1
        have hK1 := va_K.moved hvm.symm hK1
        obtain ⟨hP, hD⟩ := va_join (wr := [(hc, .inr (0, [v_0, v_1, v_2, v_3, .ref q_704, v_5, .ref q_706, .ref q_707, .ref q_708, v_9, .ref q_710, v_11, v_12, v_13, v_14, v_15, v_16, v_17, v_18])), (q_704, .inl (cA_704, 301, .inl (fun j : Nat => zI (a_4 (j : Int))))), (q_706, .inl (cA_706, 2000, .inl (fun j : Nat => zI (a_6 (j : Int))))), (q_707, .inl (cA_707, 2000, .inr (.inl (fun j : Nat => lI (a_7 (j : Int)))))), (q_708, .inl (cA_708, 2000, .inr (.inl (fun j : Nat => lI (a_8 (j : Int)))))), (q_710, .inl (cA_710, 300, .inr (.inl (fun j : Nat => lI (a_10 (j : Int))))))]) (w1 := [(h0, .inr (4, [.int (zI (z4_words)), v4_1, v4_2, .ref q_403, .ref q_404, v4_5, v4_6, v4_7])), (q_403, .inl (cA_403, 4800, .inr (.inl w7_403))), (q_404, .inl (cA_404, 4800, .inr (.inl g0_2003)))]) hP hD [6, 7, 8] [0, 1, 2, 3, 4, 5] rfl rfl (by decide) (by decide) hk1 hFc hP1 hD1
        have hK := (hK.sub (tys' := [(cA_704, .int), (cA_706, .int), (cA_707, .long), (cA_708, .long), (cA_710, .long)]) [0, 1, 2, 3, 4] rfl).app hK1
        generalize H1 = H at hP hS ⊢
        have hP : va_P (dC, dI) vwP [(hc, .inr (0, [v_0, v_1, v_2, v_3, .ref q_704, v_5, .ref q_706, .ref q_707, .ref q_708, v_9, .ref q_710, v_11, v_12, v_13, v_14, v_15, v_16, v_17, v_18])), (q_704, .inl (cA_704, 301, .inl (fun j : Nat => zI (a_4 (j : Int))))), (q_706, .inl (cA_706, 2000, .inl (fun j : Nat => zI (a_6 (j : Int))))), (q_707, .inl (cA_707, 2000, .inr (.inl (fun j : Nat => lI (a_7 (j : Int)))))), (q_708, .inl (cA_708, 2000, .inr (.inl (fun j : Nat => lI (a_8 (j : Int)))))), (q_710, .inl (cA_710, 300, .inr (.inl (fun j : Nat => lI (a_10 (j : Int)))))), (h0, .inr (4, [.int (zI (z4_words)), v4_1, v4_2, .ref q_403, .ref q_404, v4_5, v4_6, v4_7])), (q_403, .inl (cA_403, 4800, .inr (.inl w7_403))), (q_404, .inl (cA_404, 4800, .inr (.inl g0_2003)))] H := hP
        have hD : va_D A [(hc, .inr (0, [v_0, v_1, v_2, v_3, .ref q_704, v_5, .ref q_706, .ref q_707, .ref q_708, v_9, .ref q_710, v_11, v_12, v_13, v_14, v_15, v_16, v_17, v_18])), (q_704, .inl (cA_704, 301, .inl (fun j : Nat => zI (a_4 (j : Int))))), (q_706, .inl (cA_706, 2000, .inl (fun j : Nat => zI (a_6 (j : Int))))), (q_707, .inl (cA_707, 2000, .inr (.inl (fun j : Nat => lI (a_7 (j : Int)))))), (q_708, .inl (cA_708, 2000, .inr (.inl (fun j : Nat => lI (a_8 (j : Int)))))), (q_710, .inl (cA_710, 300, .inr (.inl (fun j : Nat => lI (a_10 (j : Int)))))), (h0, .inr (4, [.int (zI (z4_words)), v4_1, v4_2, .ref q_403, .ref q_404, v4_5, v4_6, v4_7])), (q_403, .inl (cA_403, 4800, .inr (.inl w7_403))), (q_404, .inl (cA_404, 4800, .inr (.inl g0_2003)))] := hD
        have hK : va_K (dC, dI) vwP [(cA_704, .int), (cA_706, .int), (cA_707, .long), (cA_708, .long), (cA_710, .long), (cA_403, .long), (cA_404, .long)] s := hK
        refine W.widen (k := 0) (n := 0) (Nat.le_of_ble_eq_true rfl) (Nat.le_of_ble_eq_true rfl) ?_
        refine lv_aload_n hx hb dX4_noteRows_41 rfl (lv_at hl 1 rfl) ?_
        refine va_get (D := (dC, dI)) (ci := 0) (v := .ref q_706) (C := RX0) (T := TX0) (N := 19) hx hb hts mem_X4_noteRows_0 hown hK hP 0 rfl rfl 6 (by decide) (ow (k := 8) rfl) (fun _ h9 => h9) rfl dX4_noteRows_42 ?_
        refine lv_iload_n hx hb dX4_noteRows_45 rfl (lv_at hl 3 rfl) ?_
        refine va_iald hx hb hK hP 2 1 rfl rfl (zI_in (a := d7_3) (n := 2000) (by omega) (by omega) (by decide)) dX4_noteRows_46 ?_
        refine lv_topi (fun z ez => ?_)
        obtain rfl : z = zI (a_6 (d7_3)) := ez.trans (zI_ld (a_6) (by omega) (by omega))
        have k6 := hR_a_6 (d7_3)
        refine lv_if_lt (tgt := 69) hx hb dX4_noteRows_47 (by decide) (fun b47 => ?_) (fun b47 => ?_)
        · have yb47 : (a_6 (d7_3) : Int) < (0 : Int) := (zI_lt (a := a_6 (d7_3)) (b := 0) (by omega) (by omega) (by omega) (by omega)).mp b47
          refine lv_iinc (v := zI (d7_3 + 1)) (lv' := [(3, .int (zI (d7_3 + 1))), (0, .ref h0), (1, .ref hc), (2, .int (zI (b)))]) hx hb dX4_noteRows_69 hl (k := 3) rfl (zI_add (d7_3) (1)) (by decide) rfl (fun ls hl => ?_)
          refine lv_goto (tgt := 7) hx hb dX4_noteRows_72 (by decide) ?_
          have hP := hP.sub (ws' := [(h0, .inr (4, [.int (zI (z4_words)), v4_1, v4_2, .ref q_403, .ref q_404, v4_5, v4_6, v4_7])), (q_403, .inl (cA_403, 4800, .inr (.inl w7_403))), (q_404, .inl (cA_404, 4800, .inr (.inl g0_2003))), (hc, .inr (0, [v_0, v_1, v_2, v_3, .ref q_704, v_5, .ref q_706, .ref q_707, .ref q_708, v_9, .ref q_710, v_11, v_12, v_13, v_14, v_15, v_16, v_17, v_18])), (q_704, .inl (cA_704, 301, .inl (fun j : Nat => zI (a_4 (j : Int))))), (q_706, .inl (cA_706, 2000, .inl (fun j : Nat => zI (a_6 (j : Int))))), (q_707, .inl (cA_707, 2000, .inr (.inl (fun j : Nat => lI (a_7 (j : Int)))))), (q_708, .inl (cA_708, 2000, .inr (.inl (fun j : Nat => lI (a_8 (j : Int)))))), (q_710, .inl (cA_710, 300, .inr (.inl (fun j : Nat => lI (a_10 (j : Int))))))]) [6, 7, 8, 0, 1, 2, 3, 4, 5] rfl
          have hD := hD.sub (ws' := [(h0, .inr (4, [.int (zI (z4_words)), v4_1, v4_2, .ref q_403, .ref q_404, v4_5, v4_6, v4_7])), (q_403, .inl (cA_403, 4800, .inr (.inl w7_403))), (q_404, .inl (cA_404, 4800, .inr (.inl g0_2003))), (hc, .inr (0, [v_0, v_1, v_2, v_3, .ref q_704, v_5, .ref q_706, .ref q_707, .ref q_708, v_9, .ref q_710, v_11, v_12, v_13, v_14, v_15, v_16, v_17, v_18])), (q_704, .inl (cA_704, 301, .inl (fun j : Nat => zI (a_4 (j : Int))))), (q_706, .inl (cA_706, 2000, .inl (fun j : Nat => zI (a_6 (j : Int))))), (q_707, .inl (cA_707, 2000, .inr (.inl (fun j : Nat => lI (a_7 (j : Int)))))), (q_708, .inl (cA_708, 2000, .inr (.inl (fun j : Nat => lI (a_8 (j : Int)))))), (q_710, .inl (cA_710, 300, .inr (.inl (fun j : Nat => lI (a_10 (j : Int))))))]) [6, 7, 8, 0, 1, 2, 3, 4, 5] (by decide) rfl
          exact ih7 (d7_3 + 1) w7_403 g0_2003 ls H _ (by omega) (by omega) (lv_sub hl [1, 2, 3, 0] rfl) hP hD hS
        · have yb47 : ¬ (a_6 (d7_3) : Int) < (0 : Int) := fun q => b47 ((zI_lt (a := a_6 (d7_3)) (b := 0) (by omega) (by omega) (by omega) (by omega)).mpr q)
          refine lv_aload_n hx hb dX4_noteRows_50 rfl (lv_at hl 0 rfl) ?_
          refine va_get (D := (dC, dI)) (ci := 4) (v := .ref q_403) (C := RX4) (T := TX4) (N := 8) hx hb hts mem_X4_noteRows_2 hown hK hP 6 rfl rfl 3 (by decide) (ow (k := 9) rfl) (fun _ h9 => h9) rfl dX4_noteRows_51 ?_
          refine lv_iload_n hx hb dX4_noteRows_54 rfl (lv_at hl 2 rfl) ?_
          refine lv_aload_n hx hb dX4_noteRows_55 rfl (lv_at hl 0 rfl) ?_
          refine va_get (D := (dC, dI)) (ci := 4) (v := .int (zI (z4_words))) (C := RX4) (T := TX4) (N := 8) hx hb hts mem_X4_noteRows_2 hown hK hP 6 rfl rfl 0 (by decide) (ow (k := 10) rfl) (fun _ h9 => h9) rfl dX4_noteRows_56 ?_
          refine lv_imul hx hb dX4_noteRows_59 ?_
          refine lv_topi (fun z ez => ?_)
          obtain rfl : z = zI (b * z4_words) := ez.trans (zI_mul (b) (z4_words))
          have km60 := mulb (a := b) (b := z4_words) (by omega) (by omega) (by omega)
          refine lv_aload_n hx hb dX4_noteRows_60 rfl (lv_at hl 1 rfl) ?_
          refine va_get (D := (dC, dI)) (ci := 0) (v := .ref q_706) (C := RX0) (T := TX0) (N := 19) hx hb hts mem_X4_noteRows_0 hown hK hP 0 rfl rfl 6 (by decide) (ow (k := 8) rfl) (fun _ h9 => h9) rfl dX4_noteRows_61 ?_
          refine lv_iload_n hx hb dX4_noteRows_64 rfl (lv_at hl 3 rfl) ?_
          refine va_iald hx hb hK hP 2 1 rfl rfl (zI_in (a := d7_3) (n := 2000) (by omega) (by omega) (by decide)) dX4_noteRows_65 ?_
          refine lv_topi (fun z ez => ?_)
          obtain rfl : z = zI (a_6 (d7_3)) := ez.trans (zI_ld (a_6) (by omega) (by omega))
          have k7 := hR_a_6 (d7_3)
          have hPc := hP.sub (ws' := [(q_403, .inl (cA_403, 4800, .inr (.inl w7_403)))]) [7] rfl
          have hDc := hD.sub (ws' := [(q_403, .inl (cA_403, 4800, .inr (.inl w7_403)))]) [7] (by decide) rfl
          have hKc := hK.sub (tys' := [(cA_403, .long)]) [5] rfl
          have hFc := va_free (wc := [(q_403, .inl (cA_403, 4800, .inr (.inl w7_403)))]) hD hS hA [7] rfl
          refine va_callv (va_runSN (As := [.ref q_403, .int (zI (b * z4_words)), .int (zI (a_6 (d7_3)))]) (rest := []) ⟨hx, hb, hml, hown, hts⟩ (c_X11_putBit l dC dI q_403 cA_403 4800 w7_403 (b * z4_words) (a_6 (d7_3)) (by omega) H.size) ⟨va_cnB 3 hts (goodIn_sub mem_X4_noteRows_3 gw_X11_putBit) rfl rfl rfl hp3 (ow (k := 11) rfl) (by decide +kernel) ⟨(Nat.le_of_ble_eq_true rfl), (Nat.le_of_ble_eq_true rfl)⟩, (ow (k := 12) rfl), trivial⟩ ⟨fun a U g mk q => by obtain ⟨q0, q1, qP, qK, qD⟩ := q; exact ⟨q0, q1, qP, va_K.moved (u := U) (U := U.calling g mk a) (Vm.Alike.refl U.vm) qK, qD⟩, fun U hU hW => ⟨rfl, by rw [hU], by rw [hU]; exact hPc, va_K.moved hW.alike hKc, hDc.weaken (fun _ _ _ _ => trivial)⟩⟩ rfl rfl hl.1 rfl (lv_room (Nat.le_of_ble_eq_true rfl)) dX4_noteRows_66 ⟨(Nat.le_of_ble_eq_true rfl), (Nat.le_of_ble_eq_true rfl)⟩) hS (fun q _ h => hFc q h) hFc (fun  u t H1 locs ht hvm hw hB hz1 hk1 hS => ?_)
          obtain ⟨g0_2004, hP1, hK1, hD1⟩ := hB
          rw [ht] at hP1
          have hK1 := va_K.moved hvm.symm hK1
          obtain ⟨hP, hD⟩ := va_join (wr := [(hc, .inr (0, [v_0, v_1, v_2, v_3, .ref q_704, v_5, .ref q_706, .ref q_707, .ref q_708, v_9, .ref q_710, v_11, v_12, v_13, v_14, v_15, v_16, v_17, v_18])), (q_704, .inl (cA_704, 301, .inl (fun j : Nat => zI (a_4 (j : Int))))), (q_706, .inl (cA_706, 2000, .inl (fun j : Nat => zI (a_6 (j : Int))))), (q_707, .inl (cA_707, 2000, .inr (.inl (fun j : Nat => lI (a_7 (j : Int)))))), (q_708, .inl (cA_708, 2000, .inr (.inl (fun j : Nat => lI (a_8 (j : Int)))))), (q_710, .inl (cA_710, 300, .inr (.inl (fun j : Nat => lI (a_10 (j : Int)))))), (h0, .inr (4, [.int (zI (z4_words)), v4_1, v4_2, .ref q_403, .ref q_404, v4_5, v4_6, v4_7])), (q_404, .inl (cA_404, 4800, .inr (.inl g0_2003)))]) (w1 := [(q_403, .inl (cA_403, 4800, .inr (.inl g0_2004)))]) hP hD [7] [0, 1, 2, 3, 4, 5, 6, 8] rfl rfl (by decide) (by decide) hk1 hFc hP1 hD1
          have hK := (hK.sub (tys' := [(cA_704, .int), (cA_706, .int), (cA_707, .long), (cA_708, .long), (cA_710, .long), (cA_404, .long)]) [0, 1, 2, 3, 4, 6] rfl).app hK1
          generalize H1 = H at hP hS ⊢
          have hP : va_P (dC, dI) vwP [(hc, .inr (0, [v_0, v_1, v_2, v_3, .ref q_704, v_5, .ref q_706, .ref q_707, .ref q_708, v_9, .ref q_710, v_11, v_12, v_13, v_14, v_15, v_16, v_17, v_18])), (q_704, .inl (cA_704, 301, .inl (fun j : Nat => zI (a_4 (j : Int))))), (q_706, .inl (cA_706, 2000, .inl (fun j : Nat => zI (a_6 (j : Int))))), (q_707, .inl (cA_707, 2000, .inr (.inl (fun j : Nat => lI (a_7 (j : Int)))))), (q_708, .inl (cA_708, 2000, .inr (.inl (fun j : Nat => lI (a_8 (j : Int)))))), (q_710, .inl (cA_710, 300, .inr (.inl (fun j : Nat => lI (a_10 (j : Int)))))), (h0, .inr (4, [.int (zI (z4_words)), v4_1, v4_2, .ref q_403, .ref q_404, v4_5, v4_6, v4_7])), (q_404, .inl (cA_404, 4800, .inr (.inl g0_2003))), (q_403, .inl (cA_403, 4800, .inr (.inl g0_2004)))] H := hP
          have hD : va_D A [(hc, .inr (0, [v_0, v_1, v_2, v_3, .ref q_704, v_5, .ref q_706, .ref q_707, .ref q_708, v_9, .ref q_710, v_11, v_12, v_13, v_14, v_15, v_16, v_17, v_18])), (q_704, .inl (cA_704, 301, .inl (fun j : Nat => zI (a_4 (j : Int))))), (q_706, .inl (cA_706, 2000, .inl (fun j : Nat => zI (a_6 (j : Int))))), (q_707, .inl (cA_707, 2000, .inr (.inl (fun j : Nat => lI (a_7 (j : Int)))))), (q_708, .inl (cA_708, 2000, .inr (.inl (fun j : Nat => lI (a_8 (j : Int)))))), (q_710, .inl (cA_710, 300, .inr (.inl (fun j : Nat => lI (a_10 (j : Int)))))), (h0, .inr (4, [.int (zI (z4_words)), v4_1, v4_2, .ref q_403, .ref q_404, v4_5, v4_6, v4_7])), (q_404, .inl (cA_404, 4800, .inr (.inl g0_2003))), (q_403, .inl (cA_403, 4800, .inr (.inl g0_2004)))] := hD
          have hK : va_K (dC, dI) vwP [(cA_704, .int), (cA_706, .int), (cA_707, .long), (cA_708, .long), (cA_710, .long), (cA_404, .long), (cA_403, .long)] s := hK
          refine W.widen (k := 0) (n := 0) (Nat.le_of_ble_eq_true rfl) (Nat.le_of_ble_eq_true rfl) ?_
          refine lv_iinc (v := zI (d7_3 + 1)) (lv' := [(3, .int (zI (d7_3 + 1))), (0, .ref h0), (1, .ref hc), (2, .int (zI (b)))]) hx hb dX4_noteRows_69 hl (k := 3) rfl (zI_add (d7_3) (1)) (by decide) rfl (fun ls hl => ?_)
          refine lv_goto (tgt := 7) hx hb dX4_noteRows_72 (by decide) ?_
          have hP := hP.sub (ws' := [(h0, .inr (4, [.int (zI (z4_words)), v4_1, v4_2, .ref q_403, .ref q_404, v4_5, v4_6, v4_7])), (q_403, .inl (cA_403, 4800, .inr (.inl g0_2004))), (q_404, .inl (cA_404, 4800, .inr (.inl g0_2003))), (hc, .inr (0, [v_0, v_1, v_2, v_3, .ref q_704, v_5, .ref q_706, .ref q_707, .ref q_708, v_9, .ref q_710, v_11, v_12, v_13, v_14, v_15, v_16, v_17, v_18])), (q_704, .inl (cA_704, 301, .inl (fun j : Nat => zI (a_4 (j : Int))))), (q_706, .inl (cA_706, 2000, .inl (fun j : Nat => zI (a_6 (j : Int))))), (q_707, .inl (cA_707, 2000, .inr (.inl (fun j : Nat => lI (a_7 (j : Int)))))), (q_708, .inl (cA_708, 2000, .inr (.inl (fun j : Nat => lI (a_8 (j : Int)))))), (q_710, .inl (cA_710, 300, .inr (.inl (fun j : Nat => lI (a_10 (j : Int))))))]) [6, 8, 7, 0, 1, 2, 3, 4, 5] rfl
          have hD := hD.sub (ws' := [(h0, .inr (4, [.int (zI (z4_words)), v4_1, v4_2, .ref q_403, .ref q_404, v4_5, v4_6, v4_7])), (q_403, .inl (cA_403, 4800, .inr (.inl g0_2004))), (q_404, .inl (cA_404, 4800, .inr (.inl g0_2003))), (hc, .inr (0, [v_0, v_1, v_2, v_3, .ref q_704, v_5, .ref q_706, .ref q_707, .ref q_708, v_9, .ref q_710, v_11, v_12, v_13, v_14, v_15, v_16, v_17, v_18])), (q_704, .inl (cA_704, 301, .inl (fun j : Nat => zI (a_4 (j : Int))))), (q_706, .inl (cA_706, 2000, .inl (fun j : Nat => zI (a_6 (j : Int))))), (q_707, .inl (cA_707, 2000, .inr (.inl (fun j : Nat => lI (a_7 (j : Int)))))), (q_708, .inl (cA_708, 2000, .inr (.inl (fun j : Nat => lI (a_8 (j : Int)))))), (q_710, .inl (cA_710, 300, .inr (.inl (fun j : Nat => lI (a_10 (j : Int))))))]) [6, 8, 7, 0, 1, 2, 3, 4, 5] (by decide) rfl
          exact ih7 (d7_3 + 1) g0_2004 g0_2003 ls H _ (by omega) (by omega) (lv_sub hl [1, 2, 3, 0] rfl) hP hD hS
  exact key7 (((a_4 (b + 1)) - (a_4 (b)) : Int).toNat + 1) (a_4 (b)) fa4_sets fa4_uses ls H _ (by omega) (by omega) (lv_sub hl [1, 2, 3, 0] rfl) hP hD hS
theorem dX4_notePhis_0 : decode cX4_notePhis 0 = .ok (.aload_n 1, 1) := by decide +kernel
theorem dX4_notePhis_1 : decode cX4_notePhis 1 = .ok (.getfield 102, 3) := by decide +kernel
theorem dX4_notePhis_4 : decode cX4_notePhis 4 = .ok (.iload_n 2, 1) := by decide +kernel
theorem dX4_notePhis_5 : decode cX4_notePhis 5 = .ok (.iaload, 1) := by decide +kernel
theorem dX4_notePhis_6 : decode cX4_notePhis 6 = .ok (.istore_n 3, 1) := by decide +kernel
theorem dX4_notePhis_7 : decode cX4_notePhis 7 = .ok (.iload_n 3, 1) := by decide +kernel
theorem dX4_notePhis_8 : decode cX4_notePhis 8 = .ok (.aload_n 1, 1) := by decide +kernel
theorem dX4_notePhis_9 : decode cX4_notePhis 9 = .ok (.getfield 102, 3) := by decide +kernel
theorem dX4_notePhis_12 : decode cX4_notePhis 12 = .ok (.iload_n 2, 1) := by decide +kernel
theorem dX4_notePhis_13 : decode cX4_notePhis 13 = .ok (.iconst 1, 1) := by decide +kernel
theorem dX4_notePhis_14 : decode cX4_notePhis 14 = .ok (.iadd, 1) := by decide +kernel
theorem dX4_notePhis_15 : decode cX4_notePhis 15 = .ok (.iaload, 1) := by decide +kernel
theorem dX4_notePhis_16 : decode cX4_notePhis 16 = .ok (.if_icmp .ge 102, 3) := by decide +kernel
theorem dX4_notePhis_118 : decode cX4_notePhis 118 = .ok (.return_, 1) := by decide +kernel
theorem dX4_notePhis_19 : decode cX4_notePhis 19 = .ok (.aload_n 0, 1) := by decide +kernel
theorem dX4_notePhis_20 : decode cX4_notePhis 20 = .ok (.getfield 28, 3) := by decide +kernel
theorem dX4_notePhis_23 : decode cX4_notePhis 23 = .ok (.iload_n 2, 1) := by decide +kernel
theorem dX4_notePhis_24 : decode cX4_notePhis 24 = .ok (.aload_n 0, 1) := by decide +kernel
theorem dX4_notePhis_25 : decode cX4_notePhis 25 = .ok (.getfield 9, 3) := by decide +kernel
theorem dX4_notePhis_28 : decode cX4_notePhis 28 = .ok (.imul, 1) := by decide +kernel
theorem dX4_notePhis_29 : decode cX4_notePhis 29 = .ok (.aload_n 1, 1) := by decide +kernel
theorem dX4_notePhis_30 : decode cX4_notePhis 30 = .ok (.getfield 105, 3) := by decide +kernel
theorem dX4_notePhis_33 : decode cX4_notePhis 33 = .ok (.iload_n 3, 1) := by decide +kernel
theorem dX4_notePhis_34 : decode cX4_notePhis 34 = .ok (.iaload, 1) := by decide +kernel
theorem dX4_notePhis_35 : decode cX4_notePhis 35 = .ok (.invokestatic 83, 3) := by decide +kernel
theorem dX4_notePhis_38 : decode cX4_notePhis 38 = .ok (.iconst 0, 1) := by decide +kernel
theorem dX4_notePhis_39 : decode cX4_notePhis 39 = .ok (.istore 4, 2) := by decide +kernel
theorem dX4_notePhis_41 : decode cX4_notePhis 41 = .ok (.iload 4, 2) := by decide +kernel
theorem dX4_notePhis_43 : decode cX4_notePhis 43 = .ok (.aload_n 1, 1) := by decide +kernel
theorem dX4_notePhis_44 : decode cX4_notePhis 44 = .ok (.iload_n 2, 1) := by decide +kernel
theorem dX4_notePhis_45 : decode cX4_notePhis 45 = .ok (.invokevirtual 108, 3) := by decide +kernel
theorem dX4_notePhis_48 : decode cX4_notePhis 48 = .ok (.if_icmp .ge 64, 3) := by decide +kernel
theorem dX4_notePhis_112 : decode cX4_notePhis 112 = .ok (.iinc 3 1, 3) := by decide +kernel
theorem dX4_notePhis_115 : decode cX4_notePhis 115 = .ok (.goto (-108), 3) := by decide +kernel
theorem dX4_notePhis_51 : decode cX4_notePhis 51 = .ok (.aload_n 1, 1) := by decide +kernel
theorem dX4_notePhis_52 : decode cX4_notePhis 52 = .ok (.getfield 112, 3) := by decide +kernel
theorem dX4_notePhis_55 : decode cX4_notePhis 55 = .ok (.aload_n 1, 1) := by decide +kernel
theorem dX4_notePhis_56 : decode cX4_notePhis 56 = .ok (.getfield 115, 3) := by decide +kernel
theorem dX4_notePhis_59 : decode cX4_notePhis 59 = .ok (.iload_n 3, 1) := by decide +kernel
theorem dX4_notePhis_60 : decode cX4_notePhis 60 = .ok (.iaload, 1) := by decide +kernel
theorem dX4_notePhis_61 : decode cX4_notePhis 61 = .ok (.iload 4, 2) := by decide +kernel
theorem dX4_notePhis_63 : decode cX4_notePhis 63 = .ok (.iadd, 1) := by decide +kernel
theorem dX4_notePhis_64 : decode cX4_notePhis 64 = .ok (.laload, 1) := by decide +kernel
theorem dX4_notePhis_65 : decode cX4_notePhis 65 = .ok (.lstore 5, 2) := by decide +kernel
theorem dX4_notePhis_67 : decode cX4_notePhis 67 = .ok (.lload 5, 2) := by decide +kernel
theorem dX4_notePhis_69 : decode cX4_notePhis 69 = .ok (.invokestatic 90, 3) := by decide +kernel
theorem dX4_notePhis_72 : decode cX4_notePhis 72 = .ok (.ifCond .eq 34, 3) := by decide +kernel
theorem dX4_notePhis_106 : decode cX4_notePhis 106 = .ok (.iinc 4 1, 3) := by decide +kernel
theorem dX4_notePhis_109 : decode cX4_notePhis 109 = .ok (.goto (-68), 3) := by decide +kernel
theorem dX4_notePhis_75 : decode cX4_notePhis 75 = .ok (.aload_n 0, 1) := by decide +kernel
theorem dX4_notePhis_76 : decode cX4_notePhis 76 = .ok (.getfield 31, 3) := by decide +kernel
theorem dX4_notePhis_79 : decode cX4_notePhis 79 = .ok (.aload_n 1, 1) := by decide +kernel
theorem dX4_notePhis_80 : decode cX4_notePhis 80 = .ok (.getfield 118, 3) := by decide +kernel
theorem dX4_notePhis_83 : decode cX4_notePhis 83 = .ok (.aload_n 1, 1) := by decide +kernel
theorem dX4_notePhis_84 : decode cX4_notePhis 84 = .ok (.getfield 121, 3) := by decide +kernel
theorem dX4_notePhis_87 : decode cX4_notePhis 87 = .ok (.iload_n 2, 1) := by decide +kernel
theorem dX4_notePhis_88 : decode cX4_notePhis 88 = .ok (.iaload, 1) := by decide +kernel
theorem dX4_notePhis_89 : decode cX4_notePhis 89 = .ok (.iload 4, 2) := by decide +kernel
theorem dX4_notePhis_91 : decode cX4_notePhis 91 = .ok (.iadd, 1) := by decide +kernel
theorem dX4_notePhis_92 : decode cX4_notePhis 92 = .ok (.iaload, 1) := by decide +kernel
theorem dX4_notePhis_93 : decode cX4_notePhis 93 = .ok (.aload_n 0, 1) := by decide +kernel
theorem dX4_notePhis_94 : decode cX4_notePhis 94 = .ok (.getfield 9, 3) := by decide +kernel
theorem dX4_notePhis_97 : decode cX4_notePhis 97 = .ok (.imul, 1) := by decide +kernel
theorem dX4_notePhis_98 : decode cX4_notePhis 98 = .ok (.lload 5, 2) := by decide +kernel
theorem dX4_notePhis_100 : decode cX4_notePhis 100 = .ok (.invokestatic 94, 3) := by decide +kernel
theorem dX4_notePhis_103 : decode cX4_notePhis 103 = .ok (.invokestatic 83, 3) := by decide +kernel
def o_X4_notePhis : List Cond := [.fieldLink RX4 102 "SsaForge$Code" "phiStart" "[I", .fieldLink RX4 28 "SsaForge$Live" "phiSets" "[J", .fieldLink RX4 9 "SsaForge$Live" "words" "I", .fieldLink RX4 105 "SsaForge$Code" "phiTarget" "[I", .initialized RX11, .static yX11_putBit, .methodLink RX4 108 yX0_predCount, .instanceMethod yX0_predCount, .selects RX0 yX0_predCount yX0_predCount, .initialized RX0, .fieldLink RX4 112 "SsaForge$Code" "args" "[J", .fieldLink RX4 115 "SsaForge$Code" "argStart" "[I", .static yX11_isRegister, .fieldLink RX4 31 "SsaForge$Live" "phiUses" "[J", .fieldLink RX4 118 "SsaForge$Code" "preds" "[I", .fieldLink RX4 121 "SsaForge$Code" "predStart" "[I", .static yX11_registerOf]
def v_X4_notePhis : List Cond := .code yX4_notePhis cX4_notePhis 7 none :: (o_X4_notePhis ++ (wsX00 ++ (wsX40 ++ (v_X11_putBit ++ (v_X0_predCount ++ (v_X11_isRegister ++ (v_X11_registerOf ++ [])))))))
theorem mow_X4_notePhis : ∀ w ∈ o_X4_notePhis, w ∈ v_X4_notePhis := fun _ h => List.mem_cons_of_mem _ (List.mem_append_left _ h)
theorem mem_X4_notePhis_0 : ∀ w ∈ wsX00, w ∈ v_X4_notePhis := fun _ h => List.mem_cons_of_mem _ (List.mem_append_right _ (List.mem_append_left _ h))
theorem mem_X4_notePhis_1 : ∀ w ∈ wsX40, w ∈ v_X4_notePhis := fun _ h => List.mem_cons_of_mem _ (List.mem_append_right _ (List.mem_append_right _ (List.mem_append_left _ h)))
theorem mem_X4_notePhis_2 : ∀ w ∈ v_X11_putBit, w ∈ v_X4_notePhis := fun _ h => List.mem_cons_of_mem _ (List.mem_append_right _ (List.mem_append_right _ (List.mem_append_right _ (List.mem_append_left _ h))))
theorem mem_X4_notePhis_3 : ∀ w ∈ v_X0_predCount, w ∈ v_X4_notePhis := fun _ h => List.mem_cons_of_mem _ (List.mem_append_right _ (List.mem_append_right _ (List.mem_append_right _ (List.mem_append_right _ (List.mem_append_left _ h)))))
theorem mem_X4_notePhis_4 : ∀ w ∈ v_X11_isRegister, w ∈ v_X4_notePhis := fun _ h => List.mem_cons_of_mem _ (List.mem_append_right _ (List.mem_append_right _ (List.mem_append_right _ (List.mem_append_right _ (List.mem_append_right _ (List.mem_append_left _ h))))))
theorem mem_X4_notePhis_5 : ∀ w ∈ v_X11_registerOf, w ∈ v_X4_notePhis := fun _ h => List.mem_cons_of_mem _ (List.mem_append_right _ (List.mem_append_right _ (List.mem_append_right _ (List.mem_append_right _ (List.mem_append_right _ (List.mem_append_right _ (List.mem_append_left _ h)))))))
set_option maxRecDepth 20000 in
theorem gw_X4_notePhis : v_X4_notePhis.all goodWord = true := by decide +kernel
set_option maxRecDepth 20000 in
theorem g_X4_notePhis_X0_predCount : GoodIn v_X4_notePhis (wsV RX4 108 RX0 yX0_predCount v_X0_predCount) := goodIn_app (goodIn_sub (fun w h => mow_X4_notePhis w (by revert w h; decide +kernel)) (by decide +kernel)) (goodIn_sub mem_X4_notePhis_3 gw_X0_predCount)
set_option maxHeartbeats 4000000 in
set_option maxRecDepth 100000 in
theorem c_X4_notePhis (l : Launch) (dC : Nat → ClassId) (dI : Nat → Nat → Nat) (h0 : Nat) (z4_words : Int) (v4_1 : Value) (v4_2 : Value) (v4_3 : Value) (v4_4 : Value) (q_405 : Nat) (cA_405 : ClassId) (fa4_phiSets : Nat → Int64) (q_406 : Nat) (cA_406 : ClassId) (fa4_phiUses : Nat → Int64) (v4_7 : Value) (hc : Nat) (B1 : Int) (v_1 : Value) (P1 : Int) (v_3 : Value) (v_4 : Value) (v_5 : Value) (v_6 : Value) (v_7 : Value) (v_8 : Value) (v_9 : Value) (v_10 : Value) (v_11 : Value) (v_12 : Value) (q_713 : Nat) (cA_713 : ClassId) (a_13 : Int → Int) (q_714 : Nat) (cA_714 : ClassId) (a_14 : Int → Int) (q_715 : Nat) (cA_715 : ClassId) (a_15 : Int → Int) (q_716 : Nat) (cA_716 : ClassId) (a_16 : Int → Int) (q_717 : Nat) (cA_717 : ClassId) (a_17 : Int → Int) (q_718 : Nat) (cA_718 : ClassId) (na1 : Nat) (a_18 : Int → Int) (b : Int) (hNz4_words : 0 ≤ z4_words ∧ z4_words ≤ 16) (hNB1 : 0 ≤ B1 ∧ B1 ≤ 300) (hNP1 : 0 ≤ P1 ∧ P1 ≤ 1000) (hR_a_13 : ∀ j : Int, 0 ≤ a_13 j ∧ a_13 j ≤ 600) (hR_a_14 : ∀ j : Int, 0 ≤ a_14 j ∧ a_14 j ≤ 299) (hR_a_15 : ∀ j : Int, 0 ≤ a_15 j ∧ a_15 j ≤ 1000) (hR_a_16 : ∀ j : Int, -1 ≤ a_16 j ∧ a_16 j ≤ 1023) (hR_a_17 : ∀ j : Int, 0 ≤ a_17 j ∧ a_17 j ≤ 60000) (hNna1 : na1 ≤ 60000) (hR_a_18 : ∀ j : Int, ((-2147483648 ≤ a_18 j ∧ a_18 j ≤ 4294968319) ∨ a_18 j = 1099511627776)) (hNb : 0 ≤ b ∧ b < B1) (hX_T : ∀ i : Int, 0 ≤ i → i < P1 → 0 ≤ a_16 i) (hX_P : ∀ b : Int, 0 ≤ b → b ≤ B1 → a_15 b ≤ P1) (hX_A : ∀ b i : Int, 0 ≤ b → b < B1 → a_15 b ≤ i → i < a_15 (b + 1) → a_17 i + (a_13 (b + 1) - a_13 b) ≤ na1) (sz : Nat) : Met l yX4_notePhis v_X4_notePhis ({ frames := 1, cells := 0, slots := 0, locals := 22 }) (va_Pc [.ref h0, .ref hc, .int (zI (b))] (fun U => U.heap.size = sz ∧ va_P (dC, dI) vwP [(h0, .inr (4, [.int (zI (z4_words)), v4_1, v4_2, v4_3, v4_4, .ref q_405, .ref q_406, v4_7])), (q_405, .inl (cA_405, 4800, .inr (.inl fa4_phiSets))), (q_406, .inl (cA_406, 4800, .inr (.inl fa4_phiUses))), (hc, .inr (0, [.int (zI (B1)), v_1, .int (zI (P1)), v_3, v_4, v_5, v_6, v_7, v_8, v_9, v_10, v_11, v_12, .ref q_713, .ref q_714, .ref q_715, .ref q_716, .ref q_717, .ref q_718])), (q_713, .inl (cA_713, 301, .inl (fun j : Nat => zI (a_13 (j : Int))))), (q_714, .inl (cA_714, 600, .inl (fun j : Nat => zI (a_14 (j : Int))))), (q_715, .inl (cA_715, 301, .inl (fun j : Nat => zI (a_15 (j : Int))))), (q_716, .inl (cA_716, 1000, .inl (fun j : Nat => zI (a_16 (j : Int))))), (q_717, .inl (cA_717, 1000, .inl (fun j : Nat => zI (a_17 (j : Int))))), (q_718, .inl (cA_718, na1, .inr (.inl (fun j : Nat => lI (a_18 (j : Int))))))] U.heap ∧ va_K (dC, dI) vwP [(cA_405, .long), (cA_406, .long), (cA_713, .int), (cA_714, .int), (cA_715, .int), (cA_716, .int), (cA_717, .int), (cA_718, .long)] U ∧ va_D (fun _ => True) [(h0, .inr (4, [.int (zI (z4_words)), v4_1, v4_2, v4_3, v4_4, .ref q_405, .ref q_406, v4_7])), (q_405, .inl (cA_405, 4800, .inr (.inl fa4_phiSets))), (q_406, .inl (cA_406, 4800, .inr (.inl fa4_phiUses))), (hc, .inr (0, [.int (zI (B1)), v_1, .int (zI (P1)), v_3, v_4, v_5, v_6, v_7, v_8, v_9, v_10, v_11, v_12, .ref q_713, .ref q_714, .ref q_715, .ref q_716, .ref q_717, .ref q_718])), (q_713, .inl (cA_713, 301, .inl (fun j : Nat => zI (a_13 (j : Int))))), (q_714, .inl (cA_714, 600, .inl (fun j : Nat => zI (a_14 (j : Int))))), (q_715, .inl (cA_715, 301, .inl (fun j : Nat => zI (a_15 (j : Int))))), (q_716, .inl (cA_716, 1000, .inl (fun j : Nat => zI (a_16 (j : Int))))), (q_717, .inl (cA_717, 1000, .inl (fun j : Nat => zI (a_17 (j : Int))))), (q_718, .inl (cA_718, na1, .inr (.inl (fun j : Nat => lI (a_18 (j : Int))))))] ∧ va_Nw (.methodLinkNest RX4 83 yX11_putBit "SsaForge") U ∧ va_Nw (.methodLinkNest RX4 90 yX11_isRegister "SsaForge") U ∧ va_Nw (.methodLinkNest RX4 94 yX11_registerOf "SsaForge") U)) (va_Qv (fun _ : Unit => True) (fun (_ : Unit) (t : State) => ∃ (g0_9 : Nat → Int64) (g1_9 : Nat → Int64), va_P (dC, dI) vwP [(h0, .inr (4, [.int (zI (z4_words)), v4_1, v4_2, v4_3, v4_4, .ref q_405, .ref q_406, v4_7])), (q_405, .inl (cA_405, 4800, .inr (.inl g0_9))), (q_406, .inl (cA_406, 4800, .inr (.inl g1_9))), (hc, .inr (0, [.int (zI (B1)), v_1, .int (zI (P1)), v_3, v_4, v_5, v_6, v_7, v_8, v_9, v_10, v_11, v_12, .ref q_713, .ref q_714, .ref q_715, .ref q_716, .ref q_717, .ref q_718])), (q_713, .inl (cA_713, 301, .inl (fun j : Nat => zI (a_13 (j : Int))))), (q_714, .inl (cA_714, 600, .inl (fun j : Nat => zI (a_14 (j : Int))))), (q_715, .inl (cA_715, 301, .inl (fun j : Nat => zI (a_15 (j : Int))))), (q_716, .inl (cA_716, 1000, .inl (fun j : Nat => zI (a_16 (j : Int))))), (q_717, .inl (cA_717, 1000, .inl (fun j : Nat => zI (a_17 (j : Int))))), (q_718, .inl (cA_718, na1, .inr (.inl (fun j : Nat => lI (a_18 (j : Int))))))] t.heap ∧ va_K (dC, dI) vwP [(cA_405, .long), (cA_406, .long), (cA_713, .int), (cA_714, .int), (cA_715, .int), (cA_716, .int), (cA_717, .int), (cA_718, .long)] t ∧ va_D (va_A [(h0, .inr (4, [.int (zI (z4_words)), v4_1, v4_2, v4_3, v4_4, .ref q_405, .ref q_406, v4_7])), (q_405, .inl (cA_405, 4800, .inr (.inl fa4_phiSets))), (q_406, .inl (cA_406, 4800, .inr (.inl fa4_phiUses))), (hc, .inr (0, [.int (zI (B1)), v_1, .int (zI (P1)), v_3, v_4, v_5, v_6, v_7, v_8, v_9, v_10, v_11, v_12, .ref q_713, .ref q_714, .ref q_715, .ref q_716, .ref q_717, .ref q_718])), (q_713, .inl (cA_713, 301, .inl (fun j : Nat => zI (a_13 (j : Int))))), (q_714, .inl (cA_714, 600, .inl (fun j : Nat => zI (a_14 (j : Int))))), (q_715, .inl (cA_715, 301, .inl (fun j : Nat => zI (a_15 (j : Int))))), (q_716, .inl (cA_716, 1000, .inl (fun j : Nat => zI (a_16 (j : Int))))), (q_717, .inl (cA_717, 1000, .inl (fun j : Nat => zI (a_17 (j : Int))))), (q_718, .inl (cA_718, na1, .inr (.inl (fun j : Nat => lI (a_18 (j : Int))))))] sz) [(h0, .inr (4, [.int (zI (z4_words)), v4_1, v4_2, v4_3, v4_4, .ref q_405, .ref q_406, v4_7])), (q_405, .inl (cA_405, 4800, .inr (.inl g0_9))), (q_406, .inl (cA_406, 4800, .inr (.inl g1_9))), (hc, .inr (0, [.int (zI (B1)), v_1, .int (zI (P1)), v_3, v_4, v_5, v_6, v_7, v_8, v_9, v_10, v_11, v_12, .ref q_713, .ref q_714, .ref q_715, .ref q_716, .ref q_717, .ref q_718])), (q_713, .inl (cA_713, 301, .inl (fun j : Nat => zI (a_13 (j : Int))))), (q_714, .inl (cA_714, 600, .inl (fun j : Nat => zI (a_14 (j : Int))))), (q_715, .inl (cA_715, 301, .inl (fun j : Nat => zI (a_15 (j : Int))))), (q_716, .inl (cA_716, 1000, .inl (fun j : Nat => zI (a_16 (j : Int))))), (q_717, .inl (cA_717, 1000, .inl (fun j : Nat => zI (a_17 (j : Int))))), (q_718, .inl (cA_718, na1, .inr (.inl (fun j : Nat => lI (a_18 (j : Int))))))]) (va_A [(h0, .inr (4, [.int (zI (z4_words)), v4_1, v4_2, v4_3, v4_4, .ref q_405, .ref q_406, v4_7])), (q_405, .inl (cA_405, 4800, .inr (.inl fa4_phiSets))), (q_406, .inl (cA_406, 4800, .inr (.inl fa4_phiUses))), (hc, .inr (0, [.int (zI (B1)), v_1, .int (zI (P1)), v_3, v_4, v_5, v_6, v_7, v_8, v_9, v_10, v_11, v_12, .ref q_713, .ref q_714, .ref q_715, .ref q_716, .ref q_717, .ref q_718])), (q_713, .inl (cA_713, 301, .inl (fun j : Nat => zI (a_13 (j : Int))))), (q_714, .inl (cA_714, 600, .inl (fun j : Nat => zI (a_14 (j : Int))))), (q_715, .inl (cA_715, 301, .inl (fun j : Nat => zI (a_15 (j : Int))))), (q_716, .inl (cA_716, 1000, .inl (fun j : Nat => zI (a_16 (j : Int))))), (q_717, .inl (cA_717, 1000, .inl (fun j : Nat => zI (a_17 (j : Int))))), (q_718, .inl (cA_718, na1, .inr (.inl (fun j : Nat => lI (a_18 (j : Int))))))] sz)) 0 0 (va_A [(h0, .inr (4, [.int (zI (z4_words)), v4_1, v4_2, v4_3, v4_4, .ref q_405, .ref q_406, v4_7])), (q_405, .inl (cA_405, 4800, .inr (.inl fa4_phiSets))), (q_406, .inl (cA_406, 4800, .inr (.inl fa4_phiUses))), (hc, .inr (0, [.int (zI (B1)), v_1, .int (zI (P1)), v_3, v_4, v_5, v_6, v_7, v_8, v_9, v_10, v_11, v_12, .ref q_713, .ref q_714, .ref q_715, .ref q_716, .ref q_717, .ref q_718])), (q_713, .inl (cA_713, 301, .inl (fun j : Nat => zI (a_13 (j : Int))))), (q_714, .inl (cA_714, 600, .inl (fun j : Nat => zI (a_14 (j : Int))))), (q_715, .inl (cA_715, 301, .inl (fun j : Nat => zI (a_15 (j : Int))))), (q_716, .inl (cA_716, 1000, .inl (fun j : Nat => zI (a_16 (j : Int))))), (q_717, .inl (cA_717, 1000, .inl (fun j : Nat => zI (a_17 (j : Int))))), (q_718, .inl (cA_718, na1, .inr (.inl (fun j : Nat => lI (a_18 (j : Int))))))] sz) := by
  refine Met.ofW (cc := cX4_notePhis) (maxL := 7) (ret := none) (by decide) rfl ?_
  intro p e s m args below meth c s₁ B hml hv
  obtain ⟨rfl, hsz, hP, hK, hD0, hp0, hp1, hp2⟩ := hv
  have hx := B.exec
  have hb := B.bytes
  have hr := B.returns
  have hts := atoms_spec (ws := v_X4_notePhis) B.pre
  have hown : s.vm.findClass RX4 = some m.cls := findClass_of_methodNamed B.named
  have hlocks := B.notSynchronized
  have ow : ∀ {k : Nat} {w : Cond}, o_X4_notePhis[k]? = some w → w.before ([.ref h0, .ref hc, .int (zI (b))] : List Value).toArray s = true := fun h => hts _ (mow_X4_notePhis _ (List.mem_of_getElem? h))
  subst hsz
  have hD := hD0.self (sz := s.heap.size)
  generalize hAe : va_A [(h0, .inr (4, [.int (zI (z4_words)), v4_1, v4_2, v4_3, v4_4, .ref q_405, .ref q_406, v4_7])), (q_405, .inl (cA_405, 4800, .inr (.inl fa4_phiSets))), (q_406, .inl (cA_406, 4800, .inr (.inl fa4_phiUses))), (hc, .inr (0, [.int (zI (B1)), v_1, .int (zI (P1)), v_3, v_4, v_5, v_6, v_7, v_8, v_9, v_10, v_11, v_12, .ref q_713, .ref q_714, .ref q_715, .ref q_716, .ref q_717, .ref q_718])), (q_713, .inl (cA_713, 301, .inl (fun j : Nat => zI (a_13 (j : Int))))), (q_714, .inl (cA_714, 600, .inl (fun j : Nat => zI (a_14 (j : Int))))), (q_715, .inl (cA_715, 301, .inl (fun j : Nat => zI (a_15 (j : Int))))), (q_716, .inl (cA_716, 1000, .inl (fun j : Nat => zI (a_16 (j : Int))))), (q_717, .inl (cA_717, 1000, .inl (fun j : Nat => zI (a_17 (j : Int))))), (q_718, .inl (cA_718, na1, .inr (.inl (fun j : Nat => lI (a_18 (j : Int))))))] s.heap.size = A at hD ⊢
  have hA : ∀ q : Nat, s.heap.size ≤ q → A q := fun q h => by rw [← hAe]; exact Or.inr h
  have hS : va_S A s.heap s.heap [] := va_S.rf
  have hP : va_P (dC, dI) vwP [(h0, .inr (4, [.int (zI (z4_words)), v4_1, v4_2, v4_3, v4_4, .ref q_405, .ref q_406, v4_7])), (q_405, .inl (cA_405, 4800, .inr (.inl fa4_phiSets))), (q_406, .inl (cA_406, 4800, .inr (.inl fa4_phiUses))), (hc, .inr (0, [.int (zI (B1)), v_1, .int (zI (P1)), v_3, v_4, v_5, v_6, v_7, v_8, v_9, v_10, v_11, v_12, .ref q_713, .ref q_714, .ref q_715, .ref q_716, .ref q_717, .ref q_718])), (q_713, .inl (cA_713, 301, .inl (fun j : Nat => zI (a_13 (j : Int))))), (q_714, .inl (cA_714, 600, .inl (fun j : Nat => zI (a_14 (j : Int))))), (q_715, .inl (cA_715, 301, .inl (fun j : Nat => zI (a_15 (j : Int))))), (q_716, .inl (cA_716, 1000, .inl (fun j : Nat => zI (a_16 (j : Int))))), (q_717, .inl (cA_717, 1000, .inl (fun j : Nat => zI (a_17 (j : Int))))), (q_718, .inl (cA_718, na1, .inr (.inl (fun j : Nat => lI (a_18 (j : Int))))))] s.heap := hP
  have hl := lv_entry ([.ref h0, .ref hc, .int (zI (b))]) (n := 7) (Nat.le_of_ble_eq_true rfl)
  rw [lg_entry_eq]
  generalize (lg_sl ([.ref h0, .ref hc, .int (zI (b))]) ++ List.replicate (7 - (lg_sl ([.ref h0, .ref hc, .int (zI (b))])).length) Slot.unset).toArray = ls at hl ⊢
  have hl : lv_has ls 7 [(0, .ref h0), (1, .ref hc), (2, .int (zI (b)))] := hl
  obtain ⟨H, hH⟩ : ∃ H, H = s.heap := ⟨_, rfl⟩
  rw [← hH] at hP
  have hS : va_S A s.heap H [] := by rw [hH]; exact hS
  rw [← hH]
  refine zW_cap (fun Q hQ => ?_)
  refine lv_aload_n hx hb dX4_notePhis_0 rfl (lv_at hl 1 rfl) ?_
  refine va_get (D := (dC, dI)) (ci := 0) (v := .ref q_715) (C := RX0) (T := TX0) (N := 19) hx hb hts mem_X4_notePhis_0 hown hK hP 3 rfl rfl 15 (by decide) (ow (k := 0) rfl) (fun _ h9 => h9) rfl dX4_notePhis_1 ?_
  refine lv_iload_n hx hb dX4_notePhis_4 rfl (lv_at hl 2 rfl) ?_
  refine va_iald hx hb hK hP 6 4 rfl rfl (zI_in (a := b) (n := 301) (by omega) (by omega) (by decide)) dX4_notePhis_5 ?_
  refine lv_topi (fun z ez => ?_)
  obtain rfl : z = zI (a_15 (b)) := ez.trans (zI_ld (a_15) (by omega) (by omega))
  have k1 := hR_a_15 (b)
  refine lv_istore_n (lv' := [(3, .int (zI (a_15 (b)))), (0, .ref h0), (1, .ref hc), (2, .int (zI (b)))]) hx hb dX4_notePhis_6 rfl hl (by decide) rfl (fun ls hl => ?_)
  have key7 : ∀ n7 : Nat, ∀ (d7_3 : Int) (w7_405 : Nat → Int64) (w7_406 : Nat → Int64) (ls : Array Slot) (H : Heap) (locs : List Loc), (a_15 (b) ≤ d7_3 ∧ d7_3 ≤ 1000000000) → (((a_15 (b + 1)) - (d7_3) : Int).toNat) < n7 → lv_has ls 7 [(0, .ref h0), (1, .ref hc), (2, .int (zI (b))), (3, .int (zI (d7_3)))] → va_P (dC, dI) vwP [(h0, .inr (4, [.int (zI (z4_words)), v4_1, v4_2, v4_3, v4_4, .ref q_405, .ref q_406, v4_7])), (q_405, .inl (cA_405, 4800, .inr (.inl w7_405))), (q_406, .inl (cA_406, 4800, .inr (.inl w7_406))), (hc, .inr (0, [.int (zI (B1)), v_1, .int (zI (P1)), v_3, v_4, v_5, v_6, v_7, v_8, v_9, v_10, v_11, v_12, .ref q_713, .ref q_714, .ref q_715, .ref q_716, .ref q_717, .ref q_718])), (q_713, .inl (cA_713, 301, .inl (fun j : Nat => zI (a_13 (j : Int))))), (q_714, .inl (cA_714, 600, .inl (fun j : Nat => zI (a_14 (j : Int))))), (q_715, .inl (cA_715, 301, .inl (fun j : Nat => zI (a_15 (j : Int))))), (q_716, .inl (cA_716, 1000, .inl (fun j : Nat => zI (a_16 (j : Int))))), (q_717, .inl (cA_717, 1000, .inl (fun j : Nat => zI (a_17 (j : Int))))), (q_718, .inl (cA_718, na1, .inr (.inl (fun j : Nat => lI (a_18 (j : Int))))))] H → va_D A [(h0, .inr (4, [.int (zI (z4_words)), v4_1, v4_2, v4_3, v4_4, .ref q_405, .ref q_406, v4_7])), (q_405, .inl (cA_405, 4800, .inr (.inl w7_405))), (q_406, .inl (cA_406, 4800, .inr (.inl w7_406))), (hc, .inr (0, [.int (zI (B1)), v_1, .int (zI (P1)), v_3, v_4, v_5, v_6, v_7, v_8, v_9, v_10, v_11, v_12, .ref q_713, .ref q_714, .ref q_715, .ref q_716, .ref q_717, .ref q_718])), (q_713, .inl (cA_713, 301, .inl (fun j : Nat => zI (a_13 (j : Int))))), (q_714, .inl (cA_714, 600, .inl (fun j : Nat => zI (a_14 (j : Int))))), (q_715, .inl (cA_715, 301, .inl (fun j : Nat => zI (a_15 (j : Int))))), (q_716, .inl (cA_716, 1000, .inl (fun j : Nat => zI (a_16 (j : Int))))), (q_717, .inl (cA_717, 1000, .inl (fun j : Nat => zI (a_17 (j : Int))))), (q_718, .inl (cA_718, na1, .inr (.inl (fun j : Nat => lI (a_18 (j : Int))))))] → va_S A s.heap H locs → W p l e (headSpec v_X4_notePhis ({ frames := 1, cells := 0, slots := 0, locals := 22 })).room s m ([.ref h0, .ref hc, .int (zI (b))] : List Value).toArray below meth c H locs 0 0 Q (F0 m 7 ls []) := by
    intro n7
    induction n7 with
    | zero => intro d7_3 w7_405 w7_406 ls H locs jd7_3 hm7; exact absurd hm7 (by omega)
    | succ n7 ih7 =>
      intro d7_3 w7_405 w7_406 ls H locs jd7_3 hm7 hl hP hD hS
      refine lv_iload_n hx hb dX4_notePhis_7 rfl (lv_at hl 3 rfl) ?_
      refine lv_aload_n hx hb dX4_notePhis_8 rfl (lv_at hl 1 rfl) ?_
      refine va_get (D := (dC, dI)) (ci := 0) (v := .ref q_715) (C := RX0) (T := TX0) (N := 19) hx hb hts mem_X4_notePhis_0 hown hK hP 3 rfl rfl 15 (by decide) (ow (k := 0) rfl) (fun _ h9 => h9) rfl dX4_notePhis_9 ?_
      refine lv_iload_n hx hb dX4_notePhis_12 rfl (lv_at hl 2 rfl) ?_
      refine lv_iconst (v := 1) hx hb dX4_notePhis_13 (by decide) ?_
      refine lv_iadd hx hb dX4_notePhis_14 ?_
      refine lv_topi (fun z ez => ?_)
      obtain rfl : z = zI (b + 1) := ez.trans (zI_add (b) (1))
      refine va_iald hx hb hK hP 6 4 rfl rfl (zI_in (a := b + 1) (n := 301) (by omega) (by omega) (by decide)) dX4_notePhis_15 ?_
      refine lv_topi (fun z ez => ?_)
      obtain rfl : z = zI (a_15 (b + 1)) := ez.trans (zI_ld (a_15) (by omega) (by omega))
      have k2 := hR_a_15 (b + 1)
      refine lv_icmp_ge (tgt := 118) hx hb dX4_notePhis_16 (by decide) (fun b16 => ?_) (fun b16 => ?_)
      · have yb16 : (a_15 (b + 1) : Int) ≤ (d7_3 : Int) := (zI_le (a := a_15 (b + 1)) (b := d7_3) (by omega) (by omega) (by omega) (by omega)).mp b16
        subst hQ
        refine W.widen (k := 0) (n := 0) (Nat.le_of_ble_eq_true rfl) (Nat.le_of_ble_eq_true rfl) ?_
        exact W.vret hx hb hr (fun t ht hW => ⟨⟨(), rfl, trivial, w7_405, w7_406, by rw [ht]; exact hP, va_K.moved hW.alike hK, hD⟩, hS.F ht⟩) hS.2.2 dX4_notePhis_118
      · have yb16 : ¬ (a_15 (b + 1) : Int) ≤ (d7_3 : Int) := fun q => b16 ((zI_le (a := a_15 (b + 1)) (b := d7_3) (by omega) (by omega) (by omega) (by omega)).mpr q)
        refine lv_aload_n hx hb dX4_notePhis_19 rfl (lv_at hl 0 rfl) ?_
        refine va_get (D := (dC, dI)) (ci := 4) (v := .ref q_405) (C := RX4) (T := TX4) (N := 8) hx hb hts mem_X4_notePhis_1 hown hK hP 0 rfl rfl 5 (by decide) (ow (k := 1) rfl) (fun _ h9 => h9) rfl dX4_notePhis_20 ?_
        refine lv_iload_n hx hb dX4_notePhis_23 rfl (lv_at hl 2 rfl) ?_
        refine lv_aload_n hx hb dX4_notePhis_24 rfl (lv_at hl 0 rfl) ?_
        refine va_get (D := (dC, dI)) (ci := 4) (v := .int (zI (z4_words))) (C := RX4) (T := TX4) (N := 8) hx hb hts mem_X4_notePhis_1 hown hK hP 0 rfl rfl 0 (by decide) (ow (k := 2) rfl) (fun _ h9 => h9) rfl dX4_notePhis_25 ?_
        refine lv_imul hx hb dX4_notePhis_28 ?_
        refine lv_topi (fun z ez => ?_)
        obtain rfl : z = zI (b * z4_words) := ez.trans (zI_mul (b) (z4_words))
        have km29 := mulb (a := b) (b := z4_words) (by omega) (by omega) (by omega)
        refine lv_aload_n hx hb dX4_notePhis_29 rfl (lv_at hl 1 rfl) ?_
        refine va_get (D := (dC, dI)) (ci := 0) (v := .ref q_716) (C := RX0) (T := TX0) (N := 19) hx hb hts mem_X4_notePhis_0 hown hK hP 3 rfl rfl 16 (by decide) (ow (k := 3) rfl) (fun _ h9 => h9) rfl dX4_notePhis_30 ?_
        refine lv_iload_n hx hb dX4_notePhis_33 rfl (lv_at hl 3 rfl) ?_
        refine va_iald hx hb hK hP 7 5 rfl rfl (zI_in (a := d7_3) (n := 1000) (by omega) (by omega) (by decide)) dX4_notePhis_34 ?_
        refine lv_topi (fun z ez => ?_)
        obtain rfl : z = zI (a_16 (d7_3)) := ez.trans (zI_ld (a_16) (by omega) (by omega))
        have k3 := hR_a_16 (d7_3)
        have hq1 := hX_P (b + 1) (by omega) (by omega)
        have hq2 := hX_T (d7_3) (by omega) (by omega)
        have hPc := hP.sub (ws' := [(q_405, .inl (cA_405, 4800, .inr (.inl w7_405)))]) [1] rfl
        have hDc := hD.sub (ws' := [(q_405, .inl (cA_405, 4800, .inr (.inl w7_405)))]) [1] (by decide) rfl
        have hKc := hK.sub (tys' := [(cA_405, .long)]) [0] rfl
        have hFc := va_free (wc := [(q_405, .inl (cA_405, 4800, .inr (.inl w7_405)))]) hD hS hA [1] rfl
        refine va_callv (va_runSN (As := [.ref q_405, .int (zI (b * z4_words)), .int (zI (a_16 (d7_3)))]) (rest := []) ⟨hx, hb, hml, hown, hts⟩ (c_X11_putBit l dC dI q_405 cA_405 4800 w7_405 (b * z4_words) (a_16 (d7_3)) (by omega) H.size) ⟨va_cnB 3 hts (goodIn_sub mem_X4_notePhis_2 gw_X11_putBit) rfl rfl rfl hp0 (ow (k := 4) rfl) (by decide +kernel) ⟨(Nat.le_of_ble_eq_true rfl), (Nat.le_of_ble_eq_true rfl)⟩, (ow (k := 5) rfl), trivial⟩ ⟨fun a U g mk q => by obtain ⟨q0, q1, qP, qK, qD⟩ := q; exact ⟨q0, q1, qP, va_K.moved (u := U) (U := U.calling g mk a) (Vm.Alike.refl U.vm) qK, qD⟩, fun U hU hW => ⟨rfl, by rw [hU], by rw [hU]; exact hPc, va_K.moved hW.alike hKc, hDc.weaken (fun _ _ _ _ => trivial)⟩⟩ rfl rfl hl.1 rfl (lv_room (Nat.le_of_ble_eq_true rfl)) dX4_notePhis_35 ⟨(Nat.le_of_ble_eq_true rfl), (Nat.le_of_ble_eq_true rfl)⟩) hS (fun q _ h => hFc q h) hFc (fun  u t H1 locs ht hvm hw hB hz1 hk1 hS => ?_)
        obtain ⟨g0_2001, hP1, hK1, hD1⟩ := hB
        rw [ht] at hP1
        have hK1 := va_K.moved hvm.symm hK1
        obtain ⟨hP, hD⟩ := va_join (wr := [(h0, .inr (4, [.int (zI (z4_words)), v4_1, v4_2, v4_3, v4_4, .ref q_405, .ref q_406, v4_7])), (q_406, .inl (cA_406, 4800, .inr (.inl w7_406))), (hc, .inr (0, [.int (zI (B1)), v_1, .int (zI (P1)), v_3, v_4, v_5, v_6, v_7, v_8, v_9, v_10, v_11, v_12, .ref q_713, .ref q_714, .ref q_715, .ref q_716, .ref q_717, .ref q_718])), (q_713, .inl (cA_713, 301, .inl (fun j : Nat => zI (a_13 (j : Int))))), (q_714, .inl (cA_714, 600, .inl (fun j : Nat => zI (a_14 (j : Int))))), (q_715, .inl (cA_715, 301, .inl (fun j : Nat => zI (a_15 (j : Int))))), (q_716, .inl (cA_716, 1000, .inl (fun j : Nat => zI (a_16 (j : Int))))), (q_717, .inl (cA_717, 1000, .inl (fun j : Nat => zI (a_17 (j : Int))))), (q_718, .inl (cA_718, na1, .inr (.inl (fun j : Nat => lI (a_18 (j : Int))))))]) (w1 := [(q_405, .inl (cA_405, 4800, .inr (.inl g0_2001)))]) hP hD [1] [0, 2, 3, 4, 5, 6, 7, 8, 9] rfl rfl (by decide) (by decide) hk1 hFc hP1 hD1
        have hK := (hK.sub (tys' := [(cA_406, .long), (cA_713, .int), (cA_714, .int), (cA_715, .int), (cA_716, .int), (cA_717, .int), (cA_718, .long)]) [1, 2, 3, 4, 5, 6, 7] rfl).app hK1
        generalize H1 = H at hP hS ⊢
        have hP : va_P (dC, dI) vwP [(h0, .inr (4, [.int (zI (z4_words)), v4_1, v4_2, v4_3, v4_4, .ref q_405, .ref q_406, v4_7])), (q_406, .inl (cA_406, 4800, .inr (.inl w7_406))), (hc, .inr (0, [.int (zI (B1)), v_1, .int (zI (P1)), v_3, v_4, v_5, v_6, v_7, v_8, v_9, v_10, v_11, v_12, .ref q_713, .ref q_714, .ref q_715, .ref q_716, .ref q_717, .ref q_718])), (q_713, .inl (cA_713, 301, .inl (fun j : Nat => zI (a_13 (j : Int))))), (q_714, .inl (cA_714, 600, .inl (fun j : Nat => zI (a_14 (j : Int))))), (q_715, .inl (cA_715, 301, .inl (fun j : Nat => zI (a_15 (j : Int))))), (q_716, .inl (cA_716, 1000, .inl (fun j : Nat => zI (a_16 (j : Int))))), (q_717, .inl (cA_717, 1000, .inl (fun j : Nat => zI (a_17 (j : Int))))), (q_718, .inl (cA_718, na1, .inr (.inl (fun j : Nat => lI (a_18 (j : Int)))))), (q_405, .inl (cA_405, 4800, .inr (.inl g0_2001)))] H := hP
        have hD : va_D A [(h0, .inr (4, [.int (zI (z4_words)), v4_1, v4_2, v4_3, v4_4, .ref q_405, .ref q_406, v4_7])), (q_406, .inl (cA_406, 4800, .inr (.inl w7_406))), (hc, .inr (0, [.int (zI (B1)), v_1, .int (zI (P1)), v_3, v_4, v_5, v_6, v_7, v_8, v_9, v_10, v_11, v_12, .ref q_713, .ref q_714, .ref q_715, .ref q_716, .ref q_717, .ref q_718])), (q_713, .inl (cA_713, 301, .inl (fun j : Nat => zI (a_13 (j : Int))))), (q_714, .inl (cA_714, 600, .inl (fun j : Nat => zI (a_14 (j : Int))))), (q_715, .inl (cA_715, 301, .inl (fun j : Nat => zI (a_15 (j : Int))))), (q_716, .inl (cA_716, 1000, .inl (fun j : Nat => zI (a_16 (j : Int))))), (q_717, .inl (cA_717, 1000, .inl (fun j : Nat => zI (a_17 (j : Int))))), (q_718, .inl (cA_718, na1, .inr (.inl (fun j : Nat => lI (a_18 (j : Int)))))), (q_405, .inl (cA_405, 4800, .inr (.inl g0_2001)))] := hD
        have hK : va_K (dC, dI) vwP [(cA_406, .long), (cA_713, .int), (cA_714, .int), (cA_715, .int), (cA_716, .int), (cA_717, .int), (cA_718, .long), (cA_405, .long)] s := hK
        refine W.widen (k := 0) (n := 0) (Nat.le_of_ble_eq_true rfl) (Nat.le_of_ble_eq_true rfl) ?_
        refine lv_iconst (v := 0) hx hb dX4_notePhis_38 (by decide) ?_
        refine lv_istore (lv' := [(4, .int 0), (0, .ref h0), (1, .ref hc), (2, .int (zI (b))), (3, .int (zI (d7_3)))]) hx hb dX4_notePhis_39 hl (by decide) rfl (fun ls hl => ?_)
        have key41 : ∀ n41 : Nat, ∀ (d41_4 : Int) (w41_406 : Nat → Int64) (ls : Array Slot) (H : Heap) (locs : List Loc), (0 ≤ d41_4 ∧ d41_4 ≤ 1000000000) → (((a_13 (b + 1) - a_13 (b)) - (d41_4) : Int).toNat) < n41 → lv_has ls 7 [(0, .ref h0), (1, .ref hc), (2, .int (zI (b))), (3, .int (zI (d7_3))), (4, .int (zI (d41_4)))] → va_P (dC, dI) vwP [(h0, .inr (4, [.int (zI (z4_words)), v4_1, v4_2, v4_3, v4_4, .ref q_405, .ref q_406, v4_7])), (q_406, .inl (cA_406, 4800, .inr (.inl w41_406))), (hc, .inr (0, [.int (zI (B1)), v_1, .int (zI (P1)), v_3, v_4, v_5, v_6, v_7, v_8, v_9, v_10, v_11, v_12, .ref q_713, .ref q_714, .ref q_715, .ref q_716, .ref q_717, .ref q_718])), (q_713, .inl (cA_713, 301, .inl (fun j : Nat => zI (a_13 (j : Int))))), (q_714, .inl (cA_714, 600, .inl (fun j : Nat => zI (a_14 (j : Int))))), (q_715, .inl (cA_715, 301, .inl (fun j : Nat => zI (a_15 (j : Int))))), (q_716, .inl (cA_716, 1000, .inl (fun j : Nat => zI (a_16 (j : Int))))), (q_717, .inl (cA_717, 1000, .inl (fun j : Nat => zI (a_17 (j : Int))))), (q_718, .inl (cA_718, na1, .inr (.inl (fun j : Nat => lI (a_18 (j : Int)))))), (q_405, .inl (cA_405, 4800, .inr (.inl g0_2001)))] H → va_D A [(h0, .inr (4, [.int (zI (z4_words)), v4_1, v4_2, v4_3, v4_4, .ref q_405, .ref q_406, v4_7])), (q_406, .inl (cA_406, 4800, .inr (.inl w41_406))), (hc, .inr (0, [.int (zI (B1)), v_1, .int (zI (P1)), v_3, v_4, v_5, v_6, v_7, v_8, v_9, v_10, v_11, v_12, .ref q_713, .ref q_714, .ref q_715, .ref q_716, .ref q_717, .ref q_718])), (q_713, .inl (cA_713, 301, .inl (fun j : Nat => zI (a_13 (j : Int))))), (q_714, .inl (cA_714, 600, .inl (fun j : Nat => zI (a_14 (j : Int))))), (q_715, .inl (cA_715, 301, .inl (fun j : Nat => zI (a_15 (j : Int))))), (q_716, .inl (cA_716, 1000, .inl (fun j : Nat => zI (a_16 (j : Int))))), (q_717, .inl (cA_717, 1000, .inl (fun j : Nat => zI (a_17 (j : Int))))), (q_718, .inl (cA_718, na1, .inr (.inl (fun j : Nat => lI (a_18 (j : Int)))))), (q_405, .inl (cA_405, 4800, .inr (.inl g0_2001)))] → va_S A s.heap H locs → W p l e (headSpec v_X4_notePhis ({ frames := 1, cells := 0, slots := 0, locals := 22 })).room s m ([.ref h0, .ref hc, .int (zI (b))] : List Value).toArray below meth c H locs 0 0 Q (F0 m 41 ls []) := by
          intro n41
          induction n41 with
          | zero => intro d41_4 w41_406 ls H locs jd41_4 hm41; exact absurd hm41 (by omega)
          | succ n41 ih41 =>
            intro d41_4 w41_406 ls H locs jd41_4 hm41 hl hP hD hS
            refine lv_iload hx hb dX4_notePhis_41 (lv_at hl 4 rfl) ?_
            refine lv_aload_n hx hb dX4_notePhis_43 rfl (lv_at hl 1 rfl) ?_
            refine lv_iload_n hx hb dX4_notePhis_44 rfl (lv_at hl 2 rfl) ?_
            have hPc := hP.sub (ws' := [(hc, .inr (0, [.int (zI (B1)), v_1, .int (zI (P1)), v_3, v_4, v_5, v_6, v_7, v_8, v_9, v_10, v_11, v_12, .ref q_713, .ref q_714, .ref q_715, .ref q_716, .ref q_717, .ref q_718])), (q_713, .inl (cA_713, 301, .inl (fun j : Nat => zI (a_13 (j : Int)))))]) [2, 3] rfl
            have hDc := hD.sub (ws' := [(hc, .inr (0, [.int (zI (B1)), v_1, .int (zI (P1)), v_3, v_4, v_5, v_6, v_7, v_8, v_9, v_10, v_11, v_12, .ref q_713, .ref q_714, .ref q_715, .ref q_716, .ref q_717, .ref q_718])), (q_713, .inl (cA_713, 301, .inl (fun j : Nat => zI (a_13 (j : Int)))))]) [2, 3] (by decide) rfl
            have hKc := hK.sub (tys' := [(cA_713, .int)]) [1] rfl
            have hFc := va_free (wc := [(hc, .inr (0, [.int (zI (B1)), v_1, .int (zI (P1)), v_3, v_4, v_5, v_6, v_7, v_8, v_9, v_10, v_11, v_12, .ref q_713, .ref q_714, .ref q_715, .ref q_716, .ref q_717, .ref q_718])), (q_713, .inl (cA_713, 301, .inl (fun j : Nat => zI (a_13 (j : Int)))))]) hD hS hA [2, 3] rfl
            refine va_calli (va_runV (As := [.int (zI (b))]) (rest := [.int (zI (d41_4))]) ⟨hx, hb, hml, hown, hts⟩ (c_X0_predCount l dC dI hc (.int (zI (B1))) v_1 (.int (zI (P1))) v_3 v_4 v_5 v_6 v_7 v_8 v_9 v_10 v_11 v_12 q_713 cA_713 a_13 (.ref q_714) (.ref q_715) (.ref q_716) (.ref q_717) (.ref q_718) b hR_a_13 (by omega) H.size) (cwV 1 hts g_X4_notePhis_X0_predCount rfl rfl rfl (by decide +kernel) ⟨(Nat.le_of_ble_eq_true rfl), (Nat.le_of_ble_eq_true rfl)⟩) ⟨fun a U g mk q => by obtain ⟨q0, q1, qP, qK, qD⟩ := q; exact ⟨q0, q1, qP, va_K.moved (u := U) (U := U.calling g mk a) (Vm.Alike.refl U.vm) qK, qD⟩, va_recv hKc hPc (ci := 0) (q0 := 0) rfl rfl, fun U hU hW => ⟨rfl, by rw [hU], by rw [hU]; exact hPc, va_K.moved hW.alike hKc, hDc.weaken (fun _ _ _ _ => trivial)⟩⟩ rfl rfl hl.1 rfl (lv_room (Nat.le_of_ble_eq_true rfl)) dX4_notePhis_45 ⟨(Nat.le_of_ble_eq_true rfl), (Nat.le_of_ble_eq_true rfl)⟩) hS (fun q _ h => hFc q h) hFc (fun r_2002 u t H1 locs ht hvm hw hB hz1 hk1 hS => ?_)
            obtain ⟨hP1, hK1, hD1⟩ := hB
            rw [ht] at hP1
            have hK1 := va_K.moved hvm.symm hK1
            obtain ⟨hP, hD⟩ := va_join (wr := [(h0, .inr (4, [.int (zI (z4_words)), v4_1, v4_2, v4_3, v4_4, .ref q_405, .ref q_406, v4_7])), (q_406, .inl (cA_406, 4800, .inr (.inl w41_406))), (q_714, .inl (cA_714, 600, .inl (fun j : Nat => zI (a_14 (j : Int))))), (q_715, .inl (cA_715, 301, .inl (fun j : Nat => zI (a_15 (j : Int))))), (q_716, .inl (cA_716, 1000, .inl (fun j : Nat => zI (a_16 (j : Int))))), (q_717, .inl (cA_717, 1000, .inl (fun j : Nat => zI (a_17 (j : Int))))), (q_718, .inl (cA_718, na1, .inr (.inl (fun j : Nat => lI (a_18 (j : Int)))))), (q_405, .inl (cA_405, 4800, .inr (.inl g0_2001)))]) (w1 := [(hc, .inr (0, [.int (zI (B1)), v_1, .int (zI (P1)), v_3, v_4, v_5, v_6, v_7, v_8, v_9, v_10, v_11, v_12, .ref q_713, .ref q_714, .ref q_715, .ref q_716, .ref q_717, .ref q_718])), (q_713, .inl (cA_713, 301, .inl (fun j : Nat => zI (a_13 (j : Int)))))]) hP hD [2, 3] [0, 1, 4, 5, 6, 7, 8, 9] rfl rfl (by decide) (by decide) hk1 hFc hP1 hD1
            have hK := (hK.sub (tys' := [(cA_406, .long), (cA_714, .int), (cA_715, .int), (cA_716, .int), (cA_717, .int), (cA_718, .long), (cA_405, .long)]) [0, 2, 3, 4, 5, 6, 7] rfl).app hK1
            generalize H1 = H at hP hS ⊢
            have hP : va_P (dC, dI) vwP [(h0, .inr (4, [.int (zI (z4_words)), v4_1, v4_2, v4_3, v4_4, .ref q_405, .ref q_406, v4_7])), (q_406, .inl (cA_406, 4800, .inr (.inl w41_406))), (q_714, .inl (cA_714, 600, .inl (fun j : Nat => zI (a_14 (j : Int))))), (q_715, .inl (cA_715, 301, .inl (fun j : Nat => zI (a_15 (j : Int))))), (q_716, .inl (cA_716, 1000, .inl (fun j : Nat => zI (a_16 (j : Int))))), (q_717, .inl (cA_717, 1000, .inl (fun j : Nat => zI (a_17 (j : Int))))), (q_718, .inl (cA_718, na1, .inr (.inl (fun j : Nat => lI (a_18 (j : Int)))))), (q_405, .inl (cA_405, 4800, .inr (.inl g0_2001))), (hc, .inr (0, [.int (zI (B1)), v_1, .int (zI (P1)), v_3, v_4, v_5, v_6, v_7, v_8, v_9, v_10, v_11, v_12, .ref q_713, .ref q_714, .ref q_715, .ref q_716, .ref q_717, .ref q_718])), (q_713, .inl (cA_713, 301, .inl (fun j : Nat => zI (a_13 (j : Int)))))] H := hP
            have hD : va_D A [(h0, .inr (4, [.int (zI (z4_words)), v4_1, v4_2, v4_3, v4_4, .ref q_405, .ref q_406, v4_7])), (q_406, .inl (cA_406, 4800, .inr (.inl w41_406))), (q_714, .inl (cA_714, 600, .inl (fun j : Nat => zI (a_14 (j : Int))))), (q_715, .inl (cA_715, 301, .inl (fun j : Nat => zI (a_15 (j : Int))))), (q_716, .inl (cA_716, 1000, .inl (fun j : Nat => zI (a_16 (j : Int))))), (q_717, .inl (cA_717, 1000, .inl (fun j : Nat => zI (a_17 (j : Int))))), (q_718, .inl (cA_718, na1, .inr (.inl (fun j : Nat => lI (a_18 (j : Int)))))), (q_405, .inl (cA_405, 4800, .inr (.inl g0_2001))), (hc, .inr (0, [.int (zI (B1)), v_1, .int (zI (P1)), v_3, v_4, v_5, v_6, v_7, v_8, v_9, v_10, v_11, v_12, .ref q_713, .ref q_714, .ref q_715, .ref q_716, .ref q_717, .ref q_718])), (q_713, .inl (cA_713, 301, .inl (fun j : Nat => zI (a_13 (j : Int)))))] := hD
            have hK : va_K (dC, dI) vwP [(cA_406, .long), (cA_714, .int), (cA_715, .int), (cA_716, .int), (cA_717, .int), (cA_718, .long), (cA_405, .long), (cA_713, .int)] s := hK
            refine W.widen (k := 0) (n := 0) (Nat.le_of_ble_eq_true rfl) (Nat.le_of_ble_eq_true rfl) ?_
            obtain rfl : r_2002 = (zI (a_13 (b + 1) - a_13 (b))) := hw
            have k4 := hR_a_13 (b + 1)
            have k5 := hR_a_13 (b)
            refine lv_icmp_ge (tgt := 112) hx hb dX4_notePhis_48 (by decide) (fun b48 => ?_) (fun b48 => ?_)
            · have yb48 : (a_13 (b + 1) - a_13 (b) : Int) ≤ (d41_4 : Int) := (zI_le (a := a_13 (b + 1) - a_13 (b)) (b := d41_4) (by omega) (by omega) (by omega) (by omega)).mp b48
              refine lv_iinc (v := zI (d7_3 + 1)) (lv' := [(3, .int (zI (d7_3 + 1))), (0, .ref h0), (1, .ref hc), (2, .int (zI (b))), (4, .int (zI (d41_4)))]) hx hb dX4_notePhis_112 hl (k := 3) rfl (zI_add (d7_3) (1)) (by decide) rfl (fun ls hl => ?_)
              refine lv_goto (tgt := 7) hx hb dX4_notePhis_115 (by decide) ?_
              have hP := hP.sub (ws' := [(h0, .inr (4, [.int (zI (z4_words)), v4_1, v4_2, v4_3, v4_4, .ref q_405, .ref q_406, v4_7])), (q_405, .inl (cA_405, 4800, .inr (.inl g0_2001))), (q_406, .inl (cA_406, 4800, .inr (.inl w41_406))), (hc, .inr (0, [.int (zI (B1)), v_1, .int (zI (P1)), v_3, v_4, v_5, v_6, v_7, v_8, v_9, v_10, v_11, v_12, .ref q_713, .ref q_714, .ref q_715, .ref q_716, .ref q_717, .ref q_718])), (q_713, .inl (cA_713, 301, .inl (fun j : Nat => zI (a_13 (j : Int))))), (q_714, .inl (cA_714, 600, .inl (fun j : Nat => zI (a_14 (j : Int))))), (q_715, .inl (cA_715, 301, .inl (fun j : Nat => zI (a_15 (j : Int))))), (q_716, .inl (cA_716, 1000, .inl (fun j : Nat => zI (a_16 (j : Int))))), (q_717, .inl (cA_717, 1000, .inl (fun j : Nat => zI (a_17 (j : Int))))), (q_718, .inl (cA_718, na1, .inr (.inl (fun j : Nat => lI (a_18 (j : Int))))))]) [0, 7, 1, 8, 9, 2, 3, 4, 5, 6] rfl
              have hD := hD.sub (ws' := [(h0, .inr (4, [.int (zI (z4_words)), v4_1, v4_2, v4_3, v4_4, .ref q_405, .ref q_406, v4_7])), (q_405, .inl (cA_405, 4800, .inr (.inl g0_2001))), (q_406, .inl (cA_406, 4800, .inr (.inl w41_406))), (hc, .inr (0, [.int (zI (B1)), v_1, .int (zI (P1)), v_3, v_4, v_5, v_6, v_7, v_8, v_9, v_10, v_11, v_12, .ref q_713, .ref q_714, .ref q_715, .ref q_716, .ref q_717, .ref q_718])), (q_713, .inl (cA_713, 301, .inl (fun j : Nat => zI (a_13 (j : Int))))), (q_714, .inl (cA_714, 600, .inl (fun j : Nat => zI (a_14 (j : Int))))), (q_715, .inl (cA_715, 301, .inl (fun j : Nat => zI (a_15 (j : Int))))), (q_716, .inl (cA_716, 1000, .inl (fun j : Nat => zI (a_16 (j : Int))))), (q_717, .inl (cA_717, 1000, .inl (fun j : Nat => zI (a_17 (j : Int))))), (q_718, .inl (cA_718, na1, .inr (.inl (fun j : Nat => lI (a_18 (j : Int))))))]) [0, 7, 1, 8, 9, 2, 3, 4, 5, 6] (by decide) rfl
              exact ih7 (d7_3 + 1) g0_2001 w41_406 ls H _ (by omega) (by omega) (lv_sub hl [1, 2, 3, 0] rfl) hP hD hS
            · have yb48 : ¬ (a_13 (b + 1) - a_13 (b) : Int) ≤ (d41_4 : Int) := fun q => b48 ((zI_le (a := a_13 (b + 1) - a_13 (b)) (b := d41_4) (by omega) (by omega) (by omega) (by omega)).mpr q)
              refine lv_aload_n hx hb dX4_notePhis_51 rfl (lv_at hl 1 rfl) ?_
              refine va_get (D := (dC, dI)) (ci := 0) (v := .ref q_718) (C := RX0) (T := TX0) (N := 19) hx hb hts mem_X4_notePhis_0 hown hK hP 8 rfl rfl 18 (by decide) (ow (k := 10) rfl) (fun _ h9 => h9) rfl dX4_notePhis_52 ?_
              refine lv_aload_n hx hb dX4_notePhis_55 rfl (lv_at hl 1 rfl) ?_
              refine va_get (D := (dC, dI)) (ci := 0) (v := .ref q_717) (C := RX0) (T := TX0) (N := 19) hx hb hts mem_X4_notePhis_0 hown hK hP 8 rfl rfl 17 (by decide) (ow (k := 11) rfl) (fun _ h9 => h9) rfl dX4_notePhis_56 ?_
              refine lv_iload_n hx hb dX4_notePhis_59 rfl (lv_at hl 3 rfl) ?_
              refine va_iald hx hb hK hP 5 4 rfl rfl (zI_in (a := d7_3) (n := 1000) (by omega) (by omega) (by decide)) dX4_notePhis_60 ?_
              refine lv_topi (fun z ez => ?_)
              obtain rfl : z = zI (a_17 (d7_3)) := ez.trans (zI_ld (a_17) (by omega) (by omega))
              have k6 := hR_a_17 (d7_3)
              refine lv_iload hx hb dX4_notePhis_61 (lv_at hl 4 rfl) ?_
              refine lv_iadd hx hb dX4_notePhis_63 ?_
              refine lv_topi (fun z ez => ?_)
              obtain rfl : z = zI ((a_17 (d7_3)) + d41_4) := ez.trans (zI_add (a_17 (d7_3)) (d41_4))
              have hq := hX_A (b) (d7_3) (by omega) (by omega) (by omega) (by omega)
              refine va_lald hx hb hK hP 6 5 rfl rfl (zI_in (a := (a_17 (d7_3)) + d41_4) (n := na1) (by omega) (by omega) (by omega)) dX4_notePhis_64 ?_
              refine lv_topl (fun z ez => ?_)
              obtain rfl : z = lI (a_18 ((a_17 (d7_3)) + d41_4)) := ez.trans (lI_ld (a_18) (by omega) (by omega))
              have k7 := hR_a_18 ((a_17 (d7_3)) + d41_4)
              refine lv_lstore (lv' := [(5, .long (lI (a_18 ((a_17 (d7_3)) + d41_4)))), (0, .ref h0), (1, .ref hc), (2, .int (zI (b))), (3, .int (zI (d7_3))), (4, .int (zI (d41_4)))]) hx hb dX4_notePhis_65 hl (by decide) rfl (fun ls hl => ?_)
              refine lv_lload hx hb dX4_notePhis_67 (lv_at hl 0 rfl) ?_
              have hPc := hP.sub (ws' := []) [] rfl
              have hDc := hD.sub (ws' := []) [] (by decide) rfl
              have hKc := hK.sub (tys' := []) [] rfl
              have hFc := va_free (wc := []) hD hS hA [] rfl
              refine va_calli (va_runSN (As := [.long (lI (a_18 ((a_17 (d7_3)) + d41_4)))]) (rest := []) ⟨hx, hb, hml, hown, hts⟩ (c_X11_isRegister l dC dI (a_18 ((a_17 (d7_3)) + d41_4)) (by omega) H.size) ⟨va_cnB 1 hts (goodIn_sub mem_X4_notePhis_4 gw_X11_isRegister) rfl rfl rfl hp1 (ow (k := 4) rfl) (by decide +kernel) ⟨(Nat.le_of_ble_eq_true rfl), (Nat.le_of_ble_eq_true rfl)⟩, (ow (k := 12) rfl), trivial⟩ ⟨fun a U g mk q => by obtain ⟨q0, q1, qP, qK, qD⟩ := q; exact ⟨q0, q1, qP, va_K.moved (u := U) (U := U.calling g mk a) (Vm.Alike.refl U.vm) qK, qD⟩, fun U hU hW => ⟨rfl, by rw [hU], by rw [hU]; exact hPc, va_K.moved hW.alike hKc, hDc.weaken (fun _ _ _ _ => trivial)⟩⟩ rfl rfl hl.1 rfl (lv_room (Nat.le_of_ble_eq_true rfl)) dX4_notePhis_69 ⟨(Nat.le_of_ble_eq_true rfl), (Nat.le_of_ble_eq_true rfl)⟩) hS (fun q _ h => hFc q h) hFc (fun r_2003 u t H1 locs ht hvm hw hB hz1 hk1 hS => ?_)
              obtain ⟨hP1, hK1, hD1⟩ := hB
              rw [ht] at hP1
              have hK1 := va_K.moved hvm.symm hK1
              obtain ⟨hP, hD⟩ := va_join (wr := [(h0, .inr (4, [.int (zI (z4_words)), v4_1, v4_2, v4_3, v4_4, .ref q_405, .ref q_406, v4_7])), (q_406, .inl (cA_406, 4800, .inr (.inl w41_406))), (q_714, .inl (cA_714, 600, .inl (fun j : Nat => zI (a_14 (j : Int))))), (q_715, .inl (cA_715, 301, .inl (fun j : Nat => zI (a_15 (j : Int))))), (q_716, .inl (cA_716, 1000, .inl (fun j : Nat => zI (a_16 (j : Int))))), (q_717, .inl (cA_717, 1000, .inl (fun j : Nat => zI (a_17 (j : Int))))), (q_718, .inl (cA_718, na1, .inr (.inl (fun j : Nat => lI (a_18 (j : Int)))))), (q_405, .inl (cA_405, 4800, .inr (.inl g0_2001))), (hc, .inr (0, [.int (zI (B1)), v_1, .int (zI (P1)), v_3, v_4, v_5, v_6, v_7, v_8, v_9, v_10, v_11, v_12, .ref q_713, .ref q_714, .ref q_715, .ref q_716, .ref q_717, .ref q_718])), (q_713, .inl (cA_713, 301, .inl (fun j : Nat => zI (a_13 (j : Int)))))]) (w1 := []) hP hD [] [0, 1, 2, 3, 4, 5, 6, 7, 8, 9] rfl rfl (by decide) (by decide) hk1 hFc hP1 hD1
              have hK := (hK.sub (tys' := [(cA_406, .long), (cA_714, .int), (cA_715, .int), (cA_716, .int), (cA_717, .int), (cA_718, .long), (cA_405, .long), (cA_713, .int)]) [0, 1, 2, 3, 4, 5, 6, 7] rfl).app hK1
              generalize H1 = H at hP hS ⊢
              have hP : va_P (dC, dI) vwP [(h0, .inr (4, [.int (zI (z4_words)), v4_1, v4_2, v4_3, v4_4, .ref q_405, .ref q_406, v4_7])), (q_406, .inl (cA_406, 4800, .inr (.inl w41_406))), (q_714, .inl (cA_714, 600, .inl (fun j : Nat => zI (a_14 (j : Int))))), (q_715, .inl (cA_715, 301, .inl (fun j : Nat => zI (a_15 (j : Int))))), (q_716, .inl (cA_716, 1000, .inl (fun j : Nat => zI (a_16 (j : Int))))), (q_717, .inl (cA_717, 1000, .inl (fun j : Nat => zI (a_17 (j : Int))))), (q_718, .inl (cA_718, na1, .inr (.inl (fun j : Nat => lI (a_18 (j : Int)))))), (q_405, .inl (cA_405, 4800, .inr (.inl g0_2001))), (hc, .inr (0, [.int (zI (B1)), v_1, .int (zI (P1)), v_3, v_4, v_5, v_6, v_7, v_8, v_9, v_10, v_11, v_12, .ref q_713, .ref q_714, .ref q_715, .ref q_716, .ref q_717, .ref q_718])), (q_713, .inl (cA_713, 301, .inl (fun j : Nat => zI (a_13 (j : Int)))))] H := hP
              have hD : va_D A [(h0, .inr (4, [.int (zI (z4_words)), v4_1, v4_2, v4_3, v4_4, .ref q_405, .ref q_406, v4_7])), (q_406, .inl (cA_406, 4800, .inr (.inl w41_406))), (q_714, .inl (cA_714, 600, .inl (fun j : Nat => zI (a_14 (j : Int))))), (q_715, .inl (cA_715, 301, .inl (fun j : Nat => zI (a_15 (j : Int))))), (q_716, .inl (cA_716, 1000, .inl (fun j : Nat => zI (a_16 (j : Int))))), (q_717, .inl (cA_717, 1000, .inl (fun j : Nat => zI (a_17 (j : Int))))), (q_718, .inl (cA_718, na1, .inr (.inl (fun j : Nat => lI (a_18 (j : Int)))))), (q_405, .inl (cA_405, 4800, .inr (.inl g0_2001))), (hc, .inr (0, [.int (zI (B1)), v_1, .int (zI (P1)), v_3, v_4, v_5, v_6, v_7, v_8, v_9, v_10, v_11, v_12, .ref q_713, .ref q_714, .ref q_715, .ref q_716, .ref q_717, .ref q_718])), (q_713, .inl (cA_713, 301, .inl (fun j : Nat => zI (a_13 (j : Int)))))] := hD
              have hK : va_K (dC, dI) vwP [(cA_406, .long), (cA_714, .int), (cA_715, .int), (cA_716, .int), (cA_717, .int), (cA_718, .long), (cA_405, .long), (cA_713, .int)] s := hK
              refine W.widen (k := 0) (n := 0) (Nat.le_of_ble_eq_true rfl) (Nat.le_of_ble_eq_true rfl) ?_
              obtain rfl : r_2003 = (zI (isR (a_18 ((a_17 (d7_3)) + d41_4)))) := hw
              have := isR_spec (a_18 ((a_17 (d7_3)) + d41_4))
              refine lv_if_eq (tgt := 106) hx hb dX4_notePhis_72 (by decide) (fun b72 => ?_) (fun b72 => ?_)
              · have yb72 : (isR (a_18 ((a_17 (d7_3)) + d41_4)) : Int) = (0 : Int) := (zI_eq (a := isR (a_18 ((a_17 (d7_3)) + d41_4))) (b := 0) (by omega) (by omega) (by omega) (by omega)).mp b72
                refine lv_iinc (v := zI (d41_4 + 1)) (lv' := [(4, .int (zI (d41_4 + 1))), (5, .long (lI (a_18 ((a_17 (d7_3)) + d41_4)))), (0, .ref h0), (1, .ref hc), (2, .int (zI (b))), (3, .int (zI (d7_3)))]) hx hb dX4_notePhis_106 hl (k := 5) rfl (zI_add (d41_4) (1)) (by decide) rfl (fun ls hl => ?_)
                refine lv_goto (tgt := 41) hx hb dX4_notePhis_109 (by decide) ?_
                have hP := hP.sub (ws' := [(h0, .inr (4, [.int (zI (z4_words)), v4_1, v4_2, v4_3, v4_4, .ref q_405, .ref q_406, v4_7])), (q_406, .inl (cA_406, 4800, .inr (.inl w41_406))), (hc, .inr (0, [.int (zI (B1)), v_1, .int (zI (P1)), v_3, v_4, v_5, v_6, v_7, v_8, v_9, v_10, v_11, v_12, .ref q_713, .ref q_714, .ref q_715, .ref q_716, .ref q_717, .ref q_718])), (q_713, .inl (cA_713, 301, .inl (fun j : Nat => zI (a_13 (j : Int))))), (q_714, .inl (cA_714, 600, .inl (fun j : Nat => zI (a_14 (j : Int))))), (q_715, .inl (cA_715, 301, .inl (fun j : Nat => zI (a_15 (j : Int))))), (q_716, .inl (cA_716, 1000, .inl (fun j : Nat => zI (a_16 (j : Int))))), (q_717, .inl (cA_717, 1000, .inl (fun j : Nat => zI (a_17 (j : Int))))), (q_718, .inl (cA_718, na1, .inr (.inl (fun j : Nat => lI (a_18 (j : Int)))))), (q_405, .inl (cA_405, 4800, .inr (.inl g0_2001)))]) [0, 1, 8, 9, 2, 3, 4, 5, 6, 7] rfl
                have hD := hD.sub (ws' := [(h0, .inr (4, [.int (zI (z4_words)), v4_1, v4_2, v4_3, v4_4, .ref q_405, .ref q_406, v4_7])), (q_406, .inl (cA_406, 4800, .inr (.inl w41_406))), (hc, .inr (0, [.int (zI (B1)), v_1, .int (zI (P1)), v_3, v_4, v_5, v_6, v_7, v_8, v_9, v_10, v_11, v_12, .ref q_713, .ref q_714, .ref q_715, .ref q_716, .ref q_717, .ref q_718])), (q_713, .inl (cA_713, 301, .inl (fun j : Nat => zI (a_13 (j : Int))))), (q_714, .inl (cA_714, 600, .inl (fun j : Nat => zI (a_14 (j : Int))))), (q_715, .inl (cA_715, 301, .inl (fun j : Nat => zI (a_15 (j : Int))))), (q_716, .inl (cA_716, 1000, .inl (fun j : Nat => zI (a_16 (j : Int))))), (q_717, .inl (cA_717, 1000, .inl (fun j : Nat => zI (a_17 (j : Int))))), (q_718, .inl (cA_718, na1, .inr (.inl (fun j : Nat => lI (a_18 (j : Int)))))), (q_405, .inl (cA_405, 4800, .inr (.inl g0_2001)))]) [0, 1, 8, 9, 2, 3, 4, 5, 6, 7] (by decide) rfl
                exact ih41 (d41_4 + 1) w41_406 ls H _ (by omega) (by omega) (lv_sub hl [2, 3, 4, 5, 0] rfl) hP hD hS
              · have yb72 : ¬ (isR (a_18 ((a_17 (d7_3)) + d41_4)) : Int) = (0 : Int) := fun q => b72 ((zI_eq (a := isR (a_18 ((a_17 (d7_3)) + d41_4))) (b := 0) (by omega) (by omega) (by omega) (by omega)).mpr q)
                refine lv_aload_n hx hb dX4_notePhis_75 rfl (lv_at hl 1 rfl) ?_
                refine va_get (D := (dC, dI)) (ci := 4) (v := .ref q_406) (C := RX4) (T := TX4) (N := 8) hx hb hts mem_X4_notePhis_1 hown hK hP 0 rfl rfl 6 (by decide) (ow (k := 13) rfl) (fun _ h9 => h9) rfl dX4_notePhis_76 ?_
                refine lv_aload_n hx hb dX4_notePhis_79 rfl (lv_at hl 2 rfl) ?_
                refine va_get (D := (dC, dI)) (ci := 0) (v := .ref q_714) (C := RX0) (T := TX0) (N := 19) hx hb hts mem_X4_notePhis_0 hown hK hP 8 rfl rfl 14 (by decide) (ow (k := 14) rfl) (fun _ h9 => h9) rfl dX4_notePhis_80 ?_
                refine lv_aload_n hx hb dX4_notePhis_83 rfl (lv_at hl 2 rfl) ?_
                refine va_get (D := (dC, dI)) (ci := 0) (v := .ref q_713) (C := RX0) (T := TX0) (N := 19) hx hb hts mem_X4_notePhis_0 hown hK hP 8 rfl rfl 13 (by decide) (ow (k := 15) rfl) (fun _ h9 => h9) rfl dX4_notePhis_84 ?_
                refine lv_iload_n hx hb dX4_notePhis_87 rfl (lv_at hl 3 rfl) ?_
                refine va_iald hx hb hK hP 9 7 rfl rfl (zI_in (a := b) (n := 301) (by omega) (by omega) (by decide)) dX4_notePhis_88 ?_
                refine lv_topi (fun z ez => ?_)
                obtain rfl : z = zI (a_13 (b)) := ez.trans (zI_ld (a_13) (by omega) (by omega))
                have k8 := hR_a_13 (b)
                refine lv_iload hx hb dX4_notePhis_89 (lv_at hl 5 rfl) ?_
                refine lv_iadd hx hb dX4_notePhis_91 ?_
                refine lv_topi (fun z ez => ?_)
                obtain rfl : z = zI ((a_13 (b)) + d41_4) := ez.trans (zI_add (a_13 (b)) (d41_4))
                refine va_iald hx hb hK hP 2 1 rfl rfl (zI_in (a := (a_13 (b)) + d41_4) (n := 600) (by omega) (by omega) (by decide)) dX4_notePhis_92 ?_
                refine lv_topi (fun z ez => ?_)
                obtain rfl : z = zI (a_14 ((a_13 (b)) + d41_4)) := ez.trans (zI_ld (a_14) (by omega) (by omega))
                have k9 := hR_a_14 ((a_13 (b)) + d41_4)
                refine lv_aload_n hx hb dX4_notePhis_93 rfl (lv_at hl 1 rfl) ?_
                refine va_get (D := (dC, dI)) (ci := 4) (v := .int (zI (z4_words))) (C := RX4) (T := TX4) (N := 8) hx hb hts mem_X4_notePhis_1 hown hK hP 0 rfl rfl 0 (by decide) (ow (k := 2) rfl) (fun _ h9 => h9) rfl dX4_notePhis_94 ?_
                refine lv_imul hx hb dX4_notePhis_97 ?_
                refine lv_topi (fun z ez => ?_)
                obtain rfl : z = zI ((a_14 ((a_13 (b)) + d41_4)) * z4_words) := ez.trans (zI_mul (a_14 ((a_13 (b)) + d41_4)) (z4_words))
                have km98 := mulb (a := a_14 ((a_13 (b)) + d41_4)) (b := z4_words) (by omega) (by omega) (by omega)
                refine lv_lload hx hb dX4_notePhis_98 (lv_at hl 0 rfl) ?_
                have hPc := hP.sub (ws' := []) [] rfl
                have hDc := hD.sub (ws' := []) [] (by decide) rfl
                have hKc := hK.sub (tys' := []) [] rfl
                have hFc := va_free (wc := []) hD hS hA [] rfl
                refine va_calli (va_runSN (As := [.long (lI (a_18 ((a_17 (d7_3)) + d41_4)))]) (rest := [.int (zI ((a_14 ((a_13 (b)) + d41_4)) * z4_words)), .ref q_406]) ⟨hx, hb, hml, hown, hts⟩ (c_X11_registerOf l dC dI (a_18 ((a_17 (d7_3)) + d41_4)) (by omega) H.size) ⟨va_cnB 1 hts (goodIn_sub mem_X4_notePhis_5 gw_X11_registerOf) rfl rfl rfl hp2 (ow (k := 4) rfl) (by decide +kernel) ⟨(Nat.le_of_ble_eq_true rfl), (Nat.le_of_ble_eq_true rfl)⟩, (ow (k := 16) rfl), trivial⟩ ⟨fun a U g mk q => by obtain ⟨q0, q1, qP, qK, qD⟩ := q; exact ⟨q0, q1, qP, va_K.moved (u := U) (U := U.calling g mk a) (Vm.Alike.refl U.vm) qK, qD⟩, fun U hU hW => ⟨rfl, by rw [hU], by rw [hU]; exact hPc, va_K.moved hW.alike hKc, hDc.weaken (fun _ _ _ _ => trivial)⟩⟩ rfl rfl hl.1 rfl (lv_room (Nat.le_of_ble_eq_true rfl)) dX4_notePhis_100 ⟨(Nat.le_of_ble_eq_true rfl), (Nat.le_of_ble_eq_true rfl)⟩) hS (fun q _ h => hFc q h) hFc (fun r_2004 u t H1 locs ht hvm hw hB hz1 hk1 hS => ?_)
                obtain ⟨hP1, hK1, hD1⟩ := hB
                rw [ht] at hP1
                have hK1 := va_K.moved hvm.symm hK1
                obtain ⟨hP, hD⟩ := va_join (wr := [(h0, .inr (4, [.int (zI (z4_words)), v4_1, v4_2, v4_3, v4_4, .ref q_405, .ref q_406, v4_7])), (q_406, .inl (cA_406, 4800, .inr (.inl w41_406))), (q_714, .inl (cA_714, 600, .inl (fun j : Nat => zI (a_14 (j : Int))))), (q_715, .inl (cA_715, 301, .inl (fun j : Nat => zI (a_15 (j : Int))))), (q_716, .inl (cA_716, 1000, .inl (fun j : Nat => zI (a_16 (j : Int))))), (q_717, .inl (cA_717, 1000, .inl (fun j : Nat => zI (a_17 (j : Int))))), (q_718, .inl (cA_718, na1, .inr (.inl (fun j : Nat => lI (a_18 (j : Int)))))), (q_405, .inl (cA_405, 4800, .inr (.inl g0_2001))), (hc, .inr (0, [.int (zI (B1)), v_1, .int (zI (P1)), v_3, v_4, v_5, v_6, v_7, v_8, v_9, v_10, v_11, v_12, .ref q_713, .ref q_714, .ref q_715, .ref q_716, .ref q_717, .ref q_718])), (q_713, .inl (cA_713, 301, .inl (fun j : Nat => zI (a_13 (j : Int)))))]) (w1 := []) hP hD [] [0, 1, 2, 3, 4, 5, 6, 7, 8, 9] rfl rfl (by decide) (by decide) hk1 hFc hP1 hD1
                have hK := (hK.sub (tys' := [(cA_406, .long), (cA_714, .int), (cA_715, .int), (cA_716, .int), (cA_717, .int), (cA_718, .long), (cA_405, .long), (cA_713, .int)]) [0, 1, 2, 3, 4, 5, 6, 7] rfl).app hK1
                generalize H1 = H at hP hS ⊢
                have hP : va_P (dC, dI) vwP [(h0, .inr (4, [.int (zI (z4_words)), v4_1, v4_2, v4_3, v4_4, .ref q_405, .ref q_406, v4_7])), (q_406, .inl (cA_406, 4800, .inr (.inl w41_406))), (q_714, .inl (cA_714, 600, .inl (fun j : Nat => zI (a_14 (j : Int))))), (q_715, .inl (cA_715, 301, .inl (fun j : Nat => zI (a_15 (j : Int))))), (q_716, .inl (cA_716, 1000, .inl (fun j : Nat => zI (a_16 (j : Int))))), (q_717, .inl (cA_717, 1000, .inl (fun j : Nat => zI (a_17 (j : Int))))), (q_718, .inl (cA_718, na1, .inr (.inl (fun j : Nat => lI (a_18 (j : Int)))))), (q_405, .inl (cA_405, 4800, .inr (.inl g0_2001))), (hc, .inr (0, [.int (zI (B1)), v_1, .int (zI (P1)), v_3, v_4, v_5, v_6, v_7, v_8, v_9, v_10, v_11, v_12, .ref q_713, .ref q_714, .ref q_715, .ref q_716, .ref q_717, .ref q_718])), (q_713, .inl (cA_713, 301, .inl (fun j : Nat => zI (a_13 (j : Int)))))] H := hP
                have hD : va_D A [(h0, .inr (4, [.int (zI (z4_words)), v4_1, v4_2, v4_3, v4_4, .ref q_405, .ref q_406, v4_7])), (q_406, .inl (cA_406, 4800, .inr (.inl w41_406))), (q_714, .inl (cA_714, 600, .inl (fun j : Nat => zI (a_14 (j : Int))))), (q_715, .inl (cA_715, 301, .inl (fun j : Nat => zI (a_15 (j : Int))))), (q_716, .inl (cA_716, 1000, .inl (fun j : Nat => zI (a_16 (j : Int))))), (q_717, .inl (cA_717, 1000, .inl (fun j : Nat => zI (a_17 (j : Int))))), (q_718, .inl (cA_718, na1, .inr (.inl (fun j : Nat => lI (a_18 (j : Int)))))), (q_405, .inl (cA_405, 4800, .inr (.inl g0_2001))), (hc, .inr (0, [.int (zI (B1)), v_1, .int (zI (P1)), v_3, v_4, v_5, v_6, v_7, v_8, v_9, v_10, v_11, v_12, .ref q_713, .ref q_714, .ref q_715, .ref q_716, .ref q_717, .ref q_718])), (q_713, .inl (cA_713, 301, .inl (fun j : Nat => zI (a_13 (j : Int)))))] := hD
                have hK : va_K (dC, dI) vwP [(cA_406, .long), (cA_714, .int), (cA_715, .int), (cA_716, .int), (cA_717, .int), (cA_718, .long), (cA_405, .long), (cA_713, .int)] s := hK
                refine W.widen (k := 0) (n := 0) (Nat.le_of_ble_eq_true rfl) (Nat.le_of_ble_eq_true rfl) ?_
                obtain rfl : r_2004 = (zI (a_18 ((a_17 (d7_3)) + d41_4) - 4294967296)) := hw
                have hPc := hP.sub (ws' := [(q_406, .inl (cA_406, 4800, .inr (.inl w41_406)))]) [1] rfl
                have hDc := hD.sub (ws' := [(q_406, .inl (cA_406, 4800, .inr (.inl w41_406)))]) [1] (by decide) rfl
                have hKc := hK.sub (tys' := [(cA_406, .long)]) [0] rfl
                have hFc := va_free (wc := [(q_406, .inl (cA_406, 4800, .inr (.inl w41_406)))]) hD hS hA [1] rfl
                refine va_callv (va_runSN (As := [.ref q_406, .int (zI ((a_14 ((a_13 (b)) + d41_4)) * z4_words)), .int (zI (a_18 ((a_17 (d7_3)) + d41_4) - 4294967296))]) (rest := []) ⟨hx, hb, hml, hown, hts⟩ (c_X11_putBit l dC dI q_406 cA_406 4800 w41_406 ((a_14 ((a_13 (b)) + d41_4)) * z4_words) (a_18 ((a_17 (d7_3)) + d41_4) - 4294967296) (by omega) H.size) ⟨va_cnB 3 hts (goodIn_sub mem_X4_notePhis_2 gw_X11_putBit) rfl rfl rfl hp0 (ow (k := 4) rfl) (by decide +kernel) ⟨(Nat.le_of_ble_eq_true rfl), (Nat.le_of_ble_eq_true rfl)⟩, (ow (k := 5) rfl), trivial⟩ ⟨fun a U g mk q => by obtain ⟨q0, q1, qP, qK, qD⟩ := q; exact ⟨q0, q1, qP, va_K.moved (u := U) (U := U.calling g mk a) (Vm.Alike.refl U.vm) qK, qD⟩, fun U hU hW => ⟨rfl, by rw [hU], by rw [hU]; exact hPc, va_K.moved hW.alike hKc, hDc.weaken (fun _ _ _ _ => trivial)⟩⟩ rfl rfl hl.1 rfl (lv_room (Nat.le_of_ble_eq_true rfl)) dX4_notePhis_103 ⟨(Nat.le_of_ble_eq_true rfl), (Nat.le_of_ble_eq_true rfl)⟩) hS (fun q _ h => hFc q h) hFc (fun  u t H1 locs ht hvm hw hB hz1 hk1 hS => ?_)
                obtain ⟨g0_2005, hP1, hK1, hD1⟩ := hB
                rw [ht] at hP1
                have hK1 := va_K.moved hvm.symm hK1
                obtain ⟨hP, hD⟩ := va_join (wr := [(h0, .inr (4, [.int (zI (z4_words)), v4_1, v4_2, v4_3, v4_4, .ref q_405, .ref q_406, v4_7])), (q_714, .inl (cA_714, 600, .inl (fun j : Nat => zI (a_14 (j : Int))))), (q_715, .inl (cA_715, 301, .inl (fun j : Nat => zI (a_15 (j : Int))))), (q_716, .inl (cA_716, 1000, .inl (fun j : Nat => zI (a_16 (j : Int))))), (q_717, .inl (cA_717, 1000, .inl (fun j : Nat => zI (a_17 (j : Int))))), (q_718, .inl (cA_718, na1, .inr (.inl (fun j : Nat => lI (a_18 (j : Int)))))), (q_405, .inl (cA_405, 4800, .inr (.inl g0_2001))), (hc, .inr (0, [.int (zI (B1)), v_1, .int (zI (P1)), v_3, v_4, v_5, v_6, v_7, v_8, v_9, v_10, v_11, v_12, .ref q_713, .ref q_714, .ref q_715, .ref q_716, .ref q_717, .ref q_718])), (q_713, .inl (cA_713, 301, .inl (fun j : Nat => zI (a_13 (j : Int)))))]) (w1 := [(q_406, .inl (cA_406, 4800, .inr (.inl g0_2005)))]) hP hD [1] [0, 2, 3, 4, 5, 6, 7, 8, 9] rfl rfl (by decide) (by decide) hk1 hFc hP1 hD1
                have hK := (hK.sub (tys' := [(cA_714, .int), (cA_715, .int), (cA_716, .int), (cA_717, .int), (cA_718, .long), (cA_405, .long), (cA_713, .int)]) [1, 2, 3, 4, 5, 6, 7] rfl).app hK1
                generalize H1 = H at hP hS ⊢
                have hP : va_P (dC, dI) vwP [(h0, .inr (4, [.int (zI (z4_words)), v4_1, v4_2, v4_3, v4_4, .ref q_405, .ref q_406, v4_7])), (q_714, .inl (cA_714, 600, .inl (fun j : Nat => zI (a_14 (j : Int))))), (q_715, .inl (cA_715, 301, .inl (fun j : Nat => zI (a_15 (j : Int))))), (q_716, .inl (cA_716, 1000, .inl (fun j : Nat => zI (a_16 (j : Int))))), (q_717, .inl (cA_717, 1000, .inl (fun j : Nat => zI (a_17 (j : Int))))), (q_718, .inl (cA_718, na1, .inr (.inl (fun j : Nat => lI (a_18 (j : Int)))))), (q_405, .inl (cA_405, 4800, .inr (.inl g0_2001))), (hc, .inr (0, [.int (zI (B1)), v_1, .int (zI (P1)), v_3, v_4, v_5, v_6, v_7, v_8, v_9, v_10, v_11, v_12, .ref q_713, .ref q_714, .ref q_715, .ref q_716, .ref q_717, .ref q_718])), (q_713, .inl (cA_713, 301, .inl (fun j : Nat => zI (a_13 (j : Int))))), (q_406, .inl (cA_406, 4800, .inr (.inl g0_2005)))] H := hP
                have hD : va_D A [(h0, .inr (4, [.int (zI (z4_words)), v4_1, v4_2, v4_3, v4_4, .ref q_405, .ref q_406, v4_7])), (q_714, .inl (cA_714, 600, .inl (fun j : Nat => zI (a_14 (j : Int))))), (q_715, .inl (cA_715, 301, .inl (fun j : Nat => zI (a_15 (j : Int))))), (q_716, .inl (cA_716, 1000, .inl (fun j : Nat => zI (a_16 (j : Int))))), (q_717, .inl (cA_717, 1000, .inl (fun j : Nat => zI (a_17 (j : Int))))), (q_718, .inl (cA_718, na1, .inr (.inl (fun j : Nat => lI (a_18 (j : Int)))))), (q_405, .inl (cA_405, 4800, .inr (.inl g0_2001))), (hc, .inr (0, [.int (zI (B1)), v_1, .int (zI (P1)), v_3, v_4, v_5, v_6, v_7, v_8, v_9, v_10, v_11, v_12, .ref q_713, .ref q_714, .ref q_715, .ref q_716, .ref q_717, .ref q_718])), (q_713, .inl (cA_713, 301, .inl (fun j : Nat => zI (a_13 (j : Int))))), (q_406, .inl (cA_406, 4800, .inr (.inl g0_2005)))] := hD
                have hK : va_K (dC, dI) vwP [(cA_714, .int), (cA_715, .int), (cA_716, .int), (cA_717, .int), (cA_718, .long), (cA_405, .long), (cA_713, .int), (cA_406, .long)] s := hK
                refine W.widen (k := 0) (n := 0) (Nat.le_of_ble_eq_true rfl) (Nat.le_of_ble_eq_true rfl) ?_
                refine lv_iinc (v := zI (d41_4 + 1)) (lv' := [(4, .int (zI (d41_4 + 1))), (5, .long (lI (a_18 ((a_17 (d7_3)) + d41_4)))), (0, .ref h0), (1, .ref hc), (2, .int (zI (b))), (3, .int (zI (d7_3)))]) hx hb dX4_notePhis_106 hl (k := 5) rfl (zI_add (d41_4) (1)) (by decide) rfl (fun ls hl => ?_)
                refine lv_goto (tgt := 41) hx hb dX4_notePhis_109 (by decide) ?_
                have hP := hP.sub (ws' := [(h0, .inr (4, [.int (zI (z4_words)), v4_1, v4_2, v4_3, v4_4, .ref q_405, .ref q_406, v4_7])), (q_406, .inl (cA_406, 4800, .inr (.inl g0_2005))), (hc, .inr (0, [.int (zI (B1)), v_1, .int (zI (P1)), v_3, v_4, v_5, v_6, v_7, v_8, v_9, v_10, v_11, v_12, .ref q_713, .ref q_714, .ref q_715, .ref q_716, .ref q_717, .ref q_718])), (q_713, .inl (cA_713, 301, .inl (fun j : Nat => zI (a_13 (j : Int))))), (q_714, .inl (cA_714, 600, .inl (fun j : Nat => zI (a_14 (j : Int))))), (q_715, .inl (cA_715, 301, .inl (fun j : Nat => zI (a_15 (j : Int))))), (q_716, .inl (cA_716, 1000, .inl (fun j : Nat => zI (a_16 (j : Int))))), (q_717, .inl (cA_717, 1000, .inl (fun j : Nat => zI (a_17 (j : Int))))), (q_718, .inl (cA_718, na1, .inr (.inl (fun j : Nat => lI (a_18 (j : Int)))))), (q_405, .inl (cA_405, 4800, .inr (.inl g0_2001)))]) [0, 9, 7, 8, 1, 2, 3, 4, 5, 6] rfl
                have hD := hD.sub (ws' := [(h0, .inr (4, [.int (zI (z4_words)), v4_1, v4_2, v4_3, v4_4, .ref q_405, .ref q_406, v4_7])), (q_406, .inl (cA_406, 4800, .inr (.inl g0_2005))), (hc, .inr (0, [.int (zI (B1)), v_1, .int (zI (P1)), v_3, v_4, v_5, v_6, v_7, v_8, v_9, v_10, v_11, v_12, .ref q_713, .ref q_714, .ref q_715, .ref q_716, .ref q_717, .ref q_718])), (q_713, .inl (cA_713, 301, .inl (fun j : Nat => zI (a_13 (j : Int))))), (q_714, .inl (cA_714, 600, .inl (fun j : Nat => zI (a_14 (j : Int))))), (q_715, .inl (cA_715, 301, .inl (fun j : Nat => zI (a_15 (j : Int))))), (q_716, .inl (cA_716, 1000, .inl (fun j : Nat => zI (a_16 (j : Int))))), (q_717, .inl (cA_717, 1000, .inl (fun j : Nat => zI (a_17 (j : Int))))), (q_718, .inl (cA_718, na1, .inr (.inl (fun j : Nat => lI (a_18 (j : Int)))))), (q_405, .inl (cA_405, 4800, .inr (.inl g0_2001)))]) [0, 9, 7, 8, 1, 2, 3, 4, 5, 6] (by decide) rfl
                exact ih41 (d41_4 + 1) g0_2005 ls H _ (by omega) (by omega) (lv_sub hl [2, 3, 4, 5, 0] rfl) hP hD hS
        exact key41 (((a_13 (b + 1) - a_13 (b)) - (0) : Int).toNat + 1) 0 w7_406 ls H _ (by omega) (by omega) (lv_sub hl [1, 2, 3, 4, 0] rfl) hP hD hS
  exact key7 (((a_15 (b + 1)) - (a_15 (b)) : Int).toNat + 1) (a_15 (b)) fa4_phiSets fa4_phiUses ls H _ (by omega) (by omega) (lv_sub hl [1, 2, 3, 0] rfl) hP hD hS
theorem dX4_flowBack_0 : decode cX4_flowBack 0 = .ok (.iconst 0, 1) := by decide +kernel
theorem dX4_flowBack_1 : decode cX4_flowBack 1 = .ok (.istore_n 3, 1) := by decide +kernel
theorem dX4_flowBack_2 : decode cX4_flowBack 2 = .ok (.iconst 0, 1) := by decide +kernel
theorem dX4_flowBack_3 : decode cX4_flowBack 3 = .ok (.istore 4, 2) := by decide +kernel
theorem dX4_flowBack_5 : decode cX4_flowBack 5 = .ok (.iload 4, 2) := by decide +kernel
theorem dX4_flowBack_7 : decode cX4_flowBack 7 = .ok (.aload_n 0, 1) := by decide +kernel
theorem dX4_flowBack_8 : decode cX4_flowBack 8 = .ok (.getfield 9, 3) := by decide +kernel
theorem dX4_flowBack_11 : decode cX4_flowBack 11 = .ok (.if_icmp .ge 146, 3) := by decide +kernel
theorem dX4_flowBack_157 : decode cX4_flowBack 157 = .ok (.iload_n 3, 1) := by decide +kernel
theorem dX4_flowBack_158 : decode cX4_flowBack 158 = .ok (.ireturn, 1) := by decide +kernel
theorem dX4_flowBack_14 : decode cX4_flowBack 14 = .ok (.iload_n 2, 1) := by decide +kernel
theorem dX4_flowBack_15 : decode cX4_flowBack 15 = .ok (.aload_n 0, 1) := by decide +kernel
theorem dX4_flowBack_16 : decode cX4_flowBack 16 = .ok (.getfield 9, 3) := by decide +kernel
theorem dX4_flowBack_19 : decode cX4_flowBack 19 = .ok (.imul, 1) := by decide +kernel
theorem dX4_flowBack_20 : decode cX4_flowBack 20 = .ok (.iload 4, 2) := by decide +kernel
theorem dX4_flowBack_22 : decode cX4_flowBack 22 = .ok (.iadd, 1) := by decide +kernel
theorem dX4_flowBack_23 : decode cX4_flowBack 23 = .ok (.istore 5, 2) := by decide +kernel
theorem dX4_flowBack_25 : decode cX4_flowBack 25 = .ok (.aload_n 0, 1) := by decide +kernel
theorem dX4_flowBack_26 : decode cX4_flowBack 26 = .ok (.getfield 31, 3) := by decide +kernel
theorem dX4_flowBack_29 : decode cX4_flowBack 29 = .ok (.iload 5, 2) := by decide +kernel
theorem dX4_flowBack_31 : decode cX4_flowBack 31 = .ok (.laload, 1) := by decide +kernel
theorem dX4_flowBack_32 : decode cX4_flowBack 32 = .ok (.lstore 6, 2) := by decide +kernel
theorem dX4_flowBack_34 : decode cX4_flowBack 34 = .ok (.iconst 0, 1) := by decide +kernel
theorem dX4_flowBack_35 : decode cX4_flowBack 35 = .ok (.istore 8, 2) := by decide +kernel
theorem dX4_flowBack_37 : decode cX4_flowBack 37 = .ok (.iload 8, 2) := by decide +kernel
theorem dX4_flowBack_39 : decode cX4_flowBack 39 = .ok (.aload_n 1, 1) := by decide +kernel
theorem dX4_flowBack_40 : decode cX4_flowBack 40 = .ok (.iload_n 2, 1) := by decide +kernel
theorem dX4_flowBack_41 : decode cX4_flowBack 41 = .ok (.invokevirtual 124, 3) := by decide +kernel
theorem dX4_flowBack_44 : decode cX4_flowBack 44 = .ok (.if_icmp .ge 50, 3) := by decide +kernel
theorem dX4_flowBack_94 : decode cX4_flowBack 94 = .ok (.aload_n 0, 1) := by decide +kernel
theorem dX4_flowBack_95 : decode cX4_flowBack 95 = .ok (.getfield 19, 3) := by decide +kernel
theorem dX4_flowBack_98 : decode cX4_flowBack 98 = .ok (.iload 5, 2) := by decide +kernel
theorem dX4_flowBack_100 : decode cX4_flowBack 100 = .ok (.lload 6, 2) := by decide +kernel
theorem dX4_flowBack_102 : decode cX4_flowBack 102 = .ok (.lastore, 1) := by decide +kernel
theorem dX4_flowBack_103 : decode cX4_flowBack 103 = .ok (.aload_n 0, 1) := by decide +kernel
theorem dX4_flowBack_104 : decode cX4_flowBack 104 = .ok (.getfield 25, 3) := by decide +kernel
theorem dX4_flowBack_107 : decode cX4_flowBack 107 = .ok (.iload 5, 2) := by decide +kernel
theorem dX4_flowBack_109 : decode cX4_flowBack 109 = .ok (.laload, 1) := by decide +kernel
theorem dX4_flowBack_110 : decode cX4_flowBack 110 = .ok (.lload 6, 2) := by decide +kernel
theorem dX4_flowBack_112 : decode cX4_flowBack 112 = .ok (.aload_n 0, 1) := by decide +kernel
theorem dX4_flowBack_113 : decode cX4_flowBack 113 = .ok (.getfield 22, 3) := by decide +kernel
theorem dX4_flowBack_116 : decode cX4_flowBack 116 = .ok (.iload 5, 2) := by decide +kernel
theorem dX4_flowBack_118 : decode cX4_flowBack 118 = .ok (.laload, 1) := by decide +kernel
theorem dX4_flowBack_119 : decode cX4_flowBack 119 = .ok (.ldc2_w 131, 3) := by decide +kernel
theorem dX4_flowBack_122 : decode cX4_flowBack 122 = .ok (.lxor, 1) := by decide +kernel
theorem dX4_flowBack_123 : decode cX4_flowBack 123 = .ok (.land, 1) := by decide +kernel
theorem dX4_flowBack_124 : decode cX4_flowBack 124 = .ok (.lor, 1) := by decide +kernel
theorem dX4_flowBack_125 : decode cX4_flowBack 125 = .ok (.lstore 8, 2) := by decide +kernel
theorem dX4_flowBack_127 : decode cX4_flowBack 127 = .ok (.lload 8, 2) := by decide +kernel
theorem dX4_flowBack_129 : decode cX4_flowBack 129 = .ok (.aload_n 0, 1) := by decide +kernel
theorem dX4_flowBack_130 : decode cX4_flowBack 130 = .ok (.getfield 15, 3) := by decide +kernel
theorem dX4_flowBack_133 : decode cX4_flowBack 133 = .ok (.iload 5, 2) := by decide +kernel
theorem dX4_flowBack_135 : decode cX4_flowBack 135 = .ok (.laload, 1) := by decide +kernel
theorem dX4_flowBack_136 : decode cX4_flowBack 136 = .ok (.lcmp, 1) := by decide +kernel
theorem dX4_flowBack_137 : decode cX4_flowBack 137 = .ok (.ifCond .eq 14, 3) := by decide +kernel
theorem dX4_flowBack_151 : decode cX4_flowBack 151 = .ok (.iinc 4 1, 3) := by decide +kernel
theorem dX4_flowBack_154 : decode cX4_flowBack 154 = .ok (.goto (-149), 3) := by decide +kernel
theorem dX4_flowBack_140 : decode cX4_flowBack 140 = .ok (.aload_n 0, 1) := by decide +kernel
theorem dX4_flowBack_141 : decode cX4_flowBack 141 = .ok (.getfield 15, 3) := by decide +kernel
theorem dX4_flowBack_144 : decode cX4_flowBack 144 = .ok (.iload 5, 2) := by decide +kernel
theorem dX4_flowBack_146 : decode cX4_flowBack 146 = .ok (.lload 8, 2) := by decide +kernel
theorem dX4_flowBack_148 : decode cX4_flowBack 148 = .ok (.lastore, 1) := by decide +kernel
theorem dX4_flowBack_149 : decode cX4_flowBack 149 = .ok (.iconst 1, 1) := by decide +kernel
theorem dX4_flowBack_150 : decode cX4_flowBack 150 = .ok (.istore_n 3, 1) := by decide +kernel
theorem dX4_flowBack_47 : decode cX4_flowBack 47 = .ok (.aload_n 1, 1) := by decide +kernel
theorem dX4_flowBack_48 : decode cX4_flowBack 48 = .ok (.iload_n 2, 1) := by decide +kernel
theorem dX4_flowBack_49 : decode cX4_flowBack 49 = .ok (.iload 8, 2) := by decide +kernel
theorem dX4_flowBack_51 : decode cX4_flowBack 51 = .ok (.invokevirtual 127, 3) := by decide +kernel
theorem dX4_flowBack_54 : decode cX4_flowBack 54 = .ok (.aload_n 0, 1) := by decide +kernel
theorem dX4_flowBack_55 : decode cX4_flowBack 55 = .ok (.getfield 9, 3) := by decide +kernel
theorem dX4_flowBack_58 : decode cX4_flowBack 58 = .ok (.imul, 1) := by decide +kernel
theorem dX4_flowBack_59 : decode cX4_flowBack 59 = .ok (.iload 4, 2) := by decide +kernel
theorem dX4_flowBack_61 : decode cX4_flowBack 61 = .ok (.iadd, 1) := by decide +kernel
theorem dX4_flowBack_62 : decode cX4_flowBack 62 = .ok (.istore 9, 2) := by decide +kernel
theorem dX4_flowBack_64 : decode cX4_flowBack 64 = .ok (.lload 6, 2) := by decide +kernel
theorem dX4_flowBack_66 : decode cX4_flowBack 66 = .ok (.aload_n 0, 1) := by decide +kernel
theorem dX4_flowBack_67 : decode cX4_flowBack 67 = .ok (.getfield 15, 3) := by decide +kernel
theorem dX4_flowBack_70 : decode cX4_flowBack 70 = .ok (.iload 9, 2) := by decide +kernel
theorem dX4_flowBack_72 : decode cX4_flowBack 72 = .ok (.laload, 1) := by decide +kernel
theorem dX4_flowBack_73 : decode cX4_flowBack 73 = .ok (.aload_n 0, 1) := by decide +kernel
theorem dX4_flowBack_74 : decode cX4_flowBack 74 = .ok (.getfield 28, 3) := by decide +kernel
theorem dX4_flowBack_77 : decode cX4_flowBack 77 = .ok (.iload 9, 2) := by decide +kernel
theorem dX4_flowBack_79 : decode cX4_flowBack 79 = .ok (.laload, 1) := by decide +kernel
theorem dX4_flowBack_80 : decode cX4_flowBack 80 = .ok (.ldc2_w 131, 3) := by decide +kernel
theorem dX4_flowBack_83 : decode cX4_flowBack 83 = .ok (.lxor, 1) := by decide +kernel
theorem dX4_flowBack_84 : decode cX4_flowBack 84 = .ok (.land, 1) := by decide +kernel
theorem dX4_flowBack_85 : decode cX4_flowBack 85 = .ok (.lor, 1) := by decide +kernel
theorem dX4_flowBack_86 : decode cX4_flowBack 86 = .ok (.lstore 6, 2) := by decide +kernel
theorem dX4_flowBack_88 : decode cX4_flowBack 88 = .ok (.iinc 8 1, 3) := by decide +kernel
theorem dX4_flowBack_91 : decode cX4_flowBack 91 = .ok (.goto (-54), 3) := by decide +kernel
def o_X4_flowBack : List Cond := [.fieldLink RX4 9 "SsaForge$Live" "words" "I", .fieldLink RX4 31 "SsaForge$Live" "phiUses" "[J", .methodLink RX4 124 yX0_goalCount, .instanceMethod yX0_goalCount, .selects RX0 yX0_goalCount yX0_goalCount, .initialized RX0, .fieldLink RX4 19 "SsaForge$Live" "finish" "[J", .fieldLink RX4 25 "SsaForge$Live" "uses" "[J", .fieldLink RX4 22 "SsaForge$Live" "sets" "[J", .constantLong RX4 131 (-1), .fieldLink RX4 15 "SsaForge$Live" "start" "[J", .methodLink RX4 127 yX0_goal, .instanceMethod yX0_goal, .selects RX0 yX0_goal yX0_goal, .fieldLink RX4 28 "SsaForge$Live" "phiSets" "[J"]
def v_X4_flowBack : List Cond := .code yX4_flowBack cX4_flowBack 10 (some .boolean) :: (o_X4_flowBack ++ (wsX40 ++ (v_X0_goalCount ++ (v_X0_goal ++ []))))
theorem mow_X4_flowBack : ∀ w ∈ o_X4_flowBack, w ∈ v_X4_flowBack := fun _ h => List.mem_cons_of_mem _ (List.mem_append_left _ h)
theorem mem_X4_flowBack_0 : ∀ w ∈ wsX40, w ∈ v_X4_flowBack := fun _ h => List.mem_cons_of_mem _ (List.mem_append_right _ (List.mem_append_left _ h))
theorem mem_X4_flowBack_1 : ∀ w ∈ v_X0_goalCount, w ∈ v_X4_flowBack := fun _ h => List.mem_cons_of_mem _ (List.mem_append_right _ (List.mem_append_right _ (List.mem_append_left _ h)))
theorem mem_X4_flowBack_2 : ∀ w ∈ v_X0_goal, w ∈ v_X4_flowBack := fun _ h => List.mem_cons_of_mem _ (List.mem_append_right _ (List.mem_append_right _ (List.mem_append_right _ (List.mem_append_left _ h))))
set_option maxRecDepth 20000 in
theorem gw_X4_flowBack : v_X4_flowBack.all goodWord = true := by decide +kernel
set_option maxRecDepth 20000 in
theorem g_X4_flowBack_X0_goalCount : GoodIn v_X4_flowBack (wsV RX4 124 RX0 yX0_goalCount v_X0_goalCount) := goodIn_app (goodIn_sub (fun w h => mow_X4_flowBack w (by revert w h; decide +kernel)) (by decide +kernel)) (goodIn_sub mem_X4_flowBack_1 gw_X0_goalCount)
set_option maxRecDepth 20000 in
theorem g_X4_flowBack_X0_goal : GoodIn v_X4_flowBack (wsV RX4 127 RX0 yX0_goal v_X0_goal) := goodIn_app (goodIn_sub (fun w h => mow_X4_flowBack w (by revert w h; decide +kernel)) (by decide +kernel)) (goodIn_sub mem_X4_flowBack_2 gw_X0_goal)
set_option maxHeartbeats 4000000 in
set_option maxRecDepth 100000 in
theorem c_X4_flowBack (l : Launch) (dC : Nat → ClassId) (dI : Nat → Nat → Nat) (h0 : Nat) (z4_words : Int) (q_401 : Nat) (cA_401 : ClassId) (fa4_start : Nat → Int64) (q_402 : Nat) (cA_402 : ClassId) (fa4_finish : Nat → Int64) (q_403 : Nat) (cA_403 : ClassId) (fa4_sets : Nat → Int64) (q_404 : Nat) (cA_404 : ClassId) (fa4_uses : Nat → Int64) (q_405 : Nat) (cA_405 : ClassId) (fa4_phiSets : Nat → Int64) (q_406 : Nat) (cA_406 : ClassId) (fa4_phiUses : Nat → Int64) (v4_7 : Value) (hc : Nat) (B1 : Int) (v_1 : Value) (v_2 : Value) (v_3 : Value) (v_4 : Value) (v_5 : Value) (v_6 : Value) (v_7 : Value) (v_8 : Value) (q_709 : Nat) (cA_709 : ClassId) (a_9 : Int → Int) (v_10 : Value) (q_711 : Nat) (cA_711 : ClassId) (a_11 : Int → Int) (q_712 : Nat) (cA_712 : ClassId) (a_12 : Int → Int) (v_13 : Value) (v_14 : Value) (v_15 : Value) (v_16 : Value) (v_17 : Value) (v_18 : Value) (b : Int) (hNz4_words : 0 ≤ z4_words ∧ z4_words ≤ 16) (hNB1 : 0 ≤ B1 ∧ B1 ≤ 300) (hR_a_9 : ∀ j : Int, 0 ≤ a_9 j ∧ a_9 j ≤ 2) (hR_a_11 : ∀ j : Int, -1 ≤ a_11 j ∧ a_11 j ≤ 299) (hR_a_12 : ∀ j : Int, -1 ≤ a_12 j ∧ a_12 j ≤ 299) (hNb : 0 ≤ b ∧ b < B1) (hX_G : ∀ b : Int, 0 ≤ b → b < B1 → ¬ a_9 b = 2 → (0 ≤ a_11 b ∧ a_11 b < B1) ∧ (0 ≤ a_12 b ∧ a_12 b < B1)) (sz : Nat) : Met l yX4_flowBack v_X4_flowBack ({ frames := 1, cells := 0, slots := 0, locals := 22 }) (va_Pc [.ref h0, .ref hc, .int (zI (b))] (fun U => U.heap.size = sz ∧ va_P (dC, dI) vwP [(h0, .inr (4, [.int (zI (z4_words)), .ref q_401, .ref q_402, .ref q_403, .ref q_404, .ref q_405, .ref q_406, v4_7])), (q_401, .inl (cA_401, 4800, .inr (.inl fa4_start))), (q_402, .inl (cA_402, 4800, .inr (.inl fa4_finish))), (q_403, .inl (cA_403, 4800, .inr (.inl fa4_sets))), (q_404, .inl (cA_404, 4800, .inr (.inl fa4_uses))), (q_405, .inl (cA_405, 4800, .inr (.inl fa4_phiSets))), (q_406, .inl (cA_406, 4800, .inr (.inl fa4_phiUses))), (hc, .inr (0, [.int (zI (B1)), v_1, v_2, v_3, v_4, v_5, v_6, v_7, v_8, .ref q_709, v_10, .ref q_711, .ref q_712, v_13, v_14, v_15, v_16, v_17, v_18])), (q_709, .inl (cA_709, 300, .inl (fun j : Nat => zI (a_9 (j : Int))))), (q_711, .inl (cA_711, 300, .inl (fun j : Nat => zI (a_11 (j : Int))))), (q_712, .inl (cA_712, 300, .inl (fun j : Nat => zI (a_12 (j : Int)))))] U.heap ∧ va_K (dC, dI) vwP [(cA_401, .long), (cA_402, .long), (cA_403, .long), (cA_404, .long), (cA_405, .long), (cA_406, .long), (cA_709, .int), (cA_711, .int), (cA_712, .int)] U ∧ va_D (fun _ => True) [(h0, .inr (4, [.int (zI (z4_words)), .ref q_401, .ref q_402, .ref q_403, .ref q_404, .ref q_405, .ref q_406, v4_7])), (q_401, .inl (cA_401, 4800, .inr (.inl fa4_start))), (q_402, .inl (cA_402, 4800, .inr (.inl fa4_finish))), (q_403, .inl (cA_403, 4800, .inr (.inl fa4_sets))), (q_404, .inl (cA_404, 4800, .inr (.inl fa4_uses))), (q_405, .inl (cA_405, 4800, .inr (.inl fa4_phiSets))), (q_406, .inl (cA_406, 4800, .inr (.inl fa4_phiUses))), (hc, .inr (0, [.int (zI (B1)), v_1, v_2, v_3, v_4, v_5, v_6, v_7, v_8, .ref q_709, v_10, .ref q_711, .ref q_712, v_13, v_14, v_15, v_16, v_17, v_18])), (q_709, .inl (cA_709, 300, .inl (fun j : Nat => zI (a_9 (j : Int))))), (q_711, .inl (cA_711, 300, .inl (fun j : Nat => zI (a_11 (j : Int))))), (q_712, .inl (cA_712, 300, .inl (fun j : Nat => zI (a_12 (j : Int)))))])) (va_Qi (fun (r : Int32) (_ : Unit) => ∃ z : Int, r = zI z ∧ (0 ≤ z ∧ z ≤ 1)) (fun (_ : Unit) (t : State) => ∃ (g0_9 : Nat → Int64) (g1_9 : Nat → Int64), va_P (dC, dI) vwP [(h0, .inr (4, [.int (zI (z4_words)), .ref q_401, .ref q_402, .ref q_403, .ref q_404, .ref q_405, .ref q_406, v4_7])), (q_401, .inl (cA_401, 4800, .inr (.inl g0_9))), (q_402, .inl (cA_402, 4800, .inr (.inl g1_9))), (q_403, .inl (cA_403, 4800, .inr (.inl fa4_sets))), (q_404, .inl (cA_404, 4800, .inr (.inl fa4_uses))), (q_405, .inl (cA_405, 4800, .inr (.inl fa4_phiSets))), (q_406, .inl (cA_406, 4800, .inr (.inl fa4_phiUses))), (hc, .inr (0, [.int (zI (B1)), v_1, v_2, v_3, v_4, v_5, v_6, v_7, v_8, .ref q_709, v_10, .ref q_711, .ref q_712, v_13, v_14, v_15, v_16, v_17, v_18])), (q_709, .inl (cA_709, 300, .inl (fun j : Nat => zI (a_9 (j : Int))))), (q_711, .inl (cA_711, 300, .inl (fun j : Nat => zI (a_11 (j : Int))))), (q_712, .inl (cA_712, 300, .inl (fun j : Nat => zI (a_12 (j : Int)))))] t.heap ∧ va_K (dC, dI) vwP [(cA_401, .long), (cA_402, .long), (cA_403, .long), (cA_404, .long), (cA_405, .long), (cA_406, .long), (cA_709, .int), (cA_711, .int), (cA_712, .int)] t ∧ va_D (va_A [(h0, .inr (4, [.int (zI (z4_words)), .ref q_401, .ref q_402, .ref q_403, .ref q_404, .ref q_405, .ref q_406, v4_7])), (q_401, .inl (cA_401, 4800, .inr (.inl fa4_start))), (q_402, .inl (cA_402, 4800, .inr (.inl fa4_finish))), (q_403, .inl (cA_403, 4800, .inr (.inl fa4_sets))), (q_404, .inl (cA_404, 4800, .inr (.inl fa4_uses))), (q_405, .inl (cA_405, 4800, .inr (.inl fa4_phiSets))), (q_406, .inl (cA_406, 4800, .inr (.inl fa4_phiUses))), (hc, .inr (0, [.int (zI (B1)), v_1, v_2, v_3, v_4, v_5, v_6, v_7, v_8, .ref q_709, v_10, .ref q_711, .ref q_712, v_13, v_14, v_15, v_16, v_17, v_18])), (q_709, .inl (cA_709, 300, .inl (fun j : Nat => zI (a_9 (j : Int))))), (q_711, .inl (cA_711, 300, .inl (fun j : Nat => zI (a_11 (j : Int))))), (q_712, .inl (cA_712, 300, .inl (fun j : Nat => zI (a_12 (j : Int)))))] sz) [(h0, .inr (4, [.int (zI (z4_words)), .ref q_401, .ref q_402, .ref q_403, .ref q_404, .ref q_405, .ref q_406, v4_7])), (q_401, .inl (cA_401, 4800, .inr (.inl g0_9))), (q_402, .inl (cA_402, 4800, .inr (.inl g1_9))), (q_403, .inl (cA_403, 4800, .inr (.inl fa4_sets))), (q_404, .inl (cA_404, 4800, .inr (.inl fa4_uses))), (q_405, .inl (cA_405, 4800, .inr (.inl fa4_phiSets))), (q_406, .inl (cA_406, 4800, .inr (.inl fa4_phiUses))), (hc, .inr (0, [.int (zI (B1)), v_1, v_2, v_3, v_4, v_5, v_6, v_7, v_8, .ref q_709, v_10, .ref q_711, .ref q_712, v_13, v_14, v_15, v_16, v_17, v_18])), (q_709, .inl (cA_709, 300, .inl (fun j : Nat => zI (a_9 (j : Int))))), (q_711, .inl (cA_711, 300, .inl (fun j : Nat => zI (a_11 (j : Int))))), (q_712, .inl (cA_712, 300, .inl (fun j : Nat => zI (a_12 (j : Int)))))]) (va_A [(h0, .inr (4, [.int (zI (z4_words)), .ref q_401, .ref q_402, .ref q_403, .ref q_404, .ref q_405, .ref q_406, v4_7])), (q_401, .inl (cA_401, 4800, .inr (.inl fa4_start))), (q_402, .inl (cA_402, 4800, .inr (.inl fa4_finish))), (q_403, .inl (cA_403, 4800, .inr (.inl fa4_sets))), (q_404, .inl (cA_404, 4800, .inr (.inl fa4_uses))), (q_405, .inl (cA_405, 4800, .inr (.inl fa4_phiSets))), (q_406, .inl (cA_406, 4800, .inr (.inl fa4_phiUses))), (hc, .inr (0, [.int (zI (B1)), v_1, v_2, v_3, v_4, v_5, v_6, v_7, v_8, .ref q_709, v_10, .ref q_711, .ref q_712, v_13, v_14, v_15, v_16, v_17, v_18])), (q_709, .inl (cA_709, 300, .inl (fun j : Nat => zI (a_9 (j : Int))))), (q_711, .inl (cA_711, 300, .inl (fun j : Nat => zI (a_11 (j : Int))))), (q_712, .inl (cA_712, 300, .inl (fun j : Nat => zI (a_12 (j : Int)))))] sz)) 0 0 (va_A [(h0, .inr (4, [.int (zI (z4_words)), .ref q_401, .ref q_402, .ref q_403, .ref q_404, .ref q_405, .ref q_406, v4_7])), (q_401, .inl (cA_401, 4800, .inr (.inl fa4_start))), (q_402, .inl (cA_402, 4800, .inr (.inl fa4_finish))), (q_403, .inl (cA_403, 4800, .inr (.inl fa4_sets))), (q_404, .inl (cA_404, 4800, .inr (.inl fa4_uses))), (q_405, .inl (cA_405, 4800, .inr (.inl fa4_phiSets))), (q_406, .inl (cA_406, 4800, .inr (.inl fa4_phiUses))), (hc, .inr (0, [.int (zI (B1)), v_1, v_2, v_3, v_4, v_5, v_6, v_7, v_8, .ref q_709, v_10, .ref q_711, .ref q_712, v_13, v_14, v_15, v_16, v_17, v_18])), (q_709, .inl (cA_709, 300, .inl (fun j : Nat => zI (a_9 (j : Int))))), (q_711, .inl (cA_711, 300, .inl (fun j : Nat => zI (a_11 (j : Int))))), (q_712, .inl (cA_712, 300, .inl (fun j : Nat => zI (a_12 (j : Int)))))] sz) := by
  refine Met.ofW (cc := cX4_flowBack) (maxL := 10) (ret := (some .boolean)) (by decide) rfl ?_
  intro p e s m args below meth c s₁ B hml hv
  obtain ⟨rfl, hsz, hP, hK, hD0⟩ := hv
  have hx := B.exec
  have hb := B.bytes
  have hr := B.returns
  have hts := atoms_spec (ws := v_X4_flowBack) B.pre
  have hown : s.vm.findClass RX4 = some m.cls := findClass_of_methodNamed B.named
  have hlocks := B.notSynchronized
  have ow : ∀ {k : Nat} {w : Cond}, o_X4_flowBack[k]? = some w → w.before ([.ref h0, .ref hc, .int (zI (b))] : List Value).toArray s = true := fun h => hts _ (mow_X4_flowBack _ (List.mem_of_getElem? h))
  subst hsz
  have hD := hD0.self (sz := s.heap.size)
  generalize hAe : va_A [(h0, .inr (4, [.int (zI (z4_words)), .ref q_401, .ref q_402, .ref q_403, .ref q_404, .ref q_405, .ref q_406, v4_7])), (q_401, .inl (cA_401, 4800, .inr (.inl fa4_start))), (q_402, .inl (cA_402, 4800, .inr (.inl fa4_finish))), (q_403, .inl (cA_403, 4800, .inr (.inl fa4_sets))), (q_404, .inl (cA_404, 4800, .inr (.inl fa4_uses))), (q_405, .inl (cA_405, 4800, .inr (.inl fa4_phiSets))), (q_406, .inl (cA_406, 4800, .inr (.inl fa4_phiUses))), (hc, .inr (0, [.int (zI (B1)), v_1, v_2, v_3, v_4, v_5, v_6, v_7, v_8, .ref q_709, v_10, .ref q_711, .ref q_712, v_13, v_14, v_15, v_16, v_17, v_18])), (q_709, .inl (cA_709, 300, .inl (fun j : Nat => zI (a_9 (j : Int))))), (q_711, .inl (cA_711, 300, .inl (fun j : Nat => zI (a_11 (j : Int))))), (q_712, .inl (cA_712, 300, .inl (fun j : Nat => zI (a_12 (j : Int)))))] s.heap.size = A at hD ⊢
  have hA : ∀ q : Nat, s.heap.size ≤ q → A q := fun q h => by rw [← hAe]; exact Or.inr h
  have hS : va_S A s.heap s.heap [] := va_S.rf
  have hP : va_P (dC, dI) vwP [(h0, .inr (4, [.int (zI (z4_words)), .ref q_401, .ref q_402, .ref q_403, .ref q_404, .ref q_405, .ref q_406, v4_7])), (q_401, .inl (cA_401, 4800, .inr (.inl fa4_start))), (q_402, .inl (cA_402, 4800, .inr (.inl fa4_finish))), (q_403, .inl (cA_403, 4800, .inr (.inl fa4_sets))), (q_404, .inl (cA_404, 4800, .inr (.inl fa4_uses))), (q_405, .inl (cA_405, 4800, .inr (.inl fa4_phiSets))), (q_406, .inl (cA_406, 4800, .inr (.inl fa4_phiUses))), (hc, .inr (0, [.int (zI (B1)), v_1, v_2, v_3, v_4, v_5, v_6, v_7, v_8, .ref q_709, v_10, .ref q_711, .ref q_712, v_13, v_14, v_15, v_16, v_17, v_18])), (q_709, .inl (cA_709, 300, .inl (fun j : Nat => zI (a_9 (j : Int))))), (q_711, .inl (cA_711, 300, .inl (fun j : Nat => zI (a_11 (j : Int))))), (q_712, .inl (cA_712, 300, .inl (fun j : Nat => zI (a_12 (j : Int)))))] s.heap := hP
  have hl := lv_entry ([.ref h0, .ref hc, .int (zI (b))]) (n := 10) (Nat.le_of_ble_eq_true rfl)
  rw [lg_entry_eq]
  generalize (lg_sl ([.ref h0, .ref hc, .int (zI (b))]) ++ List.replicate (10 - (lg_sl ([.ref h0, .ref hc, .int (zI (b))])).length) Slot.unset).toArray = ls at hl ⊢
  have hl : lv_has ls 10 [(0, .ref h0), (1, .ref hc), (2, .int (zI (b)))] := hl
  obtain ⟨H, hH⟩ : ∃ H, H = s.heap := ⟨_, rfl⟩
  rw [← hH] at hP
  have hS : va_S A s.heap H [] := by rw [hH]; exact hS
  rw [← hH]
  refine zW_cap (fun Q hQ => ?_)
  refine lv_iconst (v := 0) hx hb dX4_flowBack_0 (by decide) ?_
  refine lv_istore_n (lv' := [(3, .int 0), (0, .ref h0), (1, .ref hc), (2, .int (zI (b)))]) hx hb dX4_flowBack_1 rfl hl (by decide) rfl (fun ls hl => ?_)
  refine lv_iconst (v := 0) hx hb dX4_flowBack_2 (by decide) ?_
  refine lv_istore (lv' := [(4, .int 0), (3, .int 0), (0, .ref h0), (1, .ref hc), (2, .int (zI (b)))]) hx hb dX4_flowBack_3 hl (by decide) rfl (fun ls hl => ?_)
  have key5 : ∀ n5 : Nat, ∀ (d5_4 : Int) (d5_3 : Int) (w5_401 : Nat → Int64) (w5_402 : Nat → Int64) (ls : Array Slot) (H : Heap) (locs : List Loc), (0 ≤ d5_4 ∧ d5_4 ≤ 1000000000) → (0 ≤ d5_3 ∧ d5_3 ≤ 1) → (((z4_words) - (d5_4) : Int).toNat) < n5 → lv_has ls 10 [(0, .ref h0), (1, .ref hc), (2, .int (zI (b))), (3, .int (zI (d5_3))), (4, .int (zI (d5_4)))] → va_P (dC, dI) vwP [(h0, .inr (4, [.int (zI (z4_words)), .ref q_401, .ref q_402, .ref q_403, .ref q_404, .ref q_405, .ref q_406, v4_7])), (q_401, .inl (cA_401, 4800, .inr (.inl w5_401))), (q_402, .inl (cA_402, 4800, .inr (.inl w5_402))), (q_403, .inl (cA_403, 4800, .inr (.inl fa4_sets))), (q_404, .inl (cA_404, 4800, .inr (.inl fa4_uses))), (q_405, .inl (cA_405, 4800, .inr (.inl fa4_phiSets))), (q_406, .inl (cA_406, 4800, .inr (.inl fa4_phiUses))), (hc, .inr (0, [.int (zI (B1)), v_1, v_2, v_3, v_4, v_5, v_6, v_7, v_8, .ref q_709, v_10, .ref q_711, .ref q_712, v_13, v_14, v_15, v_16, v_17, v_18])), (q_709, .inl (cA_709, 300, .inl (fun j : Nat => zI (a_9 (j : Int))))), (q_711, .inl (cA_711, 300, .inl (fun j : Nat => zI (a_11 (j : Int))))), (q_712, .inl (cA_712, 300, .inl (fun j : Nat => zI (a_12 (j : Int)))))] H → va_D A [(h0, .inr (4, [.int (zI (z4_words)), .ref q_401, .ref q_402, .ref q_403, .ref q_404, .ref q_405, .ref q_406, v4_7])), (q_401, .inl (cA_401, 4800, .inr (.inl w5_401))), (q_402, .inl (cA_402, 4800, .inr (.inl w5_402))), (q_403, .inl (cA_403, 4800, .inr (.inl fa4_sets))), (q_404, .inl (cA_404, 4800, .inr (.inl fa4_uses))), (q_405, .inl (cA_405, 4800, .inr (.inl fa4_phiSets))), (q_406, .inl (cA_406, 4800, .inr (.inl fa4_phiUses))), (hc, .inr (0, [.int (zI (B1)), v_1, v_2, v_3, v_4, v_5, v_6, v_7, v_8, .ref q_709, v_10, .ref q_711, .ref q_712, v_13, v_14, v_15, v_16, v_17, v_18])), (q_709, .inl (cA_709, 300, .inl (fun j : Nat => zI (a_9 (j : Int))))), (q_711, .inl (cA_711, 300, .inl (fun j : Nat => zI (a_11 (j : Int))))), (q_712, .inl (cA_712, 300, .inl (fun j : Nat => zI (a_12 (j : Int)))))] → va_S A s.heap H locs → W p l e (headSpec v_X4_flowBack ({ frames := 1, cells := 0, slots := 0, locals := 22 })).room s m ([.ref h0, .ref hc, .int (zI (b))] : List Value).toArray below meth c H locs 0 0 Q (F0 m 5 ls []) := by
    intro n5
    induction n5 with
    | zero => intro d5_4 d5_3 w5_401 w5_402 ls H locs jd5_4 jd5_3 hm5; exact absurd hm5 (by omega)
    | succ n5 ih5 =>
      intro d5_4 d5_3 w5_401 w5_402 ls H locs jd5_4 jd5_3 hm5 hl hP hD hS
      refine lv_iload hx hb dX4_flowBack_5 (lv_at hl 4 rfl) ?_
      refine lv_aload_n hx hb dX4_flowBack_7 rfl (lv_at hl 0 rfl) ?_
      refine va_get (D := (dC, dI)) (ci := 4) (v := .int (zI (z4_words))) (C := RX4) (T := TX4) (N := 8) hx hb hts mem_X4_flowBack_0 hown hK hP 0 rfl rfl 0 (by decide) (ow (k := 0) rfl) (fun _ h9 => h9) rfl dX4_flowBack_8 ?_
      refine lv_icmp_ge (tgt := 157) hx hb dX4_flowBack_11 (by decide) (fun b11 => ?_) (fun b11 => ?_)
      · have yb11 : (z4_words : Int) ≤ (d5_4 : Int) := (zI_le (a := z4_words) (b := d5_4) (by omega) (by omega) (by omega) (by omega)).mp b11
        refine lv_iload_n hx hb dX4_flowBack_157 rfl (lv_at hl 3 rfl) ?_
        subst hQ
        refine W.widen (k := 0) (n := 0) (Nat.le_of_ble_eq_true rfl) (Nat.le_of_ble_eq_true rfl) ?_
        exact W.zret (v := (zI (d5_3))) hx hb hr (zI_bool (by omega) (by omega)) (fun t ht hW => ⟨⟨(zI (d5_3)), (), rfl, ⟨d5_3, rfl, by omega⟩, w5_401, w5_402, by rw [ht]; exact hP, va_K.moved hW.alike hK, hD⟩, hS.F ht⟩) hS.2.2 dX4_flowBack_158
      · have yb11 : ¬ (z4_words : Int) ≤ (d5_4 : Int) := fun q => b11 ((zI_le (a := z4_words) (b := d5_4) (by omega) (by omega) (by omega) (by omega)).mpr q)
        refine lv_iload_n hx hb dX4_flowBack_14 rfl (lv_at hl 2 rfl) ?_
        refine lv_aload_n hx hb dX4_flowBack_15 rfl (lv_at hl 0 rfl) ?_
        refine va_get (D := (dC, dI)) (ci := 4) (v := .int (zI (z4_words))) (C := RX4) (T := TX4) (N := 8) hx hb hts mem_X4_flowBack_0 hown hK hP 0 rfl rfl 0 (by decide) (ow (k := 0) rfl) (fun _ h9 => h9) rfl dX4_flowBack_16 ?_
        refine lv_imul hx hb dX4_flowBack_19 ?_
        refine lv_topi (fun z ez => ?_)
        obtain rfl : z = zI (b * z4_words) := ez.trans (zI_mul (b) (z4_words))
        have km20 := mulb (a := b) (b := z4_words) (by omega) (by omega) (by omega)
        refine lv_iload hx hb dX4_flowBack_20 (lv_at hl 4 rfl) ?_
        refine lv_iadd hx hb dX4_flowBack_22 ?_
        refine lv_topi (fun z ez => ?_)
        obtain rfl : z = zI ((b * z4_words) + d5_4) := ez.trans (zI_add (b * z4_words) (d5_4))
        refine lv_istore (lv' := [(5, .int (zI ((b * z4_words) + d5_4))), (0, .ref h0), (1, .ref hc), (2, .int (zI (b))), (3, .int (zI (d5_3))), (4, .int (zI (d5_4)))]) hx hb dX4_flowBack_23 hl (by decide) rfl (fun ls hl => ?_)
        refine lv_aload_n hx hb dX4_flowBack_25 rfl (lv_at hl 1 rfl) ?_
        refine va_get (D := (dC, dI)) (ci := 4) (v := .ref q_406) (C := RX4) (T := TX4) (N := 8) hx hb hts mem_X4_flowBack_0 hown hK hP 0 rfl rfl 6 (by decide) (ow (k := 1) rfl) (fun _ h9 => h9) rfl dX4_flowBack_26 ?_
        refine lv_iload hx hb dX4_flowBack_29 (lv_at hl 0 rfl) ?_
        refine va_lald hx hb hK hP 6 5 rfl rfl (zI_in (a := (b * z4_words) + d5_4) (n := 4800) (by omega) (by omega) (by decide)) dX4_flowBack_31 ?_
        refine lv_topl (fun x_2001 _ => ?_)
        refine lv_lstore (lv' := [(6, .long x_2001), (5, .int (zI ((b * z4_words) + d5_4))), (0, .ref h0), (1, .ref hc), (2, .int (zI (b))), (3, .int (zI (d5_3))), (4, .int (zI (d5_4)))]) hx hb dX4_flowBack_32 hl (by decide) rfl (fun ls hl => ?_)
        refine lv_iconst (v := 0) hx hb dX4_flowBack_34 (by decide) ?_
        refine lv_istore (lv' := [(8, .int 0), (6, .long x_2001), (5, .int (zI ((b * z4_words) + d5_4))), (0, .ref h0), (1, .ref hc), (2, .int (zI (b))), (3, .int (zI (d5_3))), (4, .int (zI (d5_4)))]) hx hb dX4_flowBack_35 hl (by decide) rfl (fun ls hl => ?_)
        have key37 : ∀ n37 : Nat, ∀ (d37_8 : Int) (d37_6 : Int64) (ls : Array Slot) (H : Heap) (locs : List Loc), (0 ≤ d37_8 ∧ d37_8 ≤ 1000000000) → (((gcF a_9 a_11 a_12 (b)) - (d37_8) : Int).toNat) < n37 → lv_has ls 10 [(0, .ref h0), (1, .ref hc), (2, .int (zI (b))), (3, .int (zI (d5_3))), (4, .int (zI (d5_4))), (5, .int (zI ((b * z4_words) + d5_4))), (6, .long d37_6), (8, .int (zI (d37_8)))] → va_P (dC, dI) vwP [(h0, .inr (4, [.int (zI (z4_words)), .ref q_401, .ref q_402, .ref q_403, .ref q_404, .ref q_405, .ref q_406, v4_7])), (q_401, .inl (cA_401, 4800, .inr (.inl w5_401))), (q_402, .inl (cA_402, 4800, .inr (.inl w5_402))), (q_403, .inl (cA_403, 4800, .inr (.inl fa4_sets))), (q_404, .inl (cA_404, 4800, .inr (.inl fa4_uses))), (q_405, .inl (cA_405, 4800, .inr (.inl fa4_phiSets))), (q_406, .inl (cA_406, 4800, .inr (.inl fa4_phiUses))), (hc, .inr (0, [.int (zI (B1)), v_1, v_2, v_3, v_4, v_5, v_6, v_7, v_8, .ref q_709, v_10, .ref q_711, .ref q_712, v_13, v_14, v_15, v_16, v_17, v_18])), (q_709, .inl (cA_709, 300, .inl (fun j : Nat => zI (a_9 (j : Int))))), (q_711, .inl (cA_711, 300, .inl (fun j : Nat => zI (a_11 (j : Int))))), (q_712, .inl (cA_712, 300, .inl (fun j : Nat => zI (a_12 (j : Int)))))] H → va_D A [(h0, .inr (4, [.int (zI (z4_words)), .ref q_401, .ref q_402, .ref q_403, .ref q_404, .ref q_405, .ref q_406, v4_7])), (q_401, .inl (cA_401, 4800, .inr (.inl w5_401))), (q_402, .inl (cA_402, 4800, .inr (.inl w5_402))), (q_403, .inl (cA_403, 4800, .inr (.inl fa4_sets))), (q_404, .inl (cA_404, 4800, .inr (.inl fa4_uses))), (q_405, .inl (cA_405, 4800, .inr (.inl fa4_phiSets))), (q_406, .inl (cA_406, 4800, .inr (.inl fa4_phiUses))), (hc, .inr (0, [.int (zI (B1)), v_1, v_2, v_3, v_4, v_5, v_6, v_7, v_8, .ref q_709, v_10, .ref q_711, .ref q_712, v_13, v_14, v_15, v_16, v_17, v_18])), (q_709, .inl (cA_709, 300, .inl (fun j : Nat => zI (a_9 (j : Int))))), (q_711, .inl (cA_711, 300, .inl (fun j : Nat => zI (a_11 (j : Int))))), (q_712, .inl (cA_712, 300, .inl (fun j : Nat => zI (a_12 (j : Int)))))] → va_S A s.heap H locs → W p l e (headSpec v_X4_flowBack ({ frames := 1, cells := 0, slots := 0, locals := 22 })).room s m ([.ref h0, .ref hc, .int (zI (b))] : List Value).toArray below meth c H locs 0 0 Q (F0 m 37 ls []) := by
          intro n37
          induction n37 with
          | zero => intro d37_8 d37_6 ls H locs jd37_8 hm37; exact absurd hm37 (by omega)
          | succ n37 ih37 =>
            intro d37_8 d37_6 ls H locs jd37_8 hm37 hl hP hD hS
            refine lv_iload hx hb dX4_flowBack_37 (lv_at hl 7 rfl) ?_
            refine lv_aload_n hx hb dX4_flowBack_39 rfl (lv_at hl 1 rfl) ?_
            refine lv_iload_n hx hb dX4_flowBack_40 rfl (lv_at hl 2 rfl) ?_
            have hPc := hP.sub (ws' := [(hc, .inr (0, [.int (zI (B1)), v_1, v_2, v_3, v_4, v_5, v_6, v_7, v_8, .ref q_709, v_10, .ref q_711, .ref q_712, v_13, v_14, v_15, v_16, v_17, v_18])), (q_709, .inl (cA_709, 300, .inl (fun j : Nat => zI (a_9 (j : Int))))), (q_711, .inl (cA_711, 300, .inl (fun j : Nat => zI (a_11 (j : Int))))), (q_712, .inl (cA_712, 300, .inl (fun j : Nat => zI (a_12 (j : Int)))))]) [7, 8, 9, 10] rfl
            have hDc := hD.sub (ws' := [(hc, .inr (0, [.int (zI (B1)), v_1, v_2, v_3, v_4, v_5, v_6, v_7, v_8, .ref q_709, v_10, .ref q_711, .ref q_712, v_13, v_14, v_15, v_16, v_17, v_18])), (q_709, .inl (cA_709, 300, .inl (fun j : Nat => zI (a_9 (j : Int))))), (q_711, .inl (cA_711, 300, .inl (fun j : Nat => zI (a_11 (j : Int))))), (q_712, .inl (cA_712, 300, .inl (fun j : Nat => zI (a_12 (j : Int)))))]) [7, 8, 9, 10] (by decide) rfl
            have hKc := hK.sub (tys' := [(cA_709, .int), (cA_711, .int), (cA_712, .int)]) [6, 7, 8] rfl
            have hFc := va_free (wc := [(hc, .inr (0, [.int (zI (B1)), v_1, v_2, v_3, v_4, v_5, v_6, v_7, v_8, .ref q_709, v_10, .ref q_711, .ref q_712, v_13, v_14, v_15, v_16, v_17, v_18])), (q_709, .inl (cA_709, 300, .inl (fun j : Nat => zI (a_9 (j : Int))))), (q_711, .inl (cA_711, 300, .inl (fun j : Nat => zI (a_11 (j : Int))))), (q_712, .inl (cA_712, 300, .inl (fun j : Nat => zI (a_12 (j : Int)))))]) hD hS hA [7, 8, 9, 10] rfl
            refine va_calli (va_runV (As := [.int (zI (b))]) (rest := [.int (zI (d37_8))]) ⟨hx, hb, hml, hown, hts⟩ (c_X0_goalCount l dC dI hc (.int (zI (B1))) v_1 v_2 v_3 v_4 v_5 v_6 v_7 v_8 q_709 cA_709 a_9 v_10 q_711 cA_711 a_11 q_712 cA_712 a_12 v_13 v_14 v_15 v_16 v_17 v_18 b hR_a_9 hR_a_11 hR_a_12 (by omega) H.size) (cwV 1 hts g_X4_flowBack_X0_goalCount rfl rfl rfl (by decide +kernel) ⟨(Nat.le_of_ble_eq_true rfl), (Nat.le_of_ble_eq_true rfl)⟩) ⟨fun a U g mk q => by obtain ⟨q0, q1, qP, qK, qD⟩ := q; exact ⟨q0, q1, qP, va_K.moved (u := U) (U := U.calling g mk a) (Vm.Alike.refl U.vm) qK, qD⟩, va_recv hKc hPc (ci := 0) (q0 := 0) rfl rfl, fun U hU hW => ⟨rfl, by rw [hU], by rw [hU]; exact hPc, va_K.moved hW.alike hKc, hDc.weaken (fun _ _ _ _ => trivial)⟩⟩ rfl rfl hl.1 rfl (lv_room (Nat.le_of_ble_eq_true rfl)) dX4_flowBack_41 ⟨(Nat.le_of_ble_eq_true rfl), (Nat.le_of_ble_eq_true rfl)⟩) hS (fun q _ h => hFc q h) hFc (fun r_2002 u t H1 locs ht hvm hw hB hz1 hk1 hS => ?_)
            obtain ⟨hP1, hK1, hD1⟩ := hB
            rw [ht] at hP1
            have hK1 := va_K.moved hvm.symm hK1
            obtain ⟨hP, hD⟩ := va_join (wr := [(h0, .inr (4, [.int (zI (z4_words)), .ref q_401, .ref q_402, .ref q_403, .ref q_404, .ref q_405, .ref q_406, v4_7])), (q_401, .inl (cA_401, 4800, .inr (.inl w5_401))), (q_402, .inl (cA_402, 4800, .inr (.inl w5_402))), (q_403, .inl (cA_403, 4800, .inr (.inl fa4_sets))), (q_404, .inl (cA_404, 4800, .inr (.inl fa4_uses))), (q_405, .inl (cA_405, 4800, .inr (.inl fa4_phiSets))), (q_406, .inl (cA_406, 4800, .inr (.inl fa4_phiUses)))]) (w1 := [(hc, .inr (0, [.int (zI (B1)), v_1, v_2, v_3, v_4, v_5, v_6, v_7, v_8, .ref q_709, v_10, .ref q_711, .ref q_712, v_13, v_14, v_15, v_16, v_17, v_18])), (q_709, .inl (cA_709, 300, .inl (fun j : Nat => zI (a_9 (j : Int))))), (q_711, .inl (cA_711, 300, .inl (fun j : Nat => zI (a_11 (j : Int))))), (q_712, .inl (cA_712, 300, .inl (fun j : Nat => zI (a_12 (j : Int)))))]) hP hD [7, 8, 9, 10] [0, 1, 2, 3, 4, 5, 6] rfl rfl (by decide) (by decide) hk1 hFc hP1 hD1
            have hK := (hK.sub (tys' := [(cA_401, .long), (cA_402, .long), (cA_403, .long), (cA_404, .long), (cA_405, .long), (cA_406, .long)]) [0, 1, 2, 3, 4, 5] rfl).app hK1
            generalize H1 = H at hP hS ⊢
            have hP : va_P (dC, dI) vwP [(h0, .inr (4, [.int (zI (z4_words)), .ref q_401, .ref q_402, .ref q_403, .ref q_404, .ref q_405, .ref q_406, v4_7])), (q_401, .inl (cA_401, 4800, .inr (.inl w5_401))), (q_402, .inl (cA_402, 4800, .inr (.inl w5_402))), (q_403, .inl (cA_403, 4800, .inr (.inl fa4_sets))), (q_404, .inl (cA_404, 4800, .inr (.inl fa4_uses))), (q_405, .inl (cA_405, 4800, .inr (.inl fa4_phiSets))), (q_406, .inl (cA_406, 4800, .inr (.inl fa4_phiUses))), (hc, .inr (0, [.int (zI (B1)), v_1, v_2, v_3, v_4, v_5, v_6, v_7, v_8, .ref q_709, v_10, .ref q_711, .ref q_712, v_13, v_14, v_15, v_16, v_17, v_18])), (q_709, .inl (cA_709, 300, .inl (fun j : Nat => zI (a_9 (j : Int))))), (q_711, .inl (cA_711, 300, .inl (fun j : Nat => zI (a_11 (j : Int))))), (q_712, .inl (cA_712, 300, .inl (fun j : Nat => zI (a_12 (j : Int)))))] H := hP
            have hD : va_D A [(h0, .inr (4, [.int (zI (z4_words)), .ref q_401, .ref q_402, .ref q_403, .ref q_404, .ref q_405, .ref q_406, v4_7])), (q_401, .inl (cA_401, 4800, .inr (.inl w5_401))), (q_402, .inl (cA_402, 4800, .inr (.inl w5_402))), (q_403, .inl (cA_403, 4800, .inr (.inl fa4_sets))), (q_404, .inl (cA_404, 4800, .inr (.inl fa4_uses))), (q_405, .inl (cA_405, 4800, .inr (.inl fa4_phiSets))), (q_406, .inl (cA_406, 4800, .inr (.inl fa4_phiUses))), (hc, .inr (0, [.int (zI (B1)), v_1, v_2, v_3, v_4, v_5, v_6, v_7, v_8, .ref q_709, v_10, .ref q_711, .ref q_712, v_13, v_14, v_15, v_16, v_17, v_18])), (q_709, .inl (cA_709, 300, .inl (fun j : Nat => zI (a_9 (j : Int))))), (q_711, .inl (cA_711, 300, .inl (fun j : Nat => zI (a_11 (j : Int))))), (q_712, .inl (cA_712, 300, .inl (fun j : Nat => zI (a_12 (j : Int)))))] := hD
            have hK : va_K (dC, dI) vwP [(cA_401, .long), (cA_402, .long), (cA_403, .long), (cA_404, .long), (cA_405, .long), (cA_406, .long), (cA_709, .int), (cA_711, .int), (cA_712, .int)] s := hK
            refine W.widen (k := 0) (n := 0) (Nat.le_of_ble_eq_true rfl) (Nat.le_of_ble_eq_true rfl) ?_
            obtain rfl : r_2002 = (zI (gcF a_9 a_11 a_12 (b))) := hw
            have := gcF_rng a_9 a_11 a_12 (b)
            refine lv_icmp_ge (tgt := 94) hx hb dX4_flowBack_44 (by decide) (fun b44 => ?_) (fun b44 => ?_)
            · have yb44 : (gcF a_9 a_11 a_12 (b) : Int) ≤ (d37_8 : Int) := (zI_le (a := gcF a_9 a_11 a_12 (b)) (b := d37_8) (by omega) (by omega) (by omega) (by omega)).mp b44
              refine lv_aload_n hx hb dX4_flowBack_94 rfl (lv_at hl 0 rfl) ?_
              refine va_get (D := (dC, dI)) (ci := 4) (v := .ref q_402) (C := RX4) (T := TX4) (N := 8) hx hb hts mem_X4_flowBack_0 hown hK hP 0 rfl rfl 2 (by decide) (ow (k := 6) rfl) (fun _ h9 => h9) rfl dX4_flowBack_95 ?_
              refine lv_iload hx hb dX4_flowBack_98 (lv_at hl 5 rfl) ?_
              refine lv_lload hx hb dX4_flowBack_100 (lv_at hl 6 rfl) ?_
              refine va_last (i := zI ((b * z4_words) + d5_4)) hx hb hK hP hD hS 2 1 rfl rfl (zI_in (a := (b * z4_words) + d5_4) (n := 4800) (by omega) (by omega) (by decide)) dX4_flowBack_102 (fun H locs hP hD hS => ?_)
              have hP : va_P (dC, dI) vwP [(h0, .inr (4, [.int (zI (z4_words)), .ref q_401, .ref q_402, .ref q_403, .ref q_404, .ref q_405, .ref q_406, v4_7])), (q_401, .inl (cA_401, 4800, .inr (.inl w5_401))), (q_402, .inl (cA_402, 4800, .inr (.inl (vp_updL w5_402 (zI ((b * z4_words) + d5_4)).toNatClampNeg d37_6)))), (q_403, .inl (cA_403, 4800, .inr (.inl fa4_sets))), (q_404, .inl (cA_404, 4800, .inr (.inl fa4_uses))), (q_405, .inl (cA_405, 4800, .inr (.inl fa4_phiSets))), (q_406, .inl (cA_406, 4800, .inr (.inl fa4_phiUses))), (hc, .inr (0, [.int (zI (B1)), v_1, v_2, v_3, v_4, v_5, v_6, v_7, v_8, .ref q_709, v_10, .ref q_711, .ref q_712, v_13, v_14, v_15, v_16, v_17, v_18])), (q_709, .inl (cA_709, 300, .inl (fun j : Nat => zI (a_9 (j : Int))))), (q_711, .inl (cA_711, 300, .inl (fun j : Nat => zI (a_11 (j : Int))))), (q_712, .inl (cA_712, 300, .inl (fun j : Nat => zI (a_12 (j : Int)))))] H := hP
              have hD : va_D A [(h0, .inr (4, [.int (zI (z4_words)), .ref q_401, .ref q_402, .ref q_403, .ref q_404, .ref q_405, .ref q_406, v4_7])), (q_401, .inl (cA_401, 4800, .inr (.inl w5_401))), (q_402, .inl (cA_402, 4800, .inr (.inl (vp_updL w5_402 (zI ((b * z4_words) + d5_4)).toNatClampNeg d37_6)))), (q_403, .inl (cA_403, 4800, .inr (.inl fa4_sets))), (q_404, .inl (cA_404, 4800, .inr (.inl fa4_uses))), (q_405, .inl (cA_405, 4800, .inr (.inl fa4_phiSets))), (q_406, .inl (cA_406, 4800, .inr (.inl fa4_phiUses))), (hc, .inr (0, [.int (zI (B1)), v_1, v_2, v_3, v_4, v_5, v_6, v_7, v_8, .ref q_709, v_10, .ref q_711, .ref q_712, v_13, v_14, v_15, v_16, v_17, v_18])), (q_709, .inl (cA_709, 300, .inl (fun j : Nat => zI (a_9 (j : Int))))), (q_711, .inl (cA_711, 300, .inl (fun j : Nat => zI (a_11 (j : Int))))), (q_712, .inl (cA_712, 300, .inl (fun j : Nat => zI (a_12 (j : Int)))))] := hD
              generalize (vp_updL w5_402 (zI ((b * z4_words) + d5_4)).toNatClampNeg d37_6) = fl_2003 at hP hD
              have hP : va_P (dC, dI) vwP [(h0, .inr (4, [.int (zI (z4_words)), .ref q_401, .ref q_402, .ref q_403, .ref q_404, .ref q_405, .ref q_406, v4_7])), (q_401, .inl (cA_401, 4800, .inr (.inl w5_401))), (q_402, .inl (cA_402, 4800, .inr (.inl fl_2003))), (q_403, .inl (cA_403, 4800, .inr (.inl fa4_sets))), (q_404, .inl (cA_404, 4800, .inr (.inl fa4_uses))), (q_405, .inl (cA_405, 4800, .inr (.inl fa4_phiSets))), (q_406, .inl (cA_406, 4800, .inr (.inl fa4_phiUses))), (hc, .inr (0, [.int (zI (B1)), v_1, v_2, v_3, v_4, v_5, v_6, v_7, v_8, .ref q_709, v_10, .ref q_711, .ref q_712, v_13, v_14, v_15, v_16, v_17, v_18])), (q_709, .inl (cA_709, 300, .inl (fun j : Nat => zI (a_9 (j : Int))))), (q_711, .inl (cA_711, 300, .inl (fun j : Nat => zI (a_11 (j : Int))))), (q_712, .inl (cA_712, 300, .inl (fun j : Nat => zI (a_12 (j : Int)))))] H := hP
              have hD : va_D A [(h0, .inr (4, [.int (zI (z4_words)), .ref q_401, .ref q_402, .ref q_403, .ref q_404, .ref q_405, .ref q_406, v4_7])), (q_401, .inl (cA_401, 4800, .inr (.inl w5_401))), (q_402, .inl (cA_402, 4800, .inr (.inl fl_2003))), (q_403, .inl (cA_403, 4800, .inr (.inl fa4_sets))), (q_404, .inl (cA_404, 4800, .inr (.inl fa4_uses))), (q_405, .inl (cA_405, 4800, .inr (.inl fa4_phiSets))), (q_406, .inl (cA_406, 4800, .inr (.inl fa4_phiUses))), (hc, .inr (0, [.int (zI (B1)), v_1, v_2, v_3, v_4, v_5, v_6, v_7, v_8, .ref q_709, v_10, .ref q_711, .ref q_712, v_13, v_14, v_15, v_16, v_17, v_18])), (q_709, .inl (cA_709, 300, .inl (fun j : Nat => zI (a_9 (j : Int))))), (q_711, .inl (cA_711, 300, .inl (fun j : Nat => zI (a_11 (j : Int))))), (q_712, .inl (cA_712, 300, .inl (fun j : Nat => zI (a_12 (j : Int)))))] := hD
              refine lv_aload_n hx hb dX4_flowBack_103 rfl (lv_at hl 0 rfl) ?_
              refine va_get (D := (dC, dI)) (ci := 4) (v := .ref q_404) (C := RX4) (T := TX4) (N := 8) hx hb hts mem_X4_flowBack_0 hown hK hP 0 rfl rfl 4 (by decide) (ow (k := 7) rfl) (fun _ h9 => h9) rfl dX4_flowBack_104 ?_
              refine lv_iload hx hb dX4_flowBack_107 (lv_at hl 5 rfl) ?_
              refine va_lald hx hb hK hP 4 3 rfl rfl (zI_in (a := (b * z4_words) + d5_4) (n := 4800) (by omega) (by omega) (by decide)) dX4_flowBack_109 ?_
              refine lv_topl (fun x_2004 _ => ?_)
              refine lv_lload hx hb dX4_flowBack_110 (lv_at hl 6 rfl) ?_
              refine lv_aload_n hx hb dX4_flowBack_112 rfl (lv_at hl 0 rfl) ?_
              refine va_get (D := (dC, dI)) (ci := 4) (v := .ref q_403) (C := RX4) (T := TX4) (N := 8) hx hb hts mem_X4_flowBack_0 hown hK hP 0 rfl rfl 3 (by decide) (ow (k := 8) rfl) (fun _ h9 => h9) rfl dX4_flowBack_113 ?_
              refine lv_iload hx hb dX4_flowBack_116 (lv_at hl 5 rfl) ?_
              refine va_lald hx hb hK hP 3 2 rfl rfl (zI_in (a := (b * z4_words) + d5_4) (n := 4800) (by omega) (by omega) (by decide)) dX4_flowBack_118 ?_
              refine lv_topl (fun x_2005 _ => ?_)
              refine lv_ldc2 (v := (-1)) hx hb hown (ow (k := 9) rfl) dX4_flowBack_119 ?_
              refine lv_topl (fun z ez => ?_)
              obtain rfl : z = lI (-1) := ez
              refine lv_lxor hx hb dX4_flowBack_122 ?_
              refine lv_topl (fun x_2006 _ => ?_)
              refine lv_land hx hb dX4_flowBack_123 ?_
              refine lv_topl (fun x_2007 _ => ?_)
              refine lv_lor hx hb dX4_flowBack_124 ?_
              refine lv_topl (fun x_2008 _ => ?_)
              refine lv_lstore (lv' := [(8, .long x_2008), (0, .ref h0), (1, .ref hc), (2, .int (zI (b))), (3, .int (zI (d5_3))), (4, .int (zI (d5_4))), (5, .int (zI ((b * z4_words) + d5_4))), (6, .long d37_6)]) hx hb dX4_flowBack_125 hl (by decide) rfl (fun ls hl => ?_)
              refine lv_lload hx hb dX4_flowBack_127 (lv_at hl 0 rfl) ?_
              refine lv_aload_n hx hb dX4_flowBack_129 rfl (lv_at hl 1 rfl) ?_
              refine va_get (D := (dC, dI)) (ci := 4) (v := .ref q_401) (C := RX4) (T := TX4) (N := 8) hx hb hts mem_X4_flowBack_0 hown hK hP 0 rfl rfl 1 (by decide) (ow (k := 10) rfl) (fun _ h9 => h9) rfl dX4_flowBack_130 ?_
              refine lv_iload hx hb dX4_flowBack_133 (lv_at hl 6 rfl) ?_
              refine va_lald hx hb hK hP 1 0 rfl rfl (zI_in (a := (b * z4_words) + d5_4) (n := 4800) (by omega) (by omega) (by decide)) dX4_flowBack_135 ?_
              refine lv_topl (fun x_2009 _ => ?_)
              refine W.lcmp hx hb dX4_flowBack_136 ?_
              refine lv_topi (fun x_2010 _ => ?_)
              refine lv_if_eq (tgt := 151) hx hb dX4_flowBack_137 (by decide) (fun b137 => ?_) (fun b137 => ?_)
              · refine lv_iinc (v := zI (d5_4 + 1)) (lv' := [(4, .int (zI (d5_4 + 1))), (8, .long x_2008), (0, .ref h0), (1, .ref hc), (2, .int (zI (b))), (3, .int (zI (d5_3))), (5, .int (zI ((b * z4_words) + d5_4))), (6, .long d37_6)]) hx hb dX4_flowBack_151 hl (k := 5) rfl (zI_add (d5_4) (1)) (by decide) rfl (fun ls hl => ?_)
                refine lv_goto (tgt := 5) hx hb dX4_flowBack_154 (by decide) ?_
                exact ih5 (d5_4 + 1) d5_3 w5_401 fl_2003 ls H _ (by omega) (by omega) (by omega) (lv_sub hl [2, 3, 4, 5, 0] rfl) hP hD hS
              · refine lv_aload_n hx hb dX4_flowBack_140 rfl (lv_at hl 1 rfl) ?_
                refine va_get (D := (dC, dI)) (ci := 4) (v := .ref q_401) (C := RX4) (T := TX4) (N := 8) hx hb hts mem_X4_flowBack_0 hown hK hP 0 rfl rfl 1 (by decide) (ow (k := 10) rfl) (fun _ h9 => h9) rfl dX4_flowBack_141 ?_
                refine lv_iload hx hb dX4_flowBack_144 (lv_at hl 6 rfl) ?_
                refine lv_lload hx hb dX4_flowBack_146 (lv_at hl 0 rfl) ?_
                refine va_last (i := zI ((b * z4_words) + d5_4)) hx hb hK hP hD hS 1 0 rfl rfl (zI_in (a := (b * z4_words) + d5_4) (n := 4800) (by omega) (by omega) (by decide)) dX4_flowBack_148 (fun H locs hP hD hS => ?_)
                have hP : va_P (dC, dI) vwP [(h0, .inr (4, [.int (zI (z4_words)), .ref q_401, .ref q_402, .ref q_403, .ref q_404, .ref q_405, .ref q_406, v4_7])), (q_401, .inl (cA_401, 4800, .inr (.inl (vp_updL w5_401 (zI ((b * z4_words) + d5_4)).toNatClampNeg x_2008)))), (q_402, .inl (cA_402, 4800, .inr (.inl fl_2003))), (q_403, .inl (cA_403, 4800, .inr (.inl fa4_sets))), (q_404, .inl (cA_404, 4800, .inr (.inl fa4_uses))), (q_405, .inl (cA_405, 4800, .inr (.inl fa4_phiSets))), (q_406, .inl (cA_406, 4800, .inr (.inl fa4_phiUses))), (hc, .inr (0, [.int (zI (B1)), v_1, v_2, v_3, v_4, v_5, v_6, v_7, v_8, .ref q_709, v_10, .ref q_711, .ref q_712, v_13, v_14, v_15, v_16, v_17, v_18])), (q_709, .inl (cA_709, 300, .inl (fun j : Nat => zI (a_9 (j : Int))))), (q_711, .inl (cA_711, 300, .inl (fun j : Nat => zI (a_11 (j : Int))))), (q_712, .inl (cA_712, 300, .inl (fun j : Nat => zI (a_12 (j : Int)))))] H := hP
                have hD : va_D A [(h0, .inr (4, [.int (zI (z4_words)), .ref q_401, .ref q_402, .ref q_403, .ref q_404, .ref q_405, .ref q_406, v4_7])), (q_401, .inl (cA_401, 4800, .inr (.inl (vp_updL w5_401 (zI ((b * z4_words) + d5_4)).toNatClampNeg x_2008)))), (q_402, .inl (cA_402, 4800, .inr (.inl fl_2003))), (q_403, .inl (cA_403, 4800, .inr (.inl fa4_sets))), (q_404, .inl (cA_404, 4800, .inr (.inl fa4_uses))), (q_405, .inl (cA_405, 4800, .inr (.inl fa4_phiSets))), (q_406, .inl (cA_406, 4800, .inr (.inl fa4_phiUses))), (hc, .inr (0, [.int (zI (B1)), v_1, v_2, v_3, v_4, v_5, v_6, v_7, v_8, .ref q_709, v_10, .ref q_711, .ref q_712, v_13, v_14, v_15, v_16, v_17, v_18])), (q_709, .inl (cA_709, 300, .inl (fun j : Nat => zI (a_9 (j : Int))))), (q_711, .inl (cA_711, 300, .inl (fun j : Nat => zI (a_11 (j : Int))))), (q_712, .inl (cA_712, 300, .inl (fun j : Nat => zI (a_12 (j : Int)))))] := hD
                generalize (vp_updL w5_401 (zI ((b * z4_words) + d5_4)).toNatClampNeg x_2008) = fl_2011 at hP hD
                have hP : va_P (dC, dI) vwP [(h0, .inr (4, [.int (zI (z4_words)), .ref q_401, .ref q_402, .ref q_403, .ref q_404, .ref q_405, .ref q_406, v4_7])), (q_401, .inl (cA_401, 4800, .inr (.inl fl_2011))), (q_402, .inl (cA_402, 4800, .inr (.inl fl_2003))), (q_403, .inl (cA_403, 4800, .inr (.inl fa4_sets))), (q_404, .inl (cA_404, 4800, .inr (.inl fa4_uses))), (q_405, .inl (cA_405, 4800, .inr (.inl fa4_phiSets))), (q_406, .inl (cA_406, 4800, .inr (.inl fa4_phiUses))), (hc, .inr (0, [.int (zI (B1)), v_1, v_2, v_3, v_4, v_5, v_6, v_7, v_8, .ref q_709, v_10, .ref q_711, .ref q_712, v_13, v_14, v_15, v_16, v_17, v_18])), (q_709, .inl (cA_709, 300, .inl (fun j : Nat => zI (a_9 (j : Int))))), (q_711, .inl (cA_711, 300, .inl (fun j : Nat => zI (a_11 (j : Int))))), (q_712, .inl (cA_712, 300, .inl (fun j : Nat => zI (a_12 (j : Int)))))] H := hP
                have hD : va_D A [(h0, .inr (4, [.int (zI (z4_words)), .ref q_401, .ref q_402, .ref q_403, .ref q_404, .ref q_405, .ref q_406, v4_7])), (q_401, .inl (cA_401, 4800, .inr (.inl fl_2011))), (q_402, .inl (cA_402, 4800, .inr (.inl fl_2003))), (q_403, .inl (cA_403, 4800, .inr (.inl fa4_sets))), (q_404, .inl (cA_404, 4800, .inr (.inl fa4_uses))), (q_405, .inl (cA_405, 4800, .inr (.inl fa4_phiSets))), (q_406, .inl (cA_406, 4800, .inr (.inl fa4_phiUses))), (hc, .inr (0, [.int (zI (B1)), v_1, v_2, v_3, v_4, v_5, v_6, v_7, v_8, .ref q_709, v_10, .ref q_711, .ref q_712, v_13, v_14, v_15, v_16, v_17, v_18])), (q_709, .inl (cA_709, 300, .inl (fun j : Nat => zI (a_9 (j : Int))))), (q_711, .inl (cA_711, 300, .inl (fun j : Nat => zI (a_11 (j : Int))))), (q_712, .inl (cA_712, 300, .inl (fun j : Nat => zI (a_12 (j : Int)))))] := hD
                refine lv_iconst (v := 1) hx hb dX4_flowBack_149 (by decide) ?_
                refine lv_istore_n (lv' := [(3, .int 1), (8, .long x_2008), (0, .ref h0), (1, .ref hc), (2, .int (zI (b))), (4, .int (zI (d5_4))), (5, .int (zI ((b * z4_words) + d5_4))), (6, .long d37_6)]) hx hb dX4_flowBack_150 rfl hl (by decide) rfl (fun ls hl => ?_)
                refine lv_iinc (v := zI (d5_4 + 1)) (lv' := [(4, .int (zI (d5_4 + 1))), (3, .int 1), (8, .long x_2008), (0, .ref h0), (1, .ref hc), (2, .int (zI (b))), (5, .int (zI ((b * z4_words) + d5_4))), (6, .long d37_6)]) hx hb dX4_flowBack_151 hl (k := 5) rfl (zI_add (d5_4) (1)) (by decide) rfl (fun ls hl => ?_)
                refine lv_goto (tgt := 5) hx hb dX4_flowBack_154 (by decide) ?_
                exact ih5 (d5_4 + 1) 1 fl_2011 fl_2003 ls H _ (by omega) (by omega) (by omega) (lv_sub hl [3, 4, 5, 1, 0] rfl) hP hD hS
            · have yb44 : ¬ (gcF a_9 a_11 a_12 (b) : Int) ≤ (d37_8 : Int) := fun q => b44 ((zI_le (a := gcF a_9 a_11 a_12 (b)) (b := d37_8) (by omega) (by omega) (by omega) (by omega)).mpr q)
              refine lv_aload_n hx hb dX4_flowBack_47 rfl (lv_at hl 1 rfl) ?_
              refine lv_iload_n hx hb dX4_flowBack_48 rfl (lv_at hl 2 rfl) ?_
              refine lv_iload hx hb dX4_flowBack_49 (lv_at hl 7 rfl) ?_
              have hPc := hP.sub (ws' := [(hc, .inr (0, [.int (zI (B1)), v_1, v_2, v_3, v_4, v_5, v_6, v_7, v_8, .ref q_709, v_10, .ref q_711, .ref q_712, v_13, v_14, v_15, v_16, v_17, v_18])), (q_711, .inl (cA_711, 300, .inl (fun j : Nat => zI (a_11 (j : Int))))), (q_712, .inl (cA_712, 300, .inl (fun j : Nat => zI (a_12 (j : Int)))))]) [7, 9, 10] rfl
              have hDc := hD.sub (ws' := [(hc, .inr (0, [.int (zI (B1)), v_1, v_2, v_3, v_4, v_5, v_6, v_7, v_8, .ref q_709, v_10, .ref q_711, .ref q_712, v_13, v_14, v_15, v_16, v_17, v_18])), (q_711, .inl (cA_711, 300, .inl (fun j : Nat => zI (a_11 (j : Int))))), (q_712, .inl (cA_712, 300, .inl (fun j : Nat => zI (a_12 (j : Int)))))]) [7, 9, 10] (by decide) rfl
              have hKc := hK.sub (tys' := [(cA_711, .int), (cA_712, .int)]) [7, 8] rfl
              have hFc := va_free (wc := [(hc, .inr (0, [.int (zI (B1)), v_1, v_2, v_3, v_4, v_5, v_6, v_7, v_8, .ref q_709, v_10, .ref q_711, .ref q_712, v_13, v_14, v_15, v_16, v_17, v_18])), (q_711, .inl (cA_711, 300, .inl (fun j : Nat => zI (a_11 (j : Int))))), (q_712, .inl (cA_712, 300, .inl (fun j : Nat => zI (a_12 (j : Int)))))]) hD hS hA [7, 9, 10] rfl
              refine va_calli (va_runV (As := [.int (zI (b)), .int (zI (d37_8))]) (rest := []) ⟨hx, hb, hml, hown, hts⟩ (c_X0_goal l dC dI hc (.int (zI (B1))) v_1 v_2 v_3 v_4 v_5 v_6 v_7 v_8 (.ref q_709) v_10 q_711 cA_711 a_11 q_712 cA_712 a_12 v_13 v_14 v_15 v_16 v_17 v_18 b d37_8 hR_a_11 hR_a_12 (by omega) (by omega) H.size) (cwV 2 hts g_X4_flowBack_X0_goal rfl rfl rfl (by decide +kernel) ⟨(Nat.le_of_ble_eq_true rfl), (Nat.le_of_ble_eq_true rfl)⟩) ⟨fun a U g mk q => by obtain ⟨q0, q1, qP, qK, qD⟩ := q; exact ⟨q0, q1, qP, va_K.moved (u := U) (U := U.calling g mk a) (Vm.Alike.refl U.vm) qK, qD⟩, va_recv hKc hPc (ci := 0) (q0 := 0) rfl rfl, fun U hU hW => ⟨rfl, by rw [hU], by rw [hU]; exact hPc, va_K.moved hW.alike hKc, hDc.weaken (fun _ _ _ _ => trivial)⟩⟩ rfl rfl hl.1 rfl (lv_room (Nat.le_of_ble_eq_true rfl)) dX4_flowBack_51 ⟨(Nat.le_of_ble_eq_true rfl), (Nat.le_of_ble_eq_true rfl)⟩) hS (fun q _ h => hFc q h) hFc (fun r_2012 u t H1 locs ht hvm hw hB hz1 hk1 hS => ?_)
              obtain ⟨hP1, hK1, hD1⟩ := hB
              rw [ht] at hP1
              have hK1 := va_K.moved hvm.symm hK1
              obtain ⟨hP, hD⟩ := va_join (wr := [(h0, .inr (4, [.int (zI (z4_words)), .ref q_401, .ref q_402, .ref q_403, .ref q_404, .ref q_405, .ref q_406, v4_7])), (q_401, .inl (cA_401, 4800, .inr (.inl w5_401))), (q_402, .inl (cA_402, 4800, .inr (.inl w5_402))), (q_403, .inl (cA_403, 4800, .inr (.inl fa4_sets))), (q_404, .inl (cA_404, 4800, .inr (.inl fa4_uses))), (q_405, .inl (cA_405, 4800, .inr (.inl fa4_phiSets))), (q_406, .inl (cA_406, 4800, .inr (.inl fa4_phiUses))), (q_709, .inl (cA_709, 300, .inl (fun j : Nat => zI (a_9 (j : Int)))))]) (w1 := [(hc, .inr (0, [.int (zI (B1)), v_1, v_2, v_3, v_4, v_5, v_6, v_7, v_8, .ref q_709, v_10, .ref q_711, .ref q_712, v_13, v_14, v_15, v_16, v_17, v_18])), (q_711, .inl (cA_711, 300, .inl (fun j : Nat => zI (a_11 (j : Int))))), (q_712, .inl (cA_712, 300, .inl (fun j : Nat => zI (a_12 (j : Int)))))]) hP hD [7, 9, 10] [0, 1, 2, 3, 4, 5, 6, 8] rfl rfl (by decide) (by decide) hk1 hFc hP1 hD1
              have hK := (hK.sub (tys' := [(cA_401, .long), (cA_402, .long), (cA_403, .long), (cA_404, .long), (cA_405, .long), (cA_406, .long), (cA_709, .int)]) [0, 1, 2, 3, 4, 5, 6] rfl).app hK1
              generalize H1 = H at hP hS ⊢
              have hP : va_P (dC, dI) vwP [(h0, .inr (4, [.int (zI (z4_words)), .ref q_401, .ref q_402, .ref q_403, .ref q_404, .ref q_405, .ref q_406, v4_7])), (q_401, .inl (cA_401, 4800, .inr (.inl w5_401))), (q_402, .inl (cA_402, 4800, .inr (.inl w5_402))), (q_403, .inl (cA_403, 4800, .inr (.inl fa4_sets))), (q_404, .inl (cA_404, 4800, .inr (.inl fa4_uses))), (q_405, .inl (cA_405, 4800, .inr (.inl fa4_phiSets))), (q_406, .inl (cA_406, 4800, .inr (.inl fa4_phiUses))), (q_709, .inl (cA_709, 300, .inl (fun j : Nat => zI (a_9 (j : Int))))), (hc, .inr (0, [.int (zI (B1)), v_1, v_2, v_3, v_4, v_5, v_6, v_7, v_8, .ref q_709, v_10, .ref q_711, .ref q_712, v_13, v_14, v_15, v_16, v_17, v_18])), (q_711, .inl (cA_711, 300, .inl (fun j : Nat => zI (a_11 (j : Int))))), (q_712, .inl (cA_712, 300, .inl (fun j : Nat => zI (a_12 (j : Int)))))] H := hP
              have hD : va_D A [(h0, .inr (4, [.int (zI (z4_words)), .ref q_401, .ref q_402, .ref q_403, .ref q_404, .ref q_405, .ref q_406, v4_7])), (q_401, .inl (cA_401, 4800, .inr (.inl w5_401))), (q_402, .inl (cA_402, 4800, .inr (.inl w5_402))), (q_403, .inl (cA_403, 4800, .inr (.inl fa4_sets))), (q_404, .inl (cA_404, 4800, .inr (.inl fa4_uses))), (q_405, .inl (cA_405, 4800, .inr (.inl fa4_phiSets))), (q_406, .inl (cA_406, 4800, .inr (.inl fa4_phiUses))), (q_709, .inl (cA_709, 300, .inl (fun j : Nat => zI (a_9 (j : Int))))), (hc, .inr (0, [.int (zI (B1)), v_1, v_2, v_3, v_4, v_5, v_6, v_7, v_8, .ref q_709, v_10, .ref q_711, .ref q_712, v_13, v_14, v_15, v_16, v_17, v_18])), (q_711, .inl (cA_711, 300, .inl (fun j : Nat => zI (a_11 (j : Int))))), (q_712, .inl (cA_712, 300, .inl (fun j : Nat => zI (a_12 (j : Int)))))] := hD
              have hK : va_K (dC, dI) vwP [(cA_401, .long), (cA_402, .long), (cA_403, .long), (cA_404, .long), (cA_405, .long), (cA_406, .long), (cA_709, .int), (cA_711, .int), (cA_712, .int)] s := hK
              refine W.widen (k := 0) (n := 0) (Nat.le_of_ble_eq_true rfl) (Nat.le_of_ble_eq_true rfl) ?_
              obtain rfl : r_2012 = (zI (glF a_11 a_12 (b) (d37_8))) := hw
              have := gl_lt hX_G (b := b) (i := d37_8) (by omega) (by omega) (by omega) (by omega)
              refine lv_aload_n hx hb dX4_flowBack_54 rfl (lv_at hl 0 rfl) ?_
              refine va_get (D := (dC, dI)) (ci := 4) (v := .int (zI (z4_words))) (C := RX4) (T := TX4) (N := 8) hx hb hts mem_X4_flowBack_0 hown hK hP 0 rfl rfl 0 (by decide) (ow (k := 0) rfl) (fun _ h9 => h9) rfl dX4_flowBack_55 ?_
              refine lv_imul hx hb dX4_flowBack_58 ?_
              refine lv_topi (fun z ez => ?_)
              obtain rfl : z = zI ((glF a_11 a_12 (b) (d37_8)) * z4_words) := ez.trans (zI_mul (glF a_11 a_12 (b) (d37_8)) (z4_words))
              have km59 := mulb (a := glF a_11 a_12 (b) (d37_8)) (b := z4_words) (by omega) (by omega) (by omega)
              refine lv_iload hx hb dX4_flowBack_59 (lv_at hl 4 rfl) ?_
              refine lv_iadd hx hb dX4_flowBack_61 ?_
              refine lv_topi (fun z ez => ?_)
              obtain rfl : z = zI (((glF a_11 a_12 (b) (d37_8)) * z4_words) + d5_4) := ez.trans (zI_add ((glF a_11 a_12 (b) (d37_8)) * z4_words) (d5_4))
              refine lv_istore (lv' := [(9, .int (zI (((glF a_11 a_12 (b) (d37_8)) * z4_words) + d5_4))), (0, .ref h0), (1, .ref hc), (2, .int (zI (b))), (3, .int (zI (d5_3))), (4, .int (zI (d5_4))), (5, .int (zI ((b * z4_words) + d5_4))), (6, .long d37_6), (8, .int (zI (d37_8)))]) hx hb dX4_flowBack_62 hl (by decide) rfl (fun ls hl => ?_)
              refine lv_lload hx hb dX4_flowBack_64 (lv_at hl 7 rfl) ?_
              refine lv_aload_n hx hb dX4_flowBack_66 rfl (lv_at hl 1 rfl) ?_
              refine va_get (D := (dC, dI)) (ci := 4) (v := .ref q_401) (C := RX4) (T := TX4) (N := 8) hx hb hts mem_X4_flowBack_0 hown hK hP 0 rfl rfl 1 (by decide) (ow (k := 10) rfl) (fun _ h9 => h9) rfl dX4_flowBack_67 ?_
              refine lv_iload hx hb dX4_flowBack_70 (lv_at hl 0 rfl) ?_
              refine va_lald hx hb hK hP 1 0 rfl rfl (zI_in (a := ((glF a_11 a_12 (b) (d37_8)) * z4_words) + d5_4) (n := 4800) (by omega) (by omega) (by decide)) dX4_flowBack_72 ?_
              refine lv_topl (fun x_2013 _ => ?_)
              refine lv_aload_n hx hb dX4_flowBack_73 rfl (lv_at hl 1 rfl) ?_
              refine va_get (D := (dC, dI)) (ci := 4) (v := .ref q_405) (C := RX4) (T := TX4) (N := 8) hx hb hts mem_X4_flowBack_0 hown hK hP 0 rfl rfl 5 (by decide) (ow (k := 14) rfl) (fun _ h9 => h9) rfl dX4_flowBack_74 ?_
              refine lv_iload hx hb dX4_flowBack_77 (lv_at hl 0 rfl) ?_
              refine va_lald hx hb hK hP 5 4 rfl rfl (zI_in (a := ((glF a_11 a_12 (b) (d37_8)) * z4_words) + d5_4) (n := 4800) (by omega) (by omega) (by decide)) dX4_flowBack_79 ?_
              refine lv_topl (fun x_2014 _ => ?_)
              refine lv_ldc2 (v := (-1)) hx hb hown (ow (k := 9) rfl) dX4_flowBack_80 ?_
              refine lv_topl (fun z ez => ?_)
              obtain rfl : z = lI (-1) := ez
              refine lv_lxor hx hb dX4_flowBack_83 ?_
              refine lv_topl (fun x_2015 _ => ?_)
              refine lv_land hx hb dX4_flowBack_84 ?_
              refine lv_topl (fun x_2016 _ => ?_)
              refine lv_lor hx hb dX4_flowBack_85 ?_
              refine lv_topl (fun x_2017 _ => ?_)
              refine lv_lstore (lv' := [(6, .long x_2017), (9, .int (zI (((glF a_11 a_12 (b) (d37_8)) * z4_words) + d5_4))), (0, .ref h0), (1, .ref hc), (2, .int (zI (b))), (3, .int (zI (d5_3))), (4, .int (zI (d5_4))), (5, .int (zI ((b * z4_words) + d5_4))), (8, .int (zI (d37_8)))]) hx hb dX4_flowBack_86 hl (by decide) rfl (fun ls hl => ?_)
              refine lv_iinc (v := zI (d37_8 + 1)) (lv' := [(8, .int (zI (d37_8 + 1))), (6, .long x_2017), (9, .int (zI (((glF a_11 a_12 (b) (d37_8)) * z4_words) + d5_4))), (0, .ref h0), (1, .ref hc), (2, .int (zI (b))), (3, .int (zI (d5_3))), (4, .int (zI (d5_4))), (5, .int (zI ((b * z4_words) + d5_4)))]) hx hb dX4_flowBack_88 hl (k := 8) rfl (zI_add (d37_8) (1)) (by decide) rfl (fun ls hl => ?_)
              refine lv_goto (tgt := 37) hx hb dX4_flowBack_91 (by decide) ?_
              have hP := hP.sub (ws' := [(h0, .inr (4, [.int (zI (z4_words)), .ref q_401, .ref q_402, .ref q_403, .ref q_404, .ref q_405, .ref q_406, v4_7])), (q_401, .inl (cA_401, 4800, .inr (.inl w5_401))), (q_402, .inl (cA_402, 4800, .inr (.inl w5_402))), (q_403, .inl (cA_403, 4800, .inr (.inl fa4_sets))), (q_404, .inl (cA_404, 4800, .inr (.inl fa4_uses))), (q_405, .inl (cA_405, 4800, .inr (.inl fa4_phiSets))), (q_406, .inl (cA_406, 4800, .inr (.inl fa4_phiUses))), (hc, .inr (0, [.int (zI (B1)), v_1, v_2, v_3, v_4, v_5, v_6, v_7, v_8, .ref q_709, v_10, .ref q_711, .ref q_712, v_13, v_14, v_15, v_16, v_17, v_18])), (q_709, .inl (cA_709, 300, .inl (fun j : Nat => zI (a_9 (j : Int))))), (q_711, .inl (cA_711, 300, .inl (fun j : Nat => zI (a_11 (j : Int))))), (q_712, .inl (cA_712, 300, .inl (fun j : Nat => zI (a_12 (j : Int)))))]) [0, 1, 2, 3, 4, 5, 6, 8, 7, 9, 10] rfl
              have hD := hD.sub (ws' := [(h0, .inr (4, [.int (zI (z4_words)), .ref q_401, .ref q_402, .ref q_403, .ref q_404, .ref q_405, .ref q_406, v4_7])), (q_401, .inl (cA_401, 4800, .inr (.inl w5_401))), (q_402, .inl (cA_402, 4800, .inr (.inl w5_402))), (q_403, .inl (cA_403, 4800, .inr (.inl fa4_sets))), (q_404, .inl (cA_404, 4800, .inr (.inl fa4_uses))), (q_405, .inl (cA_405, 4800, .inr (.inl fa4_phiSets))), (q_406, .inl (cA_406, 4800, .inr (.inl fa4_phiUses))), (hc, .inr (0, [.int (zI (B1)), v_1, v_2, v_3, v_4, v_5, v_6, v_7, v_8, .ref q_709, v_10, .ref q_711, .ref q_712, v_13, v_14, v_15, v_16, v_17, v_18])), (q_709, .inl (cA_709, 300, .inl (fun j : Nat => zI (a_9 (j : Int))))), (q_711, .inl (cA_711, 300, .inl (fun j : Nat => zI (a_11 (j : Int))))), (q_712, .inl (cA_712, 300, .inl (fun j : Nat => zI (a_12 (j : Int)))))]) [0, 1, 2, 3, 4, 5, 6, 8, 7, 9, 10] (by decide) rfl
              exact ih37 (d37_8 + 1) x_2017 ls H _ (by omega) (by omega) (lv_sub hl [3, 4, 5, 6, 7, 8, 1, 0] rfl) hP hD hS
        exact key37 (((gcF a_9 a_11 a_12 (b)) - (0) : Int).toNat + 1) 0 x_2001 ls H _ (by omega) (by omega) (lv_sub hl [3, 4, 5, 6, 7, 2, 1, 0] rfl) hP hD hS
  exact key5 (((z4_words) - (0) : Int).toNat + 1) 0 0 fa4_start fa4_finish ls H _ (by omega) (by omega) (by omega) (lv_sub hl [2, 3, 4, 1, 0] rfl) hP hD hS
theorem dX4_sizeAtStart_0 : decode cX4_sizeAtStart 0 = .ok (.aload_n 0, 1) := by decide +kernel
theorem dX4_sizeAtStart_1 : decode cX4_sizeAtStart 1 = .ok (.getfield 15, 3) := by decide +kernel
theorem dX4_sizeAtStart_4 : decode cX4_sizeAtStart 4 = .ok (.iload_n 1, 1) := by decide +kernel
theorem dX4_sizeAtStart_5 : decode cX4_sizeAtStart 5 = .ok (.aload_n 0, 1) := by decide +kernel
theorem dX4_sizeAtStart_6 : decode cX4_sizeAtStart 6 = .ok (.getfield 9, 3) := by decide +kernel
theorem dX4_sizeAtStart_9 : decode cX4_sizeAtStart 9 = .ok (.imul, 1) := by decide +kernel
theorem dX4_sizeAtStart_10 : decode cX4_sizeAtStart 10 = .ok (.aload_n 0, 1) := by decide +kernel
theorem dX4_sizeAtStart_11 : decode cX4_sizeAtStart 11 = .ok (.getfield 9, 3) := by decide +kernel
theorem dX4_sizeAtStart_14 : decode cX4_sizeAtStart 14 = .ok (.invokestatic 62, 3) := by decide +kernel
theorem dX4_sizeAtStart_17 : decode cX4_sizeAtStart 17 = .ok (.ireturn, 1) := by decide +kernel
def o_X4_sizeAtStart : List Cond := [.fieldLink RX4 15 "SsaForge$Live" "start" "[J", .fieldLink RX4 9 "SsaForge$Live" "words" "I", .initialized RX11, .static yX11_countBits]
def v_X4_sizeAtStart : List Cond := .code yX4_sizeAtStart cX4_sizeAtStart 2 (some .int) :: (o_X4_sizeAtStart ++ (wsX40 ++ (v_X11_countBits ++ [])))
theorem mow_X4_sizeAtStart : ∀ w ∈ o_X4_sizeAtStart, w ∈ v_X4_sizeAtStart := fun _ h => List.mem_cons_of_mem _ (List.mem_append_left _ h)
theorem mem_X4_sizeAtStart_0 : ∀ w ∈ wsX40, w ∈ v_X4_sizeAtStart := fun _ h => List.mem_cons_of_mem _ (List.mem_append_right _ (List.mem_append_left _ h))
theorem mem_X4_sizeAtStart_1 : ∀ w ∈ v_X11_countBits, w ∈ v_X4_sizeAtStart := fun _ h => List.mem_cons_of_mem _ (List.mem_append_right _ (List.mem_append_right _ (List.mem_append_left _ h)))
set_option maxRecDepth 20000 in
theorem gw_X4_sizeAtStart : v_X4_sizeAtStart.all goodWord = true := by decide +kernel
set_option maxHeartbeats 4000000 in
set_option maxRecDepth 100000 in
theorem c_X4_sizeAtStart (l : Launch) (dC : Nat → ClassId) (dI : Nat → Nat → Nat) (h0 : Nat) (z4_words : Int) (q_401 : Nat) (cA_401 : ClassId) (fa4_start : Nat → Int64) (v4_2 : Value) (v4_3 : Value) (v4_4 : Value) (v4_5 : Value) (v4_6 : Value) (v4_7 : Value) (b : Int) (hNz4_words : 0 ≤ z4_words ∧ z4_words ≤ 16) (hNb : 0 ≤ b ∧ b < 300) (sz : Nat) : Met l yX4_sizeAtStart v_X4_sizeAtStart ({ frames := 2, cells := 0, slots := 0, locals := 45 }) (va_Pc [.ref h0, .int (zI (b))] (fun U => U.heap.size = sz ∧ va_P (dC, dI) vwP [(h0, .inr (4, [.int (zI (z4_words)), .ref q_401, v4_2, v4_3, v4_4, v4_5, v4_6, v4_7])), (q_401, .inl (cA_401, 4800, .inr (.inl fa4_start)))] U.heap ∧ va_K (dC, dI) vwP [(cA_401, .long)] U ∧ va_D (fun _ => True) [(h0, .inr (4, [.int (zI (z4_words)), .ref q_401, v4_2, v4_3, v4_4, v4_5, v4_6, v4_7])), (q_401, .inl (cA_401, 4800, .inr (.inl fa4_start)))] ∧ va_Nw (.methodLinkNest RX4 62 yX11_countBits "SsaForge") U)) (va_Qi (fun (r : Int32) (_ : Unit) => ∃ z : Int, r = zI z ∧ (0 ≤ z ∧ z ≤ 12700)) (fun (_ : Unit) (t : State) => va_P (dC, dI) vwP [(h0, .inr (4, [.int (zI (z4_words)), .ref q_401, v4_2, v4_3, v4_4, v4_5, v4_6, v4_7])), (q_401, .inl (cA_401, 4800, .inr (.inl fa4_start)))] t.heap ∧ va_K (dC, dI) vwP [(cA_401, .long)] t ∧ va_D (va_A [(h0, .inr (4, [.int (zI (z4_words)), .ref q_401, v4_2, v4_3, v4_4, v4_5, v4_6, v4_7])), (q_401, .inl (cA_401, 4800, .inr (.inl fa4_start)))] sz) [(h0, .inr (4, [.int (zI (z4_words)), .ref q_401, v4_2, v4_3, v4_4, v4_5, v4_6, v4_7])), (q_401, .inl (cA_401, 4800, .inr (.inl fa4_start)))]) (va_A [(h0, .inr (4, [.int (zI (z4_words)), .ref q_401, v4_2, v4_3, v4_4, v4_5, v4_6, v4_7])), (q_401, .inl (cA_401, 4800, .inr (.inl fa4_start)))] sz)) 0 0 (va_A [(h0, .inr (4, [.int (zI (z4_words)), .ref q_401, v4_2, v4_3, v4_4, v4_5, v4_6, v4_7])), (q_401, .inl (cA_401, 4800, .inr (.inl fa4_start)))] sz) := by
  refine Met.ofW (cc := cX4_sizeAtStart) (maxL := 2) (ret := (some .int)) (by decide) rfl ?_
  intro p e s m args below meth c s₁ B hml hv
  obtain ⟨rfl, hsz, hP, hK, hD0, hp0⟩ := hv
  have hx := B.exec
  have hb := B.bytes
  have hr := B.returns
  have hts := atoms_spec (ws := v_X4_sizeAtStart) B.pre
  have hown : s.vm.findClass RX4 = some m.cls := findClass_of_methodNamed B.named
  have hlocks := B.notSynchronized
  have ow : ∀ {k : Nat} {w : Cond}, o_X4_sizeAtStart[k]? = some w → w.before ([.ref h0, .int (zI (b))] : List Value).toArray s = true := fun h => hts _ (mow_X4_sizeAtStart _ (List.mem_of_getElem? h))
  subst hsz
  have hD := hD0.self (sz := s.heap.size)
  generalize hAe : va_A [(h0, .inr (4, [.int (zI (z4_words)), .ref q_401, v4_2, v4_3, v4_4, v4_5, v4_6, v4_7])), (q_401, .inl (cA_401, 4800, .inr (.inl fa4_start)))] s.heap.size = A at hD ⊢
  have hA : ∀ q : Nat, s.heap.size ≤ q → A q := fun q h => by rw [← hAe]; exact Or.inr h
  have hS : va_S A s.heap s.heap [] := va_S.rf
  have hP : va_P (dC, dI) vwP [(h0, .inr (4, [.int (zI (z4_words)), .ref q_401, v4_2, v4_3, v4_4, v4_5, v4_6, v4_7])), (q_401, .inl (cA_401, 4800, .inr (.inl fa4_start)))] s.heap := hP
  have hl := lv_entry ([.ref h0, .int (zI (b))]) (n := 2) (Nat.le_of_ble_eq_true rfl)
  rw [lg_entry_eq]
  generalize (lg_sl ([.ref h0, .int (zI (b))]) ++ List.replicate (2 - (lg_sl ([.ref h0, .int (zI (b))])).length) Slot.unset).toArray = ls at hl ⊢
  have hl : lv_has ls 2 [(0, .ref h0), (1, .int (zI (b)))] := hl
  obtain ⟨H, hH⟩ : ∃ H, H = s.heap := ⟨_, rfl⟩
  rw [← hH] at hP
  have hS : va_S A s.heap H [] := by rw [hH]; exact hS
  rw [← hH]
  refine zW_cap (fun Q hQ => ?_)
  refine lv_aload_n hx hb dX4_sizeAtStart_0 rfl (lv_at hl 0 rfl) ?_
  refine va_get (D := (dC, dI)) (ci := 4) (v := .ref q_401) (C := RX4) (T := TX4) (N := 8) hx hb hts mem_X4_sizeAtStart_0 hown hK hP 0 rfl rfl 1 (by decide) (ow (k := 0) rfl) (fun _ h9 => h9) rfl dX4_sizeAtStart_1 ?_
  refine lv_iload_n hx hb dX4_sizeAtStart_4 rfl (lv_at hl 1 rfl) ?_
  refine lv_aload_n hx hb dX4_sizeAtStart_5 rfl (lv_at hl 0 rfl) ?_
  refine va_get (D := (dC, dI)) (ci := 4) (v := .int (zI (z4_words))) (C := RX4) (T := TX4) (N := 8) hx hb hts mem_X4_sizeAtStart_0 hown hK hP 0 rfl rfl 0 (by decide) (ow (k := 1) rfl) (fun _ h9 => h9) rfl dX4_sizeAtStart_6 ?_
  refine lv_imul hx hb dX4_sizeAtStart_9 ?_
  refine lv_topi (fun z ez => ?_)
  obtain rfl : z = zI (b * z4_words) := ez.trans (zI_mul (b) (z4_words))
  have km10 := mulb (a := b) (b := z4_words) (by omega) (by omega) (by omega)
  refine lv_aload_n hx hb dX4_sizeAtStart_10 rfl (lv_at hl 0 rfl) ?_
  refine va_get (D := (dC, dI)) (ci := 4) (v := .int (zI (z4_words))) (C := RX4) (T := TX4) (N := 8) hx hb hts mem_X4_sizeAtStart_0 hown hK hP 0 rfl rfl 0 (by decide) (ow (k := 1) rfl) (fun _ h9 => h9) rfl dX4_sizeAtStart_11 ?_
  have hPc := hP.sub (ws' := [(q_401, .inl (cA_401, 4800, .inr (.inl fa4_start)))]) [1] rfl
  have hDc := hD.sub (ws' := [(q_401, .inl (cA_401, 4800, .inr (.inl fa4_start)))]) [1] (by decide) rfl
  have hKc := hK.sub (tys' := [(cA_401, .long)]) [0] rfl
  have hFc := va_free (wc := [(q_401, .inl (cA_401, 4800, .inr (.inl fa4_start)))]) hD hS hA [1] rfl
  refine va_calli (va_runSN (As := [.ref q_401, .int (zI (b * z4_words)), .int (zI (z4_words))]) (rest := []) ⟨hx, hb, hml, hown, hts⟩ (c_X11_countBits l dC dI q_401 cA_401 4800 fa4_start (b * z4_words) z4_words (by omega) H.size) ⟨va_cnB 3 hts (goodIn_sub mem_X4_sizeAtStart_1 gw_X11_countBits) rfl rfl rfl hp0 (ow (k := 2) rfl) (by decide +kernel) ⟨(Nat.le_of_ble_eq_true rfl), (Nat.le_of_ble_eq_true rfl)⟩, (ow (k := 3) rfl), trivial⟩ ⟨fun a U g mk q => by obtain ⟨q0, q1, qP, qK, qD⟩ := q; exact ⟨q0, q1, qP, va_K.moved (u := U) (U := U.calling g mk a) (Vm.Alike.refl U.vm) qK, qD⟩, fun U hU hW => ⟨rfl, by rw [hU], by rw [hU]; exact hPc, va_K.moved hW.alike hKc, hDc.weaken (fun _ _ _ _ => trivial)⟩⟩ rfl rfl hl.1 rfl (lv_room (Nat.le_of_ble_eq_true rfl)) dX4_sizeAtStart_14 ⟨(Nat.le_of_ble_eq_true rfl), (Nat.le_of_ble_eq_true rfl)⟩) hS (fun q _ h => hFc q h) hFc (fun r_2001 u t H1 locs ht hvm hw hB hz1 hk1 hS => ?_)
  obtain ⟨hP1, hK1, hD1⟩ := hB
  rw [ht] at hP1
  have hK1 := va_K.moved hvm.symm hK1
  obtain ⟨hP, hD⟩ := va_join (wr := [(h0, .inr (4, [.int (zI (z4_words)), .ref q_401, v4_2, v4_3, v4_4, v4_5, v4_6, v4_7]))]) (w1 := [(q_401, .inl (cA_401, 4800, .inr (.inl fa4_start)))]) hP hD [1] [0] rfl rfl (by decide) (by decide) hk1 hFc hP1 hD1
  have hK := (hK.sub (tys' := []) [] rfl).app hK1
  generalize H1 = H at hP hS ⊢
  have hP : va_P (dC, dI) vwP [(h0, .inr (4, [.int (zI (z4_words)), .ref q_401, v4_2, v4_3, v4_4, v4_5, v4_6, v4_7])), (q_401, .inl (cA_401, 4800, .inr (.inl fa4_start)))] H := hP
  have hD : va_D A [(h0, .inr (4, [.int (zI (z4_words)), .ref q_401, v4_2, v4_3, v4_4, v4_5, v4_6, v4_7])), (q_401, .inl (cA_401, 4800, .inr (.inl fa4_start)))] := hD
  have hK : va_K (dC, dI) vwP [(cA_401, .long)] s := hK
  refine W.widen (k := 0) (n := 0) (Nat.le_of_ble_eq_true rfl) (Nat.le_of_ble_eq_true rfl) ?_
  have hw_2002 := hw
  obtain ⟨z_2003, rfl, hzz_2003⟩ := hw_2002
  subst hQ
  refine W.widen (k := 0) (n := 0) (Nat.le_of_ble_eq_true rfl) (Nat.le_of_ble_eq_true rfl) ?_
  exact W.iret (v := (zI (z_2003))) hx hb hr (fun t ht hW => ⟨⟨(zI (z_2003)), (), rfl, ⟨z_2003, rfl, by omega⟩, by rw [ht]; exact hP, va_K.moved hW.alike hK, hD⟩, hS.F ht⟩) hS.2.2 dX4_sizeAtStart_17
