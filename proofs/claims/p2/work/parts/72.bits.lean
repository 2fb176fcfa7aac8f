def o_J13_bitCountL : List Cond := [.constantLong RJ13 314 (6148914691236517205), .constantLong RJ13 316 (3689348814741910323), .constantLong RJ13 318 (1085102592571150095)]
def v_J13_bitCountL : List Cond := .code yJ13_bitCount_95d88 cJ13_bitCount_95d88 2 (some .int) :: (o_J13_bitCountL ++ [])
theorem mow_J13_bitCountL : ∀ w ∈ o_J13_bitCountL, w ∈ v_J13_bitCountL := fun _ h => List.mem_cons_of_mem _ (List.mem_append_left _ h)
set_option maxRecDepth 20000 in
theorem gw_J13_bitCountL : v_J13_bitCountL.all goodWord = true := by decide +kernel
set_option maxHeartbeats 4000000 in
set_option maxRecDepth 100000 in
theorem c_J13_bitCountL (l : Launch) (dC : Nat → ClassId) (dI : Nat → Nat → Nat) (x : Int64) (sz : Nat) : Met l yJ13_bitCount_95d88 v_J13_bitCountL ({ frames := 0, cells := 0, slots := 0, locals := 0 }) (va_Pc [.long x] (fun U => U.heap.size = sz ∧ va_P (dC, dI) vwP [] U.heap ∧ va_K (dC, dI) vwP [] U ∧ va_D (fun _ => True) [])) (va_Qi (fun (r : Int32) (_ : Unit) => r = zI (pcI (x))) (fun (_ : Unit) (t : State) => va_P (dC, dI) vwP [] t.heap ∧ va_K (dC, dI) vwP [] t ∧ va_D (va_A [] sz) []) (va_A [] sz)) 0 0 (va_A [] sz) := by
  refine Met.ofW (cc := cJ13_bitCount_95d88) (maxL := 2) (ret := (some .int)) (by decide) rfl ?_
  intro p e s m args below meth c s₁ B hml hv
  obtain ⟨rfl, hsz, hP, hK, hD0⟩ := hv
  have hx := B.exec
  have hb := B.bytes
  have hr := B.returns
  have hts := atoms_spec (ws := v_J13_bitCountL) B.pre
  have hown : s.vm.findClass RJ13 = some m.cls := findClass_of_methodNamed B.named
  have hlocks := B.notSynchronized
  have ow : ∀ {k : Nat} {w : Cond}, o_J13_bitCountL[k]? = some w → w.before ([.long x] : List Value).toArray s = true := fun h => hts _ (mow_J13_bitCountL _ (List.mem_of_getElem? h))
  subst hsz
  have hD := hD0.self (sz := s.heap.size)
  generalize hAe : va_A [] s.heap.size = A at hD ⊢
  have hA : ∀ q : Nat, s.heap.size ≤ q → A q := fun q h => by rw [← hAe]; exact Or.inr h
  have hS : va_S A s.heap s.heap [] := va_S.rf
  have hP : va_P (dC, dI) vwP [] s.heap := hP
  have hl := lv_entry ([.long x]) (n := 2) (Nat.le_of_ble_eq_true rfl)
  rw [lg_entry_eq]
  generalize (lg_sl ([.long x]) ++ List.replicate (2 - (lg_sl ([.long x])).length) Slot.unset).toArray = ls at hl ⊢
  have hl : lv_has ls 2 [(0, .long x)] := hl
  obtain ⟨H, hH⟩ : ∃ H, H = s.heap := ⟨_, rfl⟩
  rw [← hH] at hP
  have hS : va_S A s.heap H [] := by rw [hH]; exact hS
  rw [← hH]
  refine zW_cap (fun Q hQ => ?_)
  refine lv_lload_n hx hb dJ13_bitCount_95d88_0 rfl (lv_at hl 0 rfl) ?_
  refine lv_lload_n hx hb dJ13_bitCount_95d88_1 rfl (lv_at hl 0 rfl) ?_
  refine lv_iconst (v := 1) hx hb dJ13_bitCount_95d88_2 (by decide) ?_
  refine lv_lushr hx hb dJ13_bitCount_95d88_3 rfl ?_
  refine lv_topl (fun x_1 ex_1 => ?_)
  refine lv_ldc2 (v := 6148914691236517205) hx hb hown (ow (k := 0) rfl) dJ13_bitCount_95d88_4 ?_
  refine lv_topl (fun z ez => ?_)
  obtain rfl : z = lI (6148914691236517205) := ez
  refine lv_land hx hb dJ13_bitCount_95d88_7 ?_
  refine lv_topl (fun x_2 ex_2 => ?_)
  refine lv_lsub hx hb dJ13_bitCount_95d88_8 ?_
  refine lv_topl (fun x_3 ex_3 => ?_)
  refine lv_lstore_n (lv' := [(0, .long x_3)]) hx hb dJ13_bitCount_95d88_9 rfl hl (by decide) rfl (fun ls hl => ?_)
  refine lv_lload_n hx hb dJ13_bitCount_95d88_10 rfl (lv_at hl 0 rfl) ?_
  refine lv_ldc2 (v := 3689348814741910323) hx hb hown (ow (k := 1) rfl) dJ13_bitCount_95d88_11 ?_
  refine lv_topl (fun z ez => ?_)
  obtain rfl : z = lI (3689348814741910323) := ez
  refine lv_land hx hb dJ13_bitCount_95d88_14 ?_
  refine lv_topl (fun x_4 ex_4 => ?_)
  refine lv_lload_n hx hb dJ13_bitCount_95d88_15 rfl (lv_at hl 0 rfl) ?_
  refine lv_iconst (v := 2) hx hb dJ13_bitCount_95d88_16 (by decide) ?_
  refine lv_lushr hx hb dJ13_bitCount_95d88_17 rfl ?_
  refine lv_topl (fun x_5 ex_5 => ?_)
  refine lv_ldc2 (v := 3689348814741910323) hx hb hown (ow (k := 1) rfl) dJ13_bitCount_95d88_18 ?_
  refine lv_topl (fun z ez => ?_)
  obtain rfl : z = lI (3689348814741910323) := ez
  refine lv_land hx hb dJ13_bitCount_95d88_21 ?_
  refine lv_topl (fun x_6 ex_6 => ?_)
  refine lv_ladd hx hb dJ13_bitCount_95d88_22 ?_
  refine lv_topl (fun x_7 ex_7 => ?_)
  refine lv_lstore_n (lv' := [(0, .long x_7)]) hx hb dJ13_bitCount_95d88_23 rfl hl (by decide) rfl (fun ls hl => ?_)
  refine lv_lload_n hx hb dJ13_bitCount_95d88_24 rfl (lv_at hl 0 rfl) ?_
  refine lv_lload_n hx hb dJ13_bitCount_95d88_25 rfl (lv_at hl 0 rfl) ?_
  refine lv_iconst (v := 4) hx hb dJ13_bitCount_95d88_26 (by decide) ?_
  refine lv_lushr hx hb dJ13_bitCount_95d88_27 rfl ?_
  refine lv_topl (fun x_8 ex_8 => ?_)
  refine lv_ladd hx hb dJ13_bitCount_95d88_28 ?_
  refine lv_topl (fun x_9 ex_9 => ?_)
  refine lv_ldc2 (v := 1085102592571150095) hx hb hown (ow (k := 2) rfl) dJ13_bitCount_95d88_29 ?_
  refine lv_topl (fun z ez => ?_)
  obtain rfl : z = lI (1085102592571150095) := ez
  refine lv_land hx hb dJ13_bitCount_95d88_32 ?_
  refine lv_topl (fun x_10 ex_10 => ?_)
  refine lv_lstore_n (lv' := [(0, .long x_10)]) hx hb dJ13_bitCount_95d88_33 rfl hl (by decide) rfl (fun ls hl => ?_)
  refine lv_lload_n hx hb dJ13_bitCount_95d88_34 rfl (lv_at hl 0 rfl) ?_
  refine lv_lload_n hx hb dJ13_bitCount_95d88_35 rfl (lv_at hl 0 rfl) ?_
  refine lv_bipush (v := 8) hx hb dJ13_bitCount_95d88_36 (by decide) ?_
  refine lv_lushr hx hb dJ13_bitCount_95d88_38 rfl ?_
  refine lv_topl (fun x_11 ex_11 => ?_)
  refine lv_ladd hx hb dJ13_bitCount_95d88_39 ?_
  refine lv_topl (fun x_12 ex_12 => ?_)
  refine lv_lstore_n (lv' := [(0, .long x_12)]) hx hb dJ13_bitCount_95d88_40 rfl hl (by decide) rfl (fun ls hl => ?_)
  refine lv_lload_n hx hb dJ13_bitCount_95d88_41 rfl (lv_at hl 0 rfl) ?_
  refine lv_lload_n hx hb dJ13_bitCount_95d88_42 rfl (lv_at hl 0 rfl) ?_
  refine lv_bipush (v := 16) hx hb dJ13_bitCount_95d88_43 (by decide) ?_
  refine lv_lushr hx hb dJ13_bitCount_95d88_45 rfl ?_
  refine lv_topl (fun x_13 ex_13 => ?_)
  refine lv_ladd hx hb dJ13_bitCount_95d88_46 ?_
  refine lv_topl (fun x_14 ex_14 => ?_)
  refine lv_lstore_n (lv' := [(0, .long x_14)]) hx hb dJ13_bitCount_95d88_47 rfl hl (by decide) rfl (fun ls hl => ?_)
  refine lv_lload_n hx hb dJ13_bitCount_95d88_48 rfl (lv_at hl 0 rfl) ?_
  refine lv_lload_n hx hb dJ13_bitCount_95d88_49 rfl (lv_at hl 0 rfl) ?_
  refine lv_bipush (v := 32) hx hb dJ13_bitCount_95d88_50 (by decide) ?_
  refine lv_lushr hx hb dJ13_bitCount_95d88_52 rfl ?_
  refine lv_topl (fun x_15 ex_15 => ?_)
  refine lv_ladd hx hb dJ13_bitCount_95d88_53 ?_
  refine lv_topl (fun x_16 ex_16 => ?_)
  refine lv_lstore_n (lv' := [(0, .long x_16)]) hx hb dJ13_bitCount_95d88_54 rfl hl (by decide) rfl (fun ls hl => ?_)
  refine lv_lload_n hx hb dJ13_bitCount_95d88_55 rfl (lv_at hl 0 rfl) ?_
  refine lv_l2i hx hb dJ13_bitCount_95d88_56 rfl ?_
  refine lv_topi (fun x_17 ex_17 => ?_)
  refine lv_bipush (v := 127) hx hb dJ13_bitCount_95d88_57 (by decide) ?_
  refine lv_iand hx hb dJ13_bitCount_95d88_59 ?_
  refine lv_topi (fun x_18 ex_18 => ?_)
  subst hQ
  refine W.widen (k := 0) (n := 0) (Nat.le_of_ble_eq_true rfl) (Nat.le_of_ble_eq_true rfl) ?_
  exact W.iret (v := x_18) hx hb hr (fun t ht hW => ⟨⟨x_18, (), rfl, (by rw [ex_18, ex_17]; exact bc64 (ex_3.trans (by rw [ex_2, ex_1]; rfl)) (ex_7.trans (by rw [ex_4, ex_6, ex_5]; rfl)) (ex_10.trans (by rw [ex_9, ex_8]; rfl)) (ex_12.trans (by rw [ex_11]; rfl)) (ex_14.trans (by rw [ex_13]; rfl)) (ex_16.trans (by rw [ex_15]; rfl))), by rw [ht]; exact hP, va_K.moved hW.alike hK, hD⟩, hS.F ht⟩) hS.2.2 dJ13_bitCount_95d88_60
def o_X11_countBitsL : List Cond := [.methodLink RX11 332 yJ13_bitCount_95d88, .static yJ13_bitCount_95d88, .initialized RJ13]
def v_X11_countBitsL : List Cond := .code yX11_countBits cX11_countBits 5 (some .int) :: (o_X11_countBitsL ++ (v_J13_bitCountL ++ []))
theorem mow_X11_countBitsL : ∀ w ∈ o_X11_countBitsL, w ∈ v_X11_countBitsL := fun _ h => List.mem_cons_of_mem _ (List.mem_append_left _ h)
theorem mem_X11_countBitsL_0 : ∀ w ∈ v_J13_bitCountL, w ∈ v_X11_countBitsL := fun _ h => List.mem_cons_of_mem _ (List.mem_append_right _ (List.mem_append_left _ h))
set_option maxRecDepth 20000 in
theorem gw_X11_countBitsL : v_X11_countBitsL.all goodWord = true := by decide +kernel
set_option maxRecDepth 20000 in
theorem g_X11_countBitsL_J13_bitCountL : GoodIn v_X11_countBitsL (va_wsS RX11 332 yJ13_bitCount_95d88 v_J13_bitCountL) := goodIn_app (goodIn_sub (fun w h => mow_X11_countBitsL w (by revert w h; decide +kernel)) (by decide +kernel)) (goodIn_sub mem_X11_countBitsL_0 gw_J13_bitCountL)
set_option maxHeartbeats 4000000 in
set_option maxRecDepth 100000 in
theorem c_X11_countBitsL (l : Launch) (dC : Nat → ClassId) (dI : Nat → Nat → Nat) (q_1 : Nat) (cA_1 : ClassId) (nn : Nat) (fl_1 : Nat → Int64) (fr : Int) (nw : Int) (hNb : 0 ≤ fr ∧ 0 ≤ nw ∧ nw ≤ 100 ∧ fr + nw ≤ nn ∧ nn < 1000000) (sz : Nat) : Met l yX11_countBits v_X11_countBitsL ({ frames := 1, cells := 0, slots := 0, locals := 21 }) (va_Pc [.ref q_1, .int (zI (fr)), .int (zI (nw))] (fun U => U.heap.size = sz ∧ va_P (dC, dI) vwP [(q_1, .inl (cA_1, nn, .inr (.inl fl_1)))] U.heap ∧ va_K (dC, dI) vwP [(cA_1, .long)] U ∧ va_D (fun _ => True) [(q_1, .inl (cA_1, nn, .inr (.inl fl_1)))])) (va_Qi (fun (r : Int32) (_ : Unit) => r = zI (pcS fl_1 (fr) (nw).toNat)) (fun (_ : Unit) (t : State) => va_P (dC, dI) vwP [(q_1, .inl (cA_1, nn, .inr (.inl fl_1)))] t.heap ∧ va_K (dC, dI) vwP [(cA_1, .long)] t ∧ va_D (va_A [(q_1, .inl (cA_1, nn, .inr (.inl fl_1)))] sz) [(q_1, .inl (cA_1, nn, .inr (.inl fl_1)))]) (va_A [(q_1, .inl (cA_1, nn, .inr (.inl fl_1)))] sz)) 0 0 (va_A [(q_1, .inl (cA_1, nn, .inr (.inl fl_1)))] sz) := by
  refine Met.ofW (cc := cX11_countBits) (maxL := 5) (ret := (some .int)) (by decide) rfl ?_
  intro p e s m args below meth c s₁ B hml hv
  obtain ⟨rfl, hsz, hP, hK, hD0⟩ := hv
  have hx := B.exec
  have hb := B.bytes
  have hr := B.returns
  have hts := atoms_spec (ws := v_X11_countBitsL) B.pre
  have hown : s.vm.findClass RX11 = some m.cls := findClass_of_methodNamed B.named
  have hlocks := B.notSynchronized
  have ow : ∀ {k : Nat} {w : Cond}, o_X11_countBitsL[k]? = some w → w.before ([.ref q_1, .int (zI (fr)), .int (zI (nw))] : List Value).toArray s = true := fun h => hts _ (mow_X11_countBitsL _ (List.mem_of_getElem? h))
  subst hsz
  have hD := hD0.self (sz := s.heap.size)
  generalize hAe : va_A [(q_1, .inl (cA_1, nn, .inr (.inl fl_1)))] s.heap.size = A at hD ⊢
  have hA : ∀ q : Nat, s.heap.size ≤ q → A q := fun q h => by rw [← hAe]; exact Or.inr h
  have hS : va_S A s.heap s.heap [] := va_S.rf
  have hP : va_P (dC, dI) vwP [(q_1, .inl (cA_1, nn, .inr (.inl fl_1)))] s.heap := hP
  have hl := lv_entry ([.ref q_1, .int (zI (fr)), .int (zI (nw))]) (n := 5) (Nat.le_of_ble_eq_true rfl)
  rw [lg_entry_eq]
  generalize (lg_sl ([.ref q_1, .int (zI (fr)), .int (zI (nw))]) ++ List.replicate (5 - (lg_sl ([.ref q_1, .int (zI (fr)), .int (zI (nw))])).length) Slot.unset).toArray = ls at hl ⊢
  have hl : lv_has ls 5 [(0, .ref q_1), (1, .int (zI (fr))), (2, .int (zI (nw)))] := hl
  obtain ⟨H, hH⟩ : ∃ H, H = s.heap := ⟨_, rfl⟩
  rw [← hH] at hP
  have hS : va_S A s.heap H [] := by rw [hH]; exact hS
  rw [← hH]
  refine zW_cap (fun Q hQ => ?_)
  refine lv_iconst (v := 0) hx hb dX11_countBits_0 (by decide) ?_
  refine lv_istore_n (lv' := [(3, .int 0), (0, .ref q_1), (1, .int (zI (fr))), (2, .int (zI (nw)))]) hx hb dX11_countBits_1 rfl hl (by decide) rfl (fun ls hl => ?_)
  refine lv_iconst (v := 0) hx hb dX11_countBits_2 (by decide) ?_
  refine lv_istore (lv' := [(4, .int 0), (3, .int 0), (0, .ref q_1), (1, .int (zI (fr))), (2, .int (zI (nw)))]) hx hb dX11_countBits_3 hl (by decide) rfl (fun ls hl => ?_)
  have key5 : ∀ n5 : Nat, ∀ (d5_4 : Int) (d5_3 : Int) (ls : Array Slot) (H : Heap) (locs : List Loc), (0 ≤ d5_4 ∧ d5_4 ≤ nw) → (d5_3 = pcS fl_1 fr (d5_4).toNat) → (((nw) - (d5_4) : Int).toNat) < n5 → lv_has ls 5 [(0, .ref q_1), (1, .int (zI (fr))), (2, .int (zI (nw))), (3, .int (zI (d5_3))), (4, .int (zI (d5_4)))] → va_P (dC, dI) vwP [(q_1, .inl (cA_1, nn, .inr (.inl fl_1)))] H → va_D A [(q_1, .inl (cA_1, nn, .inr (.inl fl_1)))] → va_S A s.heap H locs → W p l e (headSpec v_X11_countBitsL ({ frames := 1, cells := 0, slots := 0, locals := 21 })).room s m ([.ref q_1, .int (zI (fr)), .int (zI (nw))] : List Value).toArray below meth c H locs 0 0 Q (F0 m 5 ls []) := by
    intro n5
    induction n5 with
    | zero => intro d5_4 d5_3 ls H locs jd5_4 jd5_3 hm5; exact absurd hm5 (by omega)
    | succ n5 ih5 =>
      intro d5_4 d5_3 ls H locs jd5_4 jd5_3 hm5 hl hP hD hS
      have hc9 := pcS_rng fl_1 fr (d5_4).toNat
      refine lv_iload hx hb dX11_countBits_5 (lv_at hl 4 rfl) ?_
      refine lv_iload_n hx hb dX11_countBits_7 rfl (lv_at hl 2 rfl) ?_
      refine lv_icmp_ge (tgt := 29) hx hb dX11_countBits_8 (by decide) (fun b8 => ?_) (fun b8 => ?_)
      · have yb8 : (nw : Int) ≤ (d5_4 : Int) := (zI_le (a := nw) (b := d5_4) (by omega) (by omega) (by omega) (by omega)).mp b8
        refine lv_iload_n hx hb dX11_countBits_29 rfl (lv_at hl 3 rfl) ?_
        subst hQ
        refine W.widen (k := 0) (n := 0) (Nat.le_of_ble_eq_true rfl) (Nat.le_of_ble_eq_true rfl) ?_
        exact W.iret (v := (zI (d5_3))) hx hb hr (fun t ht hW => ⟨⟨(zI (d5_3)), (), rfl, (by rw [jd5_3, show d5_4 = nw by omega]), by rw [ht]; exact hP, va_K.moved hW.alike hK, hD⟩, hS.F ht⟩) hS.2.2 dX11_countBits_30
      · have yb8 : ¬ (nw : Int) ≤ (d5_4 : Int) := fun q => b8 ((zI_le (a := nw) (b := d5_4) (by omega) (by omega) (by omega) (by omega)).mpr q)
        refine lv_iload_n hx hb dX11_countBits_11 rfl (lv_at hl 3 rfl) ?_
        refine lv_aload_n hx hb dX11_countBits_12 rfl (lv_at hl 0 rfl) ?_
        refine lv_iload_n hx hb dX11_countBits_13 rfl (lv_at hl 1 rfl) ?_
        refine lv_iload hx hb dX11_countBits_14 (lv_at hl 4 rfl) ?_
        refine lv_iadd hx hb dX11_countBits_16 ?_
        refine lv_topi (fun z ez => ?_)
        obtain rfl : z = zI (fr + d5_4) := ez.trans (zI_add (fr) (d5_4))
        refine va_lald hx hb hK hP 0 0 rfl rfl (zI_in (a := fr + d5_4) (n := nn) (by omega) (by omega) (by omega)) dX11_countBits_17 ?_
        refine lv_topl (fun x_2001 ex_2001 => ?_)
        have hPc := hP.sub (ws' := []) [] rfl
        have hDc := hD.sub (ws' := []) [] (by decide) rfl
        have hKc := hK.sub (tys' := []) [] rfl
        have hFc := va_free (wc := []) hD hS hA [] rfl
        refine va_calli (va_runS (As := [.long x_2001]) (rest := [.int (zI (d5_3))]) ⟨hx, hb, hml, hown, hts⟩ (c_J13_bitCountL l dC dI x_2001 H.size) (va_cwS 1 hts g_X11_countBitsL_J13_bitCountL rfl rfl rfl (by decide +kernel) ⟨(Nat.le_of_ble_eq_true rfl), (Nat.le_of_ble_eq_true rfl)⟩) ⟨fun a U g mk q => by obtain ⟨q0, q1, qP, qK, qD⟩ := q; exact ⟨q0, q1, qP, va_K.moved (u := U) (U := U.calling g mk a) (Vm.Alike.refl U.vm) qK, qD⟩, fun U hU hW => ⟨rfl, by rw [hU], by rw [hU]; exact hPc, va_K.moved hW.alike hKc, hDc.weaken (fun _ _ _ _ => trivial)⟩⟩ rfl rfl hl.1 rfl (lv_room (Nat.le_of_ble_eq_true rfl)) dX11_countBits_18 ⟨(Nat.le_of_ble_eq_true rfl), (Nat.le_of_ble_eq_true rfl)⟩) hS (fun q _ h => hFc q h) hFc (fun r_2002 u t H1 locs ht hvm hw hB hz1 hk1 hS => ?_)
        obtain ⟨hP1, hK1, hD1⟩ := hB
        rw [ht] at hP1
        have hK1 := va_K.moved hvm.symm hK1
        obtain ⟨hP, hD⟩ := va_join (wr := [(q_1, .inl (cA_1, nn, .inr (.inl fl_1)))]) (w1 := []) hP hD [] [0] rfl rfl (by decide) (by decide) hk1 hFc hP1 hD1
        have hK := (hK.sub (tys' := [(cA_1, .long)]) [0] rfl).app hK1
        generalize H1 = H at hP hS ⊢
        have hP : va_P (dC, dI) vwP [(q_1, .inl (cA_1, nn, .inr (.inl fl_1)))] H := hP
        have hD : va_D A [(q_1, .inl (cA_1, nn, .inr (.inl fl_1)))] := hD
        have hK : va_K (dC, dI) vwP [(cA_1, .long)] s := hK
        refine W.widen (k := 0) (n := 0) (Nat.le_of_ble_eq_true rfl) (Nat.le_of_ble_eq_true rfl) ?_
        obtain rfl : r_2002 = (zI (pcI (x_2001))) := hw
        have := pcI_rng (x_2001)
        refine lv_iadd hx hb dX11_countBits_21 ?_
        refine lv_topi (fun z ez => ?_)
        obtain rfl : z = zI (d5_3 + (pcI (x_2001))) := ez.trans (zI_add (d5_3) (pcI (x_2001)))
        refine lv_istore_n (lv' := [(3, .int (zI (d5_3 + (pcI (x_2001))))), (0, .ref q_1), (1, .int (zI (fr))), (2, .int (zI (nw))), (4, .int (zI (d5_4)))]) hx hb dX11_countBits_22 rfl hl (by decide) rfl (fun ls hl => ?_)
        have hst := pcS_step (f := fl_1) (a := fr) (i := d5_4) ex_2001 (by omega) (by omega) (by omega)
        have hst2 := pcS_rng fl_1 fr (d5_4 + 1).toNat
        refine lv_iinc (v := zI (d5_4 + 1)) (lv' := [(4, .int (zI (d5_4 + 1))), (3, .int (zI (d5_3 + (pcI (x_2001))))), (0, .ref q_1), (1, .int (zI (fr))), (2, .int (zI (nw)))]) hx hb dX11_countBits_23 hl (k := 4) rfl (zI_add (d5_4) (1)) (by decide) rfl (fun ls hl => ?_)
        refine lv_goto (tgt := 5) hx hb dX11_countBits_26 (by decide) ?_
        exact ih5 (d5_4 + 1) (d5_3 + (pcI (x_2001))) ls H _ (by omega) (by omega) (by omega) (lv_sub hl [2, 3, 4, 1, 0] rfl) hP hD hS
  exact key5 (((nw) - (0) : Int).toNat + 1) 0 0 ls H _ (by omega) rfl (by omega) (lv_sub hl [2, 3, 4, 1, 0] rfl) hP hD hS
theorem dX11_lowestBit_0 : decode cX11_lowestBit 0 = .ok (.lload_n 0, 1) := by decide +kernel
theorem dX11_lowestBit_1 : decode cX11_lowestBit 1 = .ok (.lload_n 0, 1) := by decide +kernel
theorem dX11_lowestBit_2 : decode cX11_lowestBit 2 = .ok (.lneg, 1) := by decide +kernel
theorem dX11_lowestBit_3 : decode cX11_lowestBit 3 = .ok (.land, 1) := by decide +kernel
theorem dX11_lowestBit_4 : decode cX11_lowestBit 4 = .ok (.lconst 1, 1) := by decide +kernel
theorem dX11_lowestBit_5 : decode cX11_lowestBit 5 = .ok (.lsub, 1) := by decide +kernel
theorem dX11_lowestBit_6 : decode cX11_lowestBit 6 = .ok (.invokestatic 332, 3) := by decide +kernel
theorem dX11_lowestBit_9 : decode cX11_lowestBit 9 = .ok (.ireturn, 1) := by decide +kernel
def o_X11_lowestBit : List Cond := [.methodLink RX11 332 yJ13_bitCount_95d88, .static yJ13_bitCount_95d88, .initialized RJ13]
def v_X11_lowestBit : List Cond := .code yX11_lowestBit cX11_lowestBit 2 (some .int) :: (o_X11_lowestBit ++ (v_J13_bitCountL ++ []))
theorem mow_X11_lowestBit : ∀ w ∈ o_X11_lowestBit, w ∈ v_X11_lowestBit := fun _ h => List.mem_cons_of_mem _ (List.mem_append_left _ h)
theorem mem_X11_lowestBit_0 : ∀ w ∈ v_J13_bitCountL, w ∈ v_X11_lowestBit := fun _ h => List.mem_cons_of_mem _ (List.mem_append_right _ (List.mem_append_left _ h))
set_option maxRecDepth 20000 in
theorem gw_X11_lowestBit : v_X11_lowestBit.all goodWord = true := by decide +kernel
set_option maxRecDepth 20000 in
theorem g_X11_lowestBit_J13_bitCountL : GoodIn v_X11_lowestBit (va_wsS RX11 332 yJ13_bitCount_95d88 v_J13_bitCountL) := goodIn_app (goodIn_sub (fun w h => mow_X11_lowestBit w (by revert w h; decide +kernel)) (by decide +kernel)) (goodIn_sub mem_X11_lowestBit_0 gw_J13_bitCountL)
set_option maxHeartbeats 4000000 in
set_option maxRecDepth 100000 in
theorem c_X11_lowestBit (l : Launch) (dC : Nat → ClassId) (dI : Nat → Nat → Nat) (x : Int64) (hX_z : ¬ x = 0) (sz : Nat) : Met l yX11_lowestBit v_X11_lowestBit ({ frames := 1, cells := 0, slots := 0, locals := 21 }) (va_Pc [.long x] (fun U => U.heap.size = sz ∧ va_P (dC, dI) vwP [] U.heap ∧ va_K (dC, dI) vwP [] U ∧ va_D (fun _ => True) [])) (va_Qi (fun (r : Int32) (_ : Unit) => ∃ z : Int, r = zI z ∧ (0 ≤ z ∧ z ≤ 63)) (fun (_ : Unit) (t : State) => va_P (dC, dI) vwP [] t.heap ∧ va_K (dC, dI) vwP [] t ∧ va_D (va_A [] sz) []) (va_A [] sz)) 0 0 (va_A [] sz) := by
  refine Met.ofW (cc := cX11_lowestBit) (maxL := 2) (ret := (some .int)) (by decide) rfl ?_
  intro p e s m args below meth c s₁ B hml hv
  obtain ⟨rfl, hsz, hP, hK, hD0⟩ := hv
  have hx := B.exec
  have hb := B.bytes
  have hr := B.returns
  have hts := atoms_spec (ws := v_X11_lowestBit) B.pre
  have hown : s.vm.findClass RX11 = some m.cls := findClass_of_methodNamed B.named
  have hlocks := B.notSynchronized
  have ow : ∀ {k : Nat} {w : Cond}, o_X11_lowestBit[k]? = some w → w.before ([.long x] : List Value).toArray s = true := fun h => hts _ (mow_X11_lowestBit _ (List.mem_of_getElem? h))
  subst hsz
  have hD := hD0.self (sz := s.heap.size)
  generalize hAe : va_A [] s.heap.size = A at hD ⊢
  have hA : ∀ q : Nat, s.heap.size ≤ q → A q := fun q h => by rw [← hAe]; exact Or.inr h
  have hS : va_S A s.heap s.heap [] := va_S.rf
  have hP : va_P (dC, dI) vwP [] s.heap := hP
  have hl := lv_entry ([.long x]) (n := 2) (Nat.le_of_ble_eq_true rfl)
  rw [lg_entry_eq]
  generalize (lg_sl ([.long x]) ++ List.replicate (2 - (lg_sl ([.long x])).length) Slot.unset).toArray = ls at hl ⊢
  have hl : lv_has ls 2 [(0, .long x)] := hl
  obtain ⟨H, hH⟩ : ∃ H, H = s.heap := ⟨_, rfl⟩
  rw [← hH] at hP
  have hS : va_S A s.heap H [] := by rw [hH]; exact hS
  rw [← hH]
  refine zW_cap (fun Q hQ => ?_)
  refine lv_lload_n hx hb dX11_lowestBit_0 rfl (lv_at hl 0 rfl) ?_
  refine lv_lload_n hx hb dX11_lowestBit_1 rfl (lv_at hl 0 rfl) ?_
  refine lv_lneg hx hb dX11_lowestBit_2 ?_
  refine lv_topl (fun x_1 ex_1 => ?_)
  refine lv_land hx hb dX11_lowestBit_3 ?_
  refine lv_topl (fun x_2 ex_2 => ?_)
  refine lv_lconst (v := lI (1)) hx hb dX11_lowestBit_4 (by decide) ?_
  refine lv_lsub hx hb dX11_lowestBit_5 ?_
  refine lv_topl (fun x_3 ex_3 => ?_)
  have hPc := hP.sub (ws' := []) [] rfl
  have hDc := hD.sub (ws' := []) [] (by decide) rfl
  have hKc := hK.sub (tys' := []) [] rfl
  have hFc := va_free (wc := []) hD hS hA [] rfl
  refine va_calli (va_runS (As := [.long x_3]) (rest := []) ⟨hx, hb, hml, hown, hts⟩ (c_J13_bitCountL l dC dI x_3 H.size) (va_cwS 1 hts g_X11_lowestBit_J13_bitCountL rfl rfl rfl (by decide +kernel) ⟨(Nat.le_of_ble_eq_true rfl), (Nat.le_of_ble_eq_true rfl)⟩) ⟨fun a U g mk q => by obtain ⟨q0, q1, qP, qK, qD⟩ := q; exact ⟨q0, q1, qP, va_K.moved (u := U) (U := U.calling g mk a) (Vm.Alike.refl U.vm) qK, qD⟩, fun U hU hW => ⟨rfl, by rw [hU], by rw [hU]; exact hPc, va_K.moved hW.alike hKc, hDc.weaken (fun _ _ _ _ => trivial)⟩⟩ rfl rfl hl.1 rfl (lv_room (Nat.le_of_ble_eq_true rfl)) dX11_lowestBit_6 ⟨(Nat.le_of_ble_eq_true rfl), (Nat.le_of_ble_eq_true rfl)⟩) hS (fun q _ h => hFc q h) hFc (fun r_4 u t H1 locs ht hvm hw hB hz1 hk1 hS => ?_)
  obtain ⟨hP1, hK1, hD1⟩ := hB
  rw [ht] at hP1
  have hK1 := va_K.moved hvm.symm hK1
  obtain ⟨hP, hD⟩ := va_join (wr := []) (w1 := []) hP hD [] [] rfl rfl (by decide) (by decide) hk1 hFc hP1 hD1
  have hK := (hK.sub (tys' := []) [] rfl).app hK1
  generalize H1 = H at hP hS ⊢
  have hP : va_P (dC, dI) vwP [] H := hP
  have hD : va_D A [] := hD
  have hK : va_K (dC, dI) vwP [] s := hK
  refine W.widen (k := 0) (n := 0) (Nat.le_of_ble_eq_true rfl) (Nat.le_of_ble_eq_true rfl) ?_
  obtain rfl : r_4 = (zI (pcI (x_3))) := hw
  have := pcI_rng (x_3)
  subst hQ
  refine W.widen (k := 0) (n := 0) (Nat.le_of_ble_eq_true rfl) (Nat.le_of_ble_eq_true rfl) ?_
  exact W.iret (v := (zI (pcI (x_3)))) hx hb hr (fun t ht hW => ⟨⟨(zI (pcI (x_3))), (), rfl, ⟨pcI (x_3), rfl, pcI_low hX_z ex_1 ex_2 ex_3⟩, by rw [ht]; exact hP, va_K.moved hW.alike hK, hD⟩, hS.F ht⟩) hS.2.2 dX11_lowestBit_9
