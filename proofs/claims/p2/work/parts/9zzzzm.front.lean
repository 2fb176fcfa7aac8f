def o_X11_hasBitL : List Cond := []
def v_X11_hasBitL : List Cond := .code yX11_hasBit cX11_hasBit 3 (some .boolean) :: (o_X11_hasBitL ++ [])
theorem mow_X11_hasBitL : ∀ w ∈ o_X11_hasBitL, w ∈ v_X11_hasBitL := fun _ h => List.mem_cons_of_mem _ (List.mem_append_left _ h)
set_option maxRecDepth 20000 in
theorem gw_X11_hasBitL : v_X11_hasBitL.all goodWord = true := by decide +kernel
set_option maxHeartbeats 4000000 in
set_option maxRecDepth 100000 in
theorem c_X11_hasBitL (l : Launch) (dC : Nat → ClassId) (dI : Nat → Nat → Nat) (q_1 : Nat) (cA_1 : ClassId) (nn : Nat) (fl_1 : Nat → Int64) (fr : Int) (i : Int) (hNb : 0 ≤ fr ∧ 0 ≤ i ∧ i < 1000000 ∧ fr < 1000000 ∧ fr + i / 64 < nn ∧ nn < 1000000) (sz : Nat) : Met l yX11_hasBit v_X11_hasBitL ({ frames := 0, cells := 0, slots := 0, locals := 0 }) (va_Pc [.ref q_1, .int (zI (fr)), .int (zI (i))] (fun U => U.heap.size = sz ∧ va_P (dC, dI) vwP [(q_1, .inl (cA_1, nn, .inr (.inl fl_1)))] U.heap ∧ va_K (dC, dI) vwP [(cA_1, .long)] U ∧ va_D (fun _ => True) [(q_1, .inl (cA_1, nn, .inr (.inl fl_1)))])) (va_Qi (fun (r : Int32) (_ : Unit) => ∃ z : Int, r = zI z ∧ ((0 ≤ z ∧ z ≤ 1) ∧ (z = 1 → i = 0 → ¬ fl_1 (fr).toNat &&& 1 = 0))) (fun (_ : Unit) (t : State) => va_P (dC, dI) vwP [(q_1, .inl (cA_1, nn, .inr (.inl fl_1)))] t.heap ∧ va_K (dC, dI) vwP [(cA_1, .long)] t ∧ va_D (va_A [(q_1, .inl (cA_1, nn, .inr (.inl fl_1)))] sz) [(q_1, .inl (cA_1, nn, .inr (.inl fl_1)))]) (va_A [(q_1, .inl (cA_1, nn, .inr (.inl fl_1)))] sz)) 0 0 (va_A [(q_1, .inl (cA_1, nn, .inr (.inl fl_1)))] sz) := by
  refine Met.ofW (cc := cX11_hasBit) (maxL := 3) (ret := (some .boolean)) (by decide) rfl ?_
  intro p e s m args below meth c s₁ B hml hv
  obtain ⟨rfl, hsz, hP, hK, hD0⟩ := hv
  have hx := B.exec
  have hb := B.bytes
  have hr := B.returns
  have hts := atoms_spec (ws := v_X11_hasBitL) B.pre
  have hown : s.vm.findClass RX11 = some m.cls := findClass_of_methodNamed B.named
  have hlocks := B.notSynchronized
  have ow : ∀ {k : Nat} {w : Cond}, o_X11_hasBitL[k]? = some w → w.before ([.ref q_1, .int (zI (fr)), .int (zI (i))] : List Value).toArray s = true := fun h => hts _ (mow_X11_hasBitL _ (List.mem_of_getElem? h))
  subst hsz
  have hD := hD0.self (sz := s.heap.size)
  generalize hAe : va_A [(q_1, .inl (cA_1, nn, .inr (.inl fl_1)))] s.heap.size = A at hD ⊢
  have hA : ∀ q : Nat, s.heap.size ≤ q → A q := fun q h => by rw [← hAe]; exact Or.inr h
  have hS : va_S A s.heap s.heap [] := va_S.rf
  have hP : va_P (dC, dI) vwP [(q_1, .inl (cA_1, nn, .inr (.inl fl_1)))] s.heap := hP
  have hl := lv_entry ([.ref q_1, .int (zI (fr)), .int (zI (i))]) (n := 3) (Nat.le_of_ble_eq_true rfl)
  rw [lg_entry_eq]
  generalize (lg_sl ([.ref q_1, .int (zI (fr)), .int (zI (i))]) ++ List.replicate (3 - (lg_sl ([.ref q_1, .int (zI (fr)), .int (zI (i))])).length) Slot.unset).toArray = ls at hl ⊢
  have hl : lv_has ls 3 [(0, .ref q_1), (1, .int (zI (fr))), (2, .int (zI (i)))] := hl
  obtain ⟨H, hH⟩ : ∃ H, H = s.heap := ⟨_, rfl⟩
  rw [← hH] at hP
  have hS : va_S A s.heap H [] := by rw [hH]; exact hS
  rw [← hH]
  refine zW_cap (fun Q hQ => ?_)
  refine lv_aload_n hx hb dX11_hasBit_0 rfl (lv_at hl 0 rfl) ?_
  refine lv_iload_n hx hb dX11_hasBit_1 rfl (lv_at hl 1 rfl) ?_
  refine lv_iload_n hx hb dX11_hasBit_2 rfl (lv_at hl 2 rfl) ?_
  refine lv_bipush (v := 6) hx hb dX11_hasBit_3 (by decide) ?_
  refine lv_ishr hx hb dX11_hasBit_5 ?_
  refine lv_topi (fun z ez => ?_)
  obtain rfl : z = zI ((i) / 64) := ez.trans (zI_shr (a := i) (k := 6) (by omega) (by omega) (by decide))
  refine lv_iadd hx hb dX11_hasBit_6 ?_
  refine lv_topi (fun z ez => ?_)
  obtain rfl : z = zI (fr + ((i) / 64)) := ez.trans (zI_add (fr) ((i) / 64))
  refine va_lald hx hb hK hP 0 0 rfl rfl (zI_in (a := fr + ((i) / 64)) (n := nn) (by omega) (by omega) (by omega)) dX11_hasBit_7 ?_
  refine lv_topl (fun x_2001 ex_2001 => ?_)
  refine lv_iload_n hx hb dX11_hasBit_8 rfl (lv_at hl 2 rfl) ?_
  refine lv_bipush (v := 63) hx hb dX11_hasBit_9 (by decide) ?_
  refine lv_iand hx hb dX11_hasBit_11 ?_
  refine lv_topi (fun x_2002 ex_2002 => ?_)
  refine lv_lushr hx hb dX11_hasBit_12 rfl ?_
  refine lv_topl (fun x_2003 ex_2003 => ?_)
  refine lv_lconst (v := lI (1)) hx hb dX11_hasBit_13 (by decide) ?_
  refine lv_land hx hb dX11_hasBit_14 ?_
  refine lv_topl (fun x_2004 ex_2004 => ?_)
  refine lv_lconst (v := lI (0)) hx hb dX11_hasBit_15 (by decide) ?_
  refine W.lcmp hx hb dX11_hasBit_16 ?_
  refine lv_topi (fun x_2005 ex_2005 => ?_)
  refine lv_if_eq (tgt := 24) hx hb dX11_hasBit_17 (by decide) (fun b17 => ?_) (fun b17 => ?_)
  · refine lv_iconst (v := 0) hx hb dX11_hasBit_24 (by decide) ?_
    subst hQ
    refine W.widen (k := 0) (n := 0) (Nat.le_of_ble_eq_true rfl) (Nat.le_of_ble_eq_true rfl) ?_
    exact W.zret (v := 0) hx hb hr (by decide) (fun t ht hW => ⟨⟨0, (), rfl, ⟨0, rfl, ⟨by omega, fun h9 => by omega⟩⟩, by rw [ht]; exact hP, va_K.moved hW.alike hK, hD⟩, hS.F ht⟩) hS.2.2 dX11_hasBit_25
  · refine lv_iconst (v := 1) hx hb dX11_hasBit_20 (by decide) ?_
    refine lv_goto (tgt := 25) hx hb dX11_hasBit_21 (by decide) ?_
    subst hQ
    refine W.widen (k := 0) (n := 0) (Nat.le_of_ble_eq_true rfl) (Nat.le_of_ble_eq_true rfl) ?_
    exact W.zret (v := 1) hx hb hr (by decide) (fun t ht hW => ⟨⟨1, (), rfl, ⟨1, rfl, ⟨by omega, fun _ h9 => (by have q9 := hb_bit h9 ex_2002 ex_2003 ex_2004 (lg_ne (by rw [← ex_2005]; exact b17)); have q8 : x_2001 = fl_1 (fr).toNat := (by rw [ex_2001, zI_cl (by omega) (by omega), show fr + i / 64 = fr by omega]); rw [← q8]; exact q9)⟩⟩, by rw [ht]; exact hP, va_K.moved hW.alike hK, hD⟩, hS.F ht⟩) hS.2.2 dX11_hasBit_25
def o_X11_putBitL : List Cond := []
def v_X11_putBitL : List Cond := .code yX11_putBit cX11_putBit 3 none :: (o_X11_putBitL ++ [])
theorem mow_X11_putBitL : ∀ w ∈ o_X11_putBitL, w ∈ v_X11_putBitL := fun _ h => List.mem_cons_of_mem _ (List.mem_append_left _ h)
set_option maxRecDepth 20000 in
theorem gw_X11_putBitL : v_X11_putBitL.all goodWord = true := by decide +kernel
set_option maxHeartbeats 4000000 in
set_option maxRecDepth 100000 in
theorem c_X11_putBitL (l : Launch) (dC : Nat → ClassId) (dI : Nat → Nat → Nat) (q_1 : Nat) (cA_1 : ClassId) (nn : Nat) (fl_1 : Nat → Int64) (fr : Int) (i : Int) (hNb : 0 ≤ fr ∧ 0 ≤ i ∧ i < 1000000 ∧ fr < 1000000 ∧ fr + i / 64 < nn ∧ nn < 1000000) (sz : Nat) : Met l yX11_putBit v_X11_putBitL ({ frames := 0, cells := 0, slots := 0, locals := 0 }) (va_Pc [.ref q_1, .int (zI (fr)), .int (zI (i))] (fun U => U.heap.size = sz ∧ va_P (dC, dI) vwP [(q_1, .inl (cA_1, nn, .inr (.inl fl_1)))] U.heap ∧ va_K (dC, dI) vwP [(cA_1, .long)] U ∧ va_D (fun _ => True) [(q_1, .inl (cA_1, nn, .inr (.inl fl_1)))])) (va_Qv (fun _ : Unit => True) (fun (_ : Unit) (t : State) => ∃ (g0_9 : Nat → Int64), ((PBT fl_1 g0_9 (fr + i / 64) (i))) ∧ va_P (dC, dI) vwP [(q_1, .inl (cA_1, nn, .inr (.inl g0_9)))] t.heap ∧ va_K (dC, dI) vwP [(cA_1, .long)] t ∧ va_D (va_A [(q_1, .inl (cA_1, nn, .inr (.inl fl_1)))] sz) [(q_1, .inl (cA_1, nn, .inr (.inl g0_9)))]) (va_A [(q_1, .inl (cA_1, nn, .inr (.inl fl_1)))] sz)) 0 0 (va_A [(q_1, .inl (cA_1, nn, .inr (.inl fl_1)))] sz) := by
  refine Met.ofW (cc := cX11_putBit) (maxL := 3) (ret := none) (by decide) rfl ?_
  intro p e s m args below meth c s₁ B hml hv
  obtain ⟨rfl, hsz, hP, hK, hD0⟩ := hv
  have hx := B.exec
  have hb := B.bytes
  have hr := B.returns
  have hts := atoms_spec (ws := v_X11_putBitL) B.pre
  have hown : s.vm.findClass RX11 = some m.cls := findClass_of_methodNamed B.named
  have hlocks := B.notSynchronized
  have ow : ∀ {k : Nat} {w : Cond}, o_X11_putBitL[k]? = some w → w.before ([.ref q_1, .int (zI (fr)), .int (zI (i))] : List Value).toArray s = true := fun h => hts _ (mow_X11_putBitL _ (List.mem_of_getElem? h))
  subst hsz
  have hD := hD0.self (sz := s.heap.size)
  generalize hAe : va_A [(q_1, .inl (cA_1, nn, .inr (.inl fl_1)))] s.heap.size = A at hD ⊢
  have hA : ∀ q : Nat, s.heap.size ≤ q → A q := fun q h => by rw [← hAe]; exact Or.inr h
  have hS : va_S A s.heap s.heap [] := va_S.rf
  have hP : va_P (dC, dI) vwP [(q_1, .inl (cA_1, nn, .inr (.inl fl_1)))] s.heap := hP
  have hl := lv_entry ([.ref q_1, .int (zI (fr)), .int (zI (i))]) (n := 3) (Nat.le_of_ble_eq_true rfl)
  rw [lg_entry_eq]
  generalize (lg_sl ([.ref q_1, .int (zI (fr)), .int (zI (i))]) ++ List.replicate (3 - (lg_sl ([.ref q_1, .int (zI (fr)), .int (zI (i))])).length) Slot.unset).toArray = ls at hl ⊢
  have hl : lv_has ls 3 [(0, .ref q_1), (1, .int (zI (fr))), (2, .int (zI (i)))] := hl
  obtain ⟨H, hH⟩ : ∃ H, H = s.heap := ⟨_, rfl⟩
  rw [← hH] at hP
  have hS : va_S A s.heap H [] := by rw [hH]; exact hS
  rw [← hH]
  refine zW_cap (fun Q hQ => ?_)
  refine lv_aload_n hx hb dX11_putBit_0 rfl (lv_at hl 0 rfl) ?_
  refine lv_iload_n hx hb dX11_putBit_1 rfl (lv_at hl 1 rfl) ?_
  refine lv_iload_n hx hb dX11_putBit_2 rfl (lv_at hl 2 rfl) ?_
  refine lv_bipush (v := 6) hx hb dX11_putBit_3 (by decide) ?_
  refine lv_ishr hx hb dX11_putBit_5 ?_
  refine lv_topi (fun z ez => ?_)
  obtain rfl : z = zI ((i) / 64) := ez.trans (zI_shr (a := i) (k := 6) (by omega) (by omega) (by decide))
  refine lv_iadd hx hb dX11_putBit_6 ?_
  refine lv_topi (fun z ez => ?_)
  obtain rfl : z = zI (fr + ((i) / 64)) := ez.trans (zI_add (fr) ((i) / 64))
  refine lv_dup2_11 hx hb dX11_putBit_7 rfl rfl ?_
  refine va_lald hx hb hK hP 0 0 rfl rfl (zI_in (a := fr + ((i) / 64)) (n := nn) (by omega) (by omega) (by omega)) dX11_putBit_8 ?_
  refine lv_topl (fun x_2001 ex_2001 => ?_)
  refine lv_lconst (v := lI (1)) hx hb dX11_putBit_9 (by decide) ?_
  refine lv_iload_n hx hb dX11_putBit_10 rfl (lv_at hl 2 rfl) ?_
  refine lv_bipush (v := 63) hx hb dX11_putBit_11 (by decide) ?_
  refine lv_iand hx hb dX11_putBit_13 ?_
  refine lv_topi (fun x_2002 ex_2002 => ?_)
  refine lv_lshl hx hb dX11_putBit_14 rfl ?_
  refine lv_topl (fun x_2003 ex_2003 => ?_)
  refine lv_lor hx hb dX11_putBit_15 ?_
  refine lv_topl (fun x_2004 ex_2004 => ?_)
  refine va_last (i := zI (fr + ((i) / 64))) hx hb hK hP hD hS 0 0 rfl rfl (zI_in (a := fr + ((i) / 64)) (n := nn) (by omega) (by omega) (by omega)) dX11_putBit_16 (fun H locs hP hD hS => ?_)
  have hP : va_P (dC, dI) vwP [(q_1, .inl (cA_1, nn, .inr (.inl (vp_updL fl_1 (zI (fr + ((i) / 64))).toNatClampNeg x_2004))))] H := hP
  have hD : va_D A [(q_1, .inl (cA_1, nn, .inr (.inl (vp_updL fl_1 (zI (fr + ((i) / 64))).toNatClampNeg x_2004))))] := hD
  generalize efl_2005 : (vp_updL fl_1 (zI (fr + ((i) / 64))).toNatClampNeg x_2004) = fl_2005 at hP hD
  have hP : va_P (dC, dI) vwP [(q_1, .inl (cA_1, nn, .inr (.inl fl_2005)))] H := hP
  have hD : va_D A [(q_1, .inl (cA_1, nn, .inr (.inl fl_2005)))] := hD
  subst hQ
  refine W.widen (k := 0) (n := 0) (Nat.le_of_ble_eq_true rfl) (Nat.le_of_ble_eq_true rfl) ?_
  exact W.vret hx hb hr (fun t ht hW => ⟨⟨(), rfl, trivial, fl_2005, (fun j => by rw [← efl_2005]; unfold vp_updL; by_cases q9 : j = (zI (fr + i / 64)).toNatClampNeg; (rw [if_pos q9]; exact Or.inr ⟨(by rw [q9, zI_cl (by omega) (by omega)]), fun n9 => (pb_bit (by omega) n9 ex_2002 ex_2003 ex_2004).trans (by rw [ex_2001, q9])⟩); (rw [if_neg q9]; exact Or.inl rfl)), by rw [ht]; exact hP, va_K.moved hW.alike hK, hD⟩, hS.F ht⟩) hS.2.2 dX11_putBit_17
def o_X11_clearBitsL : List Cond := []
def v_X11_clearBitsL : List Cond := .code yX11_clearBits cX11_clearBits 3 none :: (o_X11_clearBitsL ++ [])
theorem mow_X11_clearBitsL : ∀ w ∈ o_X11_clearBitsL, w ∈ v_X11_clearBitsL := fun _ h => List.mem_cons_of_mem _ (List.mem_append_left _ h)
set_option maxRecDepth 20000 in
theorem gw_X11_clearBitsL : v_X11_clearBitsL.all goodWord = true := by decide +kernel
set_option maxHeartbeats 4000000 in
set_option maxRecDepth 100000 in
theorem c_X11_clearBitsL (l : Launch) (dC : Nat → ClassId) (dI : Nat → Nat → Nat) (q_1 : Nat) (cA_1 : ClassId) (nn : Nat) (fl_1 : Nat → Int64) (i : Int) (hNb : 0 ≤ i ∧ i ≤ nn ∧ nn < 1000000) (sz : Nat) : Met l yX11_clearBits v_X11_clearBitsL ({ frames := 0, cells := 0, slots := 0, locals := 0 }) (va_Pc [.ref q_1, .int (zI (i))] (fun U => U.heap.size = sz ∧ va_P (dC, dI) vwP [(q_1, .inl (cA_1, nn, .inr (.inl fl_1)))] U.heap ∧ va_K (dC, dI) vwP [(cA_1, .long)] U ∧ va_D (fun _ => True) [(q_1, .inl (cA_1, nn, .inr (.inl fl_1)))])) (va_Qv (fun _ : Unit => True) (fun (_ : Unit) (t : State) => ∃ (g0_9 : Nat → Int64), ((∀ j : Nat, (j : Int) < i → g0_9 j = 0)) ∧ va_P (dC, dI) vwP [(q_1, .inl (cA_1, nn, .inr (.inl g0_9)))] t.heap ∧ va_K (dC, dI) vwP [(cA_1, .long)] t ∧ va_D (va_A [(q_1, .inl (cA_1, nn, .inr (.inl fl_1)))] sz) [(q_1, .inl (cA_1, nn, .inr (.inl g0_9)))]) (va_A [(q_1, .inl (cA_1, nn, .inr (.inl fl_1)))] sz)) 0 0 (va_A [(q_1, .inl (cA_1, nn, .inr (.inl fl_1)))] sz) := by
  refine Met.ofW (cc := cX11_clearBits) (maxL := 3) (ret := none) (by decide) rfl ?_
  intro p e s m args below meth c s₁ B hml hv
  obtain ⟨rfl, hsz, hP, hK, hD0⟩ := hv
  have hx := B.exec
  have hb := B.bytes
  have hr := B.returns
  have hts := atoms_spec (ws := v_X11_clearBitsL) B.pre
  have hown : s.vm.findClass RX11 = some m.cls := findClass_of_methodNamed B.named
  have hlocks := B.notSynchronized
  have ow : ∀ {k : Nat} {w : Cond}, o_X11_clearBitsL[k]? = some w → w.before ([.ref q_1, .int (zI (i))] : List Value).toArray s = true := fun h => hts _ (mow_X11_clearBitsL _ (List.mem_of_getElem? h))
  subst hsz
  have hD := hD0.self (sz := s.heap.size)
  generalize hAe : va_A [(q_1, .inl (cA_1, nn, .inr (.inl fl_1)))] s.heap.size = A at hD ⊢
  have hA : ∀ q : Nat, s.heap.size ≤ q → A q := fun q h => by rw [← hAe]; exact Or.inr h
  have hS : va_S A s.heap s.heap [] := va_S.rf
  have hP : va_P (dC, dI) vwP [(q_1, .inl (cA_1, nn, .inr (.inl fl_1)))] s.heap := hP
  have hl := lv_entry ([.ref q_1, .int (zI (i))]) (n := 3) (Nat.le_of_ble_eq_true rfl)
  rw [lg_entry_eq]
  generalize (lg_sl ([.ref q_1, .int (zI (i))]) ++ List.replicate (3 - (lg_sl ([.ref q_1, .int (zI (i))])).length) Slot.unset).toArray = ls at hl ⊢
  have hl : lv_has ls 3 [(0, .ref q_1), (1, .int (zI (i)))] := hl
  obtain ⟨H, hH⟩ : ∃ H, H = s.heap := ⟨_, rfl⟩
  rw [← hH] at hP
  have hS : va_S A s.heap H [] := by rw [hH]; exact hS
  rw [← hH]
  refine zW_cap (fun Q hQ => ?_)
  refine lv_iconst (v := 0) hx hb dX11_clearBits_0 (by decide) ?_
  refine lv_istore_n (lv' := [(2, .int 0), (0, .ref q_1), (1, .int (zI (i)))]) hx hb dX11_clearBits_1 rfl hl (by decide) rfl (fun ls hl => ?_)
  have key2 : ∀ n2 : Nat, ∀ (d2_2 : Int) (w2_1 : Nat → Int64) (ls : Array Slot) (H : Heap) (locs : List Loc), (0 ≤ d2_2 ∧ d2_2 ≤ 1000000000) → (∀ j : Nat, (j : Int) < d2_2 → w2_1 j = 0) → (((i) - (d2_2) : Int).toNat) < n2 → lv_has ls 3 [(0, .ref q_1), (1, .int (zI (i))), (2, .int (zI (d2_2)))] → va_P (dC, dI) vwP [(q_1, .inl (cA_1, nn, .inr (.inl w2_1)))] H → va_D A [(q_1, .inl (cA_1, nn, .inr (.inl w2_1)))] → va_S A s.heap H locs → W p l e (headSpec v_X11_clearBitsL ({ frames := 0, cells := 0, slots := 0, locals := 0 })).room s m ([.ref q_1, .int (zI (i))] : List Value).toArray below meth c H locs 0 0 Q (F0 m 2 ls []) := by
    intro n2
    induction n2 with
    | zero => intro d2_2 w2_1 ls H locs jd2_2 jc hm2; exact absurd hm2 (by omega)
    | succ n2 ih2 =>
      intro d2_2 w2_1 ls H locs jd2_2 jc hm2 hl hP hD hS
      refine lv_iload_n hx hb dX11_clearBits_2 rfl (lv_at hl 2 rfl) ?_
      refine lv_iload_n hx hb dX11_clearBits_3 rfl (lv_at hl 1 rfl) ?_
      refine lv_icmp_ge (tgt := 17) hx hb dX11_clearBits_4 (by decide) (fun b4 => ?_) (fun b4 => ?_)
      · have yb4 : (i : Int) ≤ (d2_2 : Int) := (zI_le (a := i) (b := d2_2) (by omega) (by omega) (by omega) (by omega)).mp b4
        subst hQ
        refine W.widen (k := 0) (n := 0) (Nat.le_of_ble_eq_true rfl) (Nat.le_of_ble_eq_true rfl) ?_
        exact W.vret hx hb hr (fun t ht hW => ⟨⟨(), rfl, trivial, w2_1, (fun j h9 => jc j (by omega)), by rw [ht]; exact hP, va_K.moved hW.alike hK, hD⟩, hS.F ht⟩) hS.2.2 dX11_clearBits_17
      · have yb4 : ¬ (i : Int) ≤ (d2_2 : Int) := fun q => b4 ((zI_le (a := i) (b := d2_2) (by omega) (by omega) (by omega) (by omega)).mpr q)
        refine lv_aload_n hx hb dX11_clearBits_7 rfl (lv_at hl 0 rfl) ?_
        refine lv_iload_n hx hb dX11_clearBits_8 rfl (lv_at hl 2 rfl) ?_
        refine lv_lconst (v := lI (0)) hx hb dX11_clearBits_9 (by decide) ?_
        refine va_last (i := zI (d2_2)) hx hb hK hP hD hS 0 0 rfl rfl (zI_in (a := d2_2) (n := nn) (by omega) (by omega) (by omega)) dX11_clearBits_10 (fun H locs hP hD hS => ?_)
        have hP : va_P (dC, dI) vwP [(q_1, .inl (cA_1, nn, .inr (.inl (vp_updL w2_1 (zI (d2_2)).toNatClampNeg (lI (0))))))] H := hP
        have hD : va_D A [(q_1, .inl (cA_1, nn, .inr (.inl (vp_updL w2_1 (zI (d2_2)).toNatClampNeg (lI (0))))))] := hD
        generalize efl_2001 : (vp_updL w2_1 (zI (d2_2)).toNatClampNeg (lI (0))) = fl_2001 at hP hD
        have hP : va_P (dC, dI) vwP [(q_1, .inl (cA_1, nn, .inr (.inl fl_2001)))] H := hP
        have hD : va_D A [(q_1, .inl (cA_1, nn, .inr (.inl fl_2001)))] := hD
        refine lv_iinc (v := zI (d2_2 + 1)) (lv' := [(2, .int (zI (d2_2 + 1))), (0, .ref q_1), (1, .int (zI (i)))]) hx hb dX11_clearBits_11 hl (k := 2) rfl (zI_add (d2_2) (1)) (by decide) rfl (fun ls hl => ?_)
        refine lv_goto (tgt := 2) hx hb dX11_clearBits_14 (by decide) ?_
        exact ih2 (d2_2 + 1) fl_2001 ls H _ (by omega) (fun j h9 => by rw [← efl_2001]; unfold vp_updL; split; (decide); (rename_i q9; rw [zI_cl (by omega) (by omega)] at q9; exact jc j (by omega))) (by omega) (lv_sub hl [1, 2, 0] rfl) hP hD hS
  exact key2 (((i) - (0) : Int).toNat + 1) 0 fl_1 ls H _ (by omega) (fun j h9 => by omega) (by omega) (lv_sub hl [1, 2, 0] rfl) hP hD hS
def o_X2_inFrontierL : List Cond := [.fieldLink RX2 32 "SsaForge$Flow" "frontier" "[J", .initialized RX11, .static yX11_hasBit]
def v_X2_inFrontierL : List Cond := .code yX2_inFrontier cX2_inFrontier 3 (some .boolean) :: (o_X2_inFrontierL ++ (wsX20 ++ (v_X11_hasBitL ++ [])))
theorem mow_X2_inFrontierL : ∀ w ∈ o_X2_inFrontierL, w ∈ v_X2_inFrontierL := fun _ h => List.mem_cons_of_mem _ (List.mem_append_left _ h)
theorem mem_X2_inFrontierL_0 : ∀ w ∈ wsX20, w ∈ v_X2_inFrontierL := fun _ h => List.mem_cons_of_mem _ (List.mem_append_right _ (List.mem_append_left _ h))
theorem mem_X2_inFrontierL_1 : ∀ w ∈ v_X11_hasBitL, w ∈ v_X2_inFrontierL := fun _ h => List.mem_cons_of_mem _ (List.mem_append_right _ (List.mem_append_right _ (List.mem_append_left _ h)))
set_option maxRecDepth 20000 in
theorem gw_X2_inFrontierL : v_X2_inFrontierL.all goodWord = true := by decide +kernel
set_option maxHeartbeats 4000000 in
set_option maxRecDepth 100000 in
theorem c_X2_inFrontierL (l : Launch) (dC : Nat → ClassId) (dI : Nat → Nat → Nat) (h0 : Nat) (v2_0 : Value) (v2_1 : Value) (v2_2 : Value) (v2_3 : Value) (v2_4 : Value) (v2_5 : Value) (q_206 : Nat) (cA_206 : ClassId) (fa2_frontier : Nat → Int64) (v2_7 : Value) (v2_8 : Value) (v2_9 : Value) (v2_10 : Value) (v2_11 : Value) (v2_12 : Value) (b : Int) (d : Int) (hNb : 0 ≤ b ∧ b < 300) (hNd : 0 ≤ d ∧ d < 300) (hX_f0 : fa2_frontier ((b) * 5).toNat &&& 1 = 0) (sz : Nat) : Met l yX2_inFrontier v_X2_inFrontierL ({ frames := 1, cells := 0, slots := 0, locals := 22 }) (va_Pc [.ref h0, .int (zI (b)), .int (zI (d))] (fun U => U.heap.size = sz ∧ va_P (dC, dI) vwP [(h0, .inr (2, [v2_0, v2_1, v2_2, v2_3, v2_4, v2_5, .ref q_206, v2_7, v2_8, v2_9, v2_10, v2_11, v2_12])), (q_206, .inl (cA_206, 1500, .inr (.inl fa2_frontier)))] U.heap ∧ va_K (dC, dI) vwP [(cA_206, .long)] U ∧ va_D (fun _ => True) [(h0, .inr (2, [v2_0, v2_1, v2_2, v2_3, v2_4, v2_5, .ref q_206, v2_7, v2_8, v2_9, v2_10, v2_11, v2_12])), (q_206, .inl (cA_206, 1500, .inr (.inl fa2_frontier)))] ∧ va_Nw (.methodLinkNest RX2 67 yX11_hasBit "SsaForge") U)) (va_Qi (fun (r : Int32) (_ : Unit) => ∃ z : Int, r = zI z ∧ ((0 ≤ z ∧ z ≤ 1) ∧ (z = 1 → 1 ≤ d))) (fun (_ : Unit) (t : State) => va_P (dC, dI) vwP [(h0, .inr (2, [v2_0, v2_1, v2_2, v2_3, v2_4, v2_5, .ref q_206, v2_7, v2_8, v2_9, v2_10, v2_11, v2_12])), (q_206, .inl (cA_206, 1500, .inr (.inl fa2_frontier)))] t.heap ∧ va_K (dC, dI) vwP [(cA_206, .long)] t ∧ va_D (va_A [(h0, .inr (2, [v2_0, v2_1, v2_2, v2_3, v2_4, v2_5, .ref q_206, v2_7, v2_8, v2_9, v2_10, v2_11, v2_12])), (q_206, .inl (cA_206, 1500, .inr (.inl fa2_frontier)))] sz) [(h0, .inr (2, [v2_0, v2_1, v2_2, v2_3, v2_4, v2_5, .ref q_206, v2_7, v2_8, v2_9, v2_10, v2_11, v2_12])), (q_206, .inl (cA_206, 1500, .inr (.inl fa2_frontier)))]) (va_A [(h0, .inr (2, [v2_0, v2_1, v2_2, v2_3, v2_4, v2_5, .ref q_206, v2_7, v2_8, v2_9, v2_10, v2_11, v2_12])), (q_206, .inl (cA_206, 1500, .inr (.inl fa2_frontier)))] sz)) 0 0 (va_A [(h0, .inr (2, [v2_0, v2_1, v2_2, v2_3, v2_4, v2_5, .ref q_206, v2_7, v2_8, v2_9, v2_10, v2_11, v2_12])), (q_206, .inl (cA_206, 1500, .inr (.inl fa2_frontier)))] sz) := by
  refine Met.ofW (cc := cX2_inFrontier) (maxL := 3) (ret := (some .boolean)) (by decide) rfl ?_
  intro p e s m args below meth c s₁ B hml hv
  obtain ⟨rfl, hsz, hP, hK, hD0, hp0⟩ := hv
  have hx := B.exec
  have hb := B.bytes
  have hr := B.returns
  have hts := atoms_spec (ws := v_X2_inFrontierL) B.pre
  have hown : s.vm.findClass RX2 = some m.cls := findClass_of_methodNamed B.named
  have hlocks := B.notSynchronized
  have ow : ∀ {k : Nat} {w : Cond}, o_X2_inFrontierL[k]? = some w → w.before ([.ref h0, .int (zI (b)), .int (zI (d))] : List Value).toArray s = true := fun h => hts _ (mow_X2_inFrontierL _ (List.mem_of_getElem? h))
  subst hsz
  have hD := hD0.self (sz := s.heap.size)
  generalize hAe : va_A [(h0, .inr (2, [v2_0, v2_1, v2_2, v2_3, v2_4, v2_5, .ref q_206, v2_7, v2_8, v2_9, v2_10, v2_11, v2_12])), (q_206, .inl (cA_206, 1500, .inr (.inl fa2_frontier)))] s.heap.size = A at hD ⊢
  have hA : ∀ q : Nat, s.heap.size ≤ q → A q := fun q h => by rw [← hAe]; exact Or.inr h
  have hS : va_S A s.heap s.heap [] := va_S.rf
  have hP : va_P (dC, dI) vwP [(h0, .inr (2, [v2_0, v2_1, v2_2, v2_3, v2_4, v2_5, .ref q_206, v2_7, v2_8, v2_9, v2_10, v2_11, v2_12])), (q_206, .inl (cA_206, 1500, .inr (.inl fa2_frontier)))] s.heap := hP
  have hl := lv_entry ([.ref h0, .int (zI (b)), .int (zI (d))]) (n := 3) (Nat.le_of_ble_eq_true rfl)
  rw [lg_entry_eq]
  generalize (lg_sl ([.ref h0, .int (zI (b)), .int (zI (d))]) ++ List.replicate (3 - (lg_sl ([.ref h0, .int (zI (b)), .int (zI (d))])).length) Slot.unset).toArray = ls at hl ⊢
  have hl : lv_has ls 3 [(0, .ref h0), (1, .int (zI (b))), (2, .int (zI (d)))] := hl
  obtain ⟨H, hH⟩ : ∃ H, H = s.heap := ⟨_, rfl⟩
  rw [← hH] at hP
  have hS : va_S A s.heap H [] := by rw [hH]; exact hS
  rw [← hH]
  refine zW_cap (fun Q hQ => ?_)
  refine lv_aload_n hx hb dX2_inFrontier_0 rfl (lv_at hl 0 rfl) ?_
  refine va_get (D := (dC, dI)) (ci := 2) (v := .ref q_206) (C := RX2) (T := TX2) (N := 13) hx hb hts mem_X2_inFrontierL_0 hown hK hP 0 rfl rfl 6 (by decide) (ow (k := 0) rfl) (fun _ h9 => h9) rfl dX2_inFrontier_1 ?_
  refine lv_iload_n hx hb dX2_inFrontier_4 rfl (lv_at hl 1 rfl) ?_
  refine lv_iconst (v := 5) hx hb dX2_inFrontier_5 (by decide) ?_
  refine lv_imul hx hb dX2_inFrontier_6 ?_
  refine lv_topi (fun z ez => ?_)
  obtain rfl : z = zI (b * 5) := ez.trans (zI_mul (b) (5))
  refine lv_iload_n hx hb dX2_inFrontier_7 rfl (lv_at hl 2 rfl) ?_
  have hPc := hP.sub (ws' := [(q_206, .inl (cA_206, 1500, .inr (.inl fa2_frontier)))]) [1] rfl
  have hDc := hD.sub (ws' := [(q_206, .inl (cA_206, 1500, .inr (.inl fa2_frontier)))]) [1] (by decide) rfl
  have hKc := hK.sub (tys' := [(cA_206, .long)]) [0] rfl
  have hFc := va_free (wc := [(q_206, .inl (cA_206, 1500, .inr (.inl fa2_frontier)))]) hD hS hA [1] rfl
  refine va_calli (va_runSN (As := [.ref q_206, .int (zI (b * 5)), .int (zI (d))]) (rest := []) ⟨hx, hb, hml, hown, hts⟩ (c_X11_hasBitL l dC dI q_206 cA_206 1500 fa2_frontier (b * 5) d (by omega) H.size) ⟨va_cnB 3 hts (goodIn_sub mem_X2_inFrontierL_1 gw_X11_hasBitL) rfl rfl rfl hp0 (ow (k := 1) rfl) (by decide +kernel) ⟨(Nat.le_of_ble_eq_true rfl), (Nat.le_of_ble_eq_true rfl)⟩, (ow (k := 2) rfl), trivial⟩ ⟨fun a U g mk q => by obtain ⟨q0, q1, qP, qK, qD⟩ := q; exact ⟨q0, q1, qP, va_K.moved (u := U) (U := U.calling g mk a) (Vm.Alike.refl U.vm) qK, qD⟩, fun U hU hW => ⟨rfl, by rw [hU], by rw [hU]; exact hPc, va_K.moved hW.alike hKc, hDc.weaken (fun _ _ _ _ => trivial)⟩⟩ rfl rfl hl.1 rfl (lv_room (Nat.le_of_ble_eq_true rfl)) dX2_inFrontier_8 ⟨(Nat.le_of_ble_eq_true rfl), (Nat.le_of_ble_eq_true rfl)⟩) hS (fun q _ h => hFc q h) hFc (fun r_2001 u t H1 locs ht hvm hw hB hz1 hk1 hS => ?_)
  obtain ⟨hP1, hK1, hD1⟩ := hB
  rw [ht] at hP1
  have hK1 := va_K.moved hvm.symm hK1
  obtain ⟨hP, hD⟩ := va_join (wr := [(h0, .inr (2, [v2_0, v2_1, v2_2, v2_3, v2_4, v2_5, .ref q_206, v2_7, v2_8, v2_9, v2_10, v2_11, v2_12]))]) (w1 := [(q_206, .inl (cA_206, 1500, .inr (.inl fa2_frontier)))]) hP hD [1] [0] rfl rfl (by decide) (by decide) hk1 hFc hP1 hD1
  have hK := (hK.sub (tys' := []) [] rfl).app hK1
  generalize H1 = H at hP hS ⊢
  have hP : va_P (dC, dI) vwP [(h0, .inr (2, [v2_0, v2_1, v2_2, v2_3, v2_4, v2_5, .ref q_206, v2_7, v2_8, v2_9, v2_10, v2_11, v2_12])), (q_206, .inl (cA_206, 1500, .inr (.inl fa2_frontier)))] H := hP
  have hD : va_D A [(h0, .inr (2, [v2_0, v2_1, v2_2, v2_3, v2_4, v2_5, .ref q_206, v2_7, v2_8, v2_9, v2_10, v2_11, v2_12])), (q_206, .inl (cA_206, 1500, .inr (.inl fa2_frontier)))] := hD
  have hK : va_K (dC, dI) vwP [(cA_206, .long)] s := hK
  refine W.widen (k := 0) (n := 0) (Nat.le_of_ble_eq_true rfl) (Nat.le_of_ble_eq_true rfl) ?_
  have hw_2002 := hw
  obtain ⟨z_2003, rfl, hzz_2003⟩ := hw_2002
  subst hQ
  refine W.widen (k := 0) (n := 0) (Nat.le_of_ble_eq_true rfl) (Nat.le_of_ble_eq_true rfl) ?_
  exact W.zret (v := (zI (z_2003))) hx hb hr (zI_bool (by omega) (by omega)) (fun t ht hW => ⟨⟨(zI (z_2003)), (), rfl, ⟨z_2003, rfl, ⟨by omega, fun h9 => (by rcases Int.lt_or_le 0 d with q9 | q9; (omega); (exact absurd hX_f0 ((hzz_2003).2 h9 (by omega))))⟩⟩, by rw [ht]; exact hP, va_K.moved hW.alike hK, hD⟩, hS.F ht⟩) hS.2.2 dX2_inFrontier_11
def o_X2_findFrontiersL : List Cond := [.fieldLink RX2 32 "SsaForge$Flow" "frontier" "[J", .fieldLink RX2 75 "SsaForge$Code" "blocks" "I", .initialized RX11, .static yX11_clearBits, .methodLink RX2 106 yX2_isReached, .instanceMethod yX2_isReached, .selects RX2 yX2_isReached yX2_isReached, .initialized RX2, .methodLink RX2 81 yX0_goalCount, .instanceMethod yX0_goalCount, .selects RX0 yX0_goalCount yX0_goalCount, .initialized RX0, .methodLink RX2 85 yX0_goal, .instanceMethod yX0_goal, .selects RX0 yX0_goal yX0_goal, .fieldLink RX2 15 "SsaForge$Flow" "idom" "[I", .static yX11_putBit]
def v_X2_findFrontiersL : List Cond := .code yX2_findFrontiers cX2_findFrontiers 7 none :: (o_X2_findFrontiersL ++ (wsX20 ++ (wsX00 ++ (v_X11_clearBitsL ++ (v_X2_isReached ++ (v_X0_goalCount ++ (v_X0_goal ++ (v_X11_putBitL ++ []))))))))
theorem mow_X2_findFrontiersL : ∀ w ∈ o_X2_findFrontiersL, w ∈ v_X2_findFrontiersL := fun _ h => List.mem_cons_of_mem _ (List.mem_append_left _ h)
theorem mem_X2_findFrontiersL_0 : ∀ w ∈ wsX20, w ∈ v_X2_findFrontiersL := fun _ h => List.mem_cons_of_mem _ (List.mem_append_right _ (List.mem_append_left _ h))
theorem mem_X2_findFrontiersL_1 : ∀ w ∈ wsX00, w ∈ v_X2_findFrontiersL := fun _ h => List.mem_cons_of_mem _ (List.mem_append_right _ (List.mem_append_right _ (List.mem_append_left _ h)))
theorem mem_X2_findFrontiersL_2 : ∀ w ∈ v_X11_clearBitsL, w ∈ v_X2_findFrontiersL := fun _ h => List.mem_cons_of_mem _ (List.mem_append_right _ (List.mem_append_right _ (List.mem_append_right _ (List.mem_append_left _ h))))
theorem mem_X2_findFrontiersL_3 : ∀ w ∈ v_X2_isReached, w ∈ v_X2_findFrontiersL := fun _ h => List.mem_cons_of_mem _ (List.mem_append_right _ (List.mem_append_right _ (List.mem_append_right _ (List.mem_append_right _ (List.mem_append_left _ h)))))
theorem mem_X2_findFrontiersL_4 : ∀ w ∈ v_X0_goalCount, w ∈ v_X2_findFrontiersL := fun _ h => List.mem_cons_of_mem _ (List.mem_append_right _ (List.mem_append_right _ (List.mem_append_right _ (List.mem_append_right _ (List.mem_append_right _ (List.mem_append_left _ h))))))
theorem mem_X2_findFrontiersL_5 : ∀ w ∈ v_X0_goal, w ∈ v_X2_findFrontiersL := fun _ h => List.mem_cons_of_mem _ (List.mem_append_right _ (List.mem_append_right _ (List.mem_append_right _ (List.mem_append_right _ (List.mem_append_right _ (List.mem_append_right _ (List.mem_append_left _ h)))))))
theorem mem_X2_findFrontiersL_6 : ∀ w ∈ v_X11_putBitL, w ∈ v_X2_findFrontiersL := fun _ h => List.mem_cons_of_mem _ (List.mem_append_right _ (List.mem_append_right _ (List.mem_append_right _ (List.mem_append_right _ (List.mem_append_right _ (List.mem_append_right _ (List.mem_append_right _ (List.mem_append_left _ h))))))))
set_option maxRecDepth 20000 in
theorem gw_X2_findFrontiersL : v_X2_findFrontiersL.all goodWord = true := by decide +kernel
set_option maxRecDepth 20000 in
theorem g_X2_findFrontiersL_X2_isReached : GoodIn v_X2_findFrontiersL (wsV RX2 106 RX2 yX2_isReached v_X2_isReached) := goodIn_app (goodIn_sub (fun w h => mow_X2_findFrontiersL w (by revert w h; decide +kernel)) (by decide +kernel)) (goodIn_sub mem_X2_findFrontiersL_3 gw_X2_isReached)
set_option maxRecDepth 20000 in
theorem g_X2_findFrontiersL_X0_goalCount : GoodIn v_X2_findFrontiersL (wsV RX2 81 RX0 yX0_goalCount v_X0_goalCount) := goodIn_app (goodIn_sub (fun w h => mow_X2_findFrontiersL w (by revert w h; decide +kernel)) (by decide +kernel)) (goodIn_sub mem_X2_findFrontiersL_4 gw_X0_goalCount)
set_option maxRecDepth 20000 in
theorem g_X2_findFrontiersL_X0_goal : GoodIn v_X2_findFrontiersL (wsV RX2 85 RX0 yX0_goal v_X0_goal) := goodIn_app (goodIn_sub (fun w h => mow_X2_findFrontiersL w (by revert w h; decide +kernel)) (by decide +kernel)) (goodIn_sub mem_X2_findFrontiersL_5 gw_X0_goal)
set_option maxHeartbeats 4000000 in
set_option maxRecDepth 100000 in
theorem c_X2_findFrontiersL (l : Launch) (dC : Nat → ClassId) (dI : Nat → Nat → Nat) (h0 : Nat) (v2_0 : Value) (q_201 : Nat) (cA_201 : ClassId) (a2_idom : Int → Int) (v2_2 : Value) (v2_3 : Value) (q_204 : Nat) (cA_204 : ClassId) (a2_place : Int → Int) (v2_5 : Value) (q_206 : Nat) (cA_206 : ClassId) (fa2_frontier : Nat → Int64) (v2_7 : Value) (v2_8 : Value) (v2_9 : Value) (v2_10 : Value) (v2_11 : Value) (v2_12 : Value) (hc : Nat) (B1 : Int) (v_1 : Value) (v_2 : Value) (v_3 : Value) (v_4 : Value) (v_5 : Value) (v_6 : Value) (v_7 : Value) (v_8 : Value) (q_709 : Nat) (cA_709 : ClassId) (a_9 : Int → Int) (v_10 : Value) (q_711 : Nat) (cA_711 : ClassId) (a_11 : Int → Int) (q_712 : Nat) (cA_712 : ClassId) (a_12 : Int → Int) (v_13 : Value) (v_14 : Value) (v_15 : Value) (v_16 : Value) (v_17 : Value) (v_18 : Value) (hR_a2_idom : ∀ j : Int, -2 ≤ a2_idom j ∧ a2_idom j ≤ 299) (hR_a2_place : ∀ j : Int, -1 ≤ a2_place j ∧ a2_place j ≤ 299) (hNB1 : 0 ≤ B1 ∧ B1 ≤ 300) (hR_a_9 : ∀ j : Int, 0 ≤ a_9 j ∧ a_9 j ≤ 2) (hR_a_11 : ∀ j : Int, -1 ≤ a_11 j ∧ a_11 j ≤ 299) (hR_a_12 : ∀ j : Int, -1 ≤ a_12 j ∧ a_12 j ≤ 299) (hX_G : ∀ b : Int, 0 ≤ b → b < B1 → ¬ a_9 b = 2 → (0 ≤ a_11 b ∧ a_11 b < B1) ∧ (0 ≤ a_12 b ∧ a_12 b < B1)) (hX_G1 : ∀ b : Int, 0 ≤ b → b < B1 → ¬ a_9 b = 2 → 1 ≤ a_11 b ∧ 1 ≤ a_12 b) (sz : Nat) : Met l yX2_findFrontiers v_X2_findFrontiersL ({ frames := 1, cells := 0, slots := 0, locals := 22 }) (va_Pc [.ref h0, .ref hc] (fun U => U.heap.size = sz ∧ va_P (dC, dI) vwP [(h0, .inr (2, [v2_0, .ref q_201, v2_2, v2_3, .ref q_204, v2_5, .ref q_206, v2_7, v2_8, v2_9, v2_10, v2_11, v2_12])), (q_201, .inl (cA_201, 300, .inl (fun j : Nat => zI (a2_idom (j : Int))))), (q_204, .inl (cA_204, 300, .inl (fun j : Nat => zI (a2_place (j : Int))))), (q_206, .inl (cA_206, 1500, .inr (.inl fa2_frontier))), (hc, .inr (0, [.int (zI (B1)), v_1, v_2, v_3, v_4, v_5, v_6, v_7, v_8, .ref q_709, v_10, .ref q_711, .ref q_712, v_13, v_14, v_15, v_16, v_17, v_18])), (q_709, .inl (cA_709, 300, .inl (fun j : Nat => zI (a_9 (j : Int))))), (q_711, .inl (cA_711, 300, .inl (fun j : Nat => zI (a_11 (j : Int))))), (q_712, .inl (cA_712, 300, .inl (fun j : Nat => zI (a_12 (j : Int)))))] U.heap ∧ va_K (dC, dI) vwP [(cA_201, .int), (cA_204, .int), (cA_206, .long), (cA_709, .int), (cA_711, .int), (cA_712, .int)] U ∧ va_D (fun _ => True) [(h0, .inr (2, [v2_0, .ref q_201, v2_2, v2_3, .ref q_204, v2_5, .ref q_206, v2_7, v2_8, v2_9, v2_10, v2_11, v2_12])), (q_201, .inl (cA_201, 300, .inl (fun j : Nat => zI (a2_idom (j : Int))))), (q_204, .inl (cA_204, 300, .inl (fun j : Nat => zI (a2_place (j : Int))))), (q_206, .inl (cA_206, 1500, .inr (.inl fa2_frontier))), (hc, .inr (0, [.int (zI (B1)), v_1, v_2, v_3, v_4, v_5, v_6, v_7, v_8, .ref q_709, v_10, .ref q_711, .ref q_712, v_13, v_14, v_15, v_16, v_17, v_18])), (q_709, .inl (cA_709, 300, .inl (fun j : Nat => zI (a_9 (j : Int))))), (q_711, .inl (cA_711, 300, .inl (fun j : Nat => zI (a_11 (j : Int))))), (q_712, .inl (cA_712, 300, .inl (fun j : Nat => zI (a_12 (j : Int)))))] ∧ va_Nw (.methodLinkNest RX2 102 yX11_clearBits "SsaForge") U ∧ va_Nw (.methodLinkNest RX2 110 yX11_putBit "SsaForge") U)) (va_Qv (fun _ : Unit => True) (fun (_ : Unit) (t : State) => ∃ (g0_9 : Nat → Int64), ((FR0 B1 g0_9)) ∧ va_P (dC, dI) vwP [(h0, .inr (2, [v2_0, .ref q_201, v2_2, v2_3, .ref q_204, v2_5, .ref q_206, v2_7, v2_8, v2_9, v2_10, v2_11, v2_12])), (q_201, .inl (cA_201, 300, .inl (fun j : Nat => zI (a2_idom (j : Int))))), (q_204, .inl (cA_204, 300, .inl (fun j : Nat => zI (a2_place (j : Int))))), (q_206, .inl (cA_206, 1500, .inr (.inl g0_9))), (hc, .inr (0, [.int (zI (B1)), v_1, v_2, v_3, v_4, v_5, v_6, v_7, v_8, .ref q_709, v_10, .ref q_711, .ref q_712, v_13, v_14, v_15, v_16, v_17, v_18])), (q_709, .inl (cA_709, 300, .inl (fun j : Nat => zI (a_9 (j : Int))))), (q_711, .inl (cA_711, 300, .inl (fun j : Nat => zI (a_11 (j : Int))))), (q_712, .inl (cA_712, 300, .inl (fun j : Nat => zI (a_12 (j : Int)))))] t.heap ∧ va_K (dC, dI) vwP [(cA_201, .int), (cA_204, .int), (cA_206, .long), (cA_709, .int), (cA_711, .int), (cA_712, .int)] t ∧ va_D (va_A [(h0, .inr (2, [v2_0, .ref q_201, v2_2, v2_3, .ref q_204, v2_5, .ref q_206, v2_7, v2_8, v2_9, v2_10, v2_11, v2_12])), (q_201, .inl (cA_201, 300, .inl (fun j : Nat => zI (a2_idom (j : Int))))), (q_204, .inl (cA_204, 300, .inl (fun j : Nat => zI (a2_place (j : Int))))), (q_206, .inl (cA_206, 1500, .inr (.inl fa2_frontier))), (hc, .inr (0, [.int (zI (B1)), v_1, v_2, v_3, v_4, v_5, v_6, v_7, v_8, .ref q_709, v_10, .ref q_711, .ref q_712, v_13, v_14, v_15, v_16, v_17, v_18])), (q_709, .inl (cA_709, 300, .inl (fun j : Nat => zI (a_9 (j : Int))))), (q_711, .inl (cA_711, 300, .inl (fun j : Nat => zI (a_11 (j : Int))))), (q_712, .inl (cA_712, 300, .inl (fun j : Nat => zI (a_12 (j : Int)))))] sz) [(h0, .inr (2, [v2_0, .ref q_201, v2_2, v2_3, .ref q_204, v2_5, .ref q_206, v2_7, v2_8, v2_9, v2_10, v2_11, v2_12])), (q_201, .inl (cA_201, 300, .inl (fun j : Nat => zI (a2_idom (j : Int))))), (q_204, .inl (cA_204, 300, .inl (fun j : Nat => zI (a2_place (j : Int))))), (q_206, .inl (cA_206, 1500, .inr (.inl g0_9))), (hc, .inr (0, [.int (zI (B1)), v_1, v_2, v_3, v_4, v_5, v_6, v_7, v_8, .ref q_709, v_10, .ref q_711, .ref q_712, v_13, v_14, v_15, v_16, v_17, v_18])), (q_709, .inl (cA_709, 300, .inl (fun j : Nat => zI (a_9 (j : Int))))), (q_711, .inl (cA_711, 300, .inl (fun j : Nat => zI (a_11 (j : Int))))), (q_712, .inl (cA_712, 300, .inl (fun j : Nat => zI (a_12 (j : Int)))))]) (va_A [(h0, .inr (2, [v2_0, .ref q_201, v2_2, v2_3, .ref q_204, v2_5, .ref q_206, v2_7, v2_8, v2_9, v2_10, v2_11, v2_12])), (q_201, .inl (cA_201, 300, .inl (fun j : Nat => zI (a2_idom (j : Int))))), (q_204, .inl (cA_204, 300, .inl (fun j : Nat => zI (a2_place (j : Int))))), (q_206, .inl (cA_206, 1500, .inr (.inl fa2_frontier))), (hc, .inr (0, [.int (zI (B1)), v_1, v_2, v_3, v_4, v_5, v_6, v_7, v_8, .ref q_709, v_10, .ref q_711, .ref q_712, v_13, v_14, v_15, v_16, v_17, v_18])), (q_709, .inl (cA_709, 300, .inl (fun j : Nat => zI (a_9 (j : Int))))), (q_711, .inl (cA_711, 300, .inl (fun j : Nat => zI (a_11 (j : Int))))), (q_712, .inl (cA_712, 300, .inl (fun j : Nat => zI (a_12 (j : Int)))))] sz)) 0 0 (va_A [(h0, .inr (2, [v2_0, .ref q_201, v2_2, v2_3, .ref q_204, v2_5, .ref q_206, v2_7, v2_8, v2_9, v2_10, v2_11, v2_12])), (q_201, .inl (cA_201, 300, .inl (fun j : Nat => zI (a2_idom (j : Int))))), (q_204, .inl (cA_204, 300, .inl (fun j : Nat => zI (a2_place (j : Int))))), (q_206, .inl (cA_206, 1500, .inr (.inl fa2_frontier))), (hc, .inr (0, [.int (zI (B1)), v_1, v_2, v_3, v_4, v_5, v_6, v_7, v_8, .ref q_709, v_10, .ref q_711, .ref q_712, v_13, v_14, v_15, v_16, v_17, v_18])), (q_709, .inl (cA_709, 300, .inl (fun j : Nat => zI (a_9 (j : Int))))), (q_711, .inl (cA_711, 300, .inl (fun j : Nat => zI (a_11 (j : Int))))), (q_712, .inl (cA_712, 300, .inl (fun j : Nat => zI (a_12 (j : Int)))))] sz) := by
  refine Met.ofW (cc := cX2_findFrontiers) (maxL := 7) (ret := none) (by decide) rfl ?_
  intro p e s m args below meth c s₁ B hml hv
  obtain ⟨rfl, hsz, hP, hK, hD0, hp0, hp1⟩ := hv
  have hx := B.exec
  have hb := B.bytes
  have hr := B.returns
  have hts := atoms_spec (ws := v_X2_findFrontiersL) B.pre
  have hown : s.vm.findClass RX2 = some m.cls := findClass_of_methodNamed B.named
  have hlocks := B.notSynchronized
  have ow : ∀ {k : Nat} {w : Cond}, o_X2_findFrontiersL[k]? = some w → w.before ([.ref h0, .ref hc] : List Value).toArray s = true := fun h => hts _ (mow_X2_findFrontiersL _ (List.mem_of_getElem? h))
  subst hsz
  have hD := hD0.self (sz := s.heap.size)
  generalize hAe : va_A [(h0, .inr (2, [v2_0, .ref q_201, v2_2, v2_3, .ref q_204, v2_5, .ref q_206, v2_7, v2_8, v2_9, v2_10, v2_11, v2_12])), (q_201, .inl (cA_201, 300, .inl (fun j : Nat => zI (a2_idom (j : Int))))), (q_204, .inl (cA_204, 300, .inl (fun j : Nat => zI (a2_place (j : Int))))), (q_206, .inl (cA_206, 1500, .inr (.inl fa2_frontier))), (hc, .inr (0, [.int (zI (B1)), v_1, v_2, v_3, v_4, v_5, v_6, v_7, v_8, .ref q_709, v_10, .ref q_711, .ref q_712, v_13, v_14, v_15, v_16, v_17, v_18])), (q_709, .inl (cA_709, 300, .inl (fun j : Nat => zI (a_9 (j : Int))))), (q_711, .inl (cA_711, 300, .inl (fun j : Nat => zI (a_11 (j : Int))))), (q_712, .inl (cA_712, 300, .inl (fun j : Nat => zI (a_12 (j : Int)))))] s.heap.size = A at hD ⊢
  have hA : ∀ q : Nat, s.heap.size ≤ q → A q := fun q h => by rw [← hAe]; exact Or.inr h
  have hS : va_S A s.heap s.heap [] := va_S.rf
  have hP : va_P (dC, dI) vwP [(h0, .inr (2, [v2_0, .ref q_201, v2_2, v2_3, .ref q_204, v2_5, .ref q_206, v2_7, v2_8, v2_9, v2_10, v2_11, v2_12])), (q_201, .inl (cA_201, 300, .inl (fun j : Nat => zI (a2_idom (j : Int))))), (q_204, .inl (cA_204, 300, .inl (fun j : Nat => zI (a2_place (j : Int))))), (q_206, .inl (cA_206, 1500, .inr (.inl fa2_frontier))), (hc, .inr (0, [.int (zI (B1)), v_1, v_2, v_3, v_4, v_5, v_6, v_7, v_8, .ref q_709, v_10, .ref q_711, .ref q_712, v_13, v_14, v_15, v_16, v_17, v_18])), (q_709, .inl (cA_709, 300, .inl (fun j : Nat => zI (a_9 (j : Int))))), (q_711, .inl (cA_711, 300, .inl (fun j : Nat => zI (a_11 (j : Int))))), (q_712, .inl (cA_712, 300, .inl (fun j : Nat => zI (a_12 (j : Int)))))] s.heap := hP
  have hl := lv_entry ([.ref h0, .ref hc]) (n := 7) (Nat.le_of_ble_eq_true rfl)
  rw [lg_entry_eq]
  generalize (lg_sl ([.ref h0, .ref hc]) ++ List.replicate (7 - (lg_sl ([.ref h0, .ref hc])).length) Slot.unset).toArray = ls at hl ⊢
  have hl : lv_has ls 7 [(0, .ref h0), (1, .ref hc)] := hl
  obtain ⟨H, hH⟩ : ∃ H, H = s.heap := ⟨_, rfl⟩
  rw [← hH] at hP
  have hS : va_S A s.heap H [] := by rw [hH]; exact hS
  rw [← hH]
  refine zW_cap (fun Q hQ => ?_)
  refine lv_aload_n hx hb dX2_findFrontiers_0 rfl (lv_at hl 0 rfl) ?_
  refine va_get (D := (dC, dI)) (ci := 2) (v := .ref q_206) (C := RX2) (T := TX2) (N := 13) hx hb hts mem_X2_findFrontiersL_0 hown hK hP 0 rfl rfl 6 (by decide) (ow (k := 0) rfl) (fun _ h9 => h9) rfl dX2_findFrontiers_1 ?_
  refine lv_aload_n hx hb dX2_findFrontiers_4 rfl (lv_at hl 1 rfl) ?_
  refine va_get (D := (dC, dI)) (ci := 0) (v := .int (zI (B1))) (C := RX0) (T := TX0) (N := 19) hx hb hts mem_X2_findFrontiersL_1 hown hK hP 4 rfl rfl 0 (by decide) (ow (k := 1) rfl) (fun _ h9 => h9) rfl dX2_findFrontiers_5 ?_
  refine lv_iconst (v := 5) hx hb dX2_findFrontiers_8 (by decide) ?_
  refine lv_imul hx hb dX2_findFrontiers_9 ?_
  refine lv_topi (fun z ez => ?_)
  obtain rfl : z = zI (B1 * 5) := ez.trans (zI_mul (B1) (5))
  have hPc := hP.sub (ws' := [(q_206, .inl (cA_206, 1500, .inr (.inl fa2_frontier)))]) [3] rfl
  have hDc := hD.sub (ws' := [(q_206, .inl (cA_206, 1500, .inr (.inl fa2_frontier)))]) [3] (by decide) rfl
  have hKc := hK.sub (tys' := [(cA_206, .long)]) [2] rfl
  have hFc := va_free (wc := [(q_206, .inl (cA_206, 1500, .inr (.inl fa2_frontier)))]) hD hS hA [3] rfl
  refine va_callv (va_runSN (As := [.ref q_206, .int (zI (B1 * 5))]) (rest := []) ⟨hx, hb, hml, hown, hts⟩ (c_X11_clearBitsL l dC dI q_206 cA_206 1500 fa2_frontier (B1 * 5) (by omega) H.size) ⟨va_cnB 2 hts (goodIn_sub mem_X2_findFrontiersL_2 gw_X11_clearBitsL) rfl rfl rfl hp0 (ow (k := 2) rfl) (by decide +kernel) ⟨(Nat.le_of_ble_eq_true rfl), (Nat.le_of_ble_eq_true rfl)⟩, (ow (k := 3) rfl), trivial⟩ ⟨fun a U g mk q => by obtain ⟨q0, q1, qP, qK, qD⟩ := q; exact ⟨q0, q1, qP, va_K.moved (u := U) (U := U.calling g mk a) (Vm.Alike.refl U.vm) qK, qD⟩, fun U hU hW => ⟨rfl, by rw [hU], by rw [hU]; exact hPc, va_K.moved hW.alike hKc, hDc.weaken (fun _ _ _ _ => trivial)⟩⟩ rfl rfl hl.1 rfl (lv_room (Nat.le_of_ble_eq_true rfl)) dX2_findFrontiers_10 ⟨(Nat.le_of_ble_eq_true rfl), (Nat.le_of_ble_eq_true rfl)⟩) hS (fun q _ h => hFc q h) hFc (fun  u t H1 locs ht hvm hw hB hz1 hk1 hS => ?_)
  obtain ⟨g0_2001, hxt_2001, hP1, hK1, hD1⟩ := hB
  rw [ht] at hP1
  have hK1 := va_K.moved hvm.symm hK1
  obtain ⟨hP, hD⟩ := va_join (wr := [(h0, .inr (2, [v2_0, .ref q_201, v2_2, v2_3, .ref q_204, v2_5, .ref q_206, v2_7, v2_8, v2_9, v2_10, v2_11, v2_12])), (q_201, .inl (cA_201, 300, .inl (fun j : Nat => zI (a2_idom (j : Int))))), (q_204, .inl (cA_204, 300, .inl (fun j : Nat => zI (a2_place (j : Int))))), (hc, .inr (0, [.int (zI (B1)), v_1, v_2, v_3, v_4, v_5, v_6, v_7, v_8, .ref q_709, v_10, .ref q_711, .ref q_712, v_13, v_14, v_15, v_16, v_17, v_18])), (q_709, .inl (cA_709, 300, .inl (fun j : Nat => zI (a_9 (j : Int))))), (q_711, .inl (cA_711, 300, .inl (fun j : Nat => zI (a_11 (j : Int))))), (q_712, .inl (cA_712, 300, .inl (fun j : Nat => zI (a_12 (j : Int)))))]) (w1 := [(q_206, .inl (cA_206, 1500, .inr (.inl g0_2001)))]) hP hD [3] [0, 1, 2, 4, 5, 6, 7] rfl rfl (by decide) (by decide) hk1 hFc hP1 hD1
  have hK := (hK.sub (tys' := [(cA_201, .int), (cA_204, .int), (cA_709, .int), (cA_711, .int), (cA_712, .int)]) [0, 1, 3, 4, 5] rfl).app hK1
  generalize H1 = H at hP hS ⊢
  have hP : va_P (dC, dI) vwP [(h0, .inr (2, [v2_0, .ref q_201, v2_2, v2_3, .ref q_204, v2_5, .ref q_206, v2_7, v2_8, v2_9, v2_10, v2_11, v2_12])), (q_201, .inl (cA_201, 300, .inl (fun j : Nat => zI (a2_idom (j : Int))))), (q_204, .inl (cA_204, 300, .inl (fun j : Nat => zI (a2_place (j : Int))))), (hc, .inr (0, [.int (zI (B1)), v_1, v_2, v_3, v_4, v_5, v_6, v_7, v_8, .ref q_709, v_10, .ref q_711, .ref q_712, v_13, v_14, v_15, v_16, v_17, v_18])), (q_709, .inl (cA_709, 300, .inl (fun j : Nat => zI (a_9 (j : Int))))), (q_711, .inl (cA_711, 300, .inl (fun j : Nat => zI (a_11 (j : Int))))), (q_712, .inl (cA_712, 300, .inl (fun j : Nat => zI (a_12 (j : Int))))), (q_206, .inl (cA_206, 1500, .inr (.inl g0_2001)))] H := hP
  have hD : va_D A [(h0, .inr (2, [v2_0, .ref q_201, v2_2, v2_3, .ref q_204, v2_5, .ref q_206, v2_7, v2_8, v2_9, v2_10, v2_11, v2_12])), (q_201, .inl (cA_201, 300, .inl (fun j : Nat => zI (a2_idom (j : Int))))), (q_204, .inl (cA_204, 300, .inl (fun j : Nat => zI (a2_place (j : Int))))), (hc, .inr (0, [.int (zI (B1)), v_1, v_2, v_3, v_4, v_5, v_6, v_7, v_8, .ref q_709, v_10, .ref q_711, .ref q_712, v_13, v_14, v_15, v_16, v_17, v_18])), (q_709, .inl (cA_709, 300, .inl (fun j : Nat => zI (a_9 (j : Int))))), (q_711, .inl (cA_711, 300, .inl (fun j : Nat => zI (a_11 (j : Int))))), (q_712, .inl (cA_712, 300, .inl (fun j : Nat => zI (a_12 (j : Int))))), (q_206, .inl (cA_206, 1500, .inr (.inl g0_2001)))] := hD
  have hK : va_K (dC, dI) vwP [(cA_201, .int), (cA_204, .int), (cA_709, .int), (cA_711, .int), (cA_712, .int), (cA_206, .long)] s := hK
  refine W.widen (k := 0) (n := 0) (Nat.le_of_ble_eq_true rfl) (Nat.le_of_ble_eq_true rfl) ?_
  have hcl := hxt_2001
  refine lv_iconst (v := 0) hx hb dX2_findFrontiers_13 (by decide) ?_
  refine lv_istore_n (lv' := [(2, .int 0), (0, .ref h0), (1, .ref hc)]) hx hb dX2_findFrontiers_14 rfl hl (by decide) rfl (fun ls hl => ?_)
  have key15 : ∀ n15 : Nat, ∀ (d15_2 : Int) (w15_206 : Nat → Int64) (ls : Array Slot) (H : Heap) (locs : List Loc), (0 ≤ d15_2 ∧ d15_2 ≤ 1000000000) → (FR0 B1 w15_206) → (((B1) - (d15_2) : Int).toNat) < n15 → lv_has ls 7 [(0, .ref h0), (1, .ref hc), (2, .int (zI (d15_2)))] → va_P (dC, dI) vwP [(h0, .inr (2, [v2_0, .ref q_201, v2_2, v2_3, .ref q_204, v2_5, .ref q_206, v2_7, v2_8, v2_9, v2_10, v2_11, v2_12])), (q_201, .inl (cA_201, 300, .inl (fun j : Nat => zI (a2_idom (j : Int))))), (q_204, .inl (cA_204, 300, .inl (fun j : Nat => zI (a2_place (j : Int))))), (hc, .inr (0, [.int (zI (B1)), v_1, v_2, v_3, v_4, v_5, v_6, v_7, v_8, .ref q_709, v_10, .ref q_711, .ref q_712, v_13, v_14, v_15, v_16, v_17, v_18])), (q_709, .inl (cA_709, 300, .inl (fun j : Nat => zI (a_9 (j : Int))))), (q_711, .inl (cA_711, 300, .inl (fun j : Nat => zI (a_11 (j : Int))))), (q_712, .inl (cA_712, 300, .inl (fun j : Nat => zI (a_12 (j : Int))))), (q_206, .inl (cA_206, 1500, .inr (.inl w15_206)))] H → va_D A [(h0, .inr (2, [v2_0, .ref q_201, v2_2, v2_3, .ref q_204, v2_5, .ref q_206, v2_7, v2_8, v2_9, v2_10, v2_11, v2_12])), (q_201, .inl (cA_201, 300, .inl (fun j : Nat => zI (a2_idom (j : Int))))), (q_204, .inl (cA_204, 300, .inl (fun j : Nat => zI (a2_place (j : Int))))), (hc, .inr (0, [.int (zI (B1)), v_1, v_2, v_3, v_4, v_5, v_6, v_7, v_8, .ref q_709, v_10, .ref q_711, .ref q_712, v_13, v_14, v_15, v_16, v_17, v_18])), (q_709, .inl (cA_709, 300, .inl (fun j : Nat => zI (a_9 (j : Int))))), (q_711, .inl (cA_711, 300, .inl (fun j : Nat => zI (a_11 (j : Int))))), (q_712, .inl (cA_712, 300, .inl (fun j : Nat => zI (a_12 (j : Int))))), (q_206, .inl (cA_206, 1500, .inr (.inl w15_206)))] → va_S A s.heap H locs → W p l e (headSpec v_X2_findFrontiersL ({ frames := 1, cells := 0, slots := 0, locals := 22 })).room s m ([.ref h0, .ref hc] : List Value).toArray below meth c H locs 0 0 Q (F0 m 15 ls []) := by
    intro n15
    induction n15 with
    | zero => intro d15_2 w15_206 ls H locs jd15_2 jf15 hm15; exact absurd hm15 (by omega)
    | succ n15 ih15 =>
      intro d15_2 w15_206 ls H locs jd15_2 jf15 hm15 hl hP hD hS
      refine lv_iload_n hx hb dX2_findFrontiers_15 rfl (lv_at hl 2 rfl) ?_
      refine lv_aload_n hx hb dX2_findFrontiers_16 rfl (lv_at hl 1 rfl) ?_
      refine va_get (D := (dC, dI)) (ci := 0) (v := .int (zI (B1))) (C := RX0) (T := TX0) (N := 19) hx hb hts mem_X2_findFrontiersL_1 hown hK hP 3 rfl rfl 0 (by decide) (ow (k := 1) rfl) (fun _ h9 => h9) rfl dX2_findFrontiers_17 ?_
      refine lv_icmp_ge (tgt := 124) hx hb dX2_findFrontiers_20 (by decide) (fun b20 => ?_) (fun b20 => ?_)
      · have yb20 : (B1 : Int) ≤ (d15_2 : Int) := (zI_le (a := B1) (b := d15_2) (by omega) (by omega) (by omega) (by omega)).mp b20
        subst hQ
        have hP := hP.sub (ws' := [(h0, .inr (2, [v2_0, .ref q_201, v2_2, v2_3, .ref q_204, v2_5, .ref q_206, v2_7, v2_8, v2_9, v2_10, v2_11, v2_12])), (q_201, .inl (cA_201, 300, .inl (fun j : Nat => zI (a2_idom (j : Int))))), (q_204, .inl (cA_204, 300, .inl (fun j : Nat => zI (a2_place (j : Int))))), (q_206, .inl (cA_206, 1500, .inr (.inl w15_206))), (hc, .inr (0, [.int (zI (B1)), v_1, v_2, v_3, v_4, v_5, v_6, v_7, v_8, .ref q_709, v_10, .ref q_711, .ref q_712, v_13, v_14, v_15, v_16, v_17, v_18])), (q_709, .inl (cA_709, 300, .inl (fun j : Nat => zI (a_9 (j : Int))))), (q_711, .inl (cA_711, 300, .inl (fun j : Nat => zI (a_11 (j : Int))))), (q_712, .inl (cA_712, 300, .inl (fun j : Nat => zI (a_12 (j : Int)))))]) [0, 1, 2, 7, 3, 4, 5, 6] rfl
        have hD := hD.sub (ws' := [(h0, .inr (2, [v2_0, .ref q_201, v2_2, v2_3, .ref q_204, v2_5, .ref q_206, v2_7, v2_8, v2_9, v2_10, v2_11, v2_12])), (q_201, .inl (cA_201, 300, .inl (fun j : Nat => zI (a2_idom (j : Int))))), (q_204, .inl (cA_204, 300, .inl (fun j : Nat => zI (a2_place (j : Int))))), (q_206, .inl (cA_206, 1500, .inr (.inl w15_206))), (hc, .inr (0, [.int (zI (B1)), v_1, v_2, v_3, v_4, v_5, v_6, v_7, v_8, .ref q_709, v_10, .ref q_711, .ref q_712, v_13, v_14, v_15, v_16, v_17, v_18])), (q_709, .inl (cA_709, 300, .inl (fun j : Nat => zI (a_9 (j : Int))))), (q_711, .inl (cA_711, 300, .inl (fun j : Nat => zI (a_11 (j : Int))))), (q_712, .inl (cA_712, 300, .inl (fun j : Nat => zI (a_12 (j : Int)))))]) [0, 1, 2, 7, 3, 4, 5, 6] (by decide) rfl
        have hK := hK.sub (tys' := [(cA_201, .int), (cA_204, .int), (cA_206, .long), (cA_709, .int), (cA_711, .int), (cA_712, .int)]) [0, 1, 5, 2, 3, 4] rfl
        refine W.widen (k := 0) (n := 0) (Nat.le_of_ble_eq_true rfl) (Nat.le_of_ble_eq_true rfl) ?_
        exact W.vret hx hb hr (fun t ht hW => ⟨⟨(), rfl, trivial, w15_206, jf15, by rw [ht]; exact hP, va_K.moved hW.alike hK, hD⟩, hS.F ht⟩) hS.2.2 dX2_findFrontiers_124
      · have yb20 : ¬ (B1 : Int) ≤ (d15_2 : Int) := fun q => b20 ((zI_le (a := B1) (b := d15_2) (by omega) (by omega) (by omega) (by omega)).mpr q)
        refine lv_aload_n hx hb dX2_findFrontiers_23 rfl (lv_at hl 0 rfl) ?_
        refine lv_iload_n hx hb dX2_findFrontiers_24 rfl (lv_at hl 2 rfl) ?_
        have hPc := hP.sub (ws' := [(h0, .inr (2, [v2_0, .ref q_201, v2_2, v2_3, .ref q_204, v2_5, .ref q_206, v2_7, v2_8, v2_9, v2_10, v2_11, v2_12])), (q_204, .inl (cA_204, 300, .inl (fun j : Nat => zI (a2_place (j : Int)))))]) [0, 2] rfl
        have hDc := hD.sub (ws' := [(h0, .inr (2, [v2_0, .ref q_201, v2_2, v2_3, .ref q_204, v2_5, .ref q_206, v2_7, v2_8, v2_9, v2_10, v2_11, v2_12])), (q_204, .inl (cA_204, 300, .inl (fun j : Nat => zI (a2_place (j : Int)))))]) [0, 2] (by decide) rfl
        have hKc := hK.sub (tys' := [(cA_204, .int)]) [1] rfl
        have hFc := va_free (wc := [(h0, .inr (2, [v2_0, .ref q_201, v2_2, v2_3, .ref q_204, v2_5, .ref q_206, v2_7, v2_8, v2_9, v2_10, v2_11, v2_12])), (q_204, .inl (cA_204, 300, .inl (fun j : Nat => zI (a2_place (j : Int)))))]) hD hS hA [0, 2] rfl
        refine va_calli (va_runV (As := [.int (zI (d15_2))]) (rest := []) ⟨hx, hb, hml, hown, hts⟩ (c_X2_isReached l dC dI h0 v2_0 (.ref q_201) v2_2 v2_3 q_204 cA_204 a2_place v2_5 (.ref q_206) v2_7 v2_8 v2_9 v2_10 v2_11 v2_12 d15_2 hR_a2_place (by omega) H.size) (cwV 1 hts g_X2_findFrontiersL_X2_isReached rfl rfl rfl (by decide +kernel) ⟨(Nat.le_of_ble_eq_true rfl), (Nat.le_of_ble_eq_true rfl)⟩) ⟨fun a U g mk q => by obtain ⟨q0, q1, qP, qK, qD⟩ := q; exact ⟨q0, q1, qP, va_K.moved (u := U) (U := U.calling g mk a) (Vm.Alike.refl U.vm) qK, qD⟩, va_recv hKc hPc (ci := 2) (q0 := 0) rfl rfl, fun U hU hW => ⟨rfl, by rw [hU], by rw [hU]; exact hPc, va_K.moved hW.alike hKc, hDc.weaken (fun _ _ _ _ => trivial)⟩⟩ rfl rfl hl.1 rfl (lv_room (Nat.le_of_ble_eq_true rfl)) dX2_findFrontiers_25 ⟨(Nat.le_of_ble_eq_true rfl), (Nat.le_of_ble_eq_true rfl)⟩) hS (fun q _ h => hFc q h) hFc (fun r_2002 u t H1 locs ht hvm hw hB hz1 hk1 hS => ?_)
        obtain ⟨hP1, hK1, hD1⟩ := hB
        rw [ht] at hP1
        have hK1 := va_K.moved hvm.symm hK1
        obtain ⟨hP, hD⟩ := va_join (wr := [(q_201, .inl (cA_201, 300, .inl (fun j : Nat => zI (a2_idom (j : Int))))), (hc, .inr (0, [.int (zI (B1)), v_1, v_2, v_3, v_4, v_5, v_6, v_7, v_8, .ref q_709, v_10, .ref q_711, .ref q_712, v_13, v_14, v_15, v_16, v_17, v_18])), (q_709, .inl (cA_709, 300, .inl (fun j : Nat => zI (a_9 (j : Int))))), (q_711, .inl (cA_711, 300, .inl (fun j : Nat => zI (a_11 (j : Int))))), (q_712, .inl (cA_712, 300, .inl (fun j : Nat => zI (a_12 (j : Int))))), (q_206, .inl (cA_206, 1500, .inr (.inl w15_206)))]) (w1 := [(h0, .inr (2, [v2_0, .ref q_201, v2_2, v2_3, .ref q_204, v2_5, .ref q_206, v2_7, v2_8, v2_9, v2_10, v2_11, v2_12])), (q_204, .inl (cA_204, 300, .inl (fun j : Nat => zI (a2_place (j : Int)))))]) hP hD [0, 2] [1, 3, 4, 5, 6, 7] rfl rfl (by decide) (by decide) hk1 hFc hP1 hD1
        have hK := (hK.sub (tys' := [(cA_201, .int), (cA_709, .int), (cA_711, .int), (cA_712, .int), (cA_206, .long)]) [0, 2, 3, 4, 5] rfl).app hK1
        generalize H1 = H at hP hS ⊢
        have hP : va_P (dC, dI) vwP [(q_201, .inl (cA_201, 300, .inl (fun j : Nat => zI (a2_idom (j : Int))))), (hc, .inr (0, [.int (zI (B1)), v_1, v_2, v_3, v_4, v_5, v_6, v_7, v_8, .ref q_709, v_10, .ref q_711, .ref q_712, v_13, v_14, v_15, v_16, v_17, v_18])), (q_709, .inl (cA_709, 300, .inl (fun j : Nat => zI (a_9 (j : Int))))), (q_711, .inl (cA_711, 300, .inl (fun j : Nat => zI (a_11 (j : Int))))), (q_712, .inl (cA_712, 300, .inl (fun j : Nat => zI (a_12 (j : Int))))), (q_206, .inl (cA_206, 1500, .inr (.inl w15_206))), (h0, .inr (2, [v2_0, .ref q_201, v2_2, v2_3, .ref q_204, v2_5, .ref q_206, v2_7, v2_8, v2_9, v2_10, v2_11, v2_12])), (q_204, .inl (cA_204, 300, .inl (fun j : Nat => zI (a2_place (j : Int)))))] H := hP
        have hD : va_D A [(q_201, .inl (cA_201, 300, .inl (fun j : Nat => zI (a2_idom (j : Int))))), (hc, .inr (0, [.int (zI (B1)), v_1, v_2, v_3, v_4, v_5, v_6, v_7, v_8, .ref q_709, v_10, .ref q_711, .ref q_712, v_13, v_14, v_15, v_16, v_17, v_18])), (q_709, .inl (cA_709, 300, .inl (fun j : Nat => zI (a_9 (j : Int))))), (q_711, .inl (cA_711, 300, .inl (fun j : Nat => zI (a_11 (j : Int))))), (q_712, .inl (cA_712, 300, .inl (fun j : Nat => zI (a_12 (j : Int))))), (q_206, .inl (cA_206, 1500, .inr (.inl w15_206))), (h0, .inr (2, [v2_0, .ref q_201, v2_2, v2_3, .ref q_204, v2_5, .ref q_206, v2_7, v2_8, v2_9, v2_10, v2_11, v2_12])), (q_204, .inl (cA_204, 300, .inl (fun j : Nat => zI (a2_place (j : Int)))))] := hD
        have hK : va_K (dC, dI) vwP [(cA_201, .int), (cA_709, .int), (cA_711, .int), (cA_712, .int), (cA_206, .long), (cA_204, .int)] s := hK
        refine W.widen (k := 0) (n := 0) (Nat.le_of_ble_eq_true rfl) (Nat.le_of_ble_eq_true rfl) ?_
        obtain rfl : r_2002 = (zI (isRe a2_place (d15_2))) := hw
        have := isRe_spec a2_place (d15_2)
        refine lv_if_ne (tgt := 34) hx hb dX2_findFrontiers_28 (by decide) (fun b28 => ?_) (fun b28 => ?_)
        · have yb28 : ¬ (isRe a2_place (d15_2) : Int) = (0 : Int) := fun q => b28 ((zI_eq (a := isRe a2_place (d15_2)) (b := 0) (by omega) (by omega) (by omega) (by omega)).mpr q)
          refine lv_iconst (v := 0) hx hb dX2_findFrontiers_34 (by decide) ?_
          refine lv_istore_n (lv' := [(3, .int 0), (0, .ref h0), (1, .ref hc), (2, .int (zI (d15_2)))]) hx hb dX2_findFrontiers_35 rfl hl (by decide) rfl (fun ls hl => ?_)
          have key36 : ∀ n36 : Nat, ∀ (d36_3 : Int) (w36_206 : Nat → Int64) (ls : Array Slot) (H : Heap) (locs : List Loc), (0 ≤ d36_3 ∧ d36_3 ≤ 1000000000) → (FR0 B1 w36_206) → (((gcF a_9 a_11 a_12 (d15_2)) - (d36_3) : Int).toNat) < n36 → lv_has ls 7 [(0, .ref h0), (1, .ref hc), (2, .int (zI (d15_2))), (3, .int (zI (d36_3)))] → va_P (dC, dI) vwP [(q_201, .inl (cA_201, 300, .inl (fun j : Nat => zI (a2_idom (j : Int))))), (hc, .inr (0, [.int (zI (B1)), v_1, v_2, v_3, v_4, v_5, v_6, v_7, v_8, .ref q_709, v_10, .ref q_711, .ref q_712, v_13, v_14, v_15, v_16, v_17, v_18])), (q_709, .inl (cA_709, 300, .inl (fun j : Nat => zI (a_9 (j : Int))))), (q_711, .inl (cA_711, 300, .inl (fun j : Nat => zI (a_11 (j : Int))))), (q_712, .inl (cA_712, 300, .inl (fun j : Nat => zI (a_12 (j : Int))))), (q_206, .inl (cA_206, 1500, .inr (.inl w36_206))), (h0, .inr (2, [v2_0, .ref q_201, v2_2, v2_3, .ref q_204, v2_5, .ref q_206, v2_7, v2_8, v2_9, v2_10, v2_11, v2_12])), (q_204, .inl (cA_204, 300, .inl (fun j : Nat => zI (a2_place (j : Int)))))] H → va_D A [(q_201, .inl (cA_201, 300, .inl (fun j : Nat => zI (a2_idom (j : Int))))), (hc, .inr (0, [.int (zI (B1)), v_1, v_2, v_3, v_4, v_5, v_6, v_7, v_8, .ref q_709, v_10, .ref q_711, .ref q_712, v_13, v_14, v_15, v_16, v_17, v_18])), (q_709, .inl (cA_709, 300, .inl (fun j : Nat => zI (a_9 (j : Int))))), (q_711, .inl (cA_711, 300, .inl (fun j : Nat => zI (a_11 (j : Int))))), (q_712, .inl (cA_712, 300, .inl (fun j : Nat => zI (a_12 (j : Int))))), (q_206, .inl (cA_206, 1500, .inr (.inl w36_206))), (h0, .inr (2, [v2_0, .ref q_201, v2_2, v2_3, .ref q_204, v2_5, .ref q_206, v2_7, v2_8, v2_9, v2_10, v2_11, v2_12])), (q_204, .inl (cA_204, 300, .inl (fun j : Nat => zI (a2_place (j : Int)))))] → va_S A s.heap H locs → W p l e (headSpec v_X2_findFrontiersL ({ frames := 1, cells := 0, slots := 0, locals := 22 })).room s m ([.ref h0, .ref hc] : List Value).toArray below meth c H locs 0 0 Q (F0 m 36 ls []) := by
            intro n36
            induction n36 with
            | zero => intro d36_3 w36_206 ls H locs jd36_3 jf36 hm36; exact absurd hm36 (by omega)
            | succ n36 ih36 =>
              intro d36_3 w36_206 ls H locs jd36_3 jf36 hm36 hl hP hD hS
              refine lv_iload_n hx hb dX2_findFrontiers_36 rfl (lv_at hl 3 rfl) ?_
              refine lv_aload_n hx hb dX2_findFrontiers_37 rfl (lv_at hl 1 rfl) ?_
              refine lv_iload_n hx hb dX2_findFrontiers_38 rfl (lv_at hl 2 rfl) ?_
              have hPc := hP.sub (ws' := [(hc, .inr (0, [.int (zI (B1)), v_1, v_2, v_3, v_4, v_5, v_6, v_7, v_8, .ref q_709, v_10, .ref q_711, .ref q_712, v_13, v_14, v_15, v_16, v_17, v_18])), (q_709, .inl (cA_709, 300, .inl (fun j : Nat => zI (a_9 (j : Int))))), (q_711, .inl (cA_711, 300, .inl (fun j : Nat => zI (a_11 (j : Int))))), (q_712, .inl (cA_712, 300, .inl (fun j : Nat => zI (a_12 (j : Int)))))]) [1, 2, 3, 4] rfl
              have hDc := hD.sub (ws' := [(hc, .inr (0, [.int (zI (B1)), v_1, v_2, v_3, v_4, v_5, v_6, v_7, v_8, .ref q_709, v_10, .ref q_711, .ref q_712, v_13, v_14, v_15, v_16, v_17, v_18])), (q_709, .inl (cA_709, 300, .inl (fun j : Nat => zI (a_9 (j : Int))))), (q_711, .inl (cA_711, 300, .inl (fun j : Nat => zI (a_11 (j : Int))))), (q_712, .inl (cA_712, 300, .inl (fun j : Nat => zI (a_12 (j : Int)))))]) [1, 2, 3, 4] (by decide) rfl
              have hKc := hK.sub (tys' := [(cA_709, .int), (cA_711, .int), (cA_712, .int)]) [1, 2, 3] rfl
              have hFc := va_free (wc := [(hc, .inr (0, [.int (zI (B1)), v_1, v_2, v_3, v_4, v_5, v_6, v_7, v_8, .ref q_709, v_10, .ref q_711, .ref q_712, v_13, v_14, v_15, v_16, v_17, v_18])), (q_709, .inl (cA_709, 300, .inl (fun j : Nat => zI (a_9 (j : Int))))), (q_711, .inl (cA_711, 300, .inl (fun j : Nat => zI (a_11 (j : Int))))), (q_712, .inl (cA_712, 300, .inl (fun j : Nat => zI (a_12 (j : Int)))))]) hD hS hA [1, 2, 3, 4] rfl
              refine va_calli (va_runV (As := [.int (zI (d15_2))]) (rest := [.int (zI (d36_3))]) ⟨hx, hb, hml, hown, hts⟩ (c_X0_goalCount l dC dI hc (.int (zI (B1))) v_1 v_2 v_3 v_4 v_5 v_6 v_7 v_8 q_709 cA_709 a_9 v_10 q_711 cA_711 a_11 q_712 cA_712 a_12 v_13 v_14 v_15 v_16 v_17 v_18 d15_2 hR_a_9 hR_a_11 hR_a_12 (by omega) H.size) (cwV 1 hts g_X2_findFrontiersL_X0_goalCount rfl rfl rfl (by decide +kernel) ⟨(Nat.le_of_ble_eq_true rfl), (Nat.le_of_ble_eq_true rfl)⟩) ⟨fun a U g mk q => by obtain ⟨q0, q1, qP, qK, qD⟩ := q; exact ⟨q0, q1, qP, va_K.moved (u := U) (U := U.calling g mk a) (Vm.Alike.refl U.vm) qK, qD⟩, va_recv hKc hPc (ci := 0) (q0 := 0) rfl rfl, fun U hU hW => ⟨rfl, by rw [hU], by rw [hU]; exact hPc, va_K.moved hW.alike hKc, hDc.weaken (fun _ _ _ _ => trivial)⟩⟩ rfl rfl hl.1 rfl (lv_room (Nat.le_of_ble_eq_true rfl)) dX2_findFrontiers_39 ⟨(Nat.le_of_ble_eq_true rfl), (Nat.le_of_ble_eq_true rfl)⟩) hS (fun q _ h => hFc q h) hFc (fun r_2003 u t H1 locs ht hvm hw hB hz1 hk1 hS => ?_)
              obtain ⟨hP1, hK1, hD1⟩ := hB
              rw [ht] at hP1
              have hK1 := va_K.moved hvm.symm hK1
              obtain ⟨hP, hD⟩ := va_join (wr := [(q_201, .inl (cA_201, 300, .inl (fun j : Nat => zI (a2_idom (j : Int))))), (q_206, .inl (cA_206, 1500, .inr (.inl w36_206))), (h0, .inr (2, [v2_0, .ref q_201, v2_2, v2_3, .ref q_204, v2_5, .ref q_206, v2_7, v2_8, v2_9, v2_10, v2_11, v2_12])), (q_204, .inl (cA_204, 300, .inl (fun j : Nat => zI (a2_place (j : Int)))))]) (w1 := [(hc, .inr (0, [.int (zI (B1)), v_1, v_2, v_3, v_4, v_5, v_6, v_7, v_8, .ref q_709, v_10, .ref q_711, .ref q_712, v_13, v_14, v_15, v_16, v_17, v_18])), (q_709, .inl (cA_709, 300, .inl (fun j : Nat => zI (a_9 (j : Int))))), (q_711, .inl (cA_711, 300, .inl (fun j : Nat => zI (a_11 (j : Int))))), (q_712, .inl (cA_712, 300, .inl (fun j : Nat => zI (a_12 (j : Int)))))]) hP hD [1, 2, 3, 4] [0, 5, 6, 7] rfl rfl (by decide) (by decide) hk1 hFc hP1 hD1
              have hK := (hK.sub (tys' := [(cA_201, .int), (cA_206, .long), (cA_204, .int)]) [0, 4, 5] rfl).app hK1
              generalize H1 = H at hP hS ⊢
              have hP : va_P (dC, dI) vwP [(q_201, .inl (cA_201, 300, .inl (fun j : Nat => zI (a2_idom (j : Int))))), (q_206, .inl (cA_206, 1500, .inr (.inl w36_206))), (h0, .inr (2, [v2_0, .ref q_201, v2_2, v2_3, .ref q_204, v2_5, .ref q_206, v2_7, v2_8, v2_9, v2_10, v2_11, v2_12])), (q_204, .inl (cA_204, 300, .inl (fun j : Nat => zI (a2_place (j : Int))))), (hc, .inr (0, [.int (zI (B1)), v_1, v_2, v_3, v_4, v_5, v_6, v_7, v_8, .ref q_709, v_10, .ref q_711, .ref q_712, v_13, v_14, v_15, v_16, v_17, v_18])), (q_709, .inl (cA_709, 300, .inl (fun j : Nat => zI (a_9 (j : Int))))), (q_711, .inl (cA_711, 300, .inl (fun j : Nat => zI (a_11 (j : Int))))), (q_712, .inl (cA_712, 300, .inl (fun j : Nat => zI (a_12 (j : Int)))))] H := hP
              have hD : va_D A [(q_201, .inl (cA_201, 300, .inl (fun j : Nat => zI (a2_idom (j : Int))))), (q_206, .inl (cA_206, 1500, .inr (.inl w36_206))), (h0, .inr (2, [v2_0, .ref q_201, v2_2, v2_3, .ref q_204, v2_5, .ref q_206, v2_7, v2_8, v2_9, v2_10, v2_11, v2_12])), (q_204, .inl (cA_204, 300, .inl (fun j : Nat => zI (a2_place (j : Int))))), (hc, .inr (0, [.int (zI (B1)), v_1, v_2, v_3, v_4, v_5, v_6, v_7, v_8, .ref q_709, v_10, .ref q_711, .ref q_712, v_13, v_14, v_15, v_16, v_17, v_18])), (q_709, .inl (cA_709, 300, .inl (fun j : Nat => zI (a_9 (j : Int))))), (q_711, .inl (cA_711, 300, .inl (fun j : Nat => zI (a_11 (j : Int))))), (q_712, .inl (cA_712, 300, .inl (fun j : Nat => zI (a_12 (j : Int)))))] := hD
              have hK : va_K (dC, dI) vwP [(cA_201, .int), (cA_206, .long), (cA_204, .int), (cA_709, .int), (cA_711, .int), (cA_712, .int)] s := hK
              refine W.widen (k := 0) (n := 0) (Nat.le_of_ble_eq_true rfl) (Nat.le_of_ble_eq_true rfl) ?_
              obtain rfl : r_2003 = (zI (gcF a_9 a_11 a_12 (d15_2))) := hw
              have := gcF_rng a_9 a_11 a_12 (d15_2)
              refine lv_icmp_ge (tgt := 118) hx hb dX2_findFrontiers_42 (by decide) (fun b42 => ?_) (fun b42 => ?_)
              · have yb42 : (gcF a_9 a_11 a_12 (d15_2) : Int) ≤ (d36_3 : Int) := (zI_le (a := gcF a_9 a_11 a_12 (d15_2)) (b := d36_3) (by omega) (by omega) (by omega) (by omega)).mp b42
                refine lv_iinc (v := zI (d15_2 + 1)) (lv' := [(2, .int (zI (d15_2 + 1))), (0, .ref h0), (1, .ref hc), (3, .int (zI (d36_3)))]) hx hb dX2_findFrontiers_118 hl (k := 2) rfl (zI_add (d15_2) (1)) (by decide) rfl (fun ls hl => ?_)
                refine lv_goto (tgt := 15) hx hb dX2_findFrontiers_121 (by decide) ?_
                have hP := hP.sub (ws' := [(h0, .inr (2, [v2_0, .ref q_201, v2_2, v2_3, .ref q_204, v2_5, .ref q_206, v2_7, v2_8, v2_9, v2_10, v2_11, v2_12])), (q_201, .inl (cA_201, 300, .inl (fun j : Nat => zI (a2_idom (j : Int))))), (q_204, .inl (cA_204, 300, .inl (fun j : Nat => zI (a2_place (j : Int))))), (hc, .inr (0, [.int (zI (B1)), v_1, v_2, v_3, v_4, v_5, v_6, v_7, v_8, .ref q_709, v_10, .ref q_711, .ref q_712, v_13, v_14, v_15, v_16, v_17, v_18])), (q_709, .inl (cA_709, 300, .inl (fun j : Nat => zI (a_9 (j : Int))))), (q_711, .inl (cA_711, 300, .inl (fun j : Nat => zI (a_11 (j : Int))))), (q_712, .inl (cA_712, 300, .inl (fun j : Nat => zI (a_12 (j : Int))))), (q_206, .inl (cA_206, 1500, .inr (.inl w36_206)))]) [2, 0, 3, 4, 5, 6, 7, 1] rfl
                have hD := hD.sub (ws' := [(h0, .inr (2, [v2_0, .ref q_201, v2_2, v2_3, .ref q_204, v2_5, .ref q_206, v2_7, v2_8, v2_9, v2_10, v2_11, v2_12])), (q_201, .inl (cA_201, 300, .inl (fun j : Nat => zI (a2_idom (j : Int))))), (q_204, .inl (cA_204, 300, .inl (fun j : Nat => zI (a2_place (j : Int))))), (hc, .inr (0, [.int (zI (B1)), v_1, v_2, v_3, v_4, v_5, v_6, v_7, v_8, .ref q_709, v_10, .ref q_711, .ref q_712, v_13, v_14, v_15, v_16, v_17, v_18])), (q_709, .inl (cA_709, 300, .inl (fun j : Nat => zI (a_9 (j : Int))))), (q_711, .inl (cA_711, 300, .inl (fun j : Nat => zI (a_11 (j : Int))))), (q_712, .inl (cA_712, 300, .inl (fun j : Nat => zI (a_12 (j : Int))))), (q_206, .inl (cA_206, 1500, .inr (.inl w36_206)))]) [2, 0, 3, 4, 5, 6, 7, 1] (by decide) rfl
                exact ih15 (d15_2 + 1) w36_206 ls H _ (by omega) jf36 (by omega) (lv_sub hl [1, 2, 0] rfl) hP hD hS
              · have yb42 : ¬ (gcF a_9 a_11 a_12 (d15_2) : Int) ≤ (d36_3 : Int) := fun q => b42 ((zI_le (a := gcF a_9 a_11 a_12 (d15_2)) (b := d36_3) (by omega) (by omega) (by omega) (by omega)).mpr q)
                refine lv_aload_n hx hb dX2_findFrontiers_45 rfl (lv_at hl 1 rfl) ?_
                refine lv_iload_n hx hb dX2_findFrontiers_46 rfl (lv_at hl 2 rfl) ?_
                refine lv_iload_n hx hb dX2_findFrontiers_47 rfl (lv_at hl 3 rfl) ?_
                have hPc := hP.sub (ws' := [(hc, .inr (0, [.int (zI (B1)), v_1, v_2, v_3, v_4, v_5, v_6, v_7, v_8, .ref q_709, v_10, .ref q_711, .ref q_712, v_13, v_14, v_15, v_16, v_17, v_18])), (q_711, .inl (cA_711, 300, .inl (fun j : Nat => zI (a_11 (j : Int))))), (q_712, .inl (cA_712, 300, .inl (fun j : Nat => zI (a_12 (j : Int)))))]) [4, 6, 7] rfl
                have hDc := hD.sub (ws' := [(hc, .inr (0, [.int (zI (B1)), v_1, v_2, v_3, v_4, v_5, v_6, v_7, v_8, .ref q_709, v_10, .ref q_711, .ref q_712, v_13, v_14, v_15, v_16, v_17, v_18])), (q_711, .inl (cA_711, 300, .inl (fun j : Nat => zI (a_11 (j : Int))))), (q_712, .inl (cA_712, 300, .inl (fun j : Nat => zI (a_12 (j : Int)))))]) [4, 6, 7] (by decide) rfl
                have hKc := hK.sub (tys' := [(cA_711, .int), (cA_712, .int)]) [4, 5] rfl
                have hFc := va_free (wc := [(hc, .inr (0, [.int (zI (B1)), v_1, v_2, v_3, v_4, v_5, v_6, v_7, v_8, .ref q_709, v_10, .ref q_711, .ref q_712, v_13, v_14, v_15, v_16, v_17, v_18])), (q_711, .inl (cA_711, 300, .inl (fun j : Nat => zI (a_11 (j : Int))))), (q_712, .inl (cA_712, 300, .inl (fun j : Nat => zI (a_12 (j : Int)))))]) hD hS hA [4, 6, 7] rfl
                refine va_calli (va_runV (As := [.int (zI (d15_2)), .int (zI (d36_3))]) (rest := []) ⟨hx, hb, hml, hown, hts⟩ (c_X0_goal l dC dI hc (.int (zI (B1))) v_1 v_2 v_3 v_4 v_5 v_6 v_7 v_8 (.ref q_709) v_10 q_711 cA_711 a_11 q_712 cA_712 a_12 v_13 v_14 v_15 v_16 v_17 v_18 d15_2 d36_3 hR_a_11 hR_a_12 (by omega) (by omega) H.size) (cwV 2 hts g_X2_findFrontiersL_X0_goal rfl rfl rfl (by decide +kernel) ⟨(Nat.le_of_ble_eq_true rfl), (Nat.le_of_ble_eq_true rfl)⟩) ⟨fun a U g mk q => by obtain ⟨q0, q1, qP, qK, qD⟩ := q; exact ⟨q0, q1, qP, va_K.moved (u := U) (U := U.calling g mk a) (Vm.Alike.refl U.vm) qK, qD⟩, va_recv hKc hPc (ci := 0) (q0 := 0) rfl rfl, fun U hU hW => ⟨rfl, by rw [hU], by rw [hU]; exact hPc, va_K.moved hW.alike hKc, hDc.weaken (fun _ _ _ _ => trivial)⟩⟩ rfl rfl hl.1 rfl (lv_room (Nat.le_of_ble_eq_true rfl)) dX2_findFrontiers_48 ⟨(Nat.le_of_ble_eq_true rfl), (Nat.le_of_ble_eq_true rfl)⟩) hS (fun q _ h => hFc q h) hFc (fun r_2004 u t H1 locs ht hvm hw hB hz1 hk1 hS => ?_)
                obtain ⟨hP1, hK1, hD1⟩ := hB
                rw [ht] at hP1
                have hK1 := va_K.moved hvm.symm hK1
                obtain ⟨hP, hD⟩ := va_join (wr := [(q_201, .inl (cA_201, 300, .inl (fun j : Nat => zI (a2_idom (j : Int))))), (q_206, .inl (cA_206, 1500, .inr (.inl w36_206))), (h0, .inr (2, [v2_0, .ref q_201, v2_2, v2_3, .ref q_204, v2_5, .ref q_206, v2_7, v2_8, v2_9, v2_10, v2_11, v2_12])), (q_204, .inl (cA_204, 300, .inl (fun j : Nat => zI (a2_place (j : Int))))), (q_709, .inl (cA_709, 300, .inl (fun j : Nat => zI (a_9 (j : Int)))))]) (w1 := [(hc, .inr (0, [.int (zI (B1)), v_1, v_2, v_3, v_4, v_5, v_6, v_7, v_8, .ref q_709, v_10, .ref q_711, .ref q_712, v_13, v_14, v_15, v_16, v_17, v_18])), (q_711, .inl (cA_711, 300, .inl (fun j : Nat => zI (a_11 (j : Int))))), (q_712, .inl (cA_712, 300, .inl (fun j : Nat => zI (a_12 (j : Int)))))]) hP hD [4, 6, 7] [0, 1, 2, 3, 5] rfl rfl (by decide) (by decide) hk1 hFc hP1 hD1
                have hK := (hK.sub (tys' := [(cA_201, .int), (cA_206, .long), (cA_204, .int), (cA_709, .int)]) [0, 1, 2, 3] rfl).app hK1
                generalize H1 = H at hP hS ⊢
                have hP : va_P (dC, dI) vwP [(q_201, .inl (cA_201, 300, .inl (fun j : Nat => zI (a2_idom (j : Int))))), (q_206, .inl (cA_206, 1500, .inr (.inl w36_206))), (h0, .inr (2, [v2_0, .ref q_201, v2_2, v2_3, .ref q_204, v2_5, .ref q_206, v2_7, v2_8, v2_9, v2_10, v2_11, v2_12])), (q_204, .inl (cA_204, 300, .inl (fun j : Nat => zI (a2_place (j : Int))))), (q_709, .inl (cA_709, 300, .inl (fun j : Nat => zI (a_9 (j : Int))))), (hc, .inr (0, [.int (zI (B1)), v_1, v_2, v_3, v_4, v_5, v_6, v_7, v_8, .ref q_709, v_10, .ref q_711, .ref q_712, v_13, v_14, v_15, v_16, v_17, v_18])), (q_711, .inl (cA_711, 300, .inl (fun j : Nat => zI (a_11 (j : Int))))), (q_712, .inl (cA_712, 300, .inl (fun j : Nat => zI (a_12 (j : Int)))))] H := hP
                have hD : va_D A [(q_201, .inl (cA_201, 300, .inl (fun j : Nat => zI (a2_idom (j : Int))))), (q_206, .inl (cA_206, 1500, .inr (.inl w36_206))), (h0, .inr (2, [v2_0, .ref q_201, v2_2, v2_3, .ref q_204, v2_5, .ref q_206, v2_7, v2_8, v2_9, v2_10, v2_11, v2_12])), (q_204, .inl (cA_204, 300, .inl (fun j : Nat => zI (a2_place (j : Int))))), (q_709, .inl (cA_709, 300, .inl (fun j : Nat => zI (a_9 (j : Int))))), (hc, .inr (0, [.int (zI (B1)), v_1, v_2, v_3, v_4, v_5, v_6, v_7, v_8, .ref q_709, v_10, .ref q_711, .ref q_712, v_13, v_14, v_15, v_16, v_17, v_18])), (q_711, .inl (cA_711, 300, .inl (fun j : Nat => zI (a_11 (j : Int))))), (q_712, .inl (cA_712, 300, .inl (fun j : Nat => zI (a_12 (j : Int)))))] := hD
                have hK : va_K (dC, dI) vwP [(cA_201, .int), (cA_206, .long), (cA_204, .int), (cA_709, .int), (cA_711, .int), (cA_712, .int)] s := hK
                refine W.widen (k := 0) (n := 0) (Nat.le_of_ble_eq_true rfl) (Nat.le_of_ble_eq_true rfl) ?_
                obtain rfl : r_2004 = (zI (glF a_11 a_12 (d15_2) (d36_3))) := hw
                have := gl_lt hX_G (b := d15_2) (i := d36_3) (by omega) (by omega) (by omega) (by omega)
                have hg1 := gl_ge1 hX_G1 (b := d15_2) (i := d36_3) (by omega) (by omega) (by omega) (by omega)
                refine lv_istore (lv' := [(4, .int (zI (glF a_11 a_12 (d15_2) (d36_3)))), (0, .ref h0), (1, .ref hc), (2, .int (zI (d15_2))), (3, .int (zI (d36_3)))]) hx hb dX2_findFrontiers_51 hl (by decide) rfl (fun ls hl => ?_)
                refine lv_iload_n hx hb dX2_findFrontiers_53 rfl (lv_at hl 3 rfl) ?_
                refine lv_istore (lv' := [(5, .int (zI (d15_2))), (4, .int (zI (glF a_11 a_12 (d15_2) (d36_3)))), (0, .ref h0), (1, .ref hc), (2, .int (zI (d15_2))), (3, .int (zI (d36_3)))]) hx hb dX2_findFrontiers_54 hl (by decide) rfl (fun ls hl => ?_)
                refine lv_iconst (v := 0) hx hb dX2_findFrontiers_56 (by decide) ?_
                refine lv_istore (lv' := [(6, .int 0), (5, .int (zI (d15_2))), (4, .int (zI (glF a_11 a_12 (d15_2) (d36_3)))), (0, .ref h0), (1, .ref hc), (2, .int (zI (d15_2))), (3, .int (zI (d36_3)))]) hx hb dX2_findFrontiers_57 hl (by decide) rfl (fun ls hl => ?_)
                have key59 : ∀ n59 : Nat, ∀ (d59_6 : Int) (d59_5 : Int) (w59_206 : Nat → Int64) (ls : Array Slot) (H : Heap) (locs : List Loc), (0 ≤ d59_6 ∧ d59_6 ≤ 1000000000) → (-2 ≤ d59_5 ∧ d59_5 ≤ 299) → (FR0 B1 w59_206) → ((300 - d59_6 : Int).toNat) < n59 → lv_has ls 7 [(0, .ref h0), (1, .ref hc), (2, .int (zI (d15_2))), (3, .int (zI (d36_3))), (4, .int (zI (glF a_11 a_12 (d15_2) (d36_3)))), (5, .int (zI (d59_5))), (6, .int (zI (d59_6)))] → va_P (dC, dI) vwP [(q_201, .inl (cA_201, 300, .inl (fun j : Nat => zI (a2_idom (j : Int))))), (q_206, .inl (cA_206, 1500, .inr (.inl w59_206))), (h0, .inr (2, [v2_0, .ref q_201, v2_2, v2_3, .ref q_204, v2_5, .ref q_206, v2_7, v2_8, v2_9, v2_10, v2_11, v2_12])), (q_204, .inl (cA_204, 300, .inl (fun j : Nat => zI (a2_place (j : Int))))), (q_709, .inl (cA_709, 300, .inl (fun j : Nat => zI (a_9 (j : Int))))), (hc, .inr (0, [.int (zI (B1)), v_1, v_2, v_3, v_4, v_5, v_6, v_7, v_8, .ref q_709, v_10, .ref q_711, .ref q_712, v_13, v_14, v_15, v_16, v_17, v_18])), (q_711, .inl (cA_711, 300, .inl (fun j : Nat => zI (a_11 (j : Int))))), (q_712, .inl (cA_712, 300, .inl (fun j : Nat => zI (a_12 (j : Int)))))] H → va_D A [(q_201, .inl (cA_201, 300, .inl (fun j : Nat => zI (a2_idom (j : Int))))), (q_206, .inl (cA_206, 1500, .inr (.inl w59_206))), (h0, .inr (2, [v2_0, .ref q_201, v2_2, v2_3, .ref q_204, v2_5, .ref q_206, v2_7, v2_8, v2_9, v2_10, v2_11, v2_12])), (q_204, .inl (cA_204, 300, .inl (fun j : Nat => zI (a2_place (j : Int))))), (q_709, .inl (cA_709, 300, .inl (fun j : Nat => zI (a_9 (j : Int))))), (hc, .inr (0, [.int (zI (B1)), v_1, v_2, v_3, v_4, v_5, v_6, v_7, v_8, .ref q_709, v_10, .ref q_711, .ref q_712, v_13, v_14, v_15, v_16, v_17, v_18])), (q_711, .inl (cA_711, 300, .inl (fun j : Nat => zI (a_11 (j : Int))))), (q_712, .inl (cA_712, 300, .inl (fun j : Nat => zI (a_12 (j : Int)))))] → va_S A s.heap H locs → W p l e (headSpec v_X2_findFrontiersL ({ frames := 1, cells := 0, slots := 0, locals := 22 })).room s m ([.ref h0, .ref hc] : List Value).toArray below meth c H locs 0 0 Q (F0 m 59 ls []) := by
                  intro n59
                  induction n59 with
                  | zero => intro d59_6 d59_5 w59_206 ls H locs jd59_6 jd59_5 jf59 hm59; exact absurd hm59 (by omega)
                  | succ n59 ih59 =>
                    intro d59_6 d59_5 w59_206 ls H locs jd59_6 jd59_5 jf59 hm59 hl hP hD hS
                    refine lv_iload hx hb dX2_findFrontiers_59 (lv_at hl 5 rfl) ?_
                    refine lv_if_lt (tgt := 112) hx hb dX2_findFrontiers_61 (by decide) (fun b61 => ?_) (fun b61 => ?_)
                    · have yb61 : (d59_5 : Int) < (0 : Int) := (zI_lt (a := d59_5) (b := 0) (by omega) (by omega) (by omega) (by omega)).mp b61
                      refine lv_iinc (v := zI (d36_3 + 1)) (lv' := [(3, .int (zI (d36_3 + 1))), (0, .ref h0), (1, .ref hc), (2, .int (zI (d15_2))), (4, .int (zI (glF a_11 a_12 (d15_2) (d36_3)))), (5, .int (zI (d59_5))), (6, .int (zI (d59_6)))]) hx hb dX2_findFrontiers_112 hl (k := 3) rfl (zI_add (d36_3) (1)) (by decide) rfl (fun ls hl => ?_)
                      refine lv_goto (tgt := 36) hx hb dX2_findFrontiers_115 (by decide) ?_
                      have hP := hP.sub (ws' := [(q_201, .inl (cA_201, 300, .inl (fun j : Nat => zI (a2_idom (j : Int))))), (hc, .inr (0, [.int (zI (B1)), v_1, v_2, v_3, v_4, v_5, v_6, v_7, v_8, .ref q_709, v_10, .ref q_711, .ref q_712, v_13, v_14, v_15, v_16, v_17, v_18])), (q_709, .inl (cA_709, 300, .inl (fun j : Nat => zI (a_9 (j : Int))))), (q_711, .inl (cA_711, 300, .inl (fun j : Nat => zI (a_11 (j : Int))))), (q_712, .inl (cA_712, 300, .inl (fun j : Nat => zI (a_12 (j : Int))))), (q_206, .inl (cA_206, 1500, .inr (.inl w59_206))), (h0, .inr (2, [v2_0, .ref q_201, v2_2, v2_3, .ref q_204, v2_5, .ref q_206, v2_7, v2_8, v2_9, v2_10, v2_11, v2_12])), (q_204, .inl (cA_204, 300, .inl (fun j : Nat => zI (a2_place (j : Int)))))]) [0, 5, 4, 6, 7, 1, 2, 3] rfl
                      have hD := hD.sub (ws' := [(q_201, .inl (cA_201, 300, .inl (fun j : Nat => zI (a2_idom (j : Int))))), (hc, .inr (0, [.int (zI (B1)), v_1, v_2, v_3, v_4, v_5, v_6, v_7, v_8, .ref q_709, v_10, .ref q_711, .ref q_712, v_13, v_14, v_15, v_16, v_17, v_18])), (q_709, .inl (cA_709, 300, .inl (fun j : Nat => zI (a_9 (j : Int))))), (q_711, .inl (cA_711, 300, .inl (fun j : Nat => zI (a_11 (j : Int))))), (q_712, .inl (cA_712, 300, .inl (fun j : Nat => zI (a_12 (j : Int))))), (q_206, .inl (cA_206, 1500, .inr (.inl w59_206))), (h0, .inr (2, [v2_0, .ref q_201, v2_2, v2_3, .ref q_204, v2_5, .ref q_206, v2_7, v2_8, v2_9, v2_10, v2_11, v2_12])), (q_204, .inl (cA_204, 300, .inl (fun j : Nat => zI (a2_place (j : Int)))))]) [0, 5, 4, 6, 7, 1, 2, 3] (by decide) rfl
                      exact ih36 (d36_3 + 1) w59_206 ls H _ (by omega) jf59 (by omega) (lv_sub hl [1, 2, 3, 0] rfl) hP hD hS
                    · have yb61 : ¬ (d59_5 : Int) < (0 : Int) := fun q => b61 ((zI_lt (a := d59_5) (b := 0) (by omega) (by omega) (by omega) (by omega)).mpr q)
                      refine lv_iload hx hb dX2_findFrontiers_64 (lv_at hl 5 rfl) ?_
                      refine lv_aload_n hx hb dX2_findFrontiers_66 rfl (lv_at hl 0 rfl) ?_
                      refine va_get (D := (dC, dI)) (ci := 2) (v := .ref q_201) (C := RX2) (T := TX2) (N := 13) hx hb hts mem_X2_findFrontiersL_0 hown hK hP 2 rfl rfl 1 (by decide) (ow (k := 15) rfl) (fun _ h9 => h9) rfl dX2_findFrontiers_67 ?_
                      refine lv_iload hx hb dX2_findFrontiers_70 (lv_at hl 4 rfl) ?_
                      refine va_iald hx hb hK hP 0 0 rfl rfl (zI_in (a := glF a_11 a_12 (d15_2) (d36_3)) (n := 300) (by omega) (by omega) (by decide)) dX2_findFrontiers_72 ?_
                      refine lv_topi (fun z ez => ?_)
                      obtain rfl : z = zI (a2_idom (glF a_11 a_12 (d15_2) (d36_3))) := ez.trans (zI_ld (a2_idom) (by omega) (by omega))
                      have k1 := hR_a2_idom (glF a_11 a_12 (d15_2) (d36_3))
                      refine lv_icmp_eq (tgt := 112) hx hb dX2_findFrontiers_73 (by decide) (fun b73 => ?_) (fun b73 => ?_)
                      · have yb73 : (d59_5 : Int) = (a2_idom (glF a_11 a_12 (d15_2) (d36_3)) : Int) := (zI_eq (a := d59_5) (b := a2_idom (glF a_11 a_12 (d15_2) (d36_3))) (by omega) (by omega) (by omega) (by omega)).mp b73
                        refine lv_iinc (v := zI (d36_3 + 1)) (lv' := [(3, .int (zI (d36_3 + 1))), (0, .ref h0), (1, .ref hc), (2, .int (zI (d15_2))), (4, .int (zI (glF a_11 a_12 (d15_2) (d36_3)))), (5, .int (zI (d59_5))), (6, .int (zI (d59_6)))]) hx hb dX2_findFrontiers_112 hl (k := 3) rfl (zI_add (d36_3) (1)) (by decide) rfl (fun ls hl => ?_)
                        refine lv_goto (tgt := 36) hx hb dX2_findFrontiers_115 (by decide) ?_
                        have hP := hP.sub (ws' := [(q_201, .inl (cA_201, 300, .inl (fun j : Nat => zI (a2_idom (j : Int))))), (hc, .inr (0, [.int (zI (B1)), v_1, v_2, v_3, v_4, v_5, v_6, v_7, v_8, .ref q_709, v_10, .ref q_711, .ref q_712, v_13, v_14, v_15, v_16, v_17, v_18])), (q_709, .inl (cA_709, 300, .inl (fun j : Nat => zI (a_9 (j : Int))))), (q_711, .inl (cA_711, 300, .inl (fun j : Nat => zI (a_11 (j : Int))))), (q_712, .inl (cA_712, 300, .inl (fun j : Nat => zI (a_12 (j : Int))))), (q_206, .inl (cA_206, 1500, .inr (.inl w59_206))), (h0, .inr (2, [v2_0, .ref q_201, v2_2, v2_3, .ref q_204, v2_5, .ref q_206, v2_7, v2_8, v2_9, v2_10, v2_11, v2_12])), (q_204, .inl (cA_204, 300, .inl (fun j : Nat => zI (a2_place (j : Int)))))]) [0, 5, 4, 6, 7, 1, 2, 3] rfl
                        have hD := hD.sub (ws' := [(q_201, .inl (cA_201, 300, .inl (fun j : Nat => zI (a2_idom (j : Int))))), (hc, .inr (0, [.int (zI (B1)), v_1, v_2, v_3, v_4, v_5, v_6, v_7, v_8, .ref q_709, v_10, .ref q_711, .ref q_712, v_13, v_14, v_15, v_16, v_17, v_18])), (q_709, .inl (cA_709, 300, .inl (fun j : Nat => zI (a_9 (j : Int))))), (q_711, .inl (cA_711, 300, .inl (fun j : Nat => zI (a_11 (j : Int))))), (q_712, .inl (cA_712, 300, .inl (fun j : Nat => zI (a_12 (j : Int))))), (q_206, .inl (cA_206, 1500, .inr (.inl w59_206))), (h0, .inr (2, [v2_0, .ref q_201, v2_2, v2_3, .ref q_204, v2_5, .ref q_206, v2_7, v2_8, v2_9, v2_10, v2_11, v2_12])), (q_204, .inl (cA_204, 300, .inl (fun j : Nat => zI (a2_place (j : Int)))))]) [0, 5, 4, 6, 7, 1, 2, 3] (by decide) rfl
                        exact ih36 (d36_3 + 1) w59_206 ls H _ (by omega) jf59 (by omega) (lv_sub hl [1, 2, 3, 0] rfl) hP hD hS
                      · have yb73 : ¬ (d59_5 : Int) = (a2_idom (glF a_11 a_12 (d15_2) (d36_3)) : Int) := fun q => b73 ((zI_eq (a := d59_5) (b := a2_idom (glF a_11 a_12 (d15_2) (d36_3))) (by omega) (by omega) (by omega) (by omega)).mpr q)
                        refine lv_iload hx hb dX2_findFrontiers_76 (lv_at hl 6 rfl) ?_
                        refine lv_sipush (v := 300) hx hb dX2_findFrontiers_78 (by decide) ?_
                        refine lv_icmp_ge (tgt := 112) hx hb dX2_findFrontiers_81 (by decide) (fun b81 => ?_) (fun b81 => ?_)
                        · have yb81 : (300 : Int) ≤ (d59_6 : Int) := (zI_le (a := 300) (b := d59_6) (by omega) (by omega) (by omega) (by omega)).mp b81
                          refine lv_iinc (v := zI (d36_3 + 1)) (lv' := [(3, .int (zI (d36_3 + 1))), (0, .ref h0), (1, .ref hc), (2, .int (zI (d15_2))), (4, .int (zI (glF a_11 a_12 (d15_2) (d36_3)))), (5, .int (zI (d59_5))), (6, .int (zI (d59_6)))]) hx hb dX2_findFrontiers_112 hl (k := 3) rfl (zI_add (d36_3) (1)) (by decide) rfl (fun ls hl => ?_)
                          refine lv_goto (tgt := 36) hx hb dX2_findFrontiers_115 (by decide) ?_
                          have hP := hP.sub (ws' := [(q_201, .inl (cA_201, 300, .inl (fun j : Nat => zI (a2_idom (j : Int))))), (hc, .inr (0, [.int (zI (B1)), v_1, v_2, v_3, v_4, v_5, v_6, v_7, v_8, .ref q_709, v_10, .ref q_711, .ref q_712, v_13, v_14, v_15, v_16, v_17, v_18])), (q_709, .inl (cA_709, 300, .inl (fun j : Nat => zI (a_9 (j : Int))))), (q_711, .inl (cA_711, 300, .inl (fun j : Nat => zI (a_11 (j : Int))))), (q_712, .inl (cA_712, 300, .inl (fun j : Nat => zI (a_12 (j : Int))))), (q_206, .inl (cA_206, 1500, .inr (.inl w59_206))), (h0, .inr (2, [v2_0, .ref q_201, v2_2, v2_3, .ref q_204, v2_5, .ref q_206, v2_7, v2_8, v2_9, v2_10, v2_11, v2_12])), (q_204, .inl (cA_204, 300, .inl (fun j : Nat => zI (a2_place (j : Int)))))]) [0, 5, 4, 6, 7, 1, 2, 3] rfl
                          have hD := hD.sub (ws' := [(q_201, .inl (cA_201, 300, .inl (fun j : Nat => zI (a2_idom (j : Int))))), (hc, .inr (0, [.int (zI (B1)), v_1, v_2, v_3, v_4, v_5, v_6, v_7, v_8, .ref q_709, v_10, .ref q_711, .ref q_712, v_13, v_14, v_15, v_16, v_17, v_18])), (q_709, .inl (cA_709, 300, .inl (fun j : Nat => zI (a_9 (j : Int))))), (q_711, .inl (cA_711, 300, .inl (fun j : Nat => zI (a_11 (j : Int))))), (q_712, .inl (cA_712, 300, .inl (fun j : Nat => zI (a_12 (j : Int))))), (q_206, .inl (cA_206, 1500, .inr (.inl w59_206))), (h0, .inr (2, [v2_0, .ref q_201, v2_2, v2_3, .ref q_204, v2_5, .ref q_206, v2_7, v2_8, v2_9, v2_10, v2_11, v2_12])), (q_204, .inl (cA_204, 300, .inl (fun j : Nat => zI (a2_place (j : Int)))))]) [0, 5, 4, 6, 7, 1, 2, 3] (by decide) rfl
                          exact ih36 (d36_3 + 1) w59_206 ls H _ (by omega) jf59 (by omega) (lv_sub hl [1, 2, 3, 0] rfl) hP hD hS
                        · have yb81 : ¬ (300 : Int) ≤ (d59_6 : Int) := fun q => b81 ((zI_le (a := 300) (b := d59_6) (by omega) (by omega) (by omega) (by omega)).mpr q)
                          refine lv_aload_n hx hb dX2_findFrontiers_84 rfl (lv_at hl 0 rfl) ?_
                          refine va_get (D := (dC, dI)) (ci := 2) (v := .ref q_206) (C := RX2) (T := TX2) (N := 13) hx hb hts mem_X2_findFrontiersL_0 hown hK hP 2 rfl rfl 6 (by decide) (ow (k := 0) rfl) (fun _ h9 => h9) rfl dX2_findFrontiers_85 ?_
                          refine lv_iload hx hb dX2_findFrontiers_88 (lv_at hl 5 rfl) ?_
                          refine lv_iconst (v := 5) hx hb dX2_findFrontiers_90 (by decide) ?_
                          refine lv_imul hx hb dX2_findFrontiers_91 ?_
                          refine lv_topi (fun z ez => ?_)
                          obtain rfl : z = zI (d59_5 * 5) := ez.trans (zI_mul (d59_5) (5))
                          refine lv_iload hx hb dX2_findFrontiers_92 (lv_at hl 4 rfl) ?_
                          have hPc := hP.sub (ws' := [(q_206, .inl (cA_206, 1500, .inr (.inl w59_206)))]) [1] rfl
                          have hDc := hD.sub (ws' := [(q_206, .inl (cA_206, 1500, .inr (.inl w59_206)))]) [1] (by decide) rfl
                          have hKc := hK.sub (tys' := [(cA_206, .long)]) [1] rfl
                          have hFc := va_free (wc := [(q_206, .inl (cA_206, 1500, .inr (.inl w59_206)))]) hD hS hA [1] rfl
                          refine va_callv (va_runSN (As := [.ref q_206, .int (zI (d59_5 * 5)), .int (zI (glF a_11 a_12 (d15_2) (d36_3)))]) (rest := []) ⟨hx, hb, hml, hown, hts⟩ (c_X11_putBitL l dC dI q_206 cA_206 1500 w59_206 (d59_5 * 5) (glF a_11 a_12 (d15_2) (d36_3)) (by omega) H.size) ⟨va_cnB 3 hts (goodIn_sub mem_X2_findFrontiersL_6 gw_X11_putBitL) rfl rfl rfl hp1 (ow (k := 2) rfl) (by decide +kernel) ⟨(Nat.le_of_ble_eq_true rfl), (Nat.le_of_ble_eq_true rfl)⟩, (ow (k := 16) rfl), trivial⟩ ⟨fun a U g mk q => by obtain ⟨q0, q1, qP, qK, qD⟩ := q; exact ⟨q0, q1, qP, va_K.moved (u := U) (U := U.calling g mk a) (Vm.Alike.refl U.vm) qK, qD⟩, fun U hU hW => ⟨rfl, by rw [hU], by rw [hU]; exact hPc, va_K.moved hW.alike hKc, hDc.weaken (fun _ _ _ _ => trivial)⟩⟩ rfl rfl hl.1 rfl (lv_room (Nat.le_of_ble_eq_true rfl)) dX2_findFrontiers_94 ⟨(Nat.le_of_ble_eq_true rfl), (Nat.le_of_ble_eq_true rfl)⟩) hS (fun q _ h => hFc q h) hFc (fun  u t H1 locs ht hvm hw hB hz1 hk1 hS => ?_)
                          obtain ⟨g0_2005, hxt_2005, hP1, hK1, hD1⟩ := hB
                          rw [ht] at hP1
                          have hK1 := va_K.moved hvm.symm hK1
                          obtain ⟨hP, hD⟩ := va_join (wr := [(q_201, .inl (cA_201, 300, .inl (fun j : Nat => zI (a2_idom (j : Int))))), (h0, .inr (2, [v2_0, .ref q_201, v2_2, v2_3, .ref q_204, v2_5, .ref q_206, v2_7, v2_8, v2_9, v2_10, v2_11, v2_12])), (q_204, .inl (cA_204, 300, .inl (fun j : Nat => zI (a2_place (j : Int))))), (q_709, .inl (cA_709, 300, .inl (fun j : Nat => zI (a_9 (j : Int))))), (hc, .inr (0, [.int (zI (B1)), v_1, v_2, v_3, v_4, v_5, v_6, v_7, v_8, .ref q_709, v_10, .ref q_711, .ref q_712, v_13, v_14, v_15, v_16, v_17, v_18])), (q_711, .inl (cA_711, 300, .inl (fun j : Nat => zI (a_11 (j : Int))))), (q_712, .inl (cA_712, 300, .inl (fun j : Nat => zI (a_12 (j : Int)))))]) (w1 := [(q_206, .inl (cA_206, 1500, .inr (.inl g0_2005)))]) hP hD [1] [0, 2, 3, 4, 5, 6, 7] rfl rfl (by decide) (by decide) hk1 hFc hP1 hD1
                          have hK := (hK.sub (tys' := [(cA_201, .int), (cA_204, .int), (cA_709, .int), (cA_711, .int), (cA_712, .int)]) [0, 2, 3, 4, 5] rfl).app hK1
                          generalize H1 = H at hP hS ⊢
                          have hP : va_P (dC, dI) vwP [(q_201, .inl (cA_201, 300, .inl (fun j : Nat => zI (a2_idom (j : Int))))), (h0, .inr (2, [v2_0, .ref q_201, v2_2, v2_3, .ref q_204, v2_5, .ref q_206, v2_7, v2_8, v2_9, v2_10, v2_11, v2_12])), (q_204, .inl (cA_204, 300, .inl (fun j : Nat => zI (a2_place (j : Int))))), (q_709, .inl (cA_709, 300, .inl (fun j : Nat => zI (a_9 (j : Int))))), (hc, .inr (0, [.int (zI (B1)), v_1, v_2, v_3, v_4, v_5, v_6, v_7, v_8, .ref q_709, v_10, .ref q_711, .ref q_712, v_13, v_14, v_15, v_16, v_17, v_18])), (q_711, .inl (cA_711, 300, .inl (fun j : Nat => zI (a_11 (j : Int))))), (q_712, .inl (cA_712, 300, .inl (fun j : Nat => zI (a_12 (j : Int))))), (q_206, .inl (cA_206, 1500, .inr (.inl g0_2005)))] H := hP
                          have hD : va_D A [(q_201, .inl (cA_201, 300, .inl (fun j : Nat => zI (a2_idom (j : Int))))), (h0, .inr (2, [v2_0, .ref q_201, v2_2, v2_3, .ref q_204, v2_5, .ref q_206, v2_7, v2_8, v2_9, v2_10, v2_11, v2_12])), (q_204, .inl (cA_204, 300, .inl (fun j : Nat => zI (a2_place (j : Int))))), (q_709, .inl (cA_709, 300, .inl (fun j : Nat => zI (a_9 (j : Int))))), (hc, .inr (0, [.int (zI (B1)), v_1, v_2, v_3, v_4, v_5, v_6, v_7, v_8, .ref q_709, v_10, .ref q_711, .ref q_712, v_13, v_14, v_15, v_16, v_17, v_18])), (q_711, .inl (cA_711, 300, .inl (fun j : Nat => zI (a_11 (j : Int))))), (q_712, .inl (cA_712, 300, .inl (fun j : Nat => zI (a_12 (j : Int))))), (q_206, .inl (cA_206, 1500, .inr (.inl g0_2005)))] := hD
                          have hK : va_K (dC, dI) vwP [(cA_201, .int), (cA_204, .int), (cA_709, .int), (cA_711, .int), (cA_712, .int), (cA_206, .long)] s := hK
                          refine W.widen (k := 0) (n := 0) (Nat.le_of_ble_eq_true rfl) (Nat.le_of_ble_eq_true rfl) ?_
                          refine lv_aload_n hx hb dX2_findFrontiers_97 rfl (lv_at hl 0 rfl) ?_
                          refine va_get (D := (dC, dI)) (ci := 2) (v := .ref q_201) (C := RX2) (T := TX2) (N := 13) hx hb hts mem_X2_findFrontiersL_0 hown hK hP 1 rfl rfl 1 (by decide) (ow (k := 15) rfl) (fun _ h9 => h9) rfl dX2_findFrontiers_98 ?_
                          refine lv_iload hx hb dX2_findFrontiers_101 (lv_at hl 5 rfl) ?_
                          refine va_iald hx hb hK hP 0 0 rfl rfl (zI_in (a := d59_5) (n := 300) (by omega) (by omega) (by decide)) dX2_findFrontiers_103 ?_
                          refine lv_topi (fun z ez => ?_)
                          obtain rfl : z = zI (a2_idom (d59_5)) := ez.trans (zI_ld (a2_idom) (by omega) (by omega))
                          have k2 := hR_a2_idom (d59_5)
                          refine lv_istore (lv' := [(5, .int (zI (a2_idom (d59_5)))), (0, .ref h0), (1, .ref hc), (2, .int (zI (d15_2))), (3, .int (zI (d36_3))), (4, .int (zI (glF a_11 a_12 (d15_2) (d36_3)))), (6, .int (zI (d59_6)))]) hx hb dX2_findFrontiers_104 hl (by decide) rfl (fun ls hl => ?_)
                          refine lv_iinc (v := zI (d59_6 + 1)) (lv' := [(6, .int (zI (d59_6 + 1))), (5, .int (zI (a2_idom (d59_5)))), (0, .ref h0), (1, .ref hc), (2, .int (zI (d15_2))), (3, .int (zI (d36_3))), (4, .int (zI (glF a_11 a_12 (d15_2) (d36_3))))]) hx hb dX2_findFrontiers_106 hl (k := 6) rfl (zI_add (d59_6) (1)) (by decide) rfl (fun ls hl => ?_)
                          refine lv_goto (tgt := 59) hx hb dX2_findFrontiers_109 (by decide) ?_
                          have hP := hP.sub (ws' := [(q_201, .inl (cA_201, 300, .inl (fun j : Nat => zI (a2_idom (j : Int))))), (q_206, .inl (cA_206, 1500, .inr (.inl g0_2005))), (h0, .inr (2, [v2_0, .ref q_201, v2_2, v2_3, .ref q_204, v2_5, .ref q_206, v2_7, v2_8, v2_9, v2_10, v2_11, v2_12])), (q_204, .inl (cA_204, 300, .inl (fun j : Nat => zI (a2_place (j : Int))))), (q_709, .inl (cA_709, 300, .inl (fun j : Nat => zI (a_9 (j : Int))))), (hc, .inr (0, [.int (zI (B1)), v_1, v_2, v_3, v_4, v_5, v_6, v_7, v_8, .ref q_709, v_10, .ref q_711, .ref q_712, v_13, v_14, v_15, v_16, v_17, v_18])), (q_711, .inl (cA_711, 300, .inl (fun j : Nat => zI (a_11 (j : Int))))), (q_712, .inl (cA_712, 300, .inl (fun j : Nat => zI (a_12 (j : Int)))))]) [0, 7, 1, 2, 3, 4, 5, 6] rfl
                          have hD := hD.sub (ws' := [(q_201, .inl (cA_201, 300, .inl (fun j : Nat => zI (a2_idom (j : Int))))), (q_206, .inl (cA_206, 1500, .inr (.inl g0_2005))), (h0, .inr (2, [v2_0, .ref q_201, v2_2, v2_3, .ref q_204, v2_5, .ref q_206, v2_7, v2_8, v2_9, v2_10, v2_11, v2_12])), (q_204, .inl (cA_204, 300, .inl (fun j : Nat => zI (a2_place (j : Int))))), (q_709, .inl (cA_709, 300, .inl (fun j : Nat => zI (a_9 (j : Int))))), (hc, .inr (0, [.int (zI (B1)), v_1, v_2, v_3, v_4, v_5, v_6, v_7, v_8, .ref q_709, v_10, .ref q_711, .ref q_712, v_13, v_14, v_15, v_16, v_17, v_18])), (q_711, .inl (cA_711, 300, .inl (fun j : Nat => zI (a_11 (j : Int))))), (q_712, .inl (cA_712, 300, .inl (fun j : Nat => zI (a_12 (j : Int)))))]) [0, 7, 1, 2, 3, 4, 5, 6] (by decide) rfl
                          exact ih59 (d59_6 + 1) (a2_idom (d59_5)) g0_2005 ls H _ (by omega) (by omega) (FR0.put jf59 hxt_2005 (by omega) (by omega) (by omega)) (by omega) (lv_sub hl [2, 3, 4, 5, 6, 1, 0] rfl) hP hD hS
                exact key59 ((300 - 0 : Int).toNat + 1) 0 d15_2 w36_206 ls H _ (by omega) (by omega) jf36 (by omega) (lv_sub hl [3, 4, 5, 6, 2, 1, 0] rfl) hP hD hS
          exact key36 (((gcF a_9 a_11 a_12 (d15_2)) - (0) : Int).toNat + 1) 0 w15_206 ls H _ (by omega) jf15 (by omega) (lv_sub hl [1, 2, 3, 0] rfl) hP hD hS
        · have yb28 : (isRe a2_place (d15_2) : Int) = (0 : Int) := (zI_eq (a := isRe a2_place (d15_2)) (b := 0) (by omega) (by omega) (by omega) (by omega)).mp b28
          refine lv_goto (tgt := 118) hx hb dX2_findFrontiers_31 (by decide) ?_
          refine lv_iinc (v := zI (d15_2 + 1)) (lv' := [(2, .int (zI (d15_2 + 1))), (0, .ref h0), (1, .ref hc)]) hx hb dX2_findFrontiers_118 hl (k := 2) rfl (zI_add (d15_2) (1)) (by decide) rfl (fun ls hl => ?_)
          refine lv_goto (tgt := 15) hx hb dX2_findFrontiers_121 (by decide) ?_
          have hP := hP.sub (ws' := [(h0, .inr (2, [v2_0, .ref q_201, v2_2, v2_3, .ref q_204, v2_5, .ref q_206, v2_7, v2_8, v2_9, v2_10, v2_11, v2_12])), (q_201, .inl (cA_201, 300, .inl (fun j : Nat => zI (a2_idom (j : Int))))), (q_204, .inl (cA_204, 300, .inl (fun j : Nat => zI (a2_place (j : Int))))), (hc, .inr (0, [.int (zI (B1)), v_1, v_2, v_3, v_4, v_5, v_6, v_7, v_8, .ref q_709, v_10, .ref q_711, .ref q_712, v_13, v_14, v_15, v_16, v_17, v_18])), (q_709, .inl (cA_709, 300, .inl (fun j : Nat => zI (a_9 (j : Int))))), (q_711, .inl (cA_711, 300, .inl (fun j : Nat => zI (a_11 (j : Int))))), (q_712, .inl (cA_712, 300, .inl (fun j : Nat => zI (a_12 (j : Int))))), (q_206, .inl (cA_206, 1500, .inr (.inl w15_206)))]) [6, 0, 7, 1, 2, 3, 4, 5] rfl
          have hD := hD.sub (ws' := [(h0, .inr (2, [v2_0, .ref q_201, v2_2, v2_3, .ref q_204, v2_5, .ref q_206, v2_7, v2_8, v2_9, v2_10, v2_11, v2_12])), (q_201, .inl (cA_201, 300, .inl (fun j : Nat => zI (a2_idom (j : Int))))), (q_204, .inl (cA_204, 300, .inl (fun j : Nat => zI (a2_place (j : Int))))), (hc, .inr (0, [.int (zI (B1)), v_1, v_2, v_3, v_4, v_5, v_6, v_7, v_8, .ref q_709, v_10, .ref q_711, .ref q_712, v_13, v_14, v_15, v_16, v_17, v_18])), (q_709, .inl (cA_709, 300, .inl (fun j : Nat => zI (a_9 (j : Int))))), (q_711, .inl (cA_711, 300, .inl (fun j : Nat => zI (a_11 (j : Int))))), (q_712, .inl (cA_712, 300, .inl (fun j : Nat => zI (a_12 (j : Int))))), (q_206, .inl (cA_206, 1500, .inr (.inl w15_206)))]) [6, 0, 7, 1, 2, 3, 4, 5] (by decide) rfl
          exact ih15 (d15_2 + 1) w15_206 ls H _ (by omega) jf15 (by omega) (lv_sub hl [1, 2, 0] rfl) hP hD hS
  exact key15 (((B1) - (0) : Int).toNat + 1) 0 g0_2001 ls H _ (by omega) (FR0.clear hcl (by omega)) (by omega) (lv_sub hl [1, 2, 0] rfl) hP hD hS
