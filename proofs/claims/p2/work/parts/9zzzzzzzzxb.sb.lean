theorem dJ7_copyOf_9075b_0 : decode cJ7_copyOf_9075b 0 = .ok (.iload_n 1, 1) := by decide +kernel
theorem dJ7_copyOf_9075b_1 : decode cJ7_copyOf_9075b 1 = .ok (.aload_n 0, 1) := by decide +kernel
theorem dJ7_copyOf_9075b_2 : decode cJ7_copyOf_9075b 2 = .ok (.arraylength, 1) := by decide +kernel
theorem dJ7_copyOf_9075b_3 : decode cJ7_copyOf_9075b 3 = .ok (.if_icmp .ne 11, 3) := by decide +kernel
theorem dJ7_copyOf_9075b_14 : decode cJ7_copyOf_9075b 14 = .ok (.iload_n 1, 1) := by decide +kernel
theorem dJ7_copyOf_9075b_15 : decode cJ7_copyOf_9075b 15 = .ok (.newarray .byte, 2) := by decide +kernel
theorem dJ7_copyOf_9075b_17 : decode cJ7_copyOf_9075b 17 = .ok (.astore_n 2, 1) := by decide +kernel
theorem dJ7_copyOf_9075b_18 : decode cJ7_copyOf_9075b 18 = .ok (.aload_n 0, 1) := by decide +kernel
theorem dJ7_copyOf_9075b_19 : decode cJ7_copyOf_9075b 19 = .ok (.iconst 0, 1) := by decide +kernel
theorem dJ7_copyOf_9075b_20 : decode cJ7_copyOf_9075b 20 = .ok (.aload_n 2, 1) := by decide +kernel
theorem dJ7_copyOf_9075b_21 : decode cJ7_copyOf_9075b 21 = .ok (.iconst 0, 1) := by decide +kernel
theorem dJ7_copyOf_9075b_22 : decode cJ7_copyOf_9075b 22 = .ok (.aload_n 0, 1) := by decide +kernel
theorem dJ7_copyOf_9075b_23 : decode cJ7_copyOf_9075b 23 = .ok (.arraylength, 1) := by decide +kernel
theorem dJ7_copyOf_9075b_24 : decode cJ7_copyOf_9075b 24 = .ok (.iload_n 1, 1) := by decide +kernel
theorem dJ7_copyOf_9075b_25 : decode cJ7_copyOf_9075b 25 = .ok (.invokestatic 304, 3) := by decide +kernel
theorem dJ7_copyOf_9075b_28 : decode cJ7_copyOf_9075b 28 = .ok (.invokestatic 150, 3) := by decide +kernel
theorem dJ7_copyOf_9075b_31 : decode cJ7_copyOf_9075b 31 = .ok (.aload_n 2, 1) := by decide +kernel
theorem dJ7_copyOf_9075b_32 : decode cJ7_copyOf_9075b 32 = .ok (.areturn, 1) := by decide +kernel
def o_J7_copyOfB : List Cond := [.arrayClass .byte, .methodLink RJ7 304 Lib.Math.min.name, .static Lib.Math.min.name, .initialized "java/lang/Math", .code Lib.Math.min.name Lib.Math.min.code 2 (some .int), .methodLink RJ7 150 arraycopyName, .native arraycopyName, .static arraycopyName, .initialized "java/lang/System"]
def v_J7_copyOfB : List Cond := .code yJ7_copyOf_9075b cJ7_copyOf_9075b 3 (some (.array .byte)) :: (o_J7_copyOfB ++ [])
theorem mow_J7_copyOfB : ∀ w ∈ o_J7_copyOfB, w ∈ v_J7_copyOfB := fun _ h => List.mem_cons_of_mem _ (List.mem_append_left _ h)
set_option maxRecDepth 20000 in
theorem gw_J7_copyOfB : v_J7_copyOfB.all goodWord = true := by decide +kernel
set_option maxHeartbeats 4000000 in
set_option maxRecDepth 100000 in
theorem c_J7_copyOfB (l : Launch) (dC : Nat → ClassId) (dI : Nat → Nat → Nat) (q_o : Nat) (cB : ClassId) (no : Nat) (a_o : Int → Int) (n : Int) (hNno : no ≤ 2000000) (hR_a_o : ∀ j : Int, -128 ≤ a_o j ∧ a_o j ≤ 127) (hNn : (no : Int) < n ∧ n ≤ 2000000) (sz : Nat) : Met l yJ7_copyOf_9075b v_J7_copyOfB ({ frames := 1, cells := (1), slots := ((n).toNat), locals := 60 }) (va_Pc [.ref q_o, .int (zI (n))] (fun U => U.heap.size = sz ∧ va_P (dC, dI) vwQ [(q_o, .inl (cB, no, .inl (fun j : Nat => zI (a_o (j : Int)))))] U.heap ∧ va_K (dC, dI) vwQ [(cB, .byte)] U ∧ va_D (fun _ => True) [(q_o, .inl (cB, no, .inl (fun j : Nat => zI (a_o (j : Int)))))])) (va_Qr (fun _ : Unit => True) (fun (_ : Unit) (rq : Nat) (t : State) => ∃ (cn_9 : ClassId) (nn_9 : Nat) (fn_9 : Int → Int), (((nn_9 : Int) = n ∧ (∀ j : Int, -128 ≤ fn_9 j ∧ fn_9 j ≤ 127) ∧ ∀ j : Int, 0 ≤ j → j < no → fn_9 j = a_o j)) ∧ va_P (dC, dI) vwQ [(q_o, .inl (cB, no, .inl (fun j : Nat => zI (a_o (j : Int))))), (rq, .inl (cn_9, nn_9, .inl (fun j : Nat => zI (fn_9 (j : Int)))))] t.heap ∧ va_K (dC, dI) vwQ [(cB, .byte), (cn_9, .byte)] t ∧ va_D (va_A [(q_o, .inl (cB, no, .inl (fun j : Nat => zI (a_o (j : Int)))))] sz) [(q_o, .inl (cB, no, .inl (fun j : Nat => zI (a_o (j : Int))))), (rq, .inl (cn_9, nn_9, .inl (fun j : Nat => zI (fn_9 (j : Int)))))]) (va_A [(q_o, .inl (cB, no, .inl (fun j : Nat => zI (a_o (j : Int)))))] sz)) (1) ((n).toNat) (va_A [(q_o, .inl (cB, no, .inl (fun j : Nat => zI (a_o (j : Int)))))] sz) := by
  refine Met.ofW (cc := cJ7_copyOf_9075b) (maxL := 3) (ret := (some (.array .byte))) (by decide) rfl ?_
  intro p e s m args below meth c s₁ B hml hv
  obtain ⟨rfl, hsz, hP, hK, hD0⟩ := hv
  have hx := B.exec
  have hb := B.bytes
  have hr := B.returns
  have hts := atoms_spec (ws := v_J7_copyOfB) B.pre
  have hown : s.vm.findClass RJ7 = some m.cls := findClass_of_methodNamed B.named
  have hlocks := B.notSynchronized
  have ow : ∀ {k : Nat} {w : Cond}, o_J7_copyOfB[k]? = some w → w.before ([.ref q_o, .int (zI (n))] : List Value).toArray s = true := fun h => hts _ (mow_J7_copyOfB _ (List.mem_of_getElem? h))
  subst hsz
  have hD := hD0.self (sz := s.heap.size)
  generalize hAe : va_A [(q_o, .inl (cB, no, .inl (fun j : Nat => zI (a_o (j : Int)))))] s.heap.size = A at hD ⊢
  have hA : ∀ q : Nat, s.heap.size ≤ q → A q := fun q h => by rw [← hAe]; exact Or.inr h
  have hS : va_S A s.heap s.heap [] := va_S.rf
  have hP : va_P (dC, dI) vwQ [(q_o, .inl (cB, no, .inl (fun j : Nat => zI (a_o (j : Int)))))] s.heap := hP
  have hl := lv_entry ([.ref q_o, .int (zI (n))]) (n := 3) (Nat.le_of_ble_eq_true rfl)
  rw [lg_entry_eq]
  generalize (lg_sl ([.ref q_o, .int (zI (n))]) ++ List.replicate (3 - (lg_sl ([.ref q_o, .int (zI (n))])).length) Slot.unset).toArray = ls at hl ⊢
  have hl : lv_has ls 3 [(0, .ref q_o), (1, .int (zI (n)))] := hl
  obtain ⟨H, hH⟩ : ∃ H, H = s.heap := ⟨_, rfl⟩
  rw [← hH] at hP
  have hS : va_S A s.heap H [] := by rw [hH]; exact hS
  rw [← hH]
  refine zW_cap (fun Q hQ => ?_)
  refine lv_iload_n hx hb dJ7_copyOf_9075b_0 rfl (lv_at hl 1 rfl) ?_
  refine lv_aload_n hx hb dJ7_copyOf_9075b_1 rfl (lv_at hl 0 rfl) ?_
  refine va_alen (v := zI ((no : Int))) hx hb hK hP 0 0 rfl rfl (zI_ofNat no) dJ7_copyOf_9075b_2 ?_
  refine lv_icmp_ne (tgt := 14) hx hb dJ7_copyOf_9075b_3 (by decide) (fun b3 => ?_) (fun b3 => ?_)
  · have yb3 : ¬ (n : Int) = ((no : Int) : Int) := fun q => b3 ((zI_eq (a := n) (b := (no : Int)) (by omega) (by omega) (by omega) (by omega)).mpr q)
    refine lv_iload_n hx hb dJ7_copyOf_9075b_14 rfl (lv_at hl 1 rfl) ?_
    obtain ⟨nw_3, enw_3⟩ : ∃ n9 : Nat, (n9 : Int) = n := ⟨(n).toNat, by omega⟩
    refine va_newa (ty := .byte) (n := zI (n)) (N' := nw_3) (a0 := (nw_3, .inl (fun _ => 0))) hx hb (ow (k := 0) rfl) rfl hK hP hD hS hA (fun _ => rfl) (zI_nn (by omega) (by omega)) (by rw [zI_cl (by omega) (by omega)]; omega) (by show nw_3 * 1 ≤ 536870912; omega) (show 0 + 1 ≤ 1 from (by omega)) (show 0 + nw_3 ≤ (n).toNat from (by omega)) dJ7_copyOf_9075b_15 (fun q_1 cA_2 H hK hP hD hS => ?_)
    obtain ⟨az_4, eaz_4⟩ : ∃ f9 : Int → Int, f9 = (fun _ => 0) := ⟨_, rfl⟩
    have hP : va_P (dC, dI) vwQ [(q_o, .inl (cB, no, .inl (fun j : Nat => zI (a_o (j : Int))))), (q_1, .inl (cA_2, nw_3, .inl (fun _ => 0)))] H := hP
    have hD : va_D A [(q_o, .inl (cB, no, .inl (fun j : Nat => zI (a_o (j : Int))))), (q_1, .inl (cA_2, nw_3, .inl (fun _ => 0)))] := hD
    rw [show (fun _ : Nat => (0 : Int32)) = (fun j : Nat => zI (az_4 (j : Int))) from (by rw [eaz_4]; rfl)] at hP hD
    have hP : va_P (dC, dI) vwQ [(q_o, .inl (cB, no, .inl (fun j : Nat => zI (a_o (j : Int))))), (q_1, .inl (cA_2, nw_3, .inl (fun j : Nat => zI (az_4 (j : Int)))))] H := hP
    have hD : va_D A [(q_o, .inl (cB, no, .inl (fun j : Nat => zI (a_o (j : Int))))), (q_1, .inl (cA_2, nw_3, .inl (fun j : Nat => zI (az_4 (j : Int)))))] := hD
    have raz_4 : ∀ j : Int, -128 ≤ az_4 j ∧ az_4 j ≤ 127 := (fun j => by rw [eaz_4]; show -128 ≤ (0 : Int) ∧ (0 : Int) ≤ 127; omega)
    have hK : va_K (dC, dI) vwQ [(cB, .byte), (cA_2, .byte)] s := hK
    refine lv_astore_n (lv' := [(2, .ref q_1), (0, .ref q_o), (1, .int (zI (n)))]) hx hb dJ7_copyOf_9075b_17 rfl hl (by decide) rfl (fun ls hl => ?_)
    refine lv_aload_n hx hb dJ7_copyOf_9075b_18 rfl (lv_at hl 1 rfl) ?_
    refine lv_iconst (v := 0) hx hb dJ7_copyOf_9075b_19 (by decide) ?_
    refine lv_aload_n hx hb dJ7_copyOf_9075b_20 rfl (lv_at hl 0 rfl) ?_
    refine lv_iconst (v := 0) hx hb dJ7_copyOf_9075b_21 (by decide) ?_
    refine lv_aload_n hx hb dJ7_copyOf_9075b_22 rfl (lv_at hl 1 rfl) ?_
    refine va_alen (v := zI ((no : Int))) hx hb hK hP 0 0 rfl rfl (zI_ofNat no) dJ7_copyOf_9075b_23 ?_
    refine lv_iload_n hx hb dJ7_copyOf_9075b_24 rfl (lv_at hl 2 rfl) ?_
    refine va_mmin hx hb (hml.trans hl.1.symm) hown (ow (k := 1) rfl) (ow (k := 2) rfl) (ow (k := 3) rfl) (ow (k := 4) rfl) (by first | exact Nat.le_of_ble_eq_true rfl | exact (show 1 ≤ 1 from (by omega)) | exact (show (0 + nw_3) ≤ (n).toNat from (by omega))) (by first | exact Nat.le_of_ble_eq_true rfl | exact (show 1 ≤ 1 from (by omega)) | exact (show (0 + nw_3) ≤ (n).toNat from (by omega))) (by first | exact Nat.le_of_ble_eq_true rfl | exact (show 1 ≤ 1 from (by omega)) | exact (show (0 + nw_3) ≤ (n).toNat from (by omega))) (by first | exact Nat.le_of_ble_eq_true rfl | exact (show 1 ≤ 1 from (by omega)) | exact (show (0 + nw_3) ≤ (n).toNat from (by omega))) dJ7_copyOf_9075b_25 ?_
    refine lv_topi (fun z9 ez => ?_)
    obtain ⟨z_5, rfl, hzz_5⟩ := zI_min (a := (no : Int)) (b := n) (by omega) (by omega) (by omega) (by omega) ez
    refine va_copyi (sp := zI (0)) (dp := zI (0)) (n := zI (z_5)) hx hb (hml.trans hl.1.symm) hown (ow (k := 5) rfl) (ow (k := 6) rfl) (ow (k := 7) rfl) (ow (k := 8) rfl) hK hP hD hS 0 1 0 1 rfl rfl rfl rfl rfl (zI_nn (by omega) (by omega)) (zI_nn (by omega) (by omega)) (zI_nn (by omega) (by omega)) (zI_sum (by omega) (by omega) (by omega) (by omega) (by omega)) (zI_sum (by omega) (by omega) (by omega) (by omega) (by omega)) (fun _ _ => az_fit hR_a_o _) (by first | exact Nat.le_of_ble_eq_true rfl | exact (show 1 ≤ 1 from (by omega)) | exact (show (0 + nw_3) ≤ (n).toNat from (by omega))) (by first | exact Nat.le_of_ble_eq_true rfl | exact (show 1 ≤ 1 from (by omega)) | exact (show (0 + nw_3) ≤ (n).toNat from (by omega))) dJ7_copyOf_9075b_28 (fun H locs hP hD hS => ?_)
    rw [cpy_zx a_o az_4 (sp := 0) (dp := 0) (n := z_5) (by omega) (by omega) (by omega) (by omega) (by omega) (by omega)] at hP hD
    have ra_6 := cpF_P (P := fun x9 => -128 ≤ x9 ∧ x9 ≤ 127) hR_a_o raz_4 (0) (0) (z_5)
    obtain ⟨a_6, ea_6⟩ : ∃ a9 : Int → Int, a9 = cpF a_o az_4 (0) (0) (z_5) := ⟨_, rfl⟩
    rw [← ea_6] at hP hD ra_6
    have ra_6 : ∀ j : Int, -128 ≤ a_6 j ∧ a_6 j ≤ 127 := ra_6
    have hP : va_P (dC, dI) vwQ [(q_o, .inl (cB, no, .inl (fun j : Nat => zI (a_o (j : Int))))), (q_1, .inl (cA_2, nw_3, .inl (fun j : Nat => zI (a_6 (j : Int)))))] H := hP
    have hD : va_D A [(q_o, .inl (cB, no, .inl (fun j : Nat => zI (a_o (j : Int))))), (q_1, .inl (cA_2, nw_3, .inl (fun j : Nat => zI (a_6 (j : Int)))))] := hD
    refine lv_aload_n hx hb dJ7_copyOf_9075b_31 rfl (lv_at hl 0 rfl) ?_
    subst hQ
    refine W.widen (k := (1)) (n := ((n).toNat)) (by omega) (by omega) ?_
    exact W.aret (v := .ref q_1) hx hb hr (Or.inr ⟨_, rfl⟩) (Or.inr ⟨_, rfl⟩) (fun t ht hW => ⟨⟨(), q_1, rfl, trivial, cA_2, nw_3, a_6, ⟨by omega, ra_6, (fun j j0 j1 => by rw [ea_6]; unfold cpF; rw [if_pos (by omega)]; congr 1; omega)⟩, by rw [ht]; exact hP, va_K.moved hW.alike hK, hD⟩, hS.F ht⟩) hS.2.2 dJ7_copyOf_9075b_32
  · have yb3 : (n : Int) = ((no : Int) : Int) := (zI_eq (a := n) (b := (no : Int)) (by omega) (by omega) (by omega) (by omega)).mp b3
    exfalso
    omega
def o_J8_newLengthB : List Cond := [.methodLink RJ8 194 Lib.Math.max.name, .static Lib.Math.max.name, .initialized "java/lang/Math", .code Lib.Math.max.name Lib.Math.max.code 2 (some .int), .constant RJ8 200 (2147483639)]
def v_J8_newLengthB : List Cond := .code yJ8_newLength_cabcc cJ8_newLength_cabcc 4 (some .int) :: (o_J8_newLengthB ++ [])
theorem mow_J8_newLengthB : ∀ w ∈ o_J8_newLengthB, w ∈ v_J8_newLengthB := fun _ h => List.mem_cons_of_mem _ (List.mem_append_left _ h)
set_option maxRecDepth 20000 in
theorem gw_J8_newLengthB : v_J8_newLengthB.all goodWord = true := by decide +kernel
set_option maxHeartbeats 4000000 in
set_option maxRecDepth 100000 in
theorem c_J8_newLengthB (l : Launch) (dC : Nat → ClassId) (dI : Nat → Nat → Nat) (o : Int) (g1 : Int) (g2 : Int) (hNo : 0 ≤ o ∧ o ≤ 3000000 ∧ 0 ≤ g1 ∧ g1 ≤ 3000000 ∧ 0 ≤ g2 ∧ g2 ≤ 3000000 ∧ 0 < o + g1) (sz : Nat) : Met l yJ8_newLength_cabcc v_J8_newLengthB ({ frames := 1, cells := 0, slots := 0, locals := 14 }) (va_Pc [.int (zI (o)), .int (zI (g1)), .int (zI (g2))] (fun U => U.heap.size = sz ∧ va_P (dC, dI) vwQ [] U.heap ∧ va_K (dC, dI) vwQ [] U ∧ va_D (fun _ => True) [])) (va_Qi (fun (r : Int32) (_ : Unit) => ∃ z : Int, r = zI z ∧ (o + g1 ≤ z ∧ o + g2 ≤ z ∧ (z = o + g1 ∨ z = o + g2))) (fun (_ : Unit) (t : State) => va_P (dC, dI) vwQ [] t.heap ∧ va_K (dC, dI) vwQ [] t ∧ va_D (va_A [] sz) []) (va_A [] sz)) 0 0 (va_A [] sz) := by
  refine Met.ofW (cc := cJ8_newLength_cabcc) (maxL := 4) (ret := (some .int)) (by decide) rfl ?_
  intro p e s m args below meth c s₁ B hml hv
  obtain ⟨rfl, hsz, hP, hK, hD0⟩ := hv
  have hx := B.exec
  have hb := B.bytes
  have hr := B.returns
  have hts := atoms_spec (ws := v_J8_newLengthB) B.pre
  have hown : s.vm.findClass RJ8 = some m.cls := findClass_of_methodNamed B.named
  have hlocks := B.notSynchronized
  have ow : ∀ {k : Nat} {w : Cond}, o_J8_newLengthB[k]? = some w → w.before ([.int (zI (o)), .int (zI (g1)), .int (zI (g2))] : List Value).toArray s = true := fun h => hts _ (mow_J8_newLengthB _ (List.mem_of_getElem? h))
  subst hsz
  have hD := hD0.self (sz := s.heap.size)
  generalize hAe : va_A [] s.heap.size = A at hD ⊢
  have hA : ∀ q : Nat, s.heap.size ≤ q → A q := fun q h => by rw [← hAe]; exact Or.inr h
  have hS : va_S A s.heap s.heap [] := va_S.rf
  have hP : va_P (dC, dI) vwQ [] s.heap := hP
  have hl := lv_entry ([.int (zI (o)), .int (zI (g1)), .int (zI (g2))]) (n := 4) (Nat.le_of_ble_eq_true rfl)
  rw [lg_entry_eq]
  generalize (lg_sl ([.int (zI (o)), .int (zI (g1)), .int (zI (g2))]) ++ List.replicate (4 - (lg_sl ([.int (zI (o)), .int (zI (g1)), .int (zI (g2))])).length) Slot.unset).toArray = ls at hl ⊢
  have hl : lv_has ls 4 [(0, .int (zI (o))), (1, .int (zI (g1))), (2, .int (zI (g2)))] := hl
  obtain ⟨H, hH⟩ : ∃ H, H = s.heap := ⟨_, rfl⟩
  rw [← hH] at hP
  have hS : va_S A s.heap H [] := by rw [hH]; exact hS
  rw [← hH]
  refine zW_cap (fun Q hQ => ?_)
  refine lv_iload_n hx hb dJ8_newLength_cabcc_0 rfl (lv_at hl 0 rfl) ?_
  refine lv_iload_n hx hb dJ8_newLength_cabcc_1 rfl (lv_at hl 1 rfl) ?_
  refine lv_iload_n hx hb dJ8_newLength_cabcc_2 rfl (lv_at hl 2 rfl) ?_
  refine va_mmax hx hb (hml.trans hl.1.symm) hown (ow (k := 0) rfl) (ow (k := 1) rfl) (ow (k := 2) rfl) (ow (k := 3) rfl) (Nat.le_of_ble_eq_true rfl) (Nat.le_of_ble_eq_true rfl) (Nat.le_of_ble_eq_true rfl) (Nat.le_of_ble_eq_true rfl) dJ8_newLength_cabcc_3 ?_
  refine lv_topi (fun z9 ez => ?_)
  obtain ⟨z_1, rfl, hzz_1⟩ := zI_max (a := g1) (b := g2) (by omega) (by omega) (by omega) (by omega) ez
  refine lv_iadd hx hb dJ8_newLength_cabcc_6 ?_
  refine lv_topi (fun z ez => ?_)
  obtain rfl : z = zI (o + z_1) := ez.trans (zI_add (o) (z_1))
  refine lv_istore_n (lv' := [(3, .int (zI (o + z_1))), (0, .int (zI (o))), (1, .int (zI (g1))), (2, .int (zI (g2)))]) hx hb dJ8_newLength_cabcc_7 rfl hl (by decide) rfl (fun ls hl => ?_)
  refine lv_iconst (v := 0) hx hb dJ8_newLength_cabcc_8 (by decide) ?_
  refine lv_iload_n hx hb dJ8_newLength_cabcc_9 rfl (lv_at hl 0 rfl) ?_
  refine lv_icmp_ge (tgt := 21) hx hb dJ8_newLength_cabcc_10 (by decide) (fun b10 => ?_) (fun b10 => ?_)
  · have yb10 : (o + z_1 : Int) ≤ (0 : Int) := (zI_le (a := o + z_1) (b := 0) (by omega) (by omega) (by omega) (by omega)).mp b10
    exfalso
    omega
  · have yb10 : ¬ (o + z_1 : Int) ≤ (0 : Int) := fun q => b10 ((zI_le (a := o + z_1) (b := 0) (by omega) (by omega) (by omega) (by omega)).mpr q)
    refine lv_iload_n hx hb dJ8_newLength_cabcc_13 rfl (lv_at hl 0 rfl) ?_
    refine lv_ldc (v := 2147483639) hx hb hown (ow (k := 4) rfl) dJ8_newLength_cabcc_14 ?_
    refine lv_icmp_gt (tgt := 21) hx hb dJ8_newLength_cabcc_16 (by decide) (fun b16 => ?_) (fun b16 => ?_)
    · have yb16 : (2147483639 : Int) < (o + z_1 : Int) := (zI_lt (a := 2147483639) (b := o + z_1) (by omega) (by omega) (by omega) (by omega)).mp b16
      exfalso
      omega
    · have yb16 : ¬ (2147483639 : Int) < (o + z_1 : Int) := fun q => b16 ((zI_lt (a := 2147483639) (b := o + z_1) (by omega) (by omega) (by omega) (by omega)).mpr q)
      refine lv_iload_n hx hb dJ8_newLength_cabcc_19 rfl (lv_at hl 0 rfl) ?_
      subst hQ
      refine W.widen (k := 0) (n := 0) (Nat.le_of_ble_eq_true rfl) (Nat.le_of_ble_eq_true rfl) ?_
      exact W.iret (v := (zI (o + z_1))) hx hb hr (fun t ht hW => ⟨⟨(zI (o + z_1)), (), rfl, ⟨o + z_1, rfl, (by omega)⟩, by rw [ht]; exact hP, va_K.moved hW.alike hK, hD⟩, hS.F ht⟩) hS.2.2 dJ8_newLength_cabcc_20
