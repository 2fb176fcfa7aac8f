def o_J7_copyOfM1 : List Cond := [.arrayClass .int, .methodLink RJ7 304 Lib.Math.min.name, .static Lib.Math.min.name, .initialized "java/lang/Math", .code Lib.Math.min.name Lib.Math.min.code 2 (some .int), .methodLink RJ7 150 arraycopyName, .native arraycopyName, .static arraycopyName, .initialized "java/lang/System"]
def v_J7_copyOfM1 : List Cond := .code yJ7_copyOf_59c91 cJ7_copyOf_59c91 3 (some (.array .int)) :: (o_J7_copyOfM1 ++ [])
theorem mow_J7_copyOfM1 : ∀ w ∈ o_J7_copyOfM1, w ∈ v_J7_copyOfM1 := fun _ h => List.mem_cons_of_mem _ (List.mem_append_left _ h)
set_option maxRecDepth 20000 in
theorem gw_J7_copyOfM1 : v_J7_copyOfM1.all goodWord = true := by decide +kernel
set_option maxHeartbeats 4000000 in
set_option maxRecDepth 100000 in
theorem c_J7_copyOfM1 (l : Launch) (dC : Nat → ClassId) (dI : Nat → Nat → Nat) (q_o : Nat) (cI : ClassId) (no : Nat) (a_o : Int → Int) (n : Int) (hNno : no ≤ 20000) (hR_a_o : ∀ j : Int, 0 ≤ a_o j ∧ a_o j ≤ 1001) (hNn : (no : Int) < n ∧ n ≤ 20000) (sz : Nat) : Met l yJ7_copyOf_59c91 v_J7_copyOfM1 ({ frames := 1, cells := (1), slots := ((n).toNat), locals := 60 }) (va_Pc [.ref q_o, .int (zI (n))] (fun U => U.heap.size = sz ∧ va_P (dC, dI) vwQ [(q_o, .inl (cI, no, .inl (fun j : Nat => zI (a_o (j : Int)))))] U.heap ∧ va_K (dC, dI) vwQ [(cI, .int)] U ∧ va_D (fun _ => True) [(q_o, .inl (cI, no, .inl (fun j : Nat => zI (a_o (j : Int)))))])) (va_Qr (fun _ : Unit => True) (fun (_ : Unit) (rq : Nat) (t : State) => ∃ (cn_9 : ClassId) (nn_9 : Nat) (fn_9 : Int → Int), (((nn_9 : Int) = n ∧ (∀ j : Int, 0 ≤ fn_9 j ∧ fn_9 j ≤ 1001) ∧ ∀ j : Int, 0 ≤ j → j < no → fn_9 j = a_o j)) ∧ va_P (dC, dI) vwQ [(q_o, .inl (cI, no, .inl (fun j : Nat => zI (a_o (j : Int))))), (rq, .inl (cn_9, nn_9, .inl (fun j : Nat => zI (fn_9 (j : Int)))))] t.heap ∧ va_K (dC, dI) vwQ [(cI, .int), (cn_9, .int)] t ∧ va_D (va_A [(q_o, .inl (cI, no, .inl (fun j : Nat => zI (a_o (j : Int)))))] sz) [(q_o, .inl (cI, no, .inl (fun j : Nat => zI (a_o (j : Int))))), (rq, .inl (cn_9, nn_9, .inl (fun j : Nat => zI (fn_9 (j : Int)))))]) (va_A [(q_o, .inl (cI, no, .inl (fun j : Nat => zI (a_o (j : Int)))))] sz)) (1) ((n).toNat) (va_A [(q_o, .inl (cI, no, .inl (fun j : Nat => zI (a_o (j : Int)))))] sz) := by
  refine Met.ofW (cc := cJ7_copyOf_59c91) (maxL := 3) (ret := (some (.array .int))) (by decide) rfl ?_
  intro p e s m args below meth c s₁ B hml hv
  obtain ⟨rfl, hsz, hP, hK, hD0⟩ := hv
  have hx := B.exec
  have hb := B.bytes
  have hr := B.returns
  have hts := atoms_spec (ws := v_J7_copyOfM1) B.pre
  have hown : s.vm.findClass RJ7 = some m.cls := findClass_of_methodNamed B.named
  have hlocks := B.notSynchronized
  have ow : ∀ {k : Nat} {w : Cond}, o_J7_copyOfM1[k]? = some w → w.before ([.ref q_o, .int (zI (n))] : List Value).toArray s = true := fun h => hts _ (mow_J7_copyOfM1 _ (List.mem_of_getElem? h))
  subst hsz
  have hD := hD0.self (sz := s.heap.size)
  generalize hAe : va_A [(q_o, .inl (cI, no, .inl (fun j : Nat => zI (a_o (j : Int)))))] s.heap.size = A at hD ⊢
  have hA : ∀ q : Nat, s.heap.size ≤ q → A q := fun q h => by rw [← hAe]; exact Or.inr h
  have hS : va_S A s.heap s.heap [] := va_S.rf
  have hP : va_P (dC, dI) vwQ [(q_o, .inl (cI, no, .inl (fun j : Nat => zI (a_o (j : Int)))))] s.heap := hP
  have hl := lv_entry ([.ref q_o, .int (zI (n))]) (n := 3) (Nat.le_of_ble_eq_true rfl)
  rw [lg_entry_eq]
  generalize (lg_sl ([.ref q_o, .int (zI (n))]) ++ List.replicate (3 - (lg_sl ([.ref q_o, .int (zI (n))])).length) Slot.unset).toArray = ls at hl ⊢
  have hl : lv_has ls 3 [(0, .ref q_o), (1, .int (zI (n)))] := hl
  obtain ⟨H, hH⟩ : ∃ H, H = s.heap := ⟨_, rfl⟩
  rw [← hH] at hP
  have hS : va_S A s.heap H [] := by rw [hH]; exact hS
  rw [← hH]
  refine zW_cap (fun Q hQ => ?_)
  refine lv_iload_n hx hb dJ7_copyOf_59c91_0 rfl (lv_at hl 1 rfl) ?_
  refine lv_aload_n hx hb dJ7_copyOf_59c91_1 rfl (lv_at hl 0 rfl) ?_
  refine va_alen (v := zI ((no : Int))) hx hb hK hP 0 0 rfl rfl (zI_ofNat no) dJ7_copyOf_59c91_2 ?_
  refine lv_icmp_ne (tgt := 14) hx hb dJ7_copyOf_59c91_3 (by decide) (fun b3 => ?_) (fun b3 => ?_)
  · have yb3 : ¬ (n : Int) = ((no : Int) : Int) := fun q => b3 ((zI_eq (a := n) (b := (no : Int)) (by omega) (by omega) (by omega) (by omega)).mpr q)
    refine lv_iload_n hx hb dJ7_copyOf_59c91_14 rfl (lv_at hl 1 rfl) ?_
    obtain ⟨nw_3, enw_3⟩ : ∃ n9 : Nat, (n9 : Int) = n := ⟨(n).toNat, by omega⟩
    refine va_newa (ty := .int) (n := zI (n)) (N' := nw_3) (a0 := (nw_3, .inl (fun _ => 0))) hx hb (ow (k := 0) rfl) rfl hK hP hD hS hA (fun _ => rfl) (zI_nn (by omega) (by omega)) (by rw [zI_cl (by omega) (by omega)]; omega) (by show nw_3 * 4 ≤ 536870912; omega) (show 0 + 1 ≤ 1 from (by omega)) (show 0 + nw_3 ≤ (n).toNat from (by omega)) dJ7_copyOf_59c91_15 (fun q_1 cA_2 H hK hP hD hS => ?_)
    obtain ⟨az_4, eaz_4⟩ : ∃ f9 : Int → Int, f9 = (fun _ => 0) := ⟨_, rfl⟩
    have hP : va_P (dC, dI) vwQ [(q_o, .inl (cI, no, .inl (fun j : Nat => zI (a_o (j : Int))))), (q_1, .inl (cA_2, nw_3, .inl (fun _ => 0)))] H := hP
    have hD : va_D A [(q_o, .inl (cI, no, .inl (fun j : Nat => zI (a_o (j : Int))))), (q_1, .inl (cA_2, nw_3, .inl (fun _ => 0)))] := hD
    rw [show (fun _ : Nat => (0 : Int32)) = (fun j : Nat => zI (az_4 (j : Int))) from (by rw [eaz_4]; rfl)] at hP hD
    have hP : va_P (dC, dI) vwQ [(q_o, .inl (cI, no, .inl (fun j : Nat => zI (a_o (j : Int))))), (q_1, .inl (cA_2, nw_3, .inl (fun j : Nat => zI (az_4 (j : Int)))))] H := hP
    have hD : va_D A [(q_o, .inl (cI, no, .inl (fun j : Nat => zI (a_o (j : Int))))), (q_1, .inl (cA_2, nw_3, .inl (fun j : Nat => zI (az_4 (j : Int)))))] := hD
    have raz_4 : ∀ j : Int, 0 ≤ az_4 j ∧ az_4 j ≤ 1001 := (fun j => by rw [eaz_4]; show 0 ≤ (0 : Int) ∧ (0 : Int) ≤ 1001; omega)
    have hK : va_K (dC, dI) vwQ [(cI, .int), (cA_2, .int)] s := hK
    refine lv_astore_n (lv' := [(2, .ref q_1), (0, .ref q_o), (1, .int (zI (n)))]) hx hb dJ7_copyOf_59c91_17 rfl hl (by decide) rfl (fun ls hl => ?_)
    refine lv_aload_n hx hb dJ7_copyOf_59c91_18 rfl (lv_at hl 1 rfl) ?_
    refine lv_iconst (v := 0) hx hb dJ7_copyOf_59c91_19 (by decide) ?_
    refine lv_aload_n hx hb dJ7_copyOf_59c91_20 rfl (lv_at hl 0 rfl) ?_
    refine lv_iconst (v := 0) hx hb dJ7_copyOf_59c91_21 (by decide) ?_
    refine lv_aload_n hx hb dJ7_copyOf_59c91_22 rfl (lv_at hl 1 rfl) ?_
    refine va_alen (v := zI ((no : Int))) hx hb hK hP 0 0 rfl rfl (zI_ofNat no) dJ7_copyOf_59c91_23 ?_
    refine lv_iload_n hx hb dJ7_copyOf_59c91_24 rfl (lv_at hl 2 rfl) ?_
    refine va_mmin hx hb (hml.trans hl.1.symm) hown (ow (k := 1) rfl) (ow (k := 2) rfl) (ow (k := 3) rfl) (ow (k := 4) rfl) (by first | exact Nat.le_of_ble_eq_true rfl | exact (show 1 ≤ 1 from (by omega)) | exact (show (0 + nw_3) ≤ (n).toNat from (by omega))) (by first | exact Nat.le_of_ble_eq_true rfl | exact (show 1 ≤ 1 from (by omega)) | exact (show (0 + nw_3) ≤ (n).toNat from (by omega))) (by first | exact Nat.le_of_ble_eq_true rfl | exact (show 1 ≤ 1 from (by omega)) | exact (show (0 + nw_3) ≤ (n).toNat from (by omega))) (by first | exact Nat.le_of_ble_eq_true rfl | exact (show 1 ≤ 1 from (by omega)) | exact (show (0 + nw_3) ≤ (n).toNat from (by omega))) dJ7_copyOf_59c91_25 ?_
    refine lv_topi (fun z9 ez => ?_)
    obtain ⟨z_5, rfl, hzz_5⟩ := zI_min (a := (no : Int)) (b := n) (by omega) (by omega) (by omega) (by omega) ez
    refine va_copyi (sp := zI (0)) (dp := zI (0)) (n := zI (z_5)) hx hb (hml.trans hl.1.symm) hown (ow (k := 5) rfl) (ow (k := 6) rfl) (ow (k := 7) rfl) (ow (k := 8) rfl) hK hP hD hS 0 1 0 1 rfl rfl rfl rfl rfl (zI_nn (by omega) (by omega)) (zI_nn (by omega) (by omega)) (zI_nn (by omega) (by omega)) (zI_sum (by omega) (by omega) (by omega) (by omega) (by omega)) (zI_sum (by omega) (by omega) (by omega) (by omega) (by omega)) (fun _ _ => rfl) (by first | exact Nat.le_of_ble_eq_true rfl | exact (show 1 ≤ 1 from (by omega)) | exact (show (0 + nw_3) ≤ (n).toNat from (by omega))) (by first | exact Nat.le_of_ble_eq_true rfl | exact (show 1 ≤ 1 from (by omega)) | exact (show (0 + nw_3) ≤ (n).toNat from (by omega))) dJ7_copyOf_59c91_28 (fun H locs hP hD hS => ?_)
    rw [cpy_zx a_o az_4 (sp := 0) (dp := 0) (n := z_5) (by omega) (by omega) (by omega) (by omega) (by omega) (by omega)] at hP hD
    have ra_6 := cpF_P (P := fun x9 => 0 ≤ x9 ∧ x9 ≤ 1001) hR_a_o raz_4 (0) (0) (z_5)
    obtain ⟨a_6, ea_6⟩ : ∃ a9 : Int → Int, a9 = cpF a_o az_4 (0) (0) (z_5) := ⟨_, rfl⟩
    rw [← ea_6] at hP hD ra_6
    have ra_6 : ∀ j : Int, 0 ≤ a_6 j ∧ a_6 j ≤ 1001 := ra_6
    have hP : va_P (dC, dI) vwQ [(q_o, .inl (cI, no, .inl (fun j : Nat => zI (a_o (j : Int))))), (q_1, .inl (cA_2, nw_3, .inl (fun j : Nat => zI (a_6 (j : Int)))))] H := hP
    have hD : va_D A [(q_o, .inl (cI, no, .inl (fun j : Nat => zI (a_o (j : Int))))), (q_1, .inl (cA_2, nw_3, .inl (fun j : Nat => zI (a_6 (j : Int)))))] := hD
    refine lv_aload_n hx hb dJ7_copyOf_59c91_31 rfl (lv_at hl 0 rfl) ?_
    subst hQ
    refine W.widen (k := (1)) (n := ((n).toNat)) (by omega) (by omega) ?_
    exact W.aret (v := .ref q_1) hx hb hr (Or.inr ⟨_, rfl⟩) (Or.inr ⟨_, rfl⟩) (fun t ht hW => ⟨⟨(), q_1, rfl, trivial, cA_2, nw_3, a_6, ⟨by omega, ra_6, (fun j j0 j1 => by rw [ea_6]; unfold cpF; rw [if_pos (by omega)]; congr 1; omega)⟩, by rw [ht]; exact hP, va_K.moved hW.alike hK, hD⟩, hS.F ht⟩) hS.2.2 dJ7_copyOf_59c91_32
  · have yb3 : (n : Int) = ((no : Int) : Int) := (zI_eq (a := n) (b := (no : Int)) (by omega) (by omega) (by omega) (by omega)).mp b3
    exfalso
    omega
def o_J7_copyOfM3 : List Cond := [.arrayClass .int, .methodLink RJ7 304 Lib.Math.min.name, .static Lib.Math.min.name, .initialized "java/lang/Math", .code Lib.Math.min.name Lib.Math.min.code 2 (some .int), .methodLink RJ7 150 arraycopyName, .native arraycopyName, .static arraycopyName, .initialized "java/lang/System"]
def v_J7_copyOfM3 : List Cond := .code yJ7_copyOf_59c91 cJ7_copyOf_59c91 3 (some (.array .int)) :: (o_J7_copyOfM3 ++ [])
theorem mow_J7_copyOfM3 : ∀ w ∈ o_J7_copyOfM3, w ∈ v_J7_copyOfM3 := fun _ h => List.mem_cons_of_mem _ (List.mem_append_left _ h)
set_option maxRecDepth 20000 in
theorem gw_J7_copyOfM3 : v_J7_copyOfM3.all goodWord = true := by decide +kernel
set_option maxHeartbeats 4000000 in
set_option maxRecDepth 100000 in
theorem c_J7_copyOfM3 (l : Launch) (dC : Nat → ClassId) (dI : Nat → Nat → Nat) (q_o : Nat) (cI : ClassId) (no : Nat) (a_o : Int → Int) (n : Int) (hNno : no ≤ 20000) (hR_a_o : ∀ j : Int, -2147483648 ≤ a_o j ∧ a_o j ≤ 2147483647) (hNn : (no : Int) < n ∧ n ≤ 20000) (sz : Nat) : Met l yJ7_copyOf_59c91 v_J7_copyOfM3 ({ frames := 1, cells := (1), slots := ((n).toNat), locals := 60 }) (va_Pc [.ref q_o, .int (zI (n))] (fun U => U.heap.size = sz ∧ va_P (dC, dI) vwQ [(q_o, .inl (cI, no, .inl (fun j : Nat => zI (a_o (j : Int)))))] U.heap ∧ va_K (dC, dI) vwQ [(cI, .int)] U ∧ va_D (fun _ => True) [(q_o, .inl (cI, no, .inl (fun j : Nat => zI (a_o (j : Int)))))])) (va_Qr (fun _ : Unit => True) (fun (_ : Unit) (rq : Nat) (t : State) => ∃ (cn_9 : ClassId) (nn_9 : Nat) (fn_9 : Int → Int), (((nn_9 : Int) = n ∧ (∀ j : Int, -2147483648 ≤ fn_9 j ∧ fn_9 j ≤ 2147483647) ∧ ∀ j : Int, 0 ≤ j → j < no → fn_9 j = a_o j)) ∧ va_P (dC, dI) vwQ [(q_o, .inl (cI, no, .inl (fun j : Nat => zI (a_o (j : Int))))), (rq, .inl (cn_9, nn_9, .inl (fun j : Nat => zI (fn_9 (j : Int)))))] t.heap ∧ va_K (dC, dI) vwQ [(cI, .int), (cn_9, .int)] t ∧ va_D (va_A [(q_o, .inl (cI, no, .inl (fun j : Nat => zI (a_o (j : Int)))))] sz) [(q_o, .inl (cI, no, .inl (fun j : Nat => zI (a_o (j : Int))))), (rq, .inl (cn_9, nn_9, .inl (fun j : Nat => zI (fn_9 (j : Int)))))]) (va_A [(q_o, .inl (cI, no, .inl (fun j : Nat => zI (a_o (j : Int)))))] sz)) (1) ((n).toNat) (va_A [(q_o, .inl (cI, no, .inl (fun j : Nat => zI (a_o (j : Int)))))] sz) := by
  refine Met.ofW (cc := cJ7_copyOf_59c91) (maxL := 3) (ret := (some (.array .int))) (by decide) rfl ?_
  intro p e s m args below meth c s₁ B hml hv
  obtain ⟨rfl, hsz, hP, hK, hD0⟩ := hv
  have hx := B.exec
  have hb := B.bytes
  have hr := B.returns
  have hts := atoms_spec (ws := v_J7_copyOfM3) B.pre
  have hown : s.vm.findClass RJ7 = some m.cls := findClass_of_methodNamed B.named
  have hlocks := B.notSynchronized
  have ow : ∀ {k : Nat} {w : Cond}, o_J7_copyOfM3[k]? = some w → w.before ([.ref q_o, .int (zI (n))] : List Value).toArray s = true := fun h => hts _ (mow_J7_copyOfM3 _ (List.mem_of_getElem? h))
  subst hsz
  have hD := hD0.self (sz := s.heap.size)
  generalize hAe : va_A [(q_o, .inl (cI, no, .inl (fun j : Nat => zI (a_o (j : Int)))))] s.heap.size = A at hD ⊢
  have hA : ∀ q : Nat, s.heap.size ≤ q → A q := fun q h => by rw [← hAe]; exact Or.inr h
  have hS : va_S A s.heap s.heap [] := va_S.rf
  have hP : va_P (dC, dI) vwQ [(q_o, .inl (cI, no, .inl (fun j : Nat => zI (a_o (j : Int)))))] s.heap := hP
  have hl := lv_entry ([.ref q_o, .int (zI (n))]) (n := 3) (Nat.le_of_ble_eq_true rfl)
  rw [lg_entry_eq]
  generalize (lg_sl ([.ref q_o, .int (zI (n))]) ++ List.replicate (3 - (lg_sl ([.ref q_o, .int (zI (n))])).length) Slot.unset).toArray = ls at hl ⊢
  have hl : lv_has ls 3 [(0, .ref q_o), (1, .int (zI (n)))] := hl
  obtain ⟨H, hH⟩ : ∃ H, H = s.heap := ⟨_, rfl⟩
  rw [← hH] at hP
  have hS : va_S A s.heap H [] := by rw [hH]; exact hS
  rw [← hH]
  refine zW_cap (fun Q hQ => ?_)
  refine lv_iload_n hx hb dJ7_copyOf_59c91_0 rfl (lv_at hl 1 rfl) ?_
  refine lv_aload_n hx hb dJ7_copyOf_59c91_1 rfl (lv_at hl 0 rfl) ?_
  refine va_alen (v := zI ((no : Int))) hx hb hK hP 0 0 rfl rfl (zI_ofNat no) dJ7_copyOf_59c91_2 ?_
  refine lv_icmp_ne (tgt := 14) hx hb dJ7_copyOf_59c91_3 (by decide) (fun b3 => ?_) (fun b3 => ?_)
  · have yb3 : ¬ (n : Int) = ((no : Int) : Int) := fun q => b3 ((zI_eq (a := n) (b := (no : Int)) (by omega) (by omega) (by omega) (by omega)).mpr q)
    refine lv_iload_n hx hb dJ7_copyOf_59c91_14 rfl (lv_at hl 1 rfl) ?_
    obtain ⟨nw_3, enw_3⟩ : ∃ n9 : Nat, (n9 : Int) = n := ⟨(n).toNat, by omega⟩
    refine va_newa (ty := .int) (n := zI (n)) (N' := nw_3) (a0 := (nw_3, .inl (fun _ => 0))) hx hb (ow (k := 0) rfl) rfl hK hP hD hS hA (fun _ => rfl) (zI_nn (by omega) (by omega)) (by rw [zI_cl (by omega) (by omega)]; omega) (by show nw_3 * 4 ≤ 536870912; omega) (show 0 + 1 ≤ 1 from (by omega)) (show 0 + nw_3 ≤ (n).toNat from (by omega)) dJ7_copyOf_59c91_15 (fun q_1 cA_2 H hK hP hD hS => ?_)
    obtain ⟨az_4, eaz_4⟩ : ∃ f9 : Int → Int, f9 = (fun _ => 0) := ⟨_, rfl⟩
    have hP : va_P (dC, dI) vwQ [(q_o, .inl (cI, no, .inl (fun j : Nat => zI (a_o (j : Int))))), (q_1, .inl (cA_2, nw_3, .inl (fun _ => 0)))] H := hP
    have hD : va_D A [(q_o, .inl (cI, no, .inl (fun j : Nat => zI (a_o (j : Int))))), (q_1, .inl (cA_2, nw_3, .inl (fun _ => 0)))] := hD
    rw [show (fun _ : Nat => (0 : Int32)) = (fun j : Nat => zI (az_4 (j : Int))) from (by rw [eaz_4]; rfl)] at hP hD
    have hP : va_P (dC, dI) vwQ [(q_o, .inl (cI, no, .inl (fun j : Nat => zI (a_o (j : Int))))), (q_1, .inl (cA_2, nw_3, .inl (fun j : Nat => zI (az_4 (j : Int)))))] H := hP
    have hD : va_D A [(q_o, .inl (cI, no, .inl (fun j : Nat => zI (a_o (j : Int))))), (q_1, .inl (cA_2, nw_3, .inl (fun j : Nat => zI (az_4 (j : Int)))))] := hD
    have raz_4 : ∀ j : Int, -2147483648 ≤ az_4 j ∧ az_4 j ≤ 2147483647 := (fun j => by rw [eaz_4]; show -2147483648 ≤ (0 : Int) ∧ (0 : Int) ≤ 2147483647; omega)
    have hK : va_K (dC, dI) vwQ [(cI, .int), (cA_2, .int)] s := hK
    refine lv_astore_n (lv' := [(2, .ref q_1), (0, .ref q_o), (1, .int (zI (n)))]) hx hb dJ7_copyOf_59c91_17 rfl hl (by decide) rfl (fun ls hl => ?_)
    refine lv_aload_n hx hb dJ7_copyOf_59c91_18 rfl (lv_at hl 1 rfl) ?_
    refine lv_iconst (v := 0) hx hb dJ7_copyOf_59c91_19 (by decide) ?_
    refine lv_aload_n hx hb dJ7_copyOf_59c91_20 rfl (lv_at hl 0 rfl) ?_
    refine lv_iconst (v := 0) hx hb dJ7_copyOf_59c91_21 (by decide) ?_
    refine lv_aload_n hx hb dJ7_copyOf_59c91_22 rfl (lv_at hl 1 rfl) ?_
    refine va_alen (v := zI ((no : Int))) hx hb hK hP 0 0 rfl rfl (zI_ofNat no) dJ7_copyOf_59c91_23 ?_
    refine lv_iload_n hx hb dJ7_copyOf_59c91_24 rfl (lv_at hl 2 rfl) ?_
    refine va_mmin hx hb (hml.trans hl.1.symm) hown (ow (k := 1) rfl) (ow (k := 2) rfl) (ow (k := 3) rfl) (ow (k := 4) rfl) (by first | exact Nat.le_of_ble_eq_true rfl | exact (show 1 ≤ 1 from (by omega)) | exact (show (0 + nw_3) ≤ (n).toNat from (by omega))) (by first | exact Nat.le_of_ble_eq_true rfl | exact (show 1 ≤ 1 from (by omega)) | exact (show (0 + nw_3) ≤ (n).toNat from (by omega))) (by first | exact Nat.le_of_ble_eq_true rfl | exact (show 1 ≤ 1 from (by omega)) | exact (show (0 + nw_3) ≤ (n).toNat from (by omega))) (by first | exact Nat.le_of_ble_eq_true rfl | exact (show 1 ≤ 1 from (by omega)) | exact (show (0 + nw_3) ≤ (n).toNat from (by omega))) dJ7_copyOf_59c91_25 ?_
    refine lv_topi (fun z9 ez => ?_)
    obtain ⟨z_5, rfl, hzz_5⟩ := zI_min (a := (no : Int)) (b := n) (by omega) (by omega) (by omega) (by omega) ez
    refine va_copyi (sp := zI (0)) (dp := zI (0)) (n := zI (z_5)) hx hb (hml.trans hl.1.symm) hown (ow (k := 5) rfl) (ow (k := 6) rfl) (ow (k := 7) rfl) (ow (k := 8) rfl) hK hP hD hS 0 1 0 1 rfl rfl rfl rfl rfl (zI_nn (by omega) (by omega)) (zI_nn (by omega) (by omega)) (zI_nn (by omega) (by omega)) (zI_sum (by omega) (by omega) (by omega) (by omega) (by omega)) (zI_sum (by omega) (by omega) (by omega) (by omega) (by omega)) (fun _ _ => rfl) (by first | exact Nat.le_of_ble_eq_true rfl | exact (show 1 ≤ 1 from (by omega)) | exact (show (0 + nw_3) ≤ (n).toNat from (by omega))) (by first | exact Nat.le_of_ble_eq_true rfl | exact (show 1 ≤ 1 from (by omega)) | exact (show (0 + nw_3) ≤ (n).toNat from (by omega))) dJ7_copyOf_59c91_28 (fun H locs hP hD hS => ?_)
    rw [cpy_zx a_o az_4 (sp := 0) (dp := 0) (n := z_5) (by omega) (by omega) (by omega) (by omega) (by omega) (by omega)] at hP hD
    have ra_6 := cpF_P (P := fun x9 => -2147483648 ≤ x9 ∧ x9 ≤ 2147483647) hR_a_o raz_4 (0) (0) (z_5)
    obtain ⟨a_6, ea_6⟩ : ∃ a9 : Int → Int, a9 = cpF a_o az_4 (0) (0) (z_5) := ⟨_, rfl⟩
    rw [← ea_6] at hP hD ra_6
    have ra_6 : ∀ j : Int, -2147483648 ≤ a_6 j ∧ a_6 j ≤ 2147483647 := ra_6
    have hP : va_P (dC, dI) vwQ [(q_o, .inl (cI, no, .inl (fun j : Nat => zI (a_o (j : Int))))), (q_1, .inl (cA_2, nw_3, .inl (fun j : Nat => zI (a_6 (j : Int)))))] H := hP
    have hD : va_D A [(q_o, .inl (cI, no, .inl (fun j : Nat => zI (a_o (j : Int))))), (q_1, .inl (cA_2, nw_3, .inl (fun j : Nat => zI (a_6 (j : Int)))))] := hD
    refine lv_aload_n hx hb dJ7_copyOf_59c91_31 rfl (lv_at hl 0 rfl) ?_
    subst hQ
    refine W.widen (k := (1)) (n := ((n).toNat)) (by omega) (by omega) ?_
    exact W.aret (v := .ref q_1) hx hb hr (Or.inr ⟨_, rfl⟩) (Or.inr ⟨_, rfl⟩) (fun t ht hW => ⟨⟨(), q_1, rfl, trivial, cA_2, nw_3, a_6, ⟨by omega, ra_6, (fun j j0 j1 => by rw [ea_6]; unfold cpF; rw [if_pos (by omega)]; congr 1; omega)⟩, by rw [ht]; exact hP, va_K.moved hW.alike hK, hD⟩, hS.F ht⟩) hS.2.2 dJ7_copyOf_59c91_32
  · have yb3 : (n : Int) = ((no : Int) : Int) := (zI_eq (a := n) (b := (no : Int)) (by omega) (by omega) (by omega) (by omega)).mp b3
    exfalso
    omega
