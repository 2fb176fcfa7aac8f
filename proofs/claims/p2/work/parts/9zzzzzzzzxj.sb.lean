theorem dJ7_checkLength_df160_0 : decode cJ7_checkLength_df160 0 = .ok (.iload_n 1, 1) := by decide +kernel
theorem dJ7_checkLength_df160_1 : decode cJ7_checkLength_df160 1 = .ok (.iload_n 0, 1) := by decide +kernel
theorem dJ7_checkLength_df160_2 : decode cJ7_checkLength_df160 2 = .ok (.if_icmp .ge 35, 3) := by decide +kernel
theorem dJ7_checkLength_df160_37 : decode cJ7_checkLength_df160 37 = .ok (.return_, 1) := by decide +kernel
def o_J7_checkLength : List Cond := []
def v_J7_checkLength : List Cond := .code yJ7_checkLength_df160 cJ7_checkLength_df160 2 none :: (o_J7_checkLength ++ [])
theorem mow_J7_checkLength : ∀ w ∈ o_J7_checkLength, w ∈ v_J7_checkLength := fun _ h => List.mem_cons_of_mem _ (List.mem_append_left _ h)
set_option maxRecDepth 20000 in
theorem gw_J7_checkLength : v_J7_checkLength.all goodWord = true := by decide +kernel
set_option maxHeartbeats 4000000 in
set_option maxRecDepth 100000 in
theorem c_J7_checkLength (l : Launch) (dC : Nat → ClassId) (dI : Nat → Nat → Nat) (x0 : Int) (x1 : Int) (hNx : 0 ≤ x0 ∧ x0 ≤ x1 ∧ x1 ≤ 2000000) (sz : Nat) : Met l yJ7_checkLength_df160 v_J7_checkLength ({ frames := 0, cells := 0, slots := 0, locals := 0 }) (va_Pc [.int (zI (x0)), .int (zI (x1))] (fun U => U.heap.size = sz ∧ va_P (dC, dI) vwQ [] U.heap ∧ va_K (dC, dI) vwQ [] U ∧ va_D (fun _ => True) [])) (va_Qv (fun _ : Unit => True) (fun (_ : Unit) (t : State) => va_P (dC, dI) vwQ [] t.heap ∧ va_K (dC, dI) vwQ [] t ∧ va_D (va_A [] sz) []) (va_A [] sz)) 0 0 (va_A [] sz) := by
  refine Met.ofW (cc := cJ7_checkLength_df160) (maxL := 2) (ret := none) (by decide) rfl ?_
  intro p e s m args below meth c s₁ B hml hv
  obtain ⟨rfl, hsz, hP, hK, hD0⟩ := hv
  have hx := B.exec
  have hb := B.bytes
  have hr := B.returns
  have hts := atoms_spec (ws := v_J7_checkLength) B.pre
  have hown : s.vm.findClass RJ7 = some m.cls := findClass_of_methodNamed B.named
  have hlocks := B.notSynchronized
  have ow : ∀ {k : Nat} {w : Cond}, o_J7_checkLength[k]? = some w → w.before ([.int (zI (x0)), .int (zI (x1))] : List Value).toArray s = true := fun h => hts _ (mow_J7_checkLength _ (List.mem_of_getElem? h))
  subst hsz
  have hD := hD0.self (sz := s.heap.size)
  generalize hAe : va_A [] s.heap.size = A at hD ⊢
  have hA : ∀ q : Nat, s.heap.size ≤ q → A q := fun q h => by rw [← hAe]; exact Or.inr h
  have hS : va_S A s.heap s.heap [] := va_S.rf
  have hP : va_P (dC, dI) vwQ [] s.heap := hP
  have hl := lv_entry ([.int (zI (x0)), .int (zI (x1))]) (n := 2) (Nat.le_of_ble_eq_true rfl)
  rw [lg_entry_eq]
  generalize (lg_sl ([.int (zI (x0)), .int (zI (x1))]) ++ List.replicate (2 - (lg_sl ([.int (zI (x0)), .int (zI (x1))])).length) Slot.unset).toArray = ls at hl ⊢
  have hl : lv_has ls 2 [(0, .int (zI (x0))), (1, .int (zI (x1)))] := hl
  obtain ⟨H, hH⟩ : ∃ H, H = s.heap := ⟨_, rfl⟩
  rw [← hH] at hP
  have hS : va_S A s.heap H [] := by rw [hH]; exact hS
  rw [← hH]
  refine zW_cap (fun Q hQ => ?_)
  refine lv_iload_n hx hb dJ7_checkLength_df160_0 rfl (lv_at hl 1 rfl) ?_
  refine lv_iload_n hx hb dJ7_checkLength_df160_1 rfl (lv_at hl 0 rfl) ?_
  refine lv_icmp_ge (tgt := 37) hx hb dJ7_checkLength_df160_2 (by decide) (fun b2 => ?_) (fun b2 => ?_)
  · have yb2 : (x0 : Int) ≤ (x1 : Int) := (zI_le (a := x0) (b := x1) (by omega) (by omega) (by omega) (by omega)).mp b2
    subst hQ
    refine W.widen (k := 0) (n := 0) (Nat.le_of_ble_eq_true rfl) (Nat.le_of_ble_eq_true rfl) ?_
    exact W.vret hx hb hr (fun t ht hW => ⟨⟨(), rfl, trivial, by rw [ht]; exact hP, va_K.moved hW.alike hK, hD⟩, hS.F ht⟩) hS.2.2 dJ7_checkLength_df160_37
  · have yb2 : ¬ (x0 : Int) ≤ (x1 : Int) := fun q => b2 ((zI_le (a := x0) (b := x1) (by omega) (by omega) (by omega) (by omega)).mpr q)
    exfalso
    omega
theorem dJ7_copyOfRangeByte_39247_0 : decode cJ7_copyOfRangeByte_39247 0 = .ok (.iload_n 1, 1) := by decide +kernel
theorem dJ7_copyOfRangeByte_39247_1 : decode cJ7_copyOfRangeByte_39247 1 = .ok (.iload_n 2, 1) := by decide +kernel
theorem dJ7_copyOfRangeByte_39247_2 : decode cJ7_copyOfRangeByte_39247 2 = .ok (.invokestatic 343, 3) := by decide +kernel
theorem dJ7_copyOfRangeByte_39247_5 : decode cJ7_copyOfRangeByte_39247 5 = .ok (.iload_n 2, 1) := by decide +kernel
theorem dJ7_copyOfRangeByte_39247_6 : decode cJ7_copyOfRangeByte_39247 6 = .ok (.iload_n 1, 1) := by decide +kernel
theorem dJ7_copyOfRangeByte_39247_7 : decode cJ7_copyOfRangeByte_39247 7 = .ok (.isub, 1) := by decide +kernel
theorem dJ7_copyOfRangeByte_39247_8 : decode cJ7_copyOfRangeByte_39247 8 = .ok (.istore_n 3, 1) := by decide +kernel
theorem dJ7_copyOfRangeByte_39247_9 : decode cJ7_copyOfRangeByte_39247 9 = .ok (.iload_n 3, 1) := by decide +kernel
theorem dJ7_copyOfRangeByte_39247_10 : decode cJ7_copyOfRangeByte_39247 10 = .ok (.newarray .byte, 2) := by decide +kernel
theorem dJ7_copyOfRangeByte_39247_12 : decode cJ7_copyOfRangeByte_39247 12 = .ok (.astore 4, 2) := by decide +kernel
theorem dJ7_copyOfRangeByte_39247_14 : decode cJ7_copyOfRangeByte_39247 14 = .ok (.aload_n 0, 1) := by decide +kernel
theorem dJ7_copyOfRangeByte_39247_15 : decode cJ7_copyOfRangeByte_39247 15 = .ok (.iload_n 1, 1) := by decide +kernel
theorem dJ7_copyOfRangeByte_39247_16 : decode cJ7_copyOfRangeByte_39247 16 = .ok (.aload 4, 2) := by decide +kernel
theorem dJ7_copyOfRangeByte_39247_18 : decode cJ7_copyOfRangeByte_39247 18 = .ok (.iconst 0, 1) := by decide +kernel
theorem dJ7_copyOfRangeByte_39247_19 : decode cJ7_copyOfRangeByte_39247 19 = .ok (.aload_n 0, 1) := by decide +kernel
theorem dJ7_copyOfRangeByte_39247_20 : decode cJ7_copyOfRangeByte_39247 20 = .ok (.arraylength, 1) := by decide +kernel
theorem dJ7_copyOfRangeByte_39247_21 : decode cJ7_copyOfRangeByte_39247 21 = .ok (.iload_n 1, 1) := by decide +kernel
theorem dJ7_copyOfRangeByte_39247_22 : decode cJ7_copyOfRangeByte_39247 22 = .ok (.isub, 1) := by decide +kernel
theorem dJ7_copyOfRangeByte_39247_23 : decode cJ7_copyOfRangeByte_39247 23 = .ok (.iload_n 3, 1) := by decide +kernel
theorem dJ7_copyOfRangeByte_39247_24 : decode cJ7_copyOfRangeByte_39247 24 = .ok (.invokestatic 304, 3) := by decide +kernel
theorem dJ7_copyOfRangeByte_39247_27 : decode cJ7_copyOfRangeByte_39247 27 = .ok (.invokestatic 150, 3) := by decide +kernel
theorem dJ7_copyOfRangeByte_39247_30 : decode cJ7_copyOfRangeByte_39247 30 = .ok (.aload 4, 2) := by decide +kernel
theorem dJ7_copyOfRangeByte_39247_32 : decode cJ7_copyOfRangeByte_39247 32 = .ok (.areturn, 1) := by decide +kernel
def o_J7_copyOfRangeB : List Cond := [.methodLink RJ7 343 yJ7_checkLength_df160, .static yJ7_checkLength_df160, .initialized RJ7, .arrayClass .byte, .methodLink RJ7 304 Lib.Math.min.name, .static Lib.Math.min.name, .initialized "java/lang/Math", .code Lib.Math.min.name Lib.Math.min.code 2 (some .int), .methodLink RJ7 150 arraycopyName, .native arraycopyName, .static arraycopyName, .initialized "java/lang/System"]
def v_J7_copyOfRangeB : List Cond := .code yJ7_copyOfRangeByte_39247 cJ7_copyOfRangeByte_39247 5 (some (.array .byte)) :: (o_J7_copyOfRangeB ++ (v_J7_checkLength ++ []))
theorem mow_J7_copyOfRangeB : ∀ w ∈ o_J7_copyOfRangeB, w ∈ v_J7_copyOfRangeB := fun _ h => List.mem_cons_of_mem _ (List.mem_append_left _ h)
theorem mem_J7_copyOfRangeB_0 : ∀ w ∈ v_J7_checkLength, w ∈ v_J7_copyOfRangeB := fun _ h => List.mem_cons_of_mem _ (List.mem_append_right _ (List.mem_append_left _ h))
set_option maxRecDepth 20000 in
theorem gw_J7_copyOfRangeB : v_J7_copyOfRangeB.all goodWord = true := by decide +kernel
set_option maxRecDepth 20000 in
theorem g_J7_copyOfRangeB_J7_checkLength : GoodIn v_J7_copyOfRangeB (wsS RJ7 343 yJ7_checkLength_df160 v_J7_checkLength) := goodIn_app (goodIn_sub (fun w h => mow_J7_copyOfRangeB w (by revert w h; decide +kernel)) (by decide +kernel)) (goodIn_sub mem_J7_copyOfRangeB_0 gw_J7_checkLength)
set_option maxHeartbeats 4000000 in
set_option maxRecDepth 100000 in
theorem c_J7_copyOfRangeB (l : Launch) (dC : Nat → ClassId) (dI : Nat → Nat → Nat) (q_o : Nat) (cB : ClassId) (no : Nat) (a_o : Int → Int) (x0 : Int) (n : Int) (hNno : no ≤ 2000000) (hR_a_o : ∀ j : Int, -128 ≤ a_o j ∧ a_o j ≤ 127) (hNn : x0 = 0 ∧ 0 ≤ n ∧ n ≤ no) (sz : Nat) : Met l yJ7_copyOfRangeByte_39247 v_J7_copyOfRangeB ({ frames := 1, cells := (1), slots := ((n).toNat), locals := 60 }) (va_Pc [.ref q_o, .int (zI (x0)), .int (zI (n))] (fun U => U.heap.size = sz ∧ va_P (dC, dI) vwQ [(q_o, .inl (cB, no, .inl (fun j : Nat => zI (a_o (j : Int)))))] U.heap ∧ va_K (dC, dI) vwQ [(cB, .byte)] U ∧ va_D (fun _ => True) [(q_o, .inl (cB, no, .inl (fun j : Nat => zI (a_o (j : Int)))))])) (va_Qr (fun _ : Unit => True) (fun (_ : Unit) (rq : Nat) (t : State) => ∃ (nn_9 : Nat) (fn_9 : Int → Int), (((nn_9 : Int) = n ∧ (∀ j : Int, -128 ≤ fn_9 j ∧ fn_9 j ≤ 127) ∧ ∀ j : Int, 0 ≤ j → j < n → fn_9 j = a_o j)) ∧ va_P (dC, dI) vwQ [(q_o, .inl (cB, no, .inl (fun j : Nat => zI (a_o (j : Int))))), (rq, .inl (cB, nn_9, .inl (fun j : Nat => zI (fn_9 (j : Int)))))] t.heap ∧ va_K (dC, dI) vwQ [(cB, .byte)] t ∧ va_D (va_A [(q_o, .inl (cB, no, .inl (fun j : Nat => zI (a_o (j : Int)))))] sz) [(q_o, .inl (cB, no, .inl (fun j : Nat => zI (a_o (j : Int))))), (rq, .inl (cB, nn_9, .inl (fun j : Nat => zI (fn_9 (j : Int)))))]) (va_A [(q_o, .inl (cB, no, .inl (fun j : Nat => zI (a_o (j : Int)))))] sz)) (1) ((n).toNat) (va_A [(q_o, .inl (cB, no, .inl (fun j : Nat => zI (a_o (j : Int)))))] sz) := by
  refine Met.ofW (cc := cJ7_copyOfRangeByte_39247) (maxL := 5) (ret := (some (.array .byte))) (by decide) rfl ?_
  intro p e s m args below meth c s₁ B hml hv
  obtain ⟨rfl, hsz, hP, hK, hD0⟩ := hv
  have hx := B.exec
  have hb := B.bytes
  have hr := B.returns
  have hts := atoms_spec (ws := v_J7_copyOfRangeB) B.pre
  have hown : s.vm.findClass RJ7 = some m.cls := findClass_of_methodNamed B.named
  have hlocks := B.notSynchronized
  have ow : ∀ {k : Nat} {w : Cond}, o_J7_copyOfRangeB[k]? = some w → w.before ([.ref q_o, .int (zI (x0)), .int (zI (n))] : List Value).toArray s = true := fun h => hts _ (mow_J7_copyOfRangeB _ (List.mem_of_getElem? h))
  subst hsz
  have hD := hD0.self (sz := s.heap.size)
  generalize hAe : va_A [(q_o, .inl (cB, no, .inl (fun j : Nat => zI (a_o (j : Int)))))] s.heap.size = A at hD ⊢
  have hA : ∀ q : Nat, s.heap.size ≤ q → A q := fun q h => by rw [← hAe]; exact Or.inr h
  have hS : va_S A s.heap s.heap [] := va_S.rf
  have hP : va_P (dC, dI) vwQ [(q_o, .inl (cB, no, .inl (fun j : Nat => zI (a_o (j : Int)))))] s.heap := hP
  have hl := lv_entry ([.ref q_o, .int (zI (x0)), .int (zI (n))]) (n := 5) (Nat.le_of_ble_eq_true rfl)
  rw [lg_entry_eq]
  generalize (lg_sl ([.ref q_o, .int (zI (x0)), .int (zI (n))]) ++ List.replicate (5 - (lg_sl ([.ref q_o, .int (zI (x0)), .int (zI (n))])).length) Slot.unset).toArray = ls at hl ⊢
  have hl : lv_has ls 5 [(0, .ref q_o), (1, .int (zI (x0))), (2, .int (zI (n)))] := hl
  obtain ⟨H, hH⟩ : ∃ H, H = s.heap := ⟨_, rfl⟩
  rw [← hH] at hP
  have hS : va_S A s.heap H [] := by rw [hH]; exact hS
  rw [← hH]
  refine zW_cap (fun Q hQ => ?_)
  refine lv_iload_n hx hb dJ7_copyOfRangeByte_39247_0 rfl (lv_at hl 1 rfl) ?_
  refine lv_iload_n hx hb dJ7_copyOfRangeByte_39247_1 rfl (lv_at hl 2 rfl) ?_
  have hPc := hP.sub (ws' := []) [] rfl
  have hDc := hD.sub (ws' := []) [] (by decide) rfl
  have hKc := hK.sub (tys' := []) [] rfl
  have hFc := va_free (wc := []) hD hS hA [] rfl
  refine va_callv (va_runS (As := [.int (zI (x0)), .int (zI (n))]) (rest := []) ⟨hx, hb, hml, hown, hts⟩ (c_J7_checkLength l dC dI x0 n (by omega) H.size) (cwS 2 hts g_J7_copyOfRangeB_J7_checkLength rfl rfl rfl (by decide +kernel) ⟨(Nat.le_of_ble_eq_true rfl), (Nat.le_of_ble_eq_true rfl)⟩) ⟨fun a U g mk q => by obtain ⟨q0, q1, qP, qK, qD⟩ := q; exact ⟨q0, q1, qP, va_K.moved (u := U) (U := U.calling g mk a) (Vm.Alike.refl U.vm) qK, qD⟩, fun U hU hW => ⟨rfl, by rw [hU], by rw [hU]; exact hPc, va_K.moved hW.alike hKc, hDc.weaken (fun _ _ _ _ => trivial)⟩⟩ rfl rfl hl.1 rfl (lv_room (Nat.le_of_ble_eq_true rfl)) dJ7_copyOfRangeByte_39247_2 ⟨(Nat.zero_le _), (Nat.zero_le _)⟩) hS (fun q _ h => hFc q h) hFc (fun  u t H1 locs ht hvm hw hB hz1 hk1 hS => ?_)
  obtain ⟨hP1, hK1, hD1⟩ := hB
  rw [ht] at hP1
  have hK1 := va_K.moved hvm.symm hK1
  obtain ⟨hP, hD⟩ := va_join (wr := [(q_o, .inl (cB, no, .inl (fun j : Nat => zI (a_o (j : Int)))))]) (w1 := []) hP hD [] [0] rfl rfl (by decide) (by decide) hk1 hFc hP1 hD1
  have hK := (hK.sub (tys' := [(cB, .byte)]) [0] rfl).app hK1
  generalize H1 = H at hP hS ⊢
  have hP : va_P (dC, dI) vwQ [(q_o, .inl (cB, no, .inl (fun j : Nat => zI (a_o (j : Int)))))] H := hP
  have hD : va_D A [(q_o, .inl (cB, no, .inl (fun j : Nat => zI (a_o (j : Int)))))] := hD
  have hK : va_K (dC, dI) vwQ [(cB, .byte)] s := hK
  refine W.widen (k := 0) (n := 0) (Nat.le_of_ble_eq_true rfl) (Nat.le_of_ble_eq_true rfl) ?_
  refine lv_iload_n hx hb dJ7_copyOfRangeByte_39247_5 rfl (lv_at hl 2 rfl) ?_
  refine lv_iload_n hx hb dJ7_copyOfRangeByte_39247_6 rfl (lv_at hl 1 rfl) ?_
  refine lv_isub hx hb dJ7_copyOfRangeByte_39247_7 ?_
  refine lv_topi (fun z ez => ?_)
  obtain rfl : z = zI (n - x0) := ez.trans (zI_sub (n) (x0))
  refine lv_istore_n (lv' := [(3, .int (zI (n - x0))), (0, .ref q_o), (1, .int (zI (x0))), (2, .int (zI (n)))]) hx hb dJ7_copyOfRangeByte_39247_8 rfl hl (by decide) rfl (fun ls hl => ?_)
  refine lv_iload_n hx hb dJ7_copyOfRangeByte_39247_9 rfl (lv_at hl 0 rfl) ?_
  obtain ⟨nw_3, enw_3⟩ : ∃ n9 : Nat, (n9 : Int) = n - x0 := ⟨(n - x0).toNat, by omega⟩
  refine va_newa (ty := .byte) (n := zI (n - x0)) (N' := nw_3) (a0 := (nw_3, .inl (fun _ => 0))) hx hb (ow (k := 3) rfl) rfl hK hP hD hS hA (fun _ => rfl) (zI_nn (by omega) (by omega)) (by rw [zI_cl (by omega) (by omega)]; omega) (by show nw_3 * 1 ≤ 536870912; omega) (show 0 + 1 ≤ 1 from (by omega)) (show 0 + nw_3 ≤ (n).toNat from (by omega)) dJ7_copyOfRangeByte_39247_10 (fun q_1 cA_2 H hK hP hD hS => ?_)
  obtain ⟨az_4, eaz_4⟩ : ∃ f9 : Int → Int, f9 = (fun _ => 0) := ⟨_, rfl⟩
  have hP : va_P (dC, dI) vwQ [(q_o, .inl (cB, no, .inl (fun j : Nat => zI (a_o (j : Int))))), (q_1, .inl (cA_2, nw_3, .inl (fun _ => 0)))] H := hP
  have hD : va_D A [(q_o, .inl (cB, no, .inl (fun j : Nat => zI (a_o (j : Int))))), (q_1, .inl (cA_2, nw_3, .inl (fun _ => 0)))] := hD
  rw [show (fun _ : Nat => (0 : Int32)) = (fun j : Nat => zI (az_4 (j : Int))) from (by rw [eaz_4]; rfl)] at hP hD
  have hP : va_P (dC, dI) vwQ [(q_o, .inl (cB, no, .inl (fun j : Nat => zI (a_o (j : Int))))), (q_1, .inl (cA_2, nw_3, .inl (fun j : Nat => zI (az_4 (j : Int)))))] H := hP
  have hD : va_D A [(q_o, .inl (cB, no, .inl (fun j : Nat => zI (a_o (j : Int))))), (q_1, .inl (cA_2, nw_3, .inl (fun j : Nat => zI (az_4 (j : Int)))))] := hD
  have raz_4 : ∀ j : Int, -128 ≤ az_4 j ∧ az_4 j ≤ 127 := (fun j => by rw [eaz_4]; show -128 ≤ (0 : Int) ∧ (0 : Int) ≤ 127; omega)
  have hK : va_K (dC, dI) vwQ [(cB, .byte), (cA_2, .byte)] s := hK
  refine lv_astore (lv' := [(4, .ref q_1), (3, .int (zI (n - x0))), (0, .ref q_o), (1, .int (zI (x0))), (2, .int (zI (n)))]) hx hb dJ7_copyOfRangeByte_39247_12 hl (by decide) rfl (fun ls hl => ?_)
  refine lv_aload_n hx hb dJ7_copyOfRangeByte_39247_14 rfl (lv_at hl 2 rfl) ?_
  refine lv_iload_n hx hb dJ7_copyOfRangeByte_39247_15 rfl (lv_at hl 3 rfl) ?_
  refine lv_aload hx hb dJ7_copyOfRangeByte_39247_16 (lv_at hl 0 rfl) ?_
  refine lv_iconst (v := 0) hx hb dJ7_copyOfRangeByte_39247_18 (by decide) ?_
  refine lv_aload_n hx hb dJ7_copyOfRangeByte_39247_19 rfl (lv_at hl 2 rfl) ?_
  refine va_alen (v := zI ((no : Int))) hx hb hK hP 0 0 rfl rfl (zI_ofNat no) dJ7_copyOfRangeByte_39247_20 ?_
  refine lv_iload_n hx hb dJ7_copyOfRangeByte_39247_21 rfl (lv_at hl 3 rfl) ?_
  refine lv_isub hx hb dJ7_copyOfRangeByte_39247_22 ?_
  refine lv_topi (fun z ez => ?_)
  obtain rfl : z = zI (((no : Int)) - x0) := ez.trans (zI_sub ((no : Int)) (x0))
  refine lv_iload_n hx hb dJ7_copyOfRangeByte_39247_23 rfl (lv_at hl 1 rfl) ?_
  refine va_mmin hx hb (hml.trans hl.1.symm) hown (ow (k := 4) rfl) (ow (k := 5) rfl) (ow (k := 6) rfl) (ow (k := 7) rfl) (by first | exact Nat.le_of_ble_eq_true rfl | exact (show 1 ≤ 1 from (by omega)) | exact (show (0 + nw_3) ≤ (n).toNat from (by omega))) (by first | exact Nat.le_of_ble_eq_true rfl | exact (show 1 ≤ 1 from (by omega)) | exact (show (0 + nw_3) ≤ (n).toNat from (by omega))) (by first | exact Nat.le_of_ble_eq_true rfl | exact (show 1 ≤ 1 from (by omega)) | exact (show (0 + nw_3) ≤ (n).toNat from (by omega))) (by first | exact Nat.le_of_ble_eq_true rfl | exact (show 1 ≤ 1 from (by omega)) | exact (show (0 + nw_3) ≤ (n).toNat from (by omega))) dJ7_copyOfRangeByte_39247_24 ?_
  refine lv_topi (fun z9 ez => ?_)
  obtain ⟨z_5, rfl, hzz_5⟩ := zI_min (a := ((no : Int)) - x0) (b := n - x0) (by omega) (by omega) (by omega) (by omega) ez
  refine va_copyi (sp := zI (x0)) (dp := zI (0)) (n := zI (z_5)) hx hb (hml.trans hl.1.symm) hown (ow (k := 8) rfl) (ow (k := 9) rfl) (ow (k := 10) rfl) (ow (k := 11) rfl) hK hP hD hS 0 1 0 1 rfl rfl rfl rfl rfl (zI_nn (by omega) (by omega)) (zI_nn (by omega) (by omega)) (zI_nn (by omega) (by omega)) (zI_sum (by omega) (by omega) (by omega) (by omega) (by omega)) (zI_sum (by omega) (by omega) (by omega) (by omega) (by omega)) (fun _ _ => az_fit hR_a_o _) (by first | exact Nat.le_of_ble_eq_true rfl | exact (show 1 ≤ 1 from (by omega)) | exact (show (0 + nw_3) ≤ (n).toNat from (by omega))) (by first | exact Nat.le_of_ble_eq_true rfl | exact (show 1 ≤ 1 from (by omega)) | exact (show (0 + nw_3) ≤ (n).toNat from (by omega))) dJ7_copyOfRangeByte_39247_27 (fun H locs hP hD hS => ?_)
  rw [cpy_zx a_o az_4 (sp := x0) (dp := 0) (n := z_5) (by omega) (by omega) (by omega) (by omega) (by omega) (by omega)] at hP hD
  have ra_6 := cpF_P (P := fun x9 => -128 ≤ x9 ∧ x9 ≤ 127) hR_a_o raz_4 (x0) (0) (z_5)
  obtain ⟨a_6, ea_6⟩ : ∃ a9 : Int → Int, a9 = cpF a_o az_4 (x0) (0) (z_5) := ⟨_, rfl⟩
  rw [← ea_6] at hP hD ra_6
  have ra_6 : ∀ j : Int, -128 ≤ a_6 j ∧ a_6 j ≤ 127 := ra_6
  have hP : va_P (dC, dI) vwQ [(q_o, .inl (cB, no, .inl (fun j : Nat => zI (a_o (j : Int))))), (q_1, .inl (cA_2, nw_3, .inl (fun j : Nat => zI (a_6 (j : Int)))))] H := hP
  have hD : va_D A [(q_o, .inl (cB, no, .inl (fun j : Nat => zI (a_o (j : Int))))), (q_1, .inl (cA_2, nw_3, .inl (fun j : Nat => zI (a_6 (j : Int)))))] := hD
  refine lv_aload hx hb dJ7_copyOfRangeByte_39247_30 (lv_at hl 0 rfl) ?_
  subst hQ
  obtain rfl : cB = cA_2 := cls_eqB hK 0 1 rfl rfl
  have hP : va_P (dC, dI) vwQ [(q_o, .inl (cB, no, .inl (fun j : Nat => zI (a_o (j : Int))))), (q_1, .inl (cB, nw_3, .inl (fun j : Nat => zI (a_6 (j : Int)))))] H := hP
  have hD : va_D A [(q_o, .inl (cB, no, .inl (fun j : Nat => zI (a_o (j : Int))))), (q_1, .inl (cB, nw_3, .inl (fun j : Nat => zI (a_6 (j : Int)))))] := hD
  have hK := hK.sub (tys' := [(cB, .byte)]) [0] rfl
  refine W.widen (k := (1)) (n := ((n).toNat)) (by omega) (by omega) ?_
  exact W.aret (v := .ref q_1) hx hb hr (Or.inr ⟨_, rfl⟩) (Or.inr ⟨_, rfl⟩) (fun t ht hW => ⟨⟨(), q_1, rfl, trivial, nw_3, a_6, ⟨by omega, ra_6, (fun j j0 j1 => by rw [ea_6]; unfold cpF; rw [if_pos (by omega)]; congr 1; omega)⟩, by rw [ht]; exact hP, va_K.moved hW.alike hK, hD⟩, hS.F ht⟩) hS.2.2 dJ7_copyOfRangeByte_39247_32
theorem dJ7_copyOfRange_39247_0 : decode cJ7_copyOfRange_39247 0 = .ok (.iload_n 1, 1) := by decide +kernel
theorem dJ7_copyOfRange_39247_1 : decode cJ7_copyOfRange_39247 1 = .ok (.ifCond .ne 9, 3) := by decide +kernel
theorem dJ7_copyOfRange_39247_4 : decode cJ7_copyOfRange_39247 4 = .ok (.iload_n 2, 1) := by decide +kernel
theorem dJ7_copyOfRange_39247_5 : decode cJ7_copyOfRange_39247 5 = .ok (.aload_n 0, 1) := by decide +kernel
theorem dJ7_copyOfRange_39247_6 : decode cJ7_copyOfRange_39247 6 = .ok (.arraylength, 1) := by decide +kernel
theorem dJ7_copyOfRange_39247_7 : decode cJ7_copyOfRange_39247 7 = .ok (.if_icmp .eq 10, 3) := by decide +kernel
theorem dJ7_copyOfRange_39247_17 : decode cJ7_copyOfRange_39247 17 = .ok (.aload_n 0, 1) := by decide +kernel
theorem dJ7_copyOfRange_39247_18 : decode cJ7_copyOfRange_39247 18 = .ok (.invokevirtual 310, 3) := by decide +kernel
theorem dJ7_copyOfRange_39247_21 : decode cJ7_copyOfRange_39247 21 = .ok (.checkcast 311, 3) := by decide +kernel
theorem dJ7_copyOfRange_39247_24 : decode cJ7_copyOfRange_39247 24 = .ok (.areturn, 1) := by decide +kernel
theorem dJ7_copyOfRange_39247_10 : decode cJ7_copyOfRange_39247 10 = .ok (.aload_n 0, 1) := by decide +kernel
theorem dJ7_copyOfRange_39247_11 : decode cJ7_copyOfRange_39247 11 = .ok (.iload_n 1, 1) := by decide +kernel
theorem dJ7_copyOfRange_39247_12 : decode cJ7_copyOfRange_39247 12 = .ok (.iload_n 2, 1) := by decide +kernel
theorem dJ7_copyOfRange_39247_13 : decode cJ7_copyOfRange_39247 13 = .ok (.invokestatic 339, 3) := by decide +kernel
theorem dJ7_copyOfRange_39247_16 : decode cJ7_copyOfRange_39247 16 = .ok (.areturn, 1) := by decide +kernel
def o_J7_copyOfRange : List Cond := [.methodLink RJ7 310 ⟨"[B", "clone", "()Ljava/lang/Object;"⟩, .sameMethod "[B" "java/lang/Object" "clone" "()Ljava/lang/Object;", .native ⟨"java/lang/Object", "clone", "()Ljava/lang/Object;"⟩, .instanceMethod ⟨"java/lang/Object", "clone", "()Ljava/lang/Object;"⟩, .selects "[B" ⟨"[B", "clone", "()Ljava/lang/Object;"⟩ ⟨"java/lang/Object", "clone", "()Ljava/lang/Object;"⟩, .classLink RJ7 311 "[B", .methodLink RJ7 339 yJ7_copyOfRangeByte_39247, .static yJ7_copyOfRangeByte_39247, .initialized RJ7]
def v_J7_copyOfRange : List Cond := .code yJ7_copyOfRange_39247 cJ7_copyOfRange_39247 3 (some (.array .byte)) :: (o_J7_copyOfRange ++ (v_J7_copyOfRangeB ++ []))
theorem mow_J7_copyOfRange : ∀ w ∈ o_J7_copyOfRange, w ∈ v_J7_copyOfRange := fun _ h => List.mem_cons_of_mem _ (List.mem_append_left _ h)
theorem mem_J7_copyOfRange_0 : ∀ w ∈ v_J7_copyOfRangeB, w ∈ v_J7_copyOfRange := fun _ h => List.mem_cons_of_mem _ (List.mem_append_right _ (List.mem_append_left _ h))
set_option maxRecDepth 20000 in
theorem gw_J7_copyOfRange : v_J7_copyOfRange.all goodWord = true := by decide +kernel
set_option maxRecDepth 20000 in
theorem g_J7_copyOfRange_J7_copyOfRangeB : GoodIn v_J7_copyOfRange (wsS RJ7 339 yJ7_copyOfRangeByte_39247 v_J7_copyOfRangeB) := goodIn_app (goodIn_sub (fun w h => mow_J7_copyOfRange w (by revert w h; decide +kernel)) (by decide +kernel)) (goodIn_sub mem_J7_copyOfRange_0 gw_J7_copyOfRangeB)
set_option maxHeartbeats 4000000 in
set_option maxRecDepth 100000 in
theorem c_J7_copyOfRange (l : Launch) (dC : Nat → ClassId) (dI : Nat → Nat → Nat) (q_o : Nat) (cB : ClassId) (no : Nat) (a_o : Int → Int) (n : Int) (hNno : no ≤ 2000000) (hR_a_o : ∀ j : Int, -128 ≤ a_o j ∧ a_o j ≤ 127) (hNn : 0 ≤ n ∧ n ≤ no) (sz : Nat) : Met l yJ7_copyOfRange_39247 v_J7_copyOfRange ({ frames := 2, cells := (1), slots := ((n).toNat), locals := 84 }) (va_Pc [.ref q_o, .int 0, .int (zI (n))] (fun U => U.heap.size = sz ∧ va_P (dC, dI) vwQ [(q_o, .inl (cB, no, .inl (fun j : Nat => zI (a_o (j : Int)))))] U.heap ∧ va_K (dC, dI) vwQ [(cB, .byte)] U ∧ va_D (fun _ => True) [(q_o, .inl (cB, no, .inl (fun j : Nat => zI (a_o (j : Int)))))] ∧ va_Nw (.castable "[B" "java/lang/Cloneable") U)) (va_Qr (fun _ : Unit => True) (fun (_ : Unit) (rq : Nat) (t : State) => ∃ (nn_9 : Nat) (fn_9 : Int → Int), (((nn_9 : Int) = n ∧ (∀ j : Int, -128 ≤ fn_9 j ∧ fn_9 j ≤ 127) ∧ ∀ j : Int, 0 ≤ j → j < n → fn_9 j = a_o j)) ∧ va_P (dC, dI) vwQ [(q_o, .inl (cB, no, .inl (fun j : Nat => zI (a_o (j : Int))))), (rq, .inl (cB, nn_9, .inl (fun j : Nat => zI (fn_9 (j : Int)))))] t.heap ∧ va_K (dC, dI) vwQ [(cB, .byte)] t ∧ va_D (va_A [(q_o, .inl (cB, no, .inl (fun j : Nat => zI (a_o (j : Int)))))] sz) [(q_o, .inl (cB, no, .inl (fun j : Nat => zI (a_o (j : Int))))), (rq, .inl (cB, nn_9, .inl (fun j : Nat => zI (fn_9 (j : Int)))))]) (va_A [(q_o, .inl (cB, no, .inl (fun j : Nat => zI (a_o (j : Int)))))] sz)) (1) ((n).toNat) (va_A [(q_o, .inl (cB, no, .inl (fun j : Nat => zI (a_o (j : Int)))))] sz) := by
  refine Met.ofW (cc := cJ7_copyOfRange_39247) (maxL := 3) (ret := (some (.array .byte))) (by decide) rfl ?_
  intro p e s m args below meth c s₁ B hml hv
  obtain ⟨rfl, hsz, hP, hK, hD0, hp0⟩ := hv
  have hx := B.exec
  have hb := B.bytes
  have hr := B.returns
  have hts := atoms_spec (ws := v_J7_copyOfRange) B.pre
  have hown : s.vm.findClass RJ7 = some m.cls := findClass_of_methodNamed B.named
  have hlocks := B.notSynchronized
  have ow : ∀ {k : Nat} {w : Cond}, o_J7_copyOfRange[k]? = some w → w.before ([.ref q_o, .int 0, .int (zI (n))] : List Value).toArray s = true := fun h => hts _ (mow_J7_copyOfRange _ (List.mem_of_getElem? h))
  subst hsz
  have hD := hD0.self (sz := s.heap.size)
  generalize hAe : va_A [(q_o, .inl (cB, no, .inl (fun j : Nat => zI (a_o (j : Int)))))] s.heap.size = A at hD ⊢
  have hA : ∀ q : Nat, s.heap.size ≤ q → A q := fun q h => by rw [← hAe]; exact Or.inr h
  have hS : va_S A s.heap s.heap [] := va_S.rf
  have hP : va_P (dC, dI) vwQ [(q_o, .inl (cB, no, .inl (fun j : Nat => zI (a_o (j : Int)))))] s.heap := hP
  have hl := lv_entry ([.ref q_o, .int 0, .int (zI (n))]) (n := 3) (Nat.le_of_ble_eq_true rfl)
  rw [lg_entry_eq]
  generalize (lg_sl ([.ref q_o, .int 0, .int (zI (n))]) ++ List.replicate (3 - (lg_sl ([.ref q_o, .int 0, .int (zI (n))])).length) Slot.unset).toArray = ls at hl ⊢
  have hl : lv_has ls 3 [(0, .ref q_o), (1, .int 0), (2, .int (zI (n)))] := hl
  obtain ⟨H, hH⟩ : ∃ H, H = s.heap := ⟨_, rfl⟩
  rw [← hH] at hP
  have hS : va_S A s.heap H [] := by rw [hH]; exact hS
  rw [← hH]
  refine zW_cap (fun Q hQ => ?_)
  refine lv_iload_n hx hb dJ7_copyOfRange_39247_0 rfl (lv_at hl 1 rfl) ?_
  refine lv_if_ne (tgt := 10) hx hb dJ7_copyOfRange_39247_1 (by decide) (fun h9 => absurd h9 (by decide)) (fun _ => ?_)
  refine lv_iload_n hx hb dJ7_copyOfRange_39247_4 rfl (lv_at hl 2 rfl) ?_
  refine lv_aload_n hx hb dJ7_copyOfRange_39247_5 rfl (lv_at hl 0 rfl) ?_
  refine va_alen (v := zI ((no : Int))) hx hb hK hP 0 0 rfl rfl (zI_ofNat no) dJ7_copyOfRange_39247_6 ?_
  refine lv_icmp_eq (tgt := 17) hx hb dJ7_copyOfRange_39247_7 (by decide) (fun b7 => ?_) (fun b7 => ?_)
  · have yb7 : (n : Int) = ((no : Int) : Int) := (zI_eq (a := n) (b := (no : Int)) (by omega) (by omega) (by omega) (by omega)).mp b7
    refine lv_aload_n hx hb dJ7_copyOfRange_39247_17 rfl (lv_at hl 0 rfl) ?_
    refine va_clone hx hb (hml.trans hl.1.symm) hown (ow (k := 0) rfl) (ow (k := 1) rfl) (ow (k := 2) rfl) (ow (k := 3) rfl) (ow (k := 4) rfl) hp0 hK hP hD hS hA 0 0 rfl rfl (hK.2 0 _ rfl).2 (va_fit (fun i _ => az_fit hR_a_o i)) (by first | exact Nat.le_of_ble_eq_true rfl | exact (show 0 ≤ 1 from (by omega)) | exact (show 0 ≤ (n).toNat from (by omega))) (by first | exact Nat.le_of_ble_eq_true rfl | exact (show 0 ≤ 1 from (by omega)) | exact (show 0 ≤ (n).toNat from (by omega))) (show 0 + 1 ≤ 1 from (by omega)) (show 0 + no ≤ (n).toNat from (by omega)) dJ7_copyOfRange_39247_18 (fun q_1 H hK hP hD hS => ?_)
    have hP : va_P (dC, dI) vwQ [(q_o, .inl (cB, no, .inl (fun j : Nat => zI (a_o (j : Int))))), (q_1, .inl (cB, no, .inl (fun j : Nat => zI (a_o (j : Int)))))] H := hP
    have hD : va_D A [(q_o, .inl (cB, no, .inl (fun j : Nat => zI (a_o (j : Int))))), (q_1, .inl (cB, no, .inl (fun j : Nat => zI (a_o (j : Int)))))] := hD
    have hK : va_K (dC, dI) vwQ [(cB, .byte), (cB, .byte)] s := hK
    refine va_castA hx hb hown (ow (k := 5) rfl) hP 1 rfl (hK.2 0 _ rfl).2 dJ7_copyOfRange_39247_21 ?_
    subst hQ
    have hK := hK.sub (tys' := [(cB, .byte)]) [0] rfl
    refine W.widen (k := (1)) (n := ((n).toNat)) (by omega) (by omega) ?_
    exact W.aret (v := .ref q_1) hx hb hr (Or.inr ⟨_, rfl⟩) (Or.inr ⟨_, rfl⟩) (fun t ht hW => ⟨⟨(), q_1, rfl, trivial, no, a_o, ⟨by omega, hR_a_o, fun j _ _ => rfl⟩, by rw [ht]; exact hP, va_K.moved hW.alike hK, hD⟩, hS.F ht⟩) hS.2.2 dJ7_copyOfRange_39247_24
  · have yb7 : ¬ (n : Int) = ((no : Int) : Int) := fun q => b7 ((zI_eq (a := n) (b := (no : Int)) (by omega) (by omega) (by omega) (by omega)).mpr q)
    refine lv_aload_n hx hb dJ7_copyOfRange_39247_10 rfl (lv_at hl 0 rfl) ?_
    refine lv_iload_n hx hb dJ7_copyOfRange_39247_11 rfl (lv_at hl 1 rfl) ?_
    refine lv_iload_n hx hb dJ7_copyOfRange_39247_12 rfl (lv_at hl 2 rfl) ?_
    have hPc := hP.sub (ws' := [(q_o, .inl (cB, no, .inl (fun j : Nat => zI (a_o (j : Int)))))]) [0] rfl
    have hDc := hD.sub (ws' := [(q_o, .inl (cB, no, .inl (fun j : Nat => zI (a_o (j : Int)))))]) [0] (by decide) rfl
    have hKc := hK.sub (tys' := [(cB, .byte)]) [0] rfl
    have hFc := va_free (wc := [(q_o, .inl (cB, no, .inl (fun j : Nat => zI (a_o (j : Int)))))]) hD hS hA [0] rfl
    refine va_callr (va_runS (As := [.ref q_o, .int 0, .int (zI (n))]) (rest := []) ⟨hx, hb, hml, hown, hts⟩ (c_J7_copyOfRangeB l dC dI q_o cB no a_o 0 n (by omega) hR_a_o (by omega) H.size) (cwS 3 hts g_J7_copyOfRange_J7_copyOfRangeB rfl rfl rfl (by decide +kernel) ⟨(Nat.le_of_ble_eq_true rfl), (Nat.le_of_ble_eq_true rfl)⟩) ⟨fun a U g mk q => by obtain ⟨q0, q1, qP, qK, qD⟩ := q; exact ⟨q0, q1, qP, va_K.moved (u := U) (U := U.calling g mk a) (Vm.Alike.refl U.vm) qK, qD⟩, fun U hU hW => ⟨rfl, by rw [hU], by rw [hU]; exact hPc, va_K.moved hW.alike hKc, hDc.weaken (fun _ _ _ _ => trivial)⟩⟩ rfl rfl hl.1 rfl (lv_room (Nat.le_of_ble_eq_true rfl)) dJ7_copyOfRange_39247_13 ⟨(show 0 + (1) ≤ 1 from (by omega)), (show 0 + ((n).toNat) ≤ (n).toNat from (by omega))⟩) hS (fun q _ h => hFc q h) hFc (fun u q_2 t H1 locs ht hvm hw hB hz1 hk1 hS => ?_)
    obtain ⟨nn_3, fn_4, hxt_4, hP1, hK1, hD1⟩ := hB
    rw [ht] at hP1
    have hK1 := va_K.moved hvm.symm hK1
    obtain ⟨hP, hD⟩ := va_join (wr := []) (w1 := [(q_o, .inl (cB, no, .inl (fun j : Nat => zI (a_o (j : Int))))), (q_2, .inl (cB, nn_3, .inl (fun j : Nat => zI (fn_4 (j : Int)))))]) hP hD [0] [] rfl rfl (by decide) (by decide) hk1 hFc hP1 hD1
    have hK := (hK.sub (tys' := []) [] rfl).app hK1
    generalize H1 = H at hP hS ⊢
    have hP : va_P (dC, dI) vwQ [(q_o, .inl (cB, no, .inl (fun j : Nat => zI (a_o (j : Int))))), (q_2, .inl (cB, nn_3, .inl (fun j : Nat => zI (fn_4 (j : Int)))))] H := hP
    have hD : va_D A [(q_o, .inl (cB, no, .inl (fun j : Nat => zI (a_o (j : Int))))), (q_2, .inl (cB, nn_3, .inl (fun j : Nat => zI (fn_4 (j : Int)))))] := hD
    have hK : va_K (dC, dI) vwQ [(cB, .byte)] s := hK
    refine W.widen (k := (0 + (1))) (n := (0 + ((n).toNat))) (by omega) (by omega) ?_
    subst hQ
    refine W.widen (k := (1)) (n := ((n).toNat)) (by omega) (by omega) ?_
    exact W.aret (v := .ref q_2) hx hb hr (Or.inr ⟨_, rfl⟩) (Or.inr ⟨_, rfl⟩) (fun t ht hW => ⟨⟨(), q_2, rfl, trivial, nn_3, fn_4, hxt_4, by rw [ht]; exact hP, va_K.moved hW.alike hK, hD⟩, hS.F ht⟩) hS.2.2 dJ7_copyOfRange_39247_16
