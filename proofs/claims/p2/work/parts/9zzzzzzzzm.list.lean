def o_J7_copyOf3R : List Cond := [.classLink RJ7 110 "[Ljava/lang/Object;", .classLink RJ7 2 "java/lang/Object", .methodLink RJ7 304 Lib.Math.min.name, .static Lib.Math.min.name, .initialized "java/lang/Math", .code Lib.Math.min.name Lib.Math.min.code 2 (some .int), .methodLink RJ7 150 arraycopyName, .native arraycopyName, .static arraycopyName, .initialized "java/lang/System"]
def v_J7_copyOf3R : List Cond := .code yJ7_copyOf_6403c cJ7_copyOf_6403c 4 (some (.array (.object "java/lang/Object"))) :: (o_J7_copyOf3R ++ [])
theorem mow_J7_copyOf3R : ∀ w ∈ o_J7_copyOf3R, w ∈ v_J7_copyOf3R := fun _ h => List.mem_cons_of_mem _ (List.mem_append_left _ h)
set_option maxRecDepth 20000 in
theorem gw_J7_copyOf3R : v_J7_copyOf3R.all goodWord = true := by decide +kernel
set_option maxHeartbeats 4000000 in
set_option maxRecDepth 100000 in
theorem c_J7_copyOf3R (l : Launch) (dC : Nat → ClassId) (dI : Nat → Nat → Nat) (q_o : Nat) (cO : ClassId) (no : Nat) (fo : Nat → Option Nat) (L : List Nat) (P : PO) (n : Int) (hNno : no ≤ 100000) (hNn : (no : Int) ≤ n ∧ n ≤ 100000) (hX_el : ELS L P fo) (sz : Nat) (sx_mi : Nat) : Met l yJ7_copyOf_6403c v_J7_copyOf3R ({ frames := 1, cells := (1), slots := ((n).toNat), locals := 60 }) (va_Pc [.ref q_o, .int (zI (n)), .ref sx_mi] (fun U => U.heap.size = sz ∧ va_P (dC, dI) vwQ ([(q_o, .inl (cO, no, .inr (.inr (.inr (.inr fo)))))] ++ va_pl L (pE P)) U.heap ∧ va_K (dC, dI) vwQ [(cO, .object "java/lang/Object")] U ∧ va_D (fun _ => True) ([(q_o, .inl (cO, no, .inr (.inr (.inr (.inr fo)))))] ++ va_pl L (pE P)) ∧ va_Mi "[Ljava/lang/Object;" sx_mi U ∧ va_AO "java/lang/Object" U ∧ va_Nw (.castable "SsaForgeModel$Row" "java/lang/Object") U ∧ va_Nw (.castable "SsaForgeModel$Phi" "java/lang/Object") U ∧ va_Nw (.castable "SsaForgeModel$Block" "java/lang/Object") U)) (va_Qr (fun _ : Unit => True) (fun (_ : Unit) (rq : Nat) (t : State) => ∃ (cn_9 : ClassId) (nn_9 : Nat) (fn_9 : Nat → Option Nat), (((nn_9 : Int) = n ∧ ELS L P fn_9 ∧ ∀ j : Nat, j < no → fn_9 j = fo j)) ∧ va_P (dC, dI) vwQ ([(q_o, .inl (cO, no, .inr (.inr (.inr (.inr fo))))), (rq, .inl (cn_9, nn_9, .inr (.inr (.inr (.inr fn_9)))))] ++ va_pl L (pE P)) t.heap ∧ va_K (dC, dI) vwQ [(cO, .object "java/lang/Object"), (cn_9, .object "java/lang/Object")] t ∧ va_D (va_A ([(q_o, .inl (cO, no, .inr (.inr (.inr (.inr fo)))))] ++ va_pl L (pE P)) sz) ([(q_o, .inl (cO, no, .inr (.inr (.inr (.inr fo))))), (rq, .inl (cn_9, nn_9, .inr (.inr (.inr (.inr fn_9)))))] ++ va_pl L (pE P))) (va_A ([(q_o, .inl (cO, no, .inr (.inr (.inr (.inr fo)))))] ++ va_pl L (pE P)) sz)) (1) ((n).toNat) (va_A ([(q_o, .inl (cO, no, .inr (.inr (.inr (.inr fo)))))] ++ va_pl L (pE P)) sz) := by
  refine Met.ofW (cc := cJ7_copyOf_6403c) (maxL := 4) (ret := (some (.array (.object "java/lang/Object")))) (by decide) rfl ?_
  intro p e s m args below meth c s₁ B hml hv
  obtain ⟨rfl, hsz, hP, hK, hD0, hp0, hp1, hp2, hp3, hp4⟩ := hv
  have hx := B.exec
  have hb := B.bytes
  have hr := B.returns
  have hts := atoms_spec (ws := v_J7_copyOf3R) B.pre
  have hown : s.vm.findClass RJ7 = some m.cls := findClass_of_methodNamed B.named
  have hlocks := B.notSynchronized
  have ow : ∀ {k : Nat} {w : Cond}, o_J7_copyOf3R[k]? = some w → w.before ([.ref q_o, .int (zI (n)), .ref sx_mi] : List Value).toArray s = true := fun h => hts _ (mow_J7_copyOf3R _ (List.mem_of_getElem? h))
  subst hsz
  have hD := hD0.self (sz := s.heap.size)
  generalize hAe : va_A ([(q_o, .inl (cO, no, .inr (.inr (.inr (.inr fo)))))] ++ va_pl L (pE P)) s.heap.size = A at hD hp1 ⊢
  have hA : ∀ q : Nat, s.heap.size ≤ q → A q := fun q h => by rw [← hAe]; exact Or.inr h
  have hS : va_S A s.heap s.heap [] := va_S.rf
  have hP : va_P (dC, dI) vwQ ([(q_o, .inl (cO, no, .inr (.inr (.inr (.inr fo)))))] ++ va_pl L (pE P)) s.heap := hP
  have hl := lv_entry ([.ref q_o, .int (zI (n)), .ref sx_mi]) (n := 4) (Nat.le_of_ble_eq_true rfl)
  rw [lg_entry_eq]
  generalize (lg_sl ([.ref q_o, .int (zI (n)), .ref sx_mi]) ++ List.replicate (4 - (lg_sl ([.ref q_o, .int (zI (n)), .ref sx_mi])).length) Slot.unset).toArray = ls at hl ⊢
  have hl : lv_has ls 4 [(0, .ref q_o), (1, .int (zI (n))), (2, .ref sx_mi)] := hl
  obtain ⟨H, hH⟩ : ∃ H, H = s.heap := ⟨_, rfl⟩
  rw [← hH] at hP
  have hS : va_S A s.heap H [] := by rw [hH]; exact hS
  rw [← hH]
  refine zW_cap (fun Q hQ => ?_)
  refine lv_aload_n hx hb dJ7_copyOf_6403c_0 rfl (lv_at hl 2 rfl) ?_
  refine va_ldcM hx hb hown (ow (k := 0) rfl) hp0 dJ7_copyOf_6403c_1 ?_
  refine lv_acmp_ne (rx := some sx_mi) (ry := some sx_mi) (tgt := 13) hx hb dJ7_copyOf_6403c_3 (by decide) (fun h9 => absurd rfl h9) (fun _ => ?_)
  refine lv_iload_n hx hb dJ7_copyOf_6403c_6 rfl (lv_at hl 1 rfl) ?_
  obtain ⟨nw_3, enw_3⟩ : ∃ n9 : Nat, (n9 : Int) = n := ⟨(n).toNat, by omega⟩
  refine va_newq (n := zI (n)) (N' := nw_3) hx hb hown (ow (k := 1) rfl) hp1 hK hP hD hS hA (zI_nn (by omega) (by omega)) (by rw [zI_cl (by omega) (by omega)]; omega) (by omega) (show 0 + 1 ≤ 1 from (by omega)) (show 0 + nw_3 ≤ (n).toNat from (by omega)) dJ7_copyOf_6403c_7 (fun q_1 cA_2 H hK hP hD hS => ?_)
  have hP := pl_Pp (pl_new (X := [(q_o, .inl (cO, no, .inr (.inr (.inr (.inr fo)))))]) (pl := va_pl L (pE P))) hP
  have hD := pl_Dp (pl_new (X := [(q_o, .inl (cO, no, .inr (.inr (.inr (.inr fo)))))]) (pl := va_pl L (pE P))) hD
  have hP : va_P (dC, dI) vwQ ([(q_o, .inl (cO, no, .inr (.inr (.inr (.inr fo))))), (q_1, .inl (cA_2, nw_3, .inr (.inr (.inr (.inr (fun _ => none))))))] ++ va_pl L (pE P)) H := hP
  have hD : va_D A ([(q_o, .inl (cO, no, .inr (.inr (.inr (.inr fo))))), (q_1, .inl (cA_2, nw_3, .inr (.inr (.inr (.inr (fun _ => none))))))] ++ va_pl L (pE P)) := hD
  have hK : va_K (dC, dI) vwQ [(cO, .object "java/lang/Object"), (cA_2, .object "java/lang/Object")] s := hK
  refine lv_goto (tgt := 24) hx hb dJ7_copyOf_6403c_10 (by decide) ?_
  refine lv_astore_n (lv' := [(3, .ref q_1), (0, .ref q_o), (1, .int (zI (n))), (2, .ref sx_mi)]) hx hb dJ7_copyOf_6403c_24 rfl hl (by decide) rfl (fun ls hl => ?_)
  refine lv_aload_n hx hb dJ7_copyOf_6403c_25 rfl (lv_at hl 1 rfl) ?_
  refine lv_iconst (v := 0) hx hb dJ7_copyOf_6403c_26 (by decide) ?_
  refine lv_aload_n hx hb dJ7_copyOf_6403c_27 rfl (lv_at hl 0 rfl) ?_
  refine lv_iconst (v := 0) hx hb dJ7_copyOf_6403c_28 (by decide) ?_
  refine lv_aload_n hx hb dJ7_copyOf_6403c_29 rfl (lv_at hl 1 rfl) ?_
  refine va_alen (v := zI ((no : Int))) hx hb hK hP 0 0 rfl rfl (zI_ofNat no) dJ7_copyOf_6403c_30 ?_
  refine lv_iload_n hx hb dJ7_copyOf_6403c_31 rfl (lv_at hl 2 rfl) ?_
  refine va_mmin hx hb (hml.trans hl.1.symm) hown (ow (k := 2) rfl) (ow (k := 3) rfl) (ow (k := 4) rfl) (ow (k := 5) rfl) (by first | exact Nat.le_of_ble_eq_true rfl | exact (show 1 ≤ 1 from (by omega)) | exact (show (0 + nw_3) ≤ (n).toNat from (by omega))) (by first | exact Nat.le_of_ble_eq_true rfl | exact (show 1 ≤ 1 from (by omega)) | exact (show (0 + nw_3) ≤ (n).toNat from (by omega))) (by first | exact Nat.le_of_ble_eq_true rfl | exact (show 1 ≤ 1 from (by omega)) | exact (show (0 + nw_3) ≤ (n).toNat from (by omega))) (by first | exact Nat.le_of_ble_eq_true rfl | exact (show 1 ≤ 1 from (by omega)) | exact (show (0 + nw_3) ≤ (n).toNat from (by omega))) dJ7_copyOf_6403c_32 ?_
  refine lv_topi (fun z9 ez => ?_)
  obtain ⟨z_4, rfl, hzz_4⟩ := zI_min (a := (no : Int)) (b := n) (by omega) (by omega) (by omega) (by omega) ez
  refine va_copyM (sp := zI (0)) (dp := zI (0)) (n := zI (z_4)) hx hb (hml.trans hl.1.symm) hown (ow (k := 6) rfl) (ow (k := 7) rfl) (ow (k := 8) rfl) (ow (k := 9) rfl) hK hP hD hS 0 1 0 1 rfl rfl rfl rfl (zI_nn (by omega) (by omega)) (zI_nn (by omega) (by omega)) (zI_nn (by omega) (by omega)) (zI_sum (by omega) (by omega) (by omega) (by omega) (by omega)) (zI_sum (by omega) (by omega) (by omega) (by omega) (by omega)) (fun i9 _ y9 h9 => pool_any hK hP (hX_el _ _ h9).1 (hX_el _ _ h9).2 hp2 hp3 hp4) (by first | exact Nat.le_of_ble_eq_true rfl | exact (show 1 ≤ 1 from (by omega)) | exact (show (0 + nw_3) ≤ (n).toNat from (by omega))) (by first | exact Nat.le_of_ble_eq_true rfl | exact (show 1 ≤ 1 from (by omega)) | exact (show (0 + nw_3) ≤ (n).toNat from (by omega))) dJ7_copyOf_6403c_35 (fun H locs hP hD hS => ?_)
  have hP : va_P (dC, dI) vwQ ([(q_o, .inl (cO, no, .inr (.inr (.inr (.inr fo))))), (q_1, .inl (cA_2, nw_3, .inr (.inr (.inr (.inr (va_cpy fo (fun _ => none) (zI (0)).toNatClampNeg (zI (0)).toNatClampNeg (zI (z_4)).toNatClampNeg))))))] ++ va_pl L (pE P)) H := hP
  have hD : va_D A ([(q_o, .inl (cO, no, .inr (.inr (.inr (.inr fo))))), (q_1, .inl (cA_2, nw_3, .inr (.inr (.inr (.inr (va_cpy fo (fun _ => none) (zI (0)).toNatClampNeg (zI (0)).toNatClampNeg (zI (z_4)).toNatClampNeg))))))] ++ va_pl L (pE P)) := hD
  generalize efo_5 : (va_cpy fo (fun _ => none) (zI (0)).toNatClampNeg (zI (0)).toNatClampNeg (zI (z_4)).toNatClampNeg) = fo_5 at hP hD
  rw [zI_cl (a := 0) (by omega) (by omega), zI_cl (a := z_4) (by omega) (by omega)] at efo_5
  have hP : va_P (dC, dI) vwQ ([(q_o, .inl (cO, no, .inr (.inr (.inr (.inr fo))))), (q_1, .inl (cA_2, nw_3, .inr (.inr (.inr (.inr fo_5)))))] ++ va_pl L (pE P)) H := hP
  have hD : va_D A ([(q_o, .inl (cO, no, .inr (.inr (.inr (.inr fo))))), (q_1, .inl (cA_2, nw_3, .inr (.inr (.inr (.inr fo_5)))))] ++ va_pl L (pE P)) := hD
  refine lv_aload_n hx hb dJ7_copyOf_6403c_38 rfl (lv_at hl 0 rfl) ?_
  subst hQ
  refine W.widen (k := (1)) (n := ((n).toNat)) (by omega) (by omega) ?_
  exact W.aret (v := .ref q_1) hx hb hr (Or.inr ⟨_, rfl⟩) (Or.inr ⟨_, rfl⟩) (fun t ht hW => ⟨⟨(), q_1, rfl, trivial, cA_2, nw_3, fo_5, ⟨by omega, (by rw [← efo_5]; exact hX_el.cpy (els_empty L P) _ _ _), (fun j h9 => by rw [← efo_5]; exact cpy_head (by omega))⟩, by rw [ht]; exact hP, va_K.moved hW.alike hK, hD⟩, hS.F ht⟩) hS.2.2 dJ7_copyOf_6403c_39
def o_J7_copyOf2R : List Cond := [.methodLink RJ7 86 ⟨"java/lang/Object", "getClass", "()Ljava/lang/Class;"⟩, .selects "[Ljava/lang/Object;" ⟨"java/lang/Object", "getClass", "()Ljava/lang/Class;"⟩ ⟨"java/lang/Object", "getClass", "()Ljava/lang/Class;"⟩, .instanceMethod ⟨"java/lang/Object", "getClass", "()Ljava/lang/Class;"⟩, .native ⟨"java/lang/Object", "getClass", "()Ljava/lang/Class;"⟩, .methodLink RJ7 300 yJ7_copyOf_6403c, .static yJ7_copyOf_6403c, .initialized RJ7]
def v_J7_copyOf2R : List Cond := .code yJ7_copyOf_1904c cJ7_copyOf_1904c 2 (some (.array (.object "java/lang/Object"))) :: (o_J7_copyOf2R ++ (v_J7_copyOf3R ++ []))
theorem mow_J7_copyOf2R : ∀ w ∈ o_J7_copyOf2R, w ∈ v_J7_copyOf2R := fun _ h => List.mem_cons_of_mem _ (List.mem_append_left _ h)
theorem mem_J7_copyOf2R_0 : ∀ w ∈ v_J7_copyOf3R, w ∈ v_J7_copyOf2R := fun _ h => List.mem_cons_of_mem _ (List.mem_append_right _ (List.mem_append_left _ h))
set_option maxRecDepth 20000 in
theorem gw_J7_copyOf2R : v_J7_copyOf2R.all goodWord = true := by decide +kernel
set_option maxRecDepth 20000 in
theorem g_J7_copyOf2R_J7_copyOf3R : GoodIn v_J7_copyOf2R (wsS RJ7 300 yJ7_copyOf_6403c v_J7_copyOf3R) := goodIn_app (goodIn_sub (fun w h => mow_J7_copyOf2R w (by revert w h; decide +kernel)) (by decide +kernel)) (goodIn_sub mem_J7_copyOf2R_0 gw_J7_copyOf3R)
set_option maxHeartbeats 4000000 in
set_option maxRecDepth 100000 in
theorem c_J7_copyOf2R (l : Launch) (dC : Nat → ClassId) (dI : Nat → Nat → Nat) (q_o : Nat) (cO : ClassId) (no : Nat) (fo : Nat → Option Nat) (L : List Nat) (P : PO) (n : Int) (hNno : no ≤ 100000) (hNn : (no : Int) ≤ n ∧ n ≤ 100000) (hX_el : ELS L P fo) (sz : Nat) (sx_mi : Nat) : Met l yJ7_copyOf_1904c v_J7_copyOf2R ({ frames := 2, cells := (1), slots := ((n).toNat), locals := 83 }) (va_Pc [.ref q_o, .int (zI (n))] (fun U => U.heap.size = sz ∧ va_P (dC, dI) vwQ ([(q_o, .inl (cO, no, .inr (.inr (.inr (.inr fo)))))] ++ va_pl L (pE P)) U.heap ∧ va_K (dC, dI) vwQ [(cO, .object "java/lang/Object")] U ∧ va_D (fun _ => True) ([(q_o, .inl (cO, no, .inr (.inr (.inr (.inr fo)))))] ++ va_pl L (pE P)) ∧ va_Dc U ∧ va_Mi "[Ljava/lang/Object;" sx_mi U ∧ va_AO "java/lang/Object" U ∧ va_Nw (.castable "SsaForgeModel$Row" "java/lang/Object") U ∧ va_Nw (.castable "SsaForgeModel$Phi" "java/lang/Object") U ∧ va_Nw (.castable "SsaForgeModel$Block" "java/lang/Object") U)) (va_Qr (fun _ : Unit => True) (fun (_ : Unit) (rq : Nat) (t : State) => ∃ (cn_9 : ClassId) (nn_9 : Nat) (fn_9 : Nat → Option Nat), (((nn_9 : Int) = n ∧ ELS L P fn_9 ∧ ∀ j : Nat, j < no → fn_9 j = fo j)) ∧ va_P (dC, dI) vwQ ([(q_o, .inl (cO, no, .inr (.inr (.inr (.inr fo))))), (rq, .inl (cn_9, nn_9, .inr (.inr (.inr (.inr fn_9)))))] ++ va_pl L (pE P)) t.heap ∧ va_K (dC, dI) vwQ [(cO, .object "java/lang/Object"), (cn_9, .object "java/lang/Object")] t ∧ va_D (va_A ([(q_o, .inl (cO, no, .inr (.inr (.inr (.inr fo)))))] ++ va_pl L (pE P)) sz) ([(q_o, .inl (cO, no, .inr (.inr (.inr (.inr fo))))), (rq, .inl (cn_9, nn_9, .inr (.inr (.inr (.inr fn_9)))))] ++ va_pl L (pE P))) (va_A ([(q_o, .inl (cO, no, .inr (.inr (.inr (.inr fo)))))] ++ va_pl L (pE P)) sz)) (1) ((n).toNat) (va_A ([(q_o, .inl (cO, no, .inr (.inr (.inr (.inr fo)))))] ++ va_pl L (pE P)) sz) := by
  refine Met.ofW (cc := cJ7_copyOf_1904c) (maxL := 2) (ret := (some (.array (.object "java/lang/Object")))) (by decide) rfl ?_
  intro p e s m args below meth c s₁ B hml hv
  obtain ⟨rfl, hsz, hP, hK, hD0, hp0, hp1, hp2, hp3, hp4, hp5⟩ := hv
  have hx := B.exec
  have hb := B.bytes
  have hr := B.returns
  have hts := atoms_spec (ws := v_J7_copyOf2R) B.pre
  have hown : s.vm.findClass RJ7 = some m.cls := findClass_of_methodNamed B.named
  have hlocks := B.notSynchronized
  have ow : ∀ {k : Nat} {w : Cond}, o_J7_copyOf2R[k]? = some w → w.before ([.ref q_o, .int (zI (n))] : List Value).toArray s = true := fun h => hts _ (mow_J7_copyOf2R _ (List.mem_of_getElem? h))
  subst hsz
  have hD := hD0.self (sz := s.heap.size)
  generalize hAe : va_A ([(q_o, .inl (cO, no, .inr (.inr (.inr (.inr fo)))))] ++ va_pl L (pE P)) s.heap.size = A at hD hp2 ⊢
  have hA : ∀ q : Nat, s.heap.size ≤ q → A q := fun q h => by rw [← hAe]; exact Or.inr h
  have hS : va_S A s.heap s.heap [] := va_S.rf
  have hP : va_P (dC, dI) vwQ ([(q_o, .inl (cO, no, .inr (.inr (.inr (.inr fo)))))] ++ va_pl L (pE P)) s.heap := hP
  have hl := lv_entry ([.ref q_o, .int (zI (n))]) (n := 2) (Nat.le_of_ble_eq_true rfl)
  rw [lg_entry_eq]
  generalize (lg_sl ([.ref q_o, .int (zI (n))]) ++ List.replicate (2 - (lg_sl ([.ref q_o, .int (zI (n))])).length) Slot.unset).toArray = ls at hl ⊢
  have hl : lv_has ls 2 [(0, .ref q_o), (1, .int (zI (n)))] := hl
  obtain ⟨H, hH⟩ : ∃ H, H = s.heap := ⟨_, rfl⟩
  rw [← hH] at hP
  have hS : va_S A s.heap H [] := by rw [hH]; exact hS
  rw [← hH]
  refine zW_cap (fun Q hQ => ?_)
  refine lv_aload_n hx hb dJ7_copyOf_1904c_0 rfl (lv_at hl 0 rfl) ?_
  refine lv_iload_n hx hb dJ7_copyOf_1904c_1 rfl (lv_at hl 1 rfl) ?_
  refine lv_aload_n hx hb dJ7_copyOf_1904c_2 rfl (lv_at hl 0 rfl) ?_
  refine va_getC hx hb (hml.trans hl.1.symm) hown (ow (k := 0) rfl) (va_Dc.use hp0) (ow (k := 1) rfl) (ow (k := 2) rfl) (ow (k := 3) rfl) hp1 (arr_cls hK hP 0 0 rfl rfl) (by first | exact Nat.le_of_ble_eq_true rfl | exact (show 0 ≤ 1 from (by omega)) | exact (show 0 ≤ (n).toNat from (by omega))) (by first | exact Nat.le_of_ble_eq_true rfl | exact (show 0 ≤ 1 from (by omega)) | exact (show 0 ≤ (n).toNat from (by omega))) dJ7_copyOf_1904c_3 ?_
  have hPc := hP.part (X := [(q_o, .inl (cO, no, .inr (.inr (.inr (.inr fo)))))]) (cx := [(q_o, .inl (cO, no, .inr (.inr (.inr (.inr fo)))))]) (pl := va_pl L (pE P)) [0] rfl
  have hDc := hD.part (X := [(q_o, .inl (cO, no, .inr (.inr (.inr (.inr fo)))))]) (cx := [(q_o, .inl (cO, no, .inr (.inr (.inr (.inr fo)))))]) (pl := va_pl L (pE P)) [0] (by decide) rfl
  have hKc := hK.sub (tys' := [(cO, .object "java/lang/Object")]) [0] rfl
  have hFc := va_freeP (X := [(q_o, .inl (cO, no, .inr (.inr (.inr (.inr fo)))))]) (cx := [(q_o, .inl (cO, no, .inr (.inr (.inr (.inr fo)))))]) (pl := va_pl L (pE P)) hD hS hA [0] rfl
  refine va_callr (va_runS (As := [.ref q_o, .int (zI (n)), .ref sx_mi]) (rest := []) ⟨hx, hb, hml, hown, hts⟩ (c_J7_copyOf3R l dC dI q_o cO no fo L P n (by omega) (by omega) hX_el H.size sx_mi) (cwS 3 hts g_J7_copyOf2R_J7_copyOf3R rfl rfl rfl (by decide +kernel) ⟨(Nat.le_of_ble_eq_true rfl), (Nat.le_of_ble_eq_true rfl)⟩) ⟨fun a U g mk q => by obtain ⟨q0, q1, qP, qK, qD, e0, e1, e2, e3, e4⟩ := q; exact ⟨q0, q1, qP, va_K.moved (u := U) (U := U.calling g mk a) (Vm.Alike.refl U.vm) qK, qD, va_Mi.moved (u := U) (U := U.calling g mk a) (Vm.Alike.refl U.vm) e0, va_AO.moved (u := U) (U := U.calling g mk a) (Vm.Alike.refl U.vm) e1, va_Nw.same rfl (u := U) (U := U.calling g mk a) rfl e2, va_Nw.same rfl (u := U) (U := U.calling g mk a) rfl e3, va_Nw.same rfl (u := U) (U := U.calling g mk a) rfl e4⟩, fun U hU hW => ⟨rfl, by rw [hU], by rw [hU]; exact hPc, va_K.moved hW.alike hKc, hDc.weaken (fun _ _ _ _ => trivial), va_Mi.moved hW.alike hp1, va_AO.moved hW.alike hp2, va_Nw.warmC hW hp3, va_Nw.warmC hW hp4, va_Nw.warmC hW hp5⟩⟩ rfl rfl hl.1 rfl (lv_room (Nat.le_of_ble_eq_true rfl)) dJ7_copyOf_1904c_6 ⟨(show 0 + (1) ≤ 1 from (by omega)), (show 0 + ((n).toNat) ≤ (n).toNat from (by omega))⟩) hS (fun q _ h => hFc q h) hFc (fun u q_1 t H1 locs ht hvm hw hB hz1 hk1 hS => ?_)
  obtain ⟨cn_2, nn_3, fn_4, hxt_4, hP1, hK1, hD1⟩ := hB
  rw [ht] at hP1
  have hK1 := va_K.moved hvm.symm hK1
  obtain ⟨hP, hD⟩ := va_joinP (X := [(q_o, .inl (cO, no, .inr (.inr (.inr (.inr fo)))))]) (cx := [(q_o, .inl (cO, no, .inr (.inr (.inr (.inr fo)))))]) (wr := []) (rx := [(q_o, .inl (cO, no, .inr (.inr (.inr (.inr fo))))), (q_1, .inl (cn_2, nn_3, .inr (.inr (.inr (.inr fn_4)))))]) (pl := va_pl L (pE P)) (pl1 := va_pl L (pE P)) hP hD [0] [] rfl rfl (by decide) (by decide) hk1 hFc hP1 hD1
  have hK := (hK.sub (tys' := []) [] rfl).app hK1
  generalize H1 = H at hP hS ⊢
  have hP : va_P (dC, dI) vwQ ([(q_o, .inl (cO, no, .inr (.inr (.inr (.inr fo))))), (q_1, .inl (cn_2, nn_3, .inr (.inr (.inr (.inr fn_4)))))] ++ va_pl L (pE P)) H := hP
  have hD : va_D A ([(q_o, .inl (cO, no, .inr (.inr (.inr (.inr fo))))), (q_1, .inl (cn_2, nn_3, .inr (.inr (.inr (.inr fn_4)))))] ++ va_pl L (pE P)) := hD
  have hK : va_K (dC, dI) vwQ [(cO, .object "java/lang/Object"), (cn_2, .object "java/lang/Object")] s := hK
  refine W.widen (k := (0 + (1))) (n := (0 + ((n).toNat))) (by omega) (by omega) ?_
  subst hQ
  refine W.widen (k := (1)) (n := ((n).toNat)) (by omega) (by omega) ?_
  exact W.aret (v := .ref q_1) hx hb hr (Or.inr ⟨_, rfl⟩) (Or.inr ⟨_, rfl⟩) (fun t ht hW => ⟨⟨(), q_1, rfl, trivial, cn_2, nn_3, fn_4, hxt_4, by rw [ht]; exact hP, va_K.moved hW.alike hK, hD⟩, hS.F ht⟩) hS.2.2 dJ7_copyOf_1904c_9
