def o_J1_charAtV : List Cond := [.methodLink RJ1 9 yJ0_checkIndex_df160, .static yJ0_checkIndex_df160, .initialized RJ0]
def v_J1_charAtV : List Cond := .code yJ1_charAt_3b067 cJ1_charAt_3b067 2 (some .char) :: (o_J1_charAtV ++ (v_J0_checkIndexQ ++ []))
theorem mow_J1_charAtV : ∀ w ∈ o_J1_charAtV, w ∈ v_J1_charAtV := fun _ h => List.mem_cons_of_mem _ (List.mem_append_left _ h)
theorem mem_J1_charAtV_0 : ∀ w ∈ v_J0_checkIndexQ, w ∈ v_J1_charAtV := fun _ h => List.mem_cons_of_mem _ (List.mem_append_right _ (List.mem_append_left _ h))
set_option maxRecDepth 20000 in
theorem gw_J1_charAtV : v_J1_charAtV.all goodWord = true := by decide +kernel
set_option maxRecDepth 20000 in
theorem g_J1_charAtV_J0_checkIndexQ : GoodIn v_J1_charAtV (va_wsS RJ1 9 yJ0_checkIndex_df160 v_J0_checkIndexQ) := goodIn_app (goodIn_sub (fun w h => mow_J1_charAtV w (by revert w h; decide +kernel)) (by decide +kernel)) (goodIn_sub mem_J1_charAtV_0 gw_J0_checkIndexQ)
set_option maxHeartbeats 4000000 in
set_option maxRecDepth 100000 in
theorem c_J1_charAtV (l : Launch) (dC : Nat → ClassId) (dI : Nat → Nat → Nat) (tv : Nat) (tn : Nat) (tf : Nat → Int32) (i : Int) (hNtn : tn ≤ 1000000) (hNi : 0 ≤ i ∧ i < tn) (hX_asc : ASC tf) (sz : Nat) (sx_fm : Nat) : Met l yJ1_charAt_3b067 v_J1_charAtV ({ frames := 2, cells := 0, slots := 0, locals := 43 }) (va_Pc [.ref tv, .int (zI (i))] (fun U => U.heap.size = sz ∧ va_P (dC, dI) vwQ [] U.heap ∧ va_K (dC, dI) vwQ [] U ∧ va_D (fun _ => True) [] ∧ va_T .byte tv tn (fun j => .int (tf j)) (va_A [] sz) U U.heap ∧ va_Z "jdk/internal/util/Preconditions" "SIOOBE_FORMATTER" "Ljava/util/function/BiFunction;" (.ref sx_fm) (va_A [] sz) U U.heap)) (va_Qi (fun (r : Int32) (_ : Unit) => r = zI (chF tf (i))) (fun (_ : Unit) (t : State) => va_P (dC, dI) vwQ [] t.heap ∧ va_K (dC, dI) vwQ [] t ∧ va_D (va_A [] sz) []) (va_A [] sz)) 0 0 (va_A [] sz) := by
  refine Met.ofW (cc := cJ1_charAt_3b067) (maxL := 2) (ret := (some .char)) (by decide) rfl ?_
  intro p e s m args below meth c s₁ B hml hv
  obtain ⟨rfl, hsz, hP, hK, hD0, hp0, hp1⟩ := hv
  have hx := B.exec
  have hb := B.bytes
  have hr := B.returns
  have hts := atoms_spec (ws := v_J1_charAtV) B.pre
  have hown : s.vm.findClass RJ1 = some m.cls := findClass_of_methodNamed B.named
  have hlocks := B.notSynchronized
  have ow : ∀ {k : Nat} {w : Cond}, o_J1_charAtV[k]? = some w → w.before ([.ref tv, .int (zI (i))] : List Value).toArray s = true := fun h => hts _ (mow_J1_charAtV _ (List.mem_of_getElem? h))
  subst hsz
  have hD := hD0.self (sz := s.heap.size)
  generalize hAe : va_A [] s.heap.size = A at hD hp0 hp1 ⊢
  have hA : ∀ q : Nat, s.heap.size ≤ q → A q := fun q h => by rw [← hAe]; exact Or.inr h
  have hS : va_S A s.heap s.heap [] := va_S.rf
  have hP : va_P (dC, dI) vwQ [] s.heap := hP
  have hl := lv_entry ([.ref tv, .int (zI (i))]) (n := 2) (Nat.le_of_ble_eq_true rfl)
  rw [lg_entry_eq]
  generalize (lg_sl ([.ref tv, .int (zI (i))]) ++ List.replicate (2 - (lg_sl ([.ref tv, .int (zI (i))])).length) Slot.unset).toArray = ls at hl ⊢
  have hl : lv_has ls 2 [(0, .ref tv), (1, .int (zI (i)))] := hl
  obtain ⟨H, hH⟩ : ∃ H, H = s.heap := ⟨_, rfl⟩
  rw [← hH] at hP
  have hS : va_S A s.heap H [] := by rw [hH]; exact hS
  rw [← hH]
  refine zW_cap (fun Q hQ => ?_)
  refine lv_iload_n hx hb dJ1_charAt_3b067_0 rfl (lv_at hl 1 rfl) ?_
  refine lv_aload_n hx hb dJ1_charAt_3b067_1 rfl (lv_at hl 0 rfl) ?_
  refine va_tlen (v := zI ((tn : Int))) hx hb hp0 hS (zI_ofNat tn) dJ1_charAt_3b067_2 ?_
  have hPc := hP.sub (ws' := []) [] rfl
  have hDc := hD.sub (ws' := []) [] (by decide) rfl
  have hKc := hK.sub (tys' := []) [] rfl
  have hFc := va_free (wc := []) hD hS hA [] rfl
  refine va_callv (va_runS (As := [.int (zI (i)), .int (zI ((tn : Int)))]) (rest := []) ⟨hx, hb, hml, hown, hts⟩ (c_J0_checkIndexQ l dC dI i ((tn : Int)) (by omega) H.size sx_fm) (va_cwS 2 hts g_J1_charAtV_J0_checkIndexQ rfl rfl rfl (by decide +kernel) ⟨(Nat.le_of_ble_eq_true rfl), (Nat.le_of_ble_eq_true rfl)⟩) ⟨fun a U g mk q => by obtain ⟨q0, q1, qP, qK, qD, e0⟩ := q; exact ⟨q0, q1, qP, va_K.moved (u := U) (U := U.calling g mk a) (Vm.Alike.refl U.vm) qK, qD, va_Z.moved (u := U) (U := U.calling g mk a) (Vm.Alike.refl U.vm) e0⟩, fun U hU hW => ⟨rfl, by rw [hU], by rw [hU]; exact hPc, va_K.moved hW.alike hKc, hDc.weaken (fun _ _ _ _ => trivial), by rw [hU]; exact va_Z.narrow (va_Z.moved hW.alike (va_Z.kept hp1 hS.2.1)) hFc⟩⟩ rfl rfl hl.1 rfl (lv_room (Nat.le_of_ble_eq_true rfl)) dJ1_charAt_3b067_3 ⟨(Nat.le_of_ble_eq_true rfl), (Nat.le_of_ble_eq_true rfl)⟩) hS (fun q _ h => hFc q h) hFc (fun  u t H1 locs ht hvm hw hB hz1 hk1 hS => ?_)
  obtain ⟨hP1, hK1, hD1⟩ := hB
  rw [ht] at hP1
  have hK1 := va_K.moved hvm.symm hK1
  obtain ⟨hP, hD⟩ := va_join (wr := []) (w1 := []) hP hD [] [] rfl rfl (by decide) (by decide) hk1 hFc hP1 hD1
  have hK := (hK.sub (tys' := []) [] rfl).app hK1
  generalize H1 = H at hP hS ⊢
  have hP : va_P (dC, dI) vwQ [] H := hP
  have hD : va_D A [] := hD
  have hK : va_K (dC, dI) vwQ [] s := hK
  refine W.widen (k := 0) (n := 0) (Nat.le_of_ble_eq_true rfl) (Nat.le_of_ble_eq_true rfl) ?_
  refine lv_aload_n hx hb dJ1_charAt_3b067_6 rfl (lv_at hl 0 rfl) ?_
  refine lv_iload_n hx hb dJ1_charAt_3b067_7 rfl (lv_at hl 1 rfl) ?_
  refine va_tb hx hb hp0 hS (zI_in (a := i) (n := tn) (by omega) (by omega) (by omega)) rfl dJ1_charAt_3b067_8 ?_
  refine lv_topi (fun z ez => ?_)
  obtain rfl : z = zI (chF tf (i)) := ez.trans (chF_z tf (e := i) (by omega) (by omega))
  have hch := hX_asc.ch (i)
  refine lv_sipush (v := 255) hx hb dJ1_charAt_3b067_9 (by decide) ?_
  refine lv_iand hx hb dJ1_charAt_3b067_12 ?_
  refine lv_topi (fun z ez => ?_)
  obtain rfl : z = zI (chF tf (i)) := ez.trans (zI_and255 (by omega) (by omega))
  refine lv_i2c (v := zI (chF tf (i))) hx hb dJ1_charAt_3b067_13 (zI_byte (by omega) (by omega)).2 ?_
  subst hQ
  refine W.widen (k := 0) (n := 0) (Nat.le_of_ble_eq_true rfl) (Nat.le_of_ble_eq_true rfl) ?_
  exact W.zret (v := (zI (chF tf (i)))) hx hb hr (zI_byte (by omega) (by omega)).1 (fun t ht hW => ⟨⟨(zI (chF tf (i))), (), rfl, rfl, by rw [ht]; exact hP, va_K.moved hW.alike hK, hD⟩, hS.F ht⟩) hS.2.2 dJ1_charAt_3b067_14
def o_J0_charAtV : List Cond := [.methodLink RJ0 492 yJ0_isLatin1_aae02, .instanceMethod yJ0_isLatin1_aae02, .selects RJ0 yJ0_isLatin1_aae02 yJ0_isLatin1_aae02, .initialized RJ0, .fieldLink RJ0 9 "java/lang/String" "value" "[B", .methodLink RJ0 495 yJ1_charAt_3b067, .static yJ1_charAt_3b067, .initialized RJ1]
def v_J0_charAtV : List Cond := .code yJ0_charAt_5068e cJ0_charAt_5068e 2 (some .char) :: (o_J0_charAtV ++ (v_J0_isLatin1Q ++ (v_J1_charAtV ++ [])))
theorem mow_J0_charAtV : ∀ w ∈ o_J0_charAtV, w ∈ v_J0_charAtV := fun _ h => List.mem_cons_of_mem _ (List.mem_append_left _ h)
theorem mem_J0_charAtV_0 : ∀ w ∈ v_J0_isLatin1Q, w ∈ v_J0_charAtV := fun _ h => List.mem_cons_of_mem _ (List.mem_append_right _ (List.mem_append_left _ h))
theorem mem_J0_charAtV_1 : ∀ w ∈ v_J1_charAtV, w ∈ v_J0_charAtV := fun _ h => List.mem_cons_of_mem _ (List.mem_append_right _ (List.mem_append_right _ (List.mem_append_left _ h)))
set_option maxRecDepth 20000 in
theorem gw_J0_charAtV : v_J0_charAtV.all goodWord = true := by decide +kernel
set_option maxRecDepth 20000 in
theorem g_J0_charAtV_J0_isLatin1Q : GoodIn v_J0_charAtV (wsV RJ0 492 RJ0 yJ0_isLatin1_aae02 v_J0_isLatin1Q) := goodIn_app (goodIn_sub (fun w h => mow_J0_charAtV w (by revert w h; decide +kernel)) (by decide +kernel)) (goodIn_sub mem_J0_charAtV_0 gw_J0_isLatin1Q)
set_option maxRecDepth 20000 in
theorem g_J0_charAtV_J1_charAtV : GoodIn v_J0_charAtV (va_wsS RJ0 495 yJ1_charAt_3b067 v_J1_charAtV) := goodIn_app (goodIn_sub (fun w h => mow_J0_charAtV w (by revert w h; decide +kernel)) (by decide +kernel)) (goodIn_sub mem_J0_charAtV_1 gw_J1_charAtV)
set_option maxHeartbeats 4000000 in
set_option maxRecDepth 100000 in
theorem c_J0_charAtV (l : Launch) (dC : Nat → ClassId) (dI : Nat → Nat → Nat) (tx : Nat) (tv : Nat) (tn : Nat) (tf : Nat → Int32) (i : Int) (hNtn : tn ≤ 1000000) (hNi : 0 ≤ i ∧ i < tn) (hX_asc : ASC tf) (sz : Nat) (sx_fm : Nat) : Met l yJ0_charAt_5068e v_J0_charAtV ({ frames := 3, cells := 0, slots := 0, locals := 64 }) (va_Pc [.ref tx, .int (zI (i))] (fun U => U.heap.size = sz ∧ va_P (dC, dI) vwQ [] U.heap ∧ va_K (dC, dI) vwQ [] U ∧ va_D (fun _ => True) [] ∧ vs_S tx tv tn tf (va_A [] sz) U U.heap ∧ va_Z "java/lang/String" "COMPACT_STRINGS" "Z" (.int 1) (va_A [] sz) U U.heap ∧ va_Z "jdk/internal/util/Preconditions" "SIOOBE_FORMATTER" "Ljava/util/function/BiFunction;" (.ref sx_fm) (va_A [] sz) U U.heap)) (va_Qi (fun (r : Int32) (_ : Unit) => r = zI (chF tf (i))) (fun (_ : Unit) (t : State) => va_P (dC, dI) vwQ [] t.heap ∧ va_K (dC, dI) vwQ [] t ∧ va_D (va_A [] sz) []) (va_A [] sz)) 0 0 (va_A [] sz) := by
  refine Met.ofW (cc := cJ0_charAt_5068e) (maxL := 2) (ret := (some .char)) (by decide) rfl ?_
  intro p e s m args below meth c s₁ B hml hv
  obtain ⟨rfl, hsz, hP, hK, hD0, hp0, hp1, hp2⟩ := hv
  have hx := B.exec
  have hb := B.bytes
  have hr := B.returns
  have hts := atoms_spec (ws := v_J0_charAtV) B.pre
  have hown : s.vm.findClass RJ0 = some m.cls := findClass_of_methodNamed B.named
  have hlocks := B.notSynchronized
  have ow : ∀ {k : Nat} {w : Cond}, o_J0_charAtV[k]? = some w → w.before ([.ref tx, .int (zI (i))] : List Value).toArray s = true := fun h => hts _ (mow_J0_charAtV _ (List.mem_of_getElem? h))
  subst hsz
  have hD := hD0.self (sz := s.heap.size)
  generalize hAe : va_A [] s.heap.size = A at hD hp0 hp1 hp2 ⊢
  have hA : ∀ q : Nat, s.heap.size ≤ q → A q := fun q h => by rw [← hAe]; exact Or.inr h
  have hS : va_S A s.heap s.heap [] := va_S.rf
  have hP : va_P (dC, dI) vwQ [] s.heap := hP
  have hl := lv_entry ([.ref tx, .int (zI (i))]) (n := 2) (Nat.le_of_ble_eq_true rfl)
  rw [lg_entry_eq]
  generalize (lg_sl ([.ref tx, .int (zI (i))]) ++ List.replicate (2 - (lg_sl ([.ref tx, .int (zI (i))])).length) Slot.unset).toArray = ls at hl ⊢
  have hl : lv_has ls 2 [(0, .ref tx), (1, .int (zI (i)))] := hl
  obtain ⟨H, hH⟩ : ∃ H, H = s.heap := ⟨_, rfl⟩
  rw [← hH] at hP
  have hS : va_S A s.heap H [] := by rw [hH]; exact hS
  rw [← hH]
  refine zW_cap (fun Q hQ => ?_)
  refine lv_aload_n hx hb dJ0_charAt_5068e_0 rfl (lv_at hl 0 rfl) ?_
  have hPc := hP.sub (ws' := []) [] rfl
  have hDc := hD.sub (ws' := []) [] (by decide) rfl
  have hKc := hK.sub (tys' := []) [] rfl
  have hFc := va_free (wc := []) hD hS hA [] rfl
  refine va_calli (va_runV (As := []) (rest := []) ⟨hx, hb, hml, hown, hts⟩ (c_J0_isLatin1Q l dC dI tx tv tn tf H.size) (cwV 0 hts g_J0_charAtV_J0_isLatin1Q rfl rfl rfl (by decide +kernel) ⟨(Nat.le_of_ble_eq_true rfl), (Nat.le_of_ble_eq_true rfl)⟩) ⟨fun a U g mk q => by obtain ⟨q0, q1, qP, qK, qD, e0, e1⟩ := q; exact ⟨q0, q1, qP, va_K.moved (u := U) (U := U.calling g mk a) (Vm.Alike.refl U.vm) qK, qD, va_Z.moved (u := U) (U := U.calling g mk a) (Vm.Alike.refl U.vm) e0, vs_S.moved (u := U) (U := U.calling g mk a) (Vm.Alike.refl U.vm) e1⟩, vs_S.recv hp0 hS, fun U hU hW => ⟨rfl, by rw [hU], by rw [hU]; exact hPc, va_K.moved hW.alike hKc, hDc.weaken (fun _ _ _ _ => trivial), by rw [hU]; exact va_Z.narrow (va_Z.moved hW.alike (va_Z.kept hp1 hS.2.1)) hFc, by rw [hU]; exact vs_S.narrow (vs_S.moved hW.alike (vs_S.kept hp0 hS.2.1)) hFc⟩⟩ rfl rfl hl.1 rfl (lv_room (Nat.le_of_ble_eq_true rfl)) dJ0_charAt_5068e_1 ⟨(Nat.le_of_ble_eq_true rfl), (Nat.le_of_ble_eq_true rfl)⟩) hS (fun q _ h => hFc q h) hFc (fun r_1 u t H1 locs ht hvm hw hB hz1 hk1 hS => ?_)
  obtain ⟨hP1, hK1, hD1⟩ := hB
  rw [ht] at hP1
  have hK1 := va_K.moved hvm.symm hK1
  obtain ⟨hP, hD⟩ := va_join (wr := []) (w1 := []) hP hD [] [] rfl rfl (by decide) (by decide) hk1 hFc hP1 hD1
  have hK := (hK.sub (tys' := []) [] rfl).app hK1
  generalize H1 = H at hP hS ⊢
  have hP : va_P (dC, dI) vwQ [] H := hP
  have hD : va_D A [] := hD
  have hK : va_K (dC, dI) vwQ [] s := hK
  refine W.widen (k := 0) (n := 0) (Nat.le_of_ble_eq_true rfl) (Nat.le_of_ble_eq_true rfl) ?_
  obtain rfl : r_1 = (1) := hw
  refine lv_if_eq (tgt := 16) hx hb dJ0_charAt_5068e_4 (by decide) (fun h9 => absurd h9 (by decide)) (fun _ => ?_)
  refine lv_aload_n hx hb dJ0_charAt_5068e_7 rfl (lv_at hl 0 rfl) ?_
  refine vk_getf (v := .ref tv) hx hb hp0.2.2.1 hS hown (ow (k := 4) rfl) (fun _ h9 => h9) dJ0_charAt_5068e_8 ?_
  have hch := hX_asc.ch (i)
  refine lv_iload_n hx hb dJ0_charAt_5068e_11 rfl (lv_at hl 1 rfl) ?_
  have hPc := hP.sub (ws' := []) [] rfl
  have hDc := hD.sub (ws' := []) [] (by decide) rfl
  have hKc := hK.sub (tys' := []) [] rfl
  have hFc := va_free (wc := []) hD hS hA [] rfl
  refine va_calli (va_runS (As := [.ref tv, .int (zI (i))]) (rest := []) ⟨hx, hb, hml, hown, hts⟩ (c_J1_charAtV l dC dI tv tn tf i (by omega) (by omega) hX_asc H.size sx_fm) (va_cwS 2 hts g_J0_charAtV_J1_charAtV rfl rfl rfl (by decide +kernel) ⟨(Nat.le_of_ble_eq_true rfl), (Nat.le_of_ble_eq_true rfl)⟩) ⟨fun a U g mk q => by obtain ⟨q0, q1, qP, qK, qD, e0, e1⟩ := q; exact ⟨q0, q1, qP, va_K.moved (u := U) (U := U.calling g mk a) (Vm.Alike.refl U.vm) qK, qD, va_T.moved (u := U) (U := U.calling g mk a) (Vm.Alike.refl U.vm) e0, va_Z.moved (u := U) (U := U.calling g mk a) (Vm.Alike.refl U.vm) e1⟩, fun U hU hW => ⟨rfl, by rw [hU], by rw [hU]; exact hPc, va_K.moved hW.alike hKc, hDc.weaken (fun _ _ _ _ => trivial), by rw [hU]; exact va_T.narrow (va_T.moved hW.alike (va_T.kept hp0.2.2.2 hS.2.1)) hFc, by rw [hU]; exact va_Z.narrow (va_Z.moved hW.alike (va_Z.kept hp2 hS.2.1)) hFc⟩⟩ rfl rfl hl.1 rfl (lv_room (Nat.le_of_ble_eq_true rfl)) dJ0_charAt_5068e_12 ⟨(Nat.le_of_ble_eq_true rfl), (Nat.le_of_ble_eq_true rfl)⟩) hS (fun q _ h => hFc q h) hFc (fun r_2 u t H1 locs ht hvm hw hB hz1 hk1 hS => ?_)
  obtain ⟨hP1, hK1, hD1⟩ := hB
  rw [ht] at hP1
  have hK1 := va_K.moved hvm.symm hK1
  obtain ⟨hP, hD⟩ := va_join (wr := []) (w1 := []) hP hD [] [] rfl rfl (by decide) (by decide) hk1 hFc hP1 hD1
  have hK := (hK.sub (tys' := []) [] rfl).app hK1
  generalize H1 = H at hP hS ⊢
  have hP : va_P (dC, dI) vwQ [] H := hP
  have hD : va_D A [] := hD
  have hK : va_K (dC, dI) vwQ [] s := hK
  refine W.widen (k := 0) (n := 0) (Nat.le_of_ble_eq_true rfl) (Nat.le_of_ble_eq_true rfl) ?_
  obtain rfl : r_2 = (zI (chF tf (i))) := hw
  subst hQ
  refine W.widen (k := 0) (n := 0) (Nat.le_of_ble_eq_true rfl) (Nat.le_of_ble_eq_true rfl) ?_
  exact W.zret (v := (zI (chF tf (i)))) hx hb hr (zI_byte (by omega) (by omega)).1 (fun t ht hW => ⟨⟨(zI (chF tf (i))), (), rfl, rfl, by rw [ht]; exact hP, va_K.moved hW.alike hK, hD⟩, hS.F ht⟩) hS.2.2 dJ0_charAt_5068e_15
