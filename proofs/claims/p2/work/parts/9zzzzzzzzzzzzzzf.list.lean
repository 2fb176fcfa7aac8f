def o_AL_grow1X : List Cond := [.fieldLink RJx4a65c 9 "java/util/ArrayList" "elementData" "[Ljava/lang/Object;", .methodLink RJx4a65c 73 yJ8_newLength_cabcc, .static yJ8_newLength_cabcc, .initialized RJ8, .methodLink RJx4a65c 66 yJ7_copyOf_1904c, .static yJ7_copyOf_1904c, .initialized RJ7]
def v_AL_grow1X : List Cond := .code yJx4a65c_grow_92f84 cJx4a65c_grow_92f84 4 (some (.array (.object "java/lang/Object"))) :: (o_AL_grow1X ++ (wsJx4a65c0 ++ (v_J8_newLengthB ++ (v_J7_copyOf2R ++ []))))
theorem mow_AL_grow1X : ∀ w ∈ o_AL_grow1X, w ∈ v_AL_grow1X := fun _ h => List.mem_cons_of_mem _ (List.mem_append_left _ h)
theorem mem_AL_grow1X_0 : ∀ w ∈ wsJx4a65c0, w ∈ v_AL_grow1X := fun _ h => List.mem_cons_of_mem _ (List.mem_append_right _ (List.mem_append_left _ h))
theorem mem_AL_grow1X_1 : ∀ w ∈ v_J8_newLengthB, w ∈ v_AL_grow1X := fun _ h => List.mem_cons_of_mem _ (List.mem_append_right _ (List.mem_append_right _ (List.mem_append_left _ h)))
theorem mem_AL_grow1X_2 : ∀ w ∈ v_J7_copyOf2R, w ∈ v_AL_grow1X := fun _ h => List.mem_cons_of_mem _ (List.mem_append_right _ (List.mem_append_right _ (List.mem_append_right _ (List.mem_append_left _ h))))
set_option maxRecDepth 20000 in
theorem gw_AL_grow1X : v_AL_grow1X.all goodWord = true := by decide +kernel
set_option maxRecDepth 20000 in
theorem g_AL_grow1X_J8_newLengthB : GoodIn v_AL_grow1X (va_wsS RJx4a65c 73 yJ8_newLength_cabcc v_J8_newLengthB) := goodIn_app (goodIn_sub (fun w h => mow_AL_grow1X w (by revert w h; decide +kernel)) (by decide +kernel)) (goodIn_sub mem_AL_grow1X_1 gw_J8_newLengthB)
set_option maxRecDepth 20000 in
theorem g_AL_grow1X_J7_copyOf2R : GoodIn v_AL_grow1X (va_wsS RJx4a65c 66 yJ7_copyOf_1904c v_J7_copyOf2R) := goodIn_app (goodIn_sub (fun w h => mow_AL_grow1X w (by revert w h; decide +kernel)) (by decide +kernel)) (goodIn_sub mem_AL_grow1X_2 gw_J7_copyOf2R)
set_option maxHeartbeats 4000000 in
set_option maxRecDepth 100000 in
theorem c_AL_grow1X (l : Launch) (dC : Nat → ClassId) (dI : Nat → Nat → Nat) (h0 : Nat) (r30_modCount : Int32) (z30_size : Int) (q_el : Nat) (cE : ClassId) (ne : Nat) (fe : Nat → Option Nat) (L : List Nat) (P : PO) (mn : Int) (hNz30_size : 0 ≤ z30_size ∧ z30_size ≤ 100000) (hNne : ne ≤ 100000) (hNm : 10 ≤ ne ∧ ne ≤ 40000 ∧ mn = ne + 1) (hX_el : ELS L P fe) (sz : Nat) (sx_mi : Nat) : Met l yJx4a65c_grow_92f84 v_AL_grow1X ({ frames := 3, cells := (1), slots := (((ne : Int) + (ne : Int) / 2).toNat), locals := 104 }) (va_Pc [.ref h0, .int (zI (mn))] (fun U => U.heap.size = sz ∧ va_P (dC, dI) vwQ ([(h0, .inr (18, [.int r30_modCount, .ref q_el, .int (zI (z30_size))])), (q_el, .inl (cE, ne, .inr (.inr (.inr (.inr fe)))))] ++ va_pl L (pE P)) U.heap ∧ va_K (dC, dI) vwQ [(cE, .object "java/lang/Object")] U ∧ va_D (fun _ => True) ([(h0, .inr (18, [.int r30_modCount, .ref q_el, .int (zI (z30_size))])), (q_el, .inl (cE, ne, .inr (.inr (.inr (.inr fe)))))] ++ va_pl L (pE P)) ∧ va_Dc U ∧ va_Mi "[Ljava/lang/Object;" sx_mi U ∧ va_AO "java/lang/Object" U ∧ va_Nw (.castable "SsaForgeModel$Row" "java/lang/Object") U ∧ va_Nw (.castable "SsaForgeModel$Phi" "java/lang/Object") U ∧ va_Nw (.castable "SsaForgeModel$Block" "java/lang/Object") U)) (va_Qr (fun _ : Unit => True) (fun (_ : Unit) (rq : Nat) (t : State) => ∃ (cn_9 : ClassId) (nn_9 : Nat) (fn_9 : Nat → Option Nat), (((nn_9 : Int) = (ne : Int) + (ne : Int) / 2 ∧ 10 ≤ nn_9 ∧ ELS L P fn_9 ∧ ∀ j : Nat, j < ne → fn_9 j = fe j)) ∧ va_P (dC, dI) vwQ ([(h0, .inr (18, [.int r30_modCount, .ref rq, .int (zI (z30_size))])), (q_el, .inl (cE, ne, .inr (.inr (.inr (.inr fe))))), (rq, .inl (cn_9, nn_9, .inr (.inr (.inr (.inr fn_9)))))] ++ va_pl L (pE P)) t.heap ∧ va_K (dC, dI) vwQ [(cE, .object "java/lang/Object"), (cn_9, .object "java/lang/Object")] t ∧ va_D (va_A ([(h0, .inr (18, [.int r30_modCount, .ref q_el, .int (zI (z30_size))])), (q_el, .inl (cE, ne, .inr (.inr (.inr (.inr fe)))))] ++ va_pl L (pE P)) sz) ([(h0, .inr (18, [.int r30_modCount, .ref rq, .int (zI (z30_size))])), (q_el, .inl (cE, ne, .inr (.inr (.inr (.inr fe))))), (rq, .inl (cn_9, nn_9, .inr (.inr (.inr (.inr fn_9)))))] ++ va_pl L (pE P))) (va_A ([(h0, .inr (18, [.int r30_modCount, .ref q_el, .int (zI (z30_size))])), (q_el, .inl (cE, ne, .inr (.inr (.inr (.inr fe)))))] ++ va_pl L (pE P)) sz)) (1) (((ne : Int) + (ne : Int) / 2).toNat) (va_A ([(h0, .inr (18, [.int r30_modCount, .ref q_el, .int (zI (z30_size))])), (q_el, .inl (cE, ne, .inr (.inr (.inr (.inr fe)))))] ++ va_pl L (pE P)) sz) := by
  refine Met.ofW (cc := cJx4a65c_grow_92f84) (maxL := 4) (ret := (some (.array (.object "java/lang/Object")))) (by decide) rfl ?_
  intro p e s m args below meth c s₁ B hml hv
  obtain ⟨rfl, hsz, hP, hK, hD0, hp0, hp1, hp2, hp3, hp4, hp5⟩ := hv
  have hx := B.exec
  have hb := B.bytes
  have hr := B.returns
  have hts := atoms_spec (ws := v_AL_grow1X) B.pre
  have hown : s.vm.findClass RJx4a65c = some m.cls := findClass_of_methodNamed B.named
  have hlocks := B.notSynchronized
  have ow : ∀ {k : Nat} {w : Cond}, o_AL_grow1X[k]? = some w → w.before ([.ref h0, .int (zI (mn))] : List Value).toArray s = true := fun h => hts _ (mow_AL_grow1X _ (List.mem_of_getElem? h))
  subst hsz
  have hD := hD0.self (sz := s.heap.size)
  generalize hAe : va_A ([(h0, .inr (18, [.int r30_modCount, .ref q_el, .int (zI (z30_size))])), (q_el, .inl (cE, ne, .inr (.inr (.inr (.inr fe)))))] ++ va_pl L (pE P)) s.heap.size = A at hD hp2 ⊢
  have hA : ∀ q : Nat, s.heap.size ≤ q → A q := fun q h => by rw [← hAe]; exact Or.inr h
  have hS : va_S A s.heap s.heap [] := va_S.rf
  have hP : va_P (dC, dI) vwQ ([(h0, .inr (18, [.int r30_modCount, .ref q_el, .int (zI (z30_size))])), (q_el, .inl (cE, ne, .inr (.inr (.inr (.inr fe)))))] ++ va_pl L (pE P)) s.heap := hP
  have hl := lv_entry ([.ref h0, .int (zI (mn))]) (n := 4) (Nat.le_of_ble_eq_true rfl)
  rw [lg_entry_eq]
  generalize (lg_sl ([.ref h0, .int (zI (mn))]) ++ List.replicate (4 - (lg_sl ([.ref h0, .int (zI (mn))])).length) Slot.unset).toArray = ls at hl ⊢
  have hl : lv_has ls 4 [(0, .ref h0), (1, .int (zI (mn)))] := hl
  obtain ⟨H, hH⟩ : ∃ H, H = s.heap := ⟨_, rfl⟩
  rw [← hH] at hP
  have hS : va_S A s.heap H [] := by rw [hH]; exact hS
  rw [← hH]
  refine zW_cap (fun Q hQ => ?_)
  refine lv_aload_n hx hb dJx4a65c_grow_92f84_0 rfl (lv_at hl 0 rfl) ?_
  refine va_get (D := (dC, dI)) (ci := 18) (v := .ref q_el) (C := RJx4a65c) (T := TJx4a65c) (N := 3) hx hb hts mem_AL_grow1X_0 hown hK hP 0 rfl rfl 1 (by decide) (ow (k := 0) rfl) (fun _ h9 => h9) rfl dJx4a65c_grow_92f84_1 ?_
  refine va_alen (v := zI ((ne : Int))) hx hb hK hP 1 0 rfl rfl (zI_ofNat ne) dJx4a65c_grow_92f84_4 ?_
  refine lv_istore_n (lv' := [(2, .int (zI ((ne : Int)))), (0, .ref h0), (1, .int (zI (mn)))]) hx hb dJx4a65c_grow_92f84_5 rfl hl (by decide) rfl (fun ls hl => ?_)
  refine lv_iload_n hx hb dJx4a65c_grow_92f84_6 rfl (lv_at hl 0 rfl) ?_
  refine lv_if_gt (tgt := 20) hx hb dJx4a65c_grow_92f84_7 (by decide) (fun b7 => ?_) (fun b7 => ?_)
  · have yb7 : (0 : Int) < ((ne : Int) : Int) := (zI_lt (a := 0) (b := (ne : Int)) (by omega) (by omega) (by omega) (by omega)).mp b7
    refine lv_iload_n hx hb dJx4a65c_grow_92f84_20 rfl (lv_at hl 0 rfl) ?_
    refine lv_iload_n hx hb dJx4a65c_grow_92f84_21 rfl (lv_at hl 2 rfl) ?_
    refine lv_iload_n hx hb dJx4a65c_grow_92f84_22 rfl (lv_at hl 0 rfl) ?_
    refine lv_isub hx hb dJx4a65c_grow_92f84_23 ?_
    refine lv_topi (fun z ez => ?_)
    obtain rfl : z = zI (mn - ((ne : Int))) := ez.trans (zI_sub (mn) ((ne : Int)))
    refine lv_iload_n hx hb dJx4a65c_grow_92f84_24 rfl (lv_at hl 0 rfl) ?_
    refine lv_iconst (v := 1) hx hb dJx4a65c_grow_92f84_25 (by decide) ?_
    refine lv_ishr hx hb dJx4a65c_grow_92f84_26 ?_
    refine lv_topi (fun z ez => ?_)
    obtain rfl : z = zI (((ne : Int)) / 2) := ez.trans (zI_shr (a := (ne : Int)) (k := 1) (by omega) (by omega) (by decide))
    have hPc := hP.sub (ws' := []) [] rfl
    have hDc := hD.sub (ws' := []) [] (by decide) rfl
    have hKc := hK.sub (tys' := []) [] rfl
    have hFc := va_free (wc := []) hD hS hA [] rfl
    refine va_calli (va_runS (As := [.int (zI ((ne : Int))), .int (zI (mn - ((ne : Int)))), .int (zI (((ne : Int)) / 2))]) (rest := []) ⟨hx, hb, hml, hown, hts⟩ (c_J8_newLengthB l dC dI ((ne : Int)) (mn - ((ne : Int))) (((ne : Int)) / 2) (by omega) H.size) (va_cwS 3 hts g_AL_grow1X_J8_newLengthB rfl rfl rfl (by decide +kernel) ⟨(Nat.le_of_ble_eq_true rfl), (Nat.le_of_ble_eq_true rfl)⟩) ⟨fun a U g mk q => by obtain ⟨q0, q1, qP, qK, qD⟩ := q; exact ⟨q0, q1, qP, va_K.moved (u := U) (U := U.calling g mk a) (Vm.Alike.refl U.vm) qK, qD⟩, fun U hU hW => ⟨rfl, by rw [hU], by rw [hU]; exact hPc, va_K.moved hW.alike hKc, hDc.weaken (fun _ _ _ _ => trivial)⟩⟩ rfl rfl hl.1 rfl (lv_room (Nat.le_of_ble_eq_true rfl)) dJx4a65c_grow_92f84_27 ⟨(Nat.zero_le _), (Nat.zero_le _)⟩) hS (fun q _ h => hFc q h) hFc (fun r_1 u t H1 locs ht hvm hw hB hz1 hk1 hS => ?_)
    obtain ⟨hP1, hK1, hD1⟩ := hB
    rw [ht] at hP1
    have hK1 := va_K.moved hvm.symm hK1
    obtain ⟨hP, hD⟩ := va_joinQ (X := [(h0, .inr (18, [.int r30_modCount, .ref q_el, .int (zI (z30_size))])), (q_el, .inl (cE, ne, .inr (.inr (.inr (.inr fe)))))]) (cx := []) (wr := [(h0, .inr (18, [.int r30_modCount, .ref q_el, .int (zI (z30_size))])), (q_el, .inl (cE, ne, .inr (.inr (.inr (.inr fe)))))]) (w1 := []) (pl := va_pl L (pE P)) hP hD [] [0, 1] rfl rfl (by decide) (by decide) hk1 hFc hP1 hD1
    have hK := (hK.sub (tys' := [(cE, .object "java/lang/Object")]) [0] rfl).app hK1
    generalize H1 = H at hP hS ⊢
    have hP : va_P (dC, dI) vwQ ([(h0, .inr (18, [.int r30_modCount, .ref q_el, .int (zI (z30_size))])), (q_el, .inl (cE, ne, .inr (.inr (.inr (.inr fe)))))] ++ va_pl L (pE P)) H := hP
    have hD : va_D A ([(h0, .inr (18, [.int r30_modCount, .ref q_el, .int (zI (z30_size))])), (q_el, .inl (cE, ne, .inr (.inr (.inr (.inr fe)))))] ++ va_pl L (pE P)) := hD
    have hK : va_K (dC, dI) vwQ [(cE, .object "java/lang/Object")] s := hK
    refine W.widen (k := 0) (n := 0) (Nat.le_of_ble_eq_true rfl) (Nat.le_of_ble_eq_true rfl) ?_
    have hw_2 := hw
    obtain ⟨z_3, rfl, hzz_3⟩ := hw_2
    refine lv_istore_n (lv' := [(3, .int (zI (z_3))), (2, .int (zI ((ne : Int)))), (0, .ref h0), (1, .int (zI (mn)))]) hx hb dJx4a65c_grow_92f84_30 rfl hl (by decide) rfl (fun ls hl => ?_)
    refine lv_aload_n hx hb dJx4a65c_grow_92f84_31 rfl (lv_at hl 2 rfl) ?_
    refine lv_aload_n hx hb dJx4a65c_grow_92f84_32 rfl (lv_at hl 2 rfl) ?_
    refine va_get (D := (dC, dI)) (ci := 18) (v := .ref q_el) (C := RJx4a65c) (T := TJx4a65c) (N := 3) hx hb hts mem_AL_grow1X_0 hown hK hP 0 rfl rfl 1 (by decide) (ow (k := 0) rfl) (fun _ h9 => h9) rfl dJx4a65c_grow_92f84_33 ?_
    refine lv_iload_n hx hb dJx4a65c_grow_92f84_36 rfl (lv_at hl 0 rfl) ?_
    have hPc := hP.part (X := [(h0, .inr (18, [.int r30_modCount, .ref q_el, .int (zI (z30_size))])), (q_el, .inl (cE, ne, .inr (.inr (.inr (.inr fe)))))]) (cx := [(q_el, .inl (cE, ne, .inr (.inr (.inr (.inr fe)))))]) (pl := va_pl L (pE P)) [1] rfl
    have hDc := hD.part (X := [(h0, .inr (18, [.int r30_modCount, .ref q_el, .int (zI (z30_size))])), (q_el, .inl (cE, ne, .inr (.inr (.inr (.inr fe)))))]) (cx := [(q_el, .inl (cE, ne, .inr (.inr (.inr (.inr fe)))))]) (pl := va_pl L (pE P)) [1] (by decide) rfl
    have hKc := hK.sub (tys' := [(cE, .object "java/lang/Object")]) [0] rfl
    have hFc := va_freeP (X := [(h0, .inr (18, [.int r30_modCount, .ref q_el, .int (zI (z30_size))])), (q_el, .inl (cE, ne, .inr (.inr (.inr (.inr fe)))))]) (cx := [(q_el, .inl (cE, ne, .inr (.inr (.inr (.inr fe)))))]) (pl := va_pl L (pE P)) hD hS hA [1] rfl
    refine va_callr (va_runS (As := [.ref q_el, .int (zI (z_3))]) (rest := [.ref h0]) ⟨hx, hb, hml, hown, hts⟩ (c_J7_copyOf2R l dC dI q_el cE ne fe L P z_3 (by omega) (by omega) hX_el H.size sx_mi) (va_cwS 2 hts g_AL_grow1X_J7_copyOf2R rfl rfl rfl (by decide +kernel) ⟨(Nat.le_of_ble_eq_true rfl), (Nat.le_of_ble_eq_true rfl)⟩) ⟨fun a U g mk q => by obtain ⟨q0, q1, qP, qK, qD, e0, e1, e2, e3, e4, e5⟩ := q; exact ⟨q0, q1, qP, va_K.moved (u := U) (U := U.calling g mk a) (Vm.Alike.refl U.vm) qK, qD, va_Dc.moved (u := U) (U := U.calling g mk a) (Vm.Alike.refl U.vm) e0, va_Mi.moved (u := U) (U := U.calling g mk a) (Vm.Alike.refl U.vm) e1, va_AO.moved (u := U) (U := U.calling g mk a) (Vm.Alike.refl U.vm) e2, va_Nw.same rfl (u := U) (U := U.calling g mk a) rfl e3, va_Nw.same rfl (u := U) (U := U.calling g mk a) rfl e4, va_Nw.same rfl (u := U) (U := U.calling g mk a) rfl e5⟩, fun U hU hW => ⟨rfl, by rw [hU], by rw [hU]; exact hPc, va_K.moved hW.alike hKc, hDc.weaken (fun _ _ _ _ => trivial), va_Dc.moved hW.alike hp0, va_Mi.moved hW.alike hp1, va_AO.moved hW.alike hp2, va_Nw.warmC hW hp3, va_Nw.warmC hW hp4, va_Nw.warmC hW hp5⟩⟩ rfl rfl hl.1 rfl (lv_room (Nat.le_of_ble_eq_true rfl)) dJx4a65c_grow_92f84_37 ⟨(show 0 + (1) ≤ 1 from (by omega)), (show 0 + ((z_3).toNat) ≤ ((ne : Int) + (ne : Int) / 2).toNat from (by omega))⟩) hS (fun q _ h => hFc q h) hFc (fun u q_4 t H1 locs ht hvm hw hB hz1 hk1 hS => ?_)
    obtain ⟨cn_5, nn_6, fn_7, hxt_7, hP1, hK1, hD1⟩ := hB
    rw [ht] at hP1
    have hK1 := va_K.moved hvm.symm hK1
    obtain ⟨hP, hD⟩ := va_joinP (X := [(h0, .inr (18, [.int r30_modCount, .ref q_el, .int (zI (z30_size))])), (q_el, .inl (cE, ne, .inr (.inr (.inr (.inr fe)))))]) (cx := [(q_el, .inl (cE, ne, .inr (.inr (.inr (.inr fe)))))]) (wr := [(h0, .inr (18, [.int r30_modCount, .ref q_el, .int (zI (z30_size))]))]) (rx := [(q_el, .inl (cE, ne, .inr (.inr (.inr (.inr fe))))), (q_4, .inl (cn_5, nn_6, .inr (.inr (.inr (.inr fn_7)))))]) (pl := va_pl L (pE P)) (pl1 := va_pl L (pE P)) hP hD [1] [0] rfl rfl (by decide) (by decide) hk1 hFc hP1 hD1
    have hK := (hK.sub (tys' := []) [] rfl).app hK1
    generalize H1 = H at hP hS ⊢
    have hP : va_P (dC, dI) vwQ ([(h0, .inr (18, [.int r30_modCount, .ref q_el, .int (zI (z30_size))])), (q_el, .inl (cE, ne, .inr (.inr (.inr (.inr fe))))), (q_4, .inl (cn_5, nn_6, .inr (.inr (.inr (.inr fn_7)))))] ++ va_pl L (pE P)) H := hP
    have hD : va_D A ([(h0, .inr (18, [.int r30_modCount, .ref q_el, .int (zI (z30_size))])), (q_el, .inl (cE, ne, .inr (.inr (.inr (.inr fe))))), (q_4, .inl (cn_5, nn_6, .inr (.inr (.inr (.inr fn_7)))))] ++ va_pl L (pE P)) := hD
    have hK : va_K (dC, dI) vwQ [(cE, .object "java/lang/Object"), (cn_5, .object "java/lang/Object")] s := hK
    refine W.widen (k := (0 + (1))) (n := (0 + ((z_3).toNat))) (by omega) (by omega) ?_
    have hcp := hxt_7
    refine lv_dup_x1 hx hb dJx4a65c_grow_92f84_40 rfl rfl ?_
    refine va_put (D := (dC, dI)) (ci := 18) (v := .ref q_4) (ty := .array (.object "java/lang/Object")) (C := RJx4a65c) (T := TJx4a65c) (N := 3) hx hb hts mem_AL_grow1X_0 tyJx4a65c tyJx4a65c_ok nmJx4a65c hown hK hP hD hS 0 rfl rfl 1 (by decide) (ow (k := 0) rfl) (fun _ h9 => h9) rfl (by decide +kernel) rfl rfl (by first | exact Nat.le_of_ble_eq_true rfl | exact (show (0 + (1)) ≤ 1 from (by omega)) | exact (show (0 + ((z_3).toNat)) ≤ ((ne : Int) + (ne : Int) / 2).toNat from (by omega))) dJx4a65c_grow_92f84_41 (fun H locs hP hD hS => ?_)
    have hP : va_P (dC, dI) vwQ ([(h0, .inr (18, [.int r30_modCount, .ref q_4, .int (zI (z30_size))])), (q_el, .inl (cE, ne, .inr (.inr (.inr (.inr fe))))), (q_4, .inl (cn_5, nn_6, .inr (.inr (.inr (.inr fn_7)))))] ++ va_pl L (pE P)) H := hP
    have hD : va_D A ([(h0, .inr (18, [.int r30_modCount, .ref q_4, .int (zI (z30_size))])), (q_el, .inl (cE, ne, .inr (.inr (.inr (.inr fe))))), (q_4, .inl (cn_5, nn_6, .inr (.inr (.inr (.inr fn_7)))))] ++ va_pl L (pE P)) := hD
    subst hQ
    refine W.widen (k := (1)) (n := (((ne : Int) + (ne : Int) / 2).toNat)) (by omega) (by omega) ?_
    exact W.aret (v := .ref q_4) hx hb hr (Or.inr ⟨_, rfl⟩) (Or.inr ⟨_, rfl⟩) (fun t ht hW => ⟨⟨(), q_4, rfl, trivial, cn_5, nn_6, fn_7, ⟨by omega, by omega, hcp.2.1, hcp.2.2⟩, by rw [ht]; exact hP, va_K.moved hW.alike hK, hD⟩, hS.F ht⟩) hS.2.2 dJx4a65c_grow_92f84_44
  · have yb7 : ¬ (0 : Int) < ((ne : Int) : Int) := fun q => b7 ((zI_lt (a := 0) (b := (ne : Int)) (by omega) (by omega) (by omega) (by omega)).mpr q)
    exfalso
    omega
def o_AL_grow0X : List Cond := [.fieldLink RJx4a65c 48 "java/util/ArrayList" "size" "I", .methodLink RJx4a65c 69 yJx4a65c_grow_92f84, .instanceMethod yJx4a65c_grow_92f84, .selects RJx4a65c yJx4a65c_grow_92f84 yJx4a65c_grow_92f84, .initialized RJx4a65c]
def v_AL_grow0X : List Cond := .code yJx4a65c_grow_d5877 cJx4a65c_grow_d5877 1 (some (.array (.object "java/lang/Object"))) :: (o_AL_grow0X ++ (wsJx4a65c0 ++ (v_AL_grow1X ++ [])))
theorem mow_AL_grow0X : ∀ w ∈ o_AL_grow0X, w ∈ v_AL_grow0X := fun _ h => List.mem_cons_of_mem _ (List.mem_append_left _ h)
theorem mem_AL_grow0X_0 : ∀ w ∈ wsJx4a65c0, w ∈ v_AL_grow0X := fun _ h => List.mem_cons_of_mem _ (List.mem_append_right _ (List.mem_append_left _ h))
theorem mem_AL_grow0X_1 : ∀ w ∈ v_AL_grow1X, w ∈ v_AL_grow0X := fun _ h => List.mem_cons_of_mem _ (List.mem_append_right _ (List.mem_append_right _ (List.mem_append_left _ h)))
set_option maxRecDepth 20000 in
theorem gw_AL_grow0X : v_AL_grow0X.all goodWord = true := by decide +kernel
set_option maxRecDepth 20000 in
theorem g_AL_grow0X_AL_grow1X : GoodIn v_AL_grow0X (wsV RJx4a65c 69 RJx4a65c yJx4a65c_grow_92f84 v_AL_grow1X) := goodIn_app (goodIn_sub (fun w h => mow_AL_grow0X w (by revert w h; decide +kernel)) (by decide +kernel)) (goodIn_sub mem_AL_grow0X_1 gw_AL_grow1X)
set_option maxHeartbeats 4000000 in
set_option maxRecDepth 100000 in
theorem c_AL_grow0X (l : Launch) (dC : Nat → ClassId) (dI : Nat → Nat → Nat) (h0 : Nat) (r30_modCount : Int32) (z30_size : Int) (q_el : Nat) (cE : ClassId) (ne : Nat) (fe : Nat → Option Nat) (L : List Nat) (P : PO) (hNz30_size : 0 ≤ z30_size ∧ z30_size ≤ 100000) (hNne : ne ≤ 100000) (hNm : 10 ≤ ne ∧ ne ≤ 40000 ∧ z30_size = ne) (hX_el : ELS L P fe) (sz : Nat) (sx_mi : Nat) : Met l yJx4a65c_grow_d5877 v_AL_grow0X ({ frames := 4, cells := (1), slots := (((ne : Int) + (ne : Int) / 2).toNat), locals := 127 }) (va_Pc [.ref h0] (fun U => U.heap.size = sz ∧ va_P (dC, dI) vwQ ([(h0, .inr (18, [.int r30_modCount, .ref q_el, .int (zI (z30_size))])), (q_el, .inl (cE, ne, .inr (.inr (.inr (.inr fe)))))] ++ va_pl L (pE P)) U.heap ∧ va_K (dC, dI) vwQ [(cE, .object "java/lang/Object")] U ∧ va_D (fun _ => True) ([(h0, .inr (18, [.int r30_modCount, .ref q_el, .int (zI (z30_size))])), (q_el, .inl (cE, ne, .inr (.inr (.inr (.inr fe)))))] ++ va_pl L (pE P)) ∧ va_Dc U ∧ va_Mi "[Ljava/lang/Object;" sx_mi U ∧ va_AO "java/lang/Object" U ∧ va_Nw (.castable "SsaForgeModel$Row" "java/lang/Object") U ∧ va_Nw (.castable "SsaForgeModel$Phi" "java/lang/Object") U ∧ va_Nw (.castable "SsaForgeModel$Block" "java/lang/Object") U)) (va_Qr (fun _ : Unit => True) (fun (_ : Unit) (rq : Nat) (t : State) => ∃ (cn_9 : ClassId) (nn_9 : Nat) (fn_9 : Nat → Option Nat), (((nn_9 : Int) = (ne : Int) + (ne : Int) / 2 ∧ 10 ≤ nn_9 ∧ ELS L P fn_9 ∧ ∀ j : Nat, j < ne → fn_9 j = fe j)) ∧ va_P (dC, dI) vwQ ([(h0, .inr (18, [.int r30_modCount, .ref rq, .int (zI (z30_size))])), (q_el, .inl (cE, ne, .inr (.inr (.inr (.inr fe))))), (rq, .inl (cn_9, nn_9, .inr (.inr (.inr (.inr fn_9)))))] ++ va_pl L (pE P)) t.heap ∧ va_K (dC, dI) vwQ [(cE, .object "java/lang/Object"), (cn_9, .object "java/lang/Object")] t ∧ va_D (va_A ([(h0, .inr (18, [.int r30_modCount, .ref q_el, .int (zI (z30_size))])), (q_el, .inl (cE, ne, .inr (.inr (.inr (.inr fe)))))] ++ va_pl L (pE P)) sz) ([(h0, .inr (18, [.int r30_modCount, .ref rq, .int (zI (z30_size))])), (q_el, .inl (cE, ne, .inr (.inr (.inr (.inr fe))))), (rq, .inl (cn_9, nn_9, .inr (.inr (.inr (.inr fn_9)))))] ++ va_pl L (pE P))) (va_A ([(h0, .inr (18, [.int r30_modCount, .ref q_el, .int (zI (z30_size))])), (q_el, .inl (cE, ne, .inr (.inr (.inr (.inr fe)))))] ++ va_pl L (pE P)) sz)) (1) (((ne : Int) + (ne : Int) / 2).toNat) (va_A ([(h0, .inr (18, [.int r30_modCount, .ref q_el, .int (zI (z30_size))])), (q_el, .inl (cE, ne, .inr (.inr (.inr (.inr fe)))))] ++ va_pl L (pE P)) sz) := by
  refine Met.ofW (cc := cJx4a65c_grow_d5877) (maxL := 1) (ret := (some (.array (.object "java/lang/Object")))) (by decide) rfl ?_
  intro p e s m args below meth c s₁ B hml hv
  obtain ⟨rfl, hsz, hP, hK, hD0, hp0, hp1, hp2, hp3, hp4, hp5⟩ := hv
  have hx := B.exec
  have hb := B.bytes
  have hr := B.returns
  have hts := atoms_spec (ws := v_AL_grow0X) B.pre
  have hown : s.vm.findClass RJx4a65c = some m.cls := findClass_of_methodNamed B.named
  have hlocks := B.notSynchronized
  have ow : ∀ {k : Nat} {w : Cond}, o_AL_grow0X[k]? = some w → w.before ([.ref h0] : List Value).toArray s = true := fun h => hts _ (mow_AL_grow0X _ (List.mem_of_getElem? h))
  subst hsz
  have hD := hD0.self (sz := s.heap.size)
  generalize hAe : va_A ([(h0, .inr (18, [.int r30_modCount, .ref q_el, .int (zI (z30_size))])), (q_el, .inl (cE, ne, .inr (.inr (.inr (.inr fe)))))] ++ va_pl L (pE P)) s.heap.size = A at hD hp2 ⊢
  have hA : ∀ q : Nat, s.heap.size ≤ q → A q := fun q h => by rw [← hAe]; exact Or.inr h
  have hS : va_S A s.heap s.heap [] := va_S.rf
  have hP : va_P (dC, dI) vwQ ([(h0, .inr (18, [.int r30_modCount, .ref q_el, .int (zI (z30_size))])), (q_el, .inl (cE, ne, .inr (.inr (.inr (.inr fe)))))] ++ va_pl L (pE P)) s.heap := hP
  have hl := lv_entry ([.ref h0]) (n := 1) (Nat.le_of_ble_eq_true rfl)
  rw [lg_entry_eq]
  generalize (lg_sl ([.ref h0]) ++ List.replicate (1 - (lg_sl ([.ref h0])).length) Slot.unset).toArray = ls at hl ⊢
  have hl : lv_has ls 1 [(0, .ref h0)] := hl
  obtain ⟨H, hH⟩ : ∃ H, H = s.heap := ⟨_, rfl⟩
  rw [← hH] at hP
  have hS : va_S A s.heap H [] := by rw [hH]; exact hS
  rw [← hH]
  refine zW_cap (fun Q hQ => ?_)
  refine lv_aload_n hx hb dJx4a65c_grow_d5877_0 rfl (lv_at hl 0 rfl) ?_
  refine lv_aload_n hx hb dJx4a65c_grow_d5877_1 rfl (lv_at hl 0 rfl) ?_
  refine va_get (D := (dC, dI)) (ci := 18) (v := .int (zI (z30_size))) (C := RJx4a65c) (T := TJx4a65c) (N := 3) hx hb hts mem_AL_grow0X_0 hown hK hP 0 rfl rfl 2 (by decide) (ow (k := 0) rfl) (fun _ h9 => h9) rfl dJx4a65c_grow_d5877_2 ?_
  refine lv_iconst (v := 1) hx hb dJx4a65c_grow_d5877_5 (by decide) ?_
  refine lv_iadd hx hb dJx4a65c_grow_d5877_6 ?_
  refine lv_topi (fun z ez => ?_)
  obtain rfl : z = zI (z30_size + 1) := ez.trans (zI_add (z30_size) (1))
  have hPc := hP.part (X := [(h0, .inr (18, [.int r30_modCount, .ref q_el, .int (zI (z30_size))])), (q_el, .inl (cE, ne, .inr (.inr (.inr (.inr fe)))))]) (cx := [(h0, .inr (18, [.int r30_modCount, .ref q_el, .int (zI (z30_size))])), (q_el, .inl (cE, ne, .inr (.inr (.inr (.inr fe)))))]) (pl := va_pl L (pE P)) [0, 1] rfl
  have hDc := hD.part (X := [(h0, .inr (18, [.int r30_modCount, .ref q_el, .int (zI (z30_size))])), (q_el, .inl (cE, ne, .inr (.inr (.inr (.inr fe)))))]) (cx := [(h0, .inr (18, [.int r30_modCount, .ref q_el, .int (zI (z30_size))])), (q_el, .inl (cE, ne, .inr (.inr (.inr (.inr fe)))))]) (pl := va_pl L (pE P)) [0, 1] (by decide) rfl
  have hKc := hK.sub (tys' := [(cE, .object "java/lang/Object")]) [0] rfl
  have hFc := va_freeP (X := [(h0, .inr (18, [.int r30_modCount, .ref q_el, .int (zI (z30_size))])), (q_el, .inl (cE, ne, .inr (.inr (.inr (.inr fe)))))]) (cx := [(h0, .inr (18, [.int r30_modCount, .ref q_el, .int (zI (z30_size))])), (q_el, .inl (cE, ne, .inr (.inr (.inr (.inr fe)))))]) (pl := va_pl L (pE P)) hD hS hA [0, 1] rfl
  refine va_callr (va_runV (As := [.int (zI (z30_size + 1))]) (rest := []) ⟨hx, hb, hml, hown, hts⟩ (c_AL_grow1X l dC dI h0 r30_modCount z30_size q_el cE ne fe L P (z30_size + 1) (by omega) (by omega) (by omega) hX_el H.size sx_mi) (cwV 1 hts g_AL_grow0X_AL_grow1X rfl rfl rfl (by decide +kernel) ⟨(Nat.le_of_ble_eq_true rfl), (Nat.le_of_ble_eq_true rfl)⟩) ⟨fun a U g mk q => by obtain ⟨q0, q1, qP, qK, qD, e0, e1, e2, e3, e4, e5⟩ := q; exact ⟨q0, q1, qP, va_K.moved (u := U) (U := U.calling g mk a) (Vm.Alike.refl U.vm) qK, qD, va_Dc.moved (u := U) (U := U.calling g mk a) (Vm.Alike.refl U.vm) e0, va_Mi.moved (u := U) (U := U.calling g mk a) (Vm.Alike.refl U.vm) e1, va_AO.moved (u := U) (U := U.calling g mk a) (Vm.Alike.refl U.vm) e2, va_Nw.same rfl (u := U) (U := U.calling g mk a) rfl e3, va_Nw.same rfl (u := U) (U := U.calling g mk a) rfl e4, va_Nw.same rfl (u := U) (U := U.calling g mk a) rfl e5⟩, va_recv hKc hPc (ci := 18) (q0 := 0) rfl rfl, fun U hU hW => ⟨rfl, by rw [hU], by rw [hU]; exact hPc, va_K.moved hW.alike hKc, hDc.weaken (fun _ _ _ _ => trivial), va_Dc.moved hW.alike hp0, va_Mi.moved hW.alike hp1, va_AO.moved hW.alike hp2, va_Nw.warmC hW hp3, va_Nw.warmC hW hp4, va_Nw.warmC hW hp5⟩⟩ rfl rfl hl.1 rfl (lv_room (Nat.le_of_ble_eq_true rfl)) dJx4a65c_grow_d5877_7 ⟨(show 0 + (1) ≤ 1 from (by omega)), (show 0 + (((ne : Int) + (ne : Int) / 2).toNat) ≤ ((ne : Int) + (ne : Int) / 2).toNat from (by omega))⟩) hS (fun q _ h => hFc q h) hFc (fun u q_1 t H1 locs ht hvm hw hB hz1 hk1 hS => ?_)
  obtain ⟨cn_2, nn_3, fn_4, hxt_4, hP1, hK1, hD1⟩ := hB
  rw [ht] at hP1
  have hK1 := va_K.moved hvm.symm hK1
  obtain ⟨hP, hD⟩ := va_joinP (X := [(h0, .inr (18, [.int r30_modCount, .ref q_el, .int (zI (z30_size))])), (q_el, .inl (cE, ne, .inr (.inr (.inr (.inr fe)))))]) (cx := [(h0, .inr (18, [.int r30_modCount, .ref q_el, .int (zI (z30_size))])), (q_el, .inl (cE, ne, .inr (.inr (.inr (.inr fe)))))]) (wr := []) (rx := [(h0, .inr (18, [.int r30_modCount, .ref q_1, .int (zI (z30_size))])), (q_el, .inl (cE, ne, .inr (.inr (.inr (.inr fe))))), (q_1, .inl (cn_2, nn_3, .inr (.inr (.inr (.inr fn_4)))))]) (pl := va_pl L (pE P)) (pl1 := va_pl L (pE P)) hP hD [0, 1] [] rfl rfl (by decide) (by decide) hk1 hFc hP1 hD1
  have hK := (hK.sub (tys' := []) [] rfl).app hK1
  generalize H1 = H at hP hS ⊢
  have hP : va_P (dC, dI) vwQ ([(h0, .inr (18, [.int r30_modCount, .ref q_1, .int (zI (z30_size))])), (q_el, .inl (cE, ne, .inr (.inr (.inr (.inr fe))))), (q_1, .inl (cn_2, nn_3, .inr (.inr (.inr (.inr fn_4)))))] ++ va_pl L (pE P)) H := hP
  have hD : va_D A ([(h0, .inr (18, [.int r30_modCount, .ref q_1, .int (zI (z30_size))])), (q_el, .inl (cE, ne, .inr (.inr (.inr (.inr fe))))), (q_1, .inl (cn_2, nn_3, .inr (.inr (.inr (.inr fn_4)))))] ++ va_pl L (pE P)) := hD
  have hK : va_K (dC, dI) vwQ [(cE, .object "java/lang/Object"), (cn_2, .object "java/lang/Object")] s := hK
  refine W.widen (k := (0 + (1))) (n := (0 + (((ne : Int) + (ne : Int) / 2).toNat))) (by omega) (by omega) ?_
  subst hQ
  refine W.widen (k := (1)) (n := (((ne : Int) + (ne : Int) / 2).toNat)) (by omega) (by omega) ?_
  exact W.aret (v := .ref q_1) hx hb hr (Or.inr ⟨_, rfl⟩) (Or.inr ⟨_, rfl⟩) (fun t ht hW => ⟨⟨(), q_1, rfl, trivial, cn_2, nn_3, fn_4, hxt_4, by rw [ht]; exact hP, va_K.moved hW.alike hK, hD⟩, hS.F ht⟩) hS.2.2 dJx4a65c_grow_d5877_10
def o_AL_add3X : List Cond := [.fieldLink RJx4a65c 48 "java/util/ArrayList" "size" "I", .methodLink RJx4a65c 129 yJx4a65c_grow_d5877, .instanceMethod yJx4a65c_grow_d5877, .selects RJx4a65c yJx4a65c_grow_d5877 yJx4a65c_grow_d5877, .initialized RJx4a65c]
def v_AL_add3X : List Cond := .code yJx4a65c_add_72be8 cJx4a65c_add_72be8 4 none :: (o_AL_add3X ++ (wsJx4a65c0 ++ (v_AL_grow0X ++ [])))
theorem mow_AL_add3X : ∀ w ∈ o_AL_add3X, w ∈ v_AL_add3X := fun _ h => List.mem_cons_of_mem _ (List.mem_append_left _ h)
theorem mem_AL_add3X_0 : ∀ w ∈ wsJx4a65c0, w ∈ v_AL_add3X := fun _ h => List.mem_cons_of_mem _ (List.mem_append_right _ (List.mem_append_left _ h))
theorem mem_AL_add3X_1 : ∀ w ∈ v_AL_grow0X, w ∈ v_AL_add3X := fun _ h => List.mem_cons_of_mem _ (List.mem_append_right _ (List.mem_append_right _ (List.mem_append_left _ h)))
set_option maxRecDepth 20000 in
theorem gw_AL_add3X : v_AL_add3X.all goodWord = true := by decide +kernel
set_option maxRecDepth 20000 in
theorem g_AL_add3X_AL_grow0X : GoodIn v_AL_add3X (wsV RJx4a65c 129 RJx4a65c yJx4a65c_grow_d5877 v_AL_grow0X) := goodIn_app (goodIn_sub (fun w h => mow_AL_add3X w (by revert w h; decide +kernel)) (by decide +kernel)) (goodIn_sub mem_AL_add3X_1 gw_AL_grow0X)
set_option maxHeartbeats 4000000 in
set_option maxRecDepth 100000 in
theorem c_AL_add3X (l : Launch) (dC : Nat → ClassId) (dI : Nat → Nat → Nat) (h0 : Nat) (r30_modCount : Int32) (z30_size : Int) (q_el : Nat) (cE : ClassId) (ne : Nat) (fe : Nat → Option Nat) (L : List Nat) (P : PO) (y : Nat) (hNz30_size : 0 ≤ z30_size ∧ z30_size ≤ 100000) (hNne : ne ≤ 100000) (hNm : 10 ≤ ne ∧ ne ≤ 40000 ∧ z30_size ≤ ne ∧ z30_size ≤ 40000) (hX_el : ELS L P fe) (hX_y : y ∈ L ∧ OBK (P.kd y)) (sz : Nat) (sx_mi : Nat) : Met l yJx4a65c_add_72be8 v_AL_add3X ({ frames := 5, cells := (groC (z30_size) (ne : Int)), slots := (groX (z30_size) (ne : Int)), locals := 147 }) (va_Pc [.ref h0, .ref y, .ref q_el, .int (zI (z30_size))] (fun U => U.heap.size = sz ∧ va_P (dC, dI) vwQ ([(h0, .inr (18, [.int r30_modCount, .ref q_el, .int (zI (z30_size))])), (q_el, .inl (cE, ne, .inr (.inr (.inr (.inr fe)))))] ++ va_pl L (pE P)) U.heap ∧ va_K (dC, dI) vwQ [(cE, .object "java/lang/Object")] U ∧ va_D (fun _ => True) ([(h0, .inr (18, [.int r30_modCount, .ref q_el, .int (zI (z30_size))])), (q_el, .inl (cE, ne, .inr (.inr (.inr (.inr fe)))))] ++ va_pl L (pE P)) ∧ va_Nw (.castable "SsaForgeModel$Row" "java/lang/Object") U ∧ va_Nw (.castable "SsaForgeModel$Phi" "java/lang/Object") U ∧ va_Nw (.castable "SsaForgeModel$Block" "java/lang/Object") U ∧ va_Dc U ∧ va_Mi "[Ljava/lang/Object;" sx_mi U ∧ va_AO "java/lang/Object" U)) (va_Qv (fun _ : Unit => True) (fun (_ : Unit) (t : State) => ∃ (z0_9 : Int) (qn_9 : Nat) (cn_9 : ClassId) (nn_9 : Nat) (fn_9 : Nat → Option Nat), ((0 ≤ z0_9 ∧ z0_9 ≤ 100000) ∧ (z0_9 = z30_size + 1 ∧ (z30_size + 1 ≤ (nn_9 : Int) ∧ (((nn_9 : Int) = ne ∧ z30_size ≠ ne) ∨ (z30_size = ne ∧ (nn_9 : Int) = (ne : Int) + (ne : Int) / 2))) ∧ ELS L P fn_9 ∧ fn_9 (z30_size).toNat = some y ∧ ∀ j : Nat, (j : Int) < z30_size → fn_9 j = fe j)) ∧ va_P (dC, dI) vwQ ([(h0, .inr (18, [.int r30_modCount, .ref qn_9, .int (zI (z0_9))])), (qn_9, .inl (cn_9, nn_9, .inr (.inr (.inr (.inr fn_9)))))] ++ va_pl L (pE P)) t.heap ∧ va_K (dC, dI) vwQ [(cn_9, .object "java/lang/Object")] t ∧ va_D (va_A ([(h0, .inr (18, [.int r30_modCount, .ref q_el, .int (zI (z30_size))])), (q_el, .inl (cE, ne, .inr (.inr (.inr (.inr fe)))))] ++ va_pl L (pE P)) sz) ([(h0, .inr (18, [.int r30_modCount, .ref qn_9, .int (zI (z0_9))])), (qn_9, .inl (cn_9, nn_9, .inr (.inr (.inr (.inr fn_9)))))] ++ va_pl L (pE P))) (va_A ([(h0, .inr (18, [.int r30_modCount, .ref q_el, .int (zI (z30_size))])), (q_el, .inl (cE, ne, .inr (.inr (.inr (.inr fe)))))] ++ va_pl L (pE P)) sz)) (groC (z30_size) (ne : Int)) (groX (z30_size) (ne : Int)) (va_A ([(h0, .inr (18, [.int r30_modCount, .ref q_el, .int (zI (z30_size))])), (q_el, .inl (cE, ne, .inr (.inr (.inr (.inr fe)))))] ++ va_pl L (pE P)) sz) := by
  refine Met.ofW (cc := cJx4a65c_add_72be8) (maxL := 4) (ret := none) (by decide) rfl ?_
  intro p e s m args below meth c s₁ B hml hv
  obtain ⟨rfl, hsz, hP, hK, hD0, hp0, hp1, hp2, hp3, hp4, hp5⟩ := hv
  have hx := B.exec
  have hb := B.bytes
  have hr := B.returns
  have hts := atoms_spec (ws := v_AL_add3X) B.pre
  have hown : s.vm.findClass RJx4a65c = some m.cls := findClass_of_methodNamed B.named
  have hlocks := B.notSynchronized
  have ow : ∀ {k : Nat} {w : Cond}, o_AL_add3X[k]? = some w → w.before ([.ref h0, .ref y, .ref q_el, .int (zI (z30_size))] : List Value).toArray s = true := fun h => hts _ (mow_AL_add3X _ (List.mem_of_getElem? h))
  subst hsz
  have hD := hD0.self (sz := s.heap.size)
  generalize hAe : va_A ([(h0, .inr (18, [.int r30_modCount, .ref q_el, .int (zI (z30_size))])), (q_el, .inl (cE, ne, .inr (.inr (.inr (.inr fe)))))] ++ va_pl L (pE P)) s.heap.size = A at hD hp5 ⊢
  have hA : ∀ q : Nat, s.heap.size ≤ q → A q := fun q h => by rw [← hAe]; exact Or.inr h
  have hS : va_S A s.heap s.heap [] := va_S.rf
  have hP : va_P (dC, dI) vwQ ([(h0, .inr (18, [.int r30_modCount, .ref q_el, .int (zI (z30_size))])), (q_el, .inl (cE, ne, .inr (.inr (.inr (.inr fe)))))] ++ va_pl L (pE P)) s.heap := hP
  have hl := lv_entry ([.ref h0, .ref y, .ref q_el, .int (zI (z30_size))]) (n := 4) (Nat.le_of_ble_eq_true rfl)
  rw [lg_entry_eq]
  generalize (lg_sl ([.ref h0, .ref y, .ref q_el, .int (zI (z30_size))]) ++ List.replicate (4 - (lg_sl ([.ref h0, .ref y, .ref q_el, .int (zI (z30_size))])).length) Slot.unset).toArray = ls at hl ⊢
  have hl : lv_has ls 4 [(0, .ref h0), (1, .ref y), (2, .ref q_el), (3, .int (zI (z30_size)))] := hl
  obtain ⟨H, hH⟩ : ∃ H, H = s.heap := ⟨_, rfl⟩
  rw [← hH] at hP
  have hS : va_S A s.heap H [] := by rw [hH]; exact hS
  rw [← hH]
  refine zW_cap (fun Q hQ => ?_)
  have hgs := groX_spec (z30_size) (ne : Int)
  have hgc := groC_spec (z30_size) (ne : Int)
  refine lv_iload_n hx hb dJx4a65c_add_72be8_0 rfl (lv_at hl 3 rfl) ?_
  refine lv_aload_n hx hb dJx4a65c_add_72be8_1 rfl (lv_at hl 2 rfl) ?_
  refine va_alen (v := zI ((ne : Int))) hx hb hK hP 1 0 rfl rfl (zI_ofNat ne) dJx4a65c_add_72be8_2 ?_
  refine lv_icmp_ne (tgt := 11) hx hb dJx4a65c_add_72be8_3 (by decide) (fun b3 => ?_) (fun b3 => ?_)
  · have yb3 : ¬ (z30_size : Int) = ((ne : Int) : Int) := fun q => b3 ((zI_eq (a := z30_size) (b := (ne : Int)) (by omega) (by omega) (by omega) (by omega)).mpr q)
    refine lv_aload_n hx hb dJx4a65c_add_72be8_11 rfl (lv_at hl 2 rfl) ?_
    refine lv_iload_n hx hb dJx4a65c_add_72be8_12 rfl (lv_at hl 3 rfl) ?_
    refine lv_aload_n hx hb dJx4a65c_add_72be8_13 rfl (lv_at hl 1 rfl) ?_
    refine va_astqM (E := "java/lang/Object") (i := zI (z30_size)) hx hb hK hP hD hS 1 0 rfl rfl (pool_any hK hP hX_y.1 hX_y.2 hp0 hp1 hp2) (zI_in (a := z30_size) (n := ne) (by omega) (by omega) (by omega)) dJx4a65c_add_72be8_14 (fun H locs hP hD hS => ?_)
    have hP : va_P (dC, dI) vwQ ([(h0, .inr (18, [.int r30_modCount, .ref q_el, .int (zI (z30_size))])), (q_el, .inl (cE, ne, .inr (.inr (.inr (.inr (va_up fe (zI (z30_size)).toNatClampNeg (some y)))))))] ++ va_pl L (pE P)) H := hP
    have hD : va_D A ([(h0, .inr (18, [.int r30_modCount, .ref q_el, .int (zI (z30_size))])), (q_el, .inl (cE, ne, .inr (.inr (.inr (.inr (va_up fe (zI (z30_size)).toNatClampNeg (some y)))))))] ++ va_pl L (pE P)) := hD
    generalize efo_1 : (va_up fe (zI (z30_size)).toNatClampNeg (some y)) = fo_1 at hP hD
    rw [zI_cl (by omega) (by omega)] at efo_1
    have hP : va_P (dC, dI) vwQ ([(h0, .inr (18, [.int r30_modCount, .ref q_el, .int (zI (z30_size))])), (q_el, .inl (cE, ne, .inr (.inr (.inr (.inr fo_1)))))] ++ va_pl L (pE P)) H := hP
    have hD : va_D A ([(h0, .inr (18, [.int r30_modCount, .ref q_el, .int (zI (z30_size))])), (q_el, .inl (cE, ne, .inr (.inr (.inr (.inr fo_1)))))] ++ va_pl L (pE P)) := hD
    refine lv_aload_n hx hb dJx4a65c_add_72be8_15 rfl (lv_at hl 0 rfl) ?_
    refine lv_iload_n hx hb dJx4a65c_add_72be8_16 rfl (lv_at hl 3 rfl) ?_
    refine lv_iconst (v := 1) hx hb dJx4a65c_add_72be8_17 (by decide) ?_
    refine lv_iadd hx hb dJx4a65c_add_72be8_18 ?_
    refine lv_topi (fun z ez => ?_)
    obtain rfl : z = zI (z30_size + 1) := ez.trans (zI_add (z30_size) (1))
    refine va_put (D := (dC, dI)) (ci := 18) (v := .int (zI (z30_size + 1))) (ty := .int) (C := RJx4a65c) (T := TJx4a65c) (N := 3) hx hb hts mem_AL_add3X_0 tyJx4a65c tyJx4a65c_ok nmJx4a65c hown hK hP hD hS 0 rfl rfl 2 (by decide) (ow (k := 0) rfl) (fun _ h9 => h9) rfl (by decide +kernel) rfl rfl (by first | exact Nat.le_of_ble_eq_true rfl | exact (show 0 ≤ groC (z30_size) (ne : Int) from (by omega)) | exact (show 0 ≤ groX (z30_size) (ne : Int) from (by omega))) dJx4a65c_add_72be8_19 (fun H locs hP hD hS => ?_)
    have hP : va_P (dC, dI) vwQ ([(h0, .inr (18, [.int r30_modCount, .ref q_el, .int (zI (z30_size + 1))])), (q_el, .inl (cE, ne, .inr (.inr (.inr (.inr fo_1)))))] ++ va_pl L (pE P)) H := hP
    have hD : va_D A ([(h0, .inr (18, [.int r30_modCount, .ref q_el, .int (zI (z30_size + 1))])), (q_el, .inl (cE, ne, .inr (.inr (.inr (.inr fo_1)))))] ++ va_pl L (pE P)) := hD
    obtain ⟨z_2, ez_2⟩ : ∃ z9 : Int, z9 = z30_size + 1 := ⟨_, rfl⟩
    rw [← ez_2] at hP hD
    have hP : va_P (dC, dI) vwQ ([(h0, .inr (18, [.int r30_modCount, .ref q_el, .int (zI (z_2))])), (q_el, .inl (cE, ne, .inr (.inr (.inr (.inr fo_1)))))] ++ va_pl L (pE P)) H := hP
    have hD : va_D A ([(h0, .inr (18, [.int r30_modCount, .ref q_el, .int (zI (z_2))])), (q_el, .inl (cE, ne, .inr (.inr (.inr (.inr fo_1)))))] ++ va_pl L (pE P)) := hD
    subst hQ
    refine W.widen (k := (groC (z30_size) (ne : Int))) (n := (groX (z30_size) (ne : Int))) (by omega) (by omega) ?_
    exact W.vret hx hb hr (fun t ht hW => ⟨⟨(), rfl, trivial, z_2, q_el, cE, ne, fo_1, ⟨(by omega), ⟨by omega, ⟨by omega, by omega⟩, (by rw [← efo_1]; exact hX_el.put hX_y.1 hX_y.2), (by rw [← efo_1]; exact up_at), (by rw [← efo_1]; exact up_lt (fun _ _ => rfl))⟩⟩, by rw [ht]; exact hP, va_K.moved hW.alike hK, hD⟩, hS.F ht⟩) hS.2.2 dJx4a65c_add_72be8_22
  · have yb3 : (z30_size : Int) = ((ne : Int) : Int) := (zI_eq (a := z30_size) (b := (ne : Int)) (by omega) (by omega) (by omega) (by omega)).mp b3
    refine lv_aload_n hx hb dJx4a65c_add_72be8_6 rfl (lv_at hl 0 rfl) ?_
    have hPc := hP.part (X := [(h0, .inr (18, [.int r30_modCount, .ref q_el, .int (zI (z30_size))])), (q_el, .inl (cE, ne, .inr (.inr (.inr (.inr fe)))))]) (cx := [(h0, .inr (18, [.int r30_modCount, .ref q_el, .int (zI (z30_size))])), (q_el, .inl (cE, ne, .inr (.inr (.inr (.inr fe)))))]) (pl := va_pl L (pE P)) [0, 1] rfl
    have hDc := hD.part (X := [(h0, .inr (18, [.int r30_modCount, .ref q_el, .int (zI (z30_size))])), (q_el, .inl (cE, ne, .inr (.inr (.inr (.inr fe)))))]) (cx := [(h0, .inr (18, [.int r30_modCount, .ref q_el, .int (zI (z30_size))])), (q_el, .inl (cE, ne, .inr (.inr (.inr (.inr fe)))))]) (pl := va_pl L (pE P)) [0, 1] (by decide) rfl
    have hKc := hK.sub (tys' := [(cE, .object "java/lang/Object")]) [0] rfl
    have hFc := va_freeP (X := [(h0, .inr (18, [.int r30_modCount, .ref q_el, .int (zI (z30_size))])), (q_el, .inl (cE, ne, .inr (.inr (.inr (.inr fe)))))]) (cx := [(h0, .inr (18, [.int r30_modCount, .ref q_el, .int (zI (z30_size))])), (q_el, .inl (cE, ne, .inr (.inr (.inr (.inr fe)))))]) (pl := va_pl L (pE P)) hD hS hA [0, 1] rfl
    refine va_callr (va_runV (As := []) (rest := []) ⟨hx, hb, hml, hown, hts⟩ (c_AL_grow0X l dC dI h0 r30_modCount z30_size q_el cE ne fe L P (by omega) (by omega) (by omega) hX_el H.size sx_mi) (cwV 0 hts g_AL_add3X_AL_grow0X rfl rfl rfl (by decide +kernel) ⟨(Nat.le_of_ble_eq_true rfl), (Nat.le_of_ble_eq_true rfl)⟩) ⟨fun a U g mk q => by obtain ⟨q0, q1, qP, qK, qD, e0, e1, e2, e3, e4, e5⟩ := q; exact ⟨q0, q1, qP, va_K.moved (u := U) (U := U.calling g mk a) (Vm.Alike.refl U.vm) qK, qD, va_Dc.moved (u := U) (U := U.calling g mk a) (Vm.Alike.refl U.vm) e0, va_Mi.moved (u := U) (U := U.calling g mk a) (Vm.Alike.refl U.vm) e1, va_AO.moved (u := U) (U := U.calling g mk a) (Vm.Alike.refl U.vm) e2, va_Nw.same rfl (u := U) (U := U.calling g mk a) rfl e3, va_Nw.same rfl (u := U) (U := U.calling g mk a) rfl e4, va_Nw.same rfl (u := U) (U := U.calling g mk a) rfl e5⟩, va_recv hKc hPc (ci := 18) (q0 := 0) rfl rfl, fun U hU hW => ⟨rfl, by rw [hU], by rw [hU]; exact hPc, va_K.moved hW.alike hKc, hDc.weaken (fun _ _ _ _ => trivial), va_Dc.moved hW.alike hp3, va_Mi.moved hW.alike hp4, va_AO.moved hW.alike hp5, va_Nw.warmC hW hp0, va_Nw.warmC hW hp1, va_Nw.warmC hW hp2⟩⟩ rfl rfl hl.1 rfl (lv_room (Nat.le_of_ble_eq_true rfl)) dJx4a65c_add_72be8_7 ⟨(show 0 + (1) ≤ groC (z30_size) (ne : Int) from (by omega)), (show 0 + (((ne : Int) + (ne : Int) / 2).toNat) ≤ groX (z30_size) (ne : Int) from (by omega))⟩) hS (fun q _ h => hFc q h) hFc (fun u q_3 t H1 locs ht hvm hw hB hz1 hk1 hS => ?_)
    obtain ⟨cn_4, nn_5, fn_6, hxt_6, hP1, hK1, hD1⟩ := hB
    rw [ht] at hP1
    have hK1 := va_K.moved hvm.symm hK1
    obtain ⟨hP, hD⟩ := va_joinP (X := [(h0, .inr (18, [.int r30_modCount, .ref q_el, .int (zI (z30_size))])), (q_el, .inl (cE, ne, .inr (.inr (.inr (.inr fe)))))]) (cx := [(h0, .inr (18, [.int r30_modCount, .ref q_el, .int (zI (z30_size))])), (q_el, .inl (cE, ne, .inr (.inr (.inr (.inr fe)))))]) (wr := []) (rx := [(h0, .inr (18, [.int r30_modCount, .ref q_3, .int (zI (z30_size))])), (q_el, .inl (cE, ne, .inr (.inr (.inr (.inr fe))))), (q_3, .inl (cn_4, nn_5, .inr (.inr (.inr (.inr fn_6)))))]) (pl := va_pl L (pE P)) (pl1 := va_pl L (pE P)) hP hD [0, 1] [] rfl rfl (by decide) (by decide) hk1 hFc hP1 hD1
    have hK := (hK.sub (tys' := []) [] rfl).app hK1
    generalize H1 = H at hP hS ⊢
    have hP : va_P (dC, dI) vwQ ([(h0, .inr (18, [.int r30_modCount, .ref q_3, .int (zI (z30_size))])), (q_el, .inl (cE, ne, .inr (.inr (.inr (.inr fe))))), (q_3, .inl (cn_4, nn_5, .inr (.inr (.inr (.inr fn_6)))))] ++ va_pl L (pE P)) H := hP
    have hD : va_D A ([(h0, .inr (18, [.int r30_modCount, .ref q_3, .int (zI (z30_size))])), (q_el, .inl (cE, ne, .inr (.inr (.inr (.inr fe))))), (q_3, .inl (cn_4, nn_5, .inr (.inr (.inr (.inr fn_6)))))] ++ va_pl L (pE P)) := hD
    have hK : va_K (dC, dI) vwQ [(cE, .object "java/lang/Object"), (cn_4, .object "java/lang/Object")] s := hK
    refine W.widen (k := (0 + (1))) (n := (0 + (((ne : Int) + (ne : Int) / 2).toNat))) (by omega) (by omega) ?_
    have hgr := hxt_6
    refine lv_astore_n (lv' := [(2, .ref q_3), (0, .ref h0), (1, .ref y), (3, .int (zI (z30_size)))]) hx hb dJx4a65c_add_72be8_10 rfl hl (by decide) rfl (fun ls hl => ?_)
    refine lv_aload_n hx hb dJx4a65c_add_72be8_11 rfl (lv_at hl 0 rfl) ?_
    refine lv_iload_n hx hb dJx4a65c_add_72be8_12 rfl (lv_at hl 3 rfl) ?_
    refine lv_aload_n hx hb dJx4a65c_add_72be8_13 rfl (lv_at hl 2 rfl) ?_
    refine va_astqM (E := "java/lang/Object") (i := zI (z30_size)) hx hb hK hP hD hS 2 1 rfl rfl (pool_any hK hP hX_y.1 hX_y.2 hp0 hp1 hp2) (zI_in (a := z30_size) (n := nn_5) (by omega) (by omega) (by omega)) dJx4a65c_add_72be8_14 (fun H locs hP hD hS => ?_)
    have hP : va_P (dC, dI) vwQ ([(h0, .inr (18, [.int r30_modCount, .ref q_3, .int (zI (z30_size))])), (q_el, .inl (cE, ne, .inr (.inr (.inr (.inr fe))))), (q_3, .inl (cn_4, nn_5, .inr (.inr (.inr (.inr (va_up fn_6 (zI (z30_size)).toNatClampNeg (some y)))))))] ++ va_pl L (pE P)) H := hP
    have hD : va_D A ([(h0, .inr (18, [.int r30_modCount, .ref q_3, .int (zI (z30_size))])), (q_el, .inl (cE, ne, .inr (.inr (.inr (.inr fe))))), (q_3, .inl (cn_4, nn_5, .inr (.inr (.inr (.inr (va_up fn_6 (zI (z30_size)).toNatClampNeg (some y)))))))] ++ va_pl L (pE P)) := hD
    generalize efo_7 : (va_up fn_6 (zI (z30_size)).toNatClampNeg (some y)) = fo_7 at hP hD
    rw [zI_cl (by omega) (by omega)] at efo_7
    have hP : va_P (dC, dI) vwQ ([(h0, .inr (18, [.int r30_modCount, .ref q_3, .int (zI (z30_size))])), (q_el, .inl (cE, ne, .inr (.inr (.inr (.inr fe))))), (q_3, .inl (cn_4, nn_5, .inr (.inr (.inr (.inr fo_7)))))] ++ va_pl L (pE P)) H := hP
    have hD : va_D A ([(h0, .inr (18, [.int r30_modCount, .ref q_3, .int (zI (z30_size))])), (q_el, .inl (cE, ne, .inr (.inr (.inr (.inr fe))))), (q_3, .inl (cn_4, nn_5, .inr (.inr (.inr (.inr fo_7)))))] ++ va_pl L (pE P)) := hD
    refine lv_aload_n hx hb dJx4a65c_add_72be8_15 rfl (lv_at hl 1 rfl) ?_
    refine lv_iload_n hx hb dJx4a65c_add_72be8_16 rfl (lv_at hl 3 rfl) ?_
    refine lv_iconst (v := 1) hx hb dJx4a65c_add_72be8_17 (by decide) ?_
    refine lv_iadd hx hb dJx4a65c_add_72be8_18 ?_
    refine lv_topi (fun z ez => ?_)
    obtain rfl : z = zI (z30_size + 1) := ez.trans (zI_add (z30_size) (1))
    refine va_put (D := (dC, dI)) (ci := 18) (v := .int (zI (z30_size + 1))) (ty := .int) (C := RJx4a65c) (T := TJx4a65c) (N := 3) hx hb hts mem_AL_add3X_0 tyJx4a65c tyJx4a65c_ok nmJx4a65c hown hK hP hD hS 0 rfl rfl 2 (by decide) (ow (k := 0) rfl) (fun _ h9 => h9) rfl (by decide +kernel) rfl rfl (by first | exact Nat.le_of_ble_eq_true rfl | exact (show (0 + (1)) ≤ groC (z30_size) (ne : Int) from (by omega)) | exact (show (0 + (((ne : Int) + (ne : Int) / 2).toNat)) ≤ groX (z30_size) (ne : Int) from (by omega))) dJx4a65c_add_72be8_19 (fun H locs hP hD hS => ?_)
    have hP : va_P (dC, dI) vwQ ([(h0, .inr (18, [.int r30_modCount, .ref q_3, .int (zI (z30_size + 1))])), (q_el, .inl (cE, ne, .inr (.inr (.inr (.inr fe))))), (q_3, .inl (cn_4, nn_5, .inr (.inr (.inr (.inr fo_7)))))] ++ va_pl L (pE P)) H := hP
    have hD : va_D A ([(h0, .inr (18, [.int r30_modCount, .ref q_3, .int (zI (z30_size + 1))])), (q_el, .inl (cE, ne, .inr (.inr (.inr (.inr fe))))), (q_3, .inl (cn_4, nn_5, .inr (.inr (.inr (.inr fo_7)))))] ++ va_pl L (pE P)) := hD
    obtain ⟨z_8, ez_8⟩ : ∃ z9 : Int, z9 = z30_size + 1 := ⟨_, rfl⟩
    rw [← ez_8] at hP hD
    have hP : va_P (dC, dI) vwQ ([(h0, .inr (18, [.int r30_modCount, .ref q_3, .int (zI (z_8))])), (q_el, .inl (cE, ne, .inr (.inr (.inr (.inr fe))))), (q_3, .inl (cn_4, nn_5, .inr (.inr (.inr (.inr fo_7)))))] ++ va_pl L (pE P)) H := hP
    have hD : va_D A ([(h0, .inr (18, [.int r30_modCount, .ref q_3, .int (zI (z_8))])), (q_el, .inl (cE, ne, .inr (.inr (.inr (.inr fe))))), (q_3, .inl (cn_4, nn_5, .inr (.inr (.inr (.inr fo_7)))))] ++ va_pl L (pE P)) := hD
    subst hQ
    have hP := hP.part (X := [(h0, .inr (18, [.int r30_modCount, .ref q_3, .int (zI (z_8))])), (q_el, .inl (cE, ne, .inr (.inr (.inr (.inr fe))))), (q_3, .inl (cn_4, nn_5, .inr (.inr (.inr (.inr fo_7)))))]) (cx := [(h0, .inr (18, [.int r30_modCount, .ref q_3, .int (zI (z_8))])), (q_3, .inl (cn_4, nn_5, .inr (.inr (.inr (.inr fo_7)))))]) (pl := va_pl L (pE P)) [0, 2] rfl
    have hD := hD.part (X := [(h0, .inr (18, [.int r30_modCount, .ref q_3, .int (zI (z_8))])), (q_el, .inl (cE, ne, .inr (.inr (.inr (.inr fe))))), (q_3, .inl (cn_4, nn_5, .inr (.inr (.inr (.inr fo_7)))))]) (cx := [(h0, .inr (18, [.int r30_modCount, .ref q_3, .int (zI (z_8))])), (q_3, .inl (cn_4, nn_5, .inr (.inr (.inr (.inr fo_7)))))]) (pl := va_pl L (pE P)) [0, 2] (by decide) rfl
    have hK := hK.sub (tys' := [(cn_4, .object "java/lang/Object")]) [1] rfl
    refine W.widen (k := (groC (z30_size) (ne : Int))) (n := (groX (z30_size) (ne : Int))) (by omega) (by omega) ?_
    exact W.vret hx hb hr (fun t ht hW => ⟨⟨(), rfl, trivial, z_8, q_3, cn_4, nn_5, fo_7, ⟨(by omega), ⟨by omega, ⟨by omega, by omega⟩, (by rw [← efo_7]; exact hgr.2.2.1.put hX_y.1 hX_y.2), (by rw [← efo_7]; exact up_at), (by rw [← efo_7]; exact up_lt (fun j h9 => hgr.2.2.2 j (by omega)))⟩⟩, by rw [ht]; exact hP, va_K.moved hW.alike hK, hD⟩, hS.F ht⟩) hS.2.2 dJx4a65c_add_72be8_22
