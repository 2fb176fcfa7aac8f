theorem dJx4a65c_add_72be8_0 : decode cJx4a65c_add_72be8 0 = .ok (.iload_n 3, 1) := by decide +kernel
theorem dJx4a65c_add_72be8_1 : decode cJx4a65c_add_72be8 1 = .ok (.aload_n 2, 1) := by decide +kernel
theorem dJx4a65c_add_72be8_2 : decode cJx4a65c_add_72be8 2 = .ok (.arraylength, 1) := by decide +kernel
theorem dJx4a65c_add_72be8_3 : decode cJx4a65c_add_72be8 3 = .ok (.if_icmp .ne 8, 3) := by decide +kernel
theorem dJx4a65c_add_72be8_11 : decode cJx4a65c_add_72be8 11 = .ok (.aload_n 2, 1) := by decide +kernel
theorem dJx4a65c_add_72be8_12 : decode cJx4a65c_add_72be8 12 = .ok (.iload_n 3, 1) := by decide +kernel
theorem dJx4a65c_add_72be8_13 : decode cJx4a65c_add_72be8 13 = .ok (.aload_n 1, 1) := by decide +kernel
theorem dJx4a65c_add_72be8_14 : decode cJx4a65c_add_72be8 14 = .ok (.aastore, 1) := by decide +kernel
theorem dJx4a65c_add_72be8_15 : decode cJx4a65c_add_72be8 15 = .ok (.aload_n 0, 1) := by decide +kernel
theorem dJx4a65c_add_72be8_16 : decode cJx4a65c_add_72be8 16 = .ok (.iload_n 3, 1) := by decide +kernel
theorem dJx4a65c_add_72be8_17 : decode cJx4a65c_add_72be8 17 = .ok (.iconst 1, 1) := by decide +kernel
theorem dJx4a65c_add_72be8_18 : decode cJx4a65c_add_72be8 18 = .ok (.iadd, 1) := by decide +kernel
theorem dJx4a65c_add_72be8_19 : decode cJx4a65c_add_72be8 19 = .ok (.putfield 48, 3) := by decide +kernel
theorem dJx4a65c_add_72be8_22 : decode cJx4a65c_add_72be8 22 = .ok (.return_, 1) := by decide +kernel
theorem dJx4a65c_add_72be8_6 : decode cJx4a65c_add_72be8 6 = .ok (.aload_n 0, 1) := by decide +kernel
theorem dJx4a65c_add_72be8_7 : decode cJx4a65c_add_72be8 7 = .ok (.invokevirtual 129, 3) := by decide +kernel
theorem dJx4a65c_add_72be8_10 : decode cJx4a65c_add_72be8 10 = .ok (.astore_n 2, 1) := by decide +kernel
def o_AL_add3 : List Cond := [.fieldLink RJx4a65c 48 "java/util/ArrayList" "size" "I", .methodLink RJx4a65c 129 yJx4a65c_grow_d5877, .instanceMethod yJx4a65c_grow_d5877, .selects RJx4a65c yJx4a65c_grow_d5877 yJx4a65c_grow_d5877, .initialized RJx4a65c]
def v_AL_add3 : List Cond := .code yJx4a65c_add_72be8 cJx4a65c_add_72be8 4 none :: (o_AL_add3 ++ (wsJx4a65c0 ++ (v_AL_grow0 ++ [])))
theorem mow_AL_add3 : ∀ w ∈ o_AL_add3, w ∈ v_AL_add3 := fun _ h => List.mem_cons_of_mem _ (List.mem_append_left _ h)
theorem mem_AL_add3_0 : ∀ w ∈ wsJx4a65c0, w ∈ v_AL_add3 := fun _ h => List.mem_cons_of_mem _ (List.mem_append_right _ (List.mem_append_left _ h))
theorem mem_AL_add3_1 : ∀ w ∈ v_AL_grow0, w ∈ v_AL_add3 := fun _ h => List.mem_cons_of_mem _ (List.mem_append_right _ (List.mem_append_right _ (List.mem_append_left _ h)))
set_option maxRecDepth 20000 in
theorem gw_AL_add3 : v_AL_add3.all goodWord = true := by decide +kernel
set_option maxRecDepth 20000 in
theorem g_AL_add3_AL_grow0 : GoodIn v_AL_add3 (wsV RJx4a65c 129 RJx4a65c yJx4a65c_grow_d5877 v_AL_grow0) := goodIn_app (goodIn_sub (fun w h => mow_AL_add3 w (by revert w h; decide +kernel)) (by decide +kernel)) (goodIn_sub mem_AL_add3_1 gw_AL_grow0)
set_option maxHeartbeats 4000000 in
set_option maxRecDepth 100000 in
theorem c_AL_add3 (l : Launch) (dC : Nat → ClassId) (dI : Nat → Nat → Nat) (h0 : Nat) (r30_modCount : Int32) (z30_size : Int) (q_el : Nat) (cE : ClassId) (ne : Nat) (fe : Nat → Option Nat) (L : List Nat) (P : PO) (y : Nat) (hNz30_size : 0 ≤ z30_size ∧ z30_size ≤ 100000) (hNne : ne ≤ 100000) (hNm : 0 < ne ∧ ne ≤ 40000 ∧ z30_size ≤ ne ∧ z30_size ≤ 40000) (hX_el : ELS L P fe) (hX_y : y ∈ L ∧ OBK (P.kd y)) (sz : Nat) (sx_mi : Nat) : Met l yJx4a65c_add_72be8 v_AL_add3 ({ frames := 5, cells := 1, slots := 100000, locals := 147 }) (va_Pc [.ref h0, .ref y, .ref q_el, .int (zI (z30_size))] (fun U => U.heap.size = sz ∧ va_P (dC, dI) vwQ ([(h0, .inr (18, [.int r30_modCount, .ref q_el, .int (zI (z30_size))])), (q_el, .inl (cE, ne, .inr (.inr (.inr (.inr fe)))))] ++ va_pl L (pE P)) U.heap ∧ va_K (dC, dI) vwQ [(cE, .object "java/lang/Object")] U ∧ va_D (fun _ => True) ([(h0, .inr (18, [.int r30_modCount, .ref q_el, .int (zI (z30_size))])), (q_el, .inl (cE, ne, .inr (.inr (.inr (.inr fe)))))] ++ va_pl L (pE P)) ∧ va_Nw (.castable "SsaForgeModel$Row" "java/lang/Object") U ∧ va_Nw (.castable "SsaForgeModel$Phi" "java/lang/Object") U ∧ va_Nw (.castable "SsaForgeModel$Block" "java/lang/Object") U ∧ va_Dc U ∧ va_Mi "[Ljava/lang/Object;" sx_mi U ∧ va_AO "java/lang/Object" U)) (va_Qv (fun _ : Unit => True) (fun (_ : Unit) (t : State) => ∃ (z0_9 : Int) (qn_9 : Nat) (cn_9 : ClassId) (nn_9 : Nat) (fn_9 : Nat → Option Nat), ((0 ≤ z0_9 ∧ z0_9 ≤ 100000) ∧ (z0_9 = z30_size + 1 ∧ (z30_size + 1 ≤ (nn_9 : Int) ∧ ((nn_9 : Int) = ne ∨ (z30_size = ne ∧ 2 * (nn_9 : Int) ≤ 3 * ne + 2))) ∧ ELS L P fn_9 ∧ fn_9 (z30_size).toNat = some y ∧ ∀ j : Nat, (j : Int) < z30_size → fn_9 j = fe j)) ∧ va_P (dC, dI) vwQ ([(h0, .inr (18, [.int r30_modCount, .ref qn_9, .int (zI (z0_9))])), (qn_9, .inl (cn_9, nn_9, .inr (.inr (.inr (.inr fn_9)))))] ++ va_pl L (pE P)) t.heap ∧ va_K (dC, dI) vwQ [(cn_9, .object "java/lang/Object")] t ∧ va_D (va_A ([(h0, .inr (18, [.int r30_modCount, .ref q_el, .int (zI (z30_size))])), (q_el, .inl (cE, ne, .inr (.inr (.inr (.inr fe)))))] ++ va_pl L (pE P)) sz) ([(h0, .inr (18, [.int r30_modCount, .ref qn_9, .int (zI (z0_9))])), (qn_9, .inl (cn_9, nn_9, .inr (.inr (.inr (.inr fn_9)))))] ++ va_pl L (pE P))) (va_A ([(h0, .inr (18, [.int r30_modCount, .ref q_el, .int (zI (z30_size))])), (q_el, .inl (cE, ne, .inr (.inr (.inr (.inr fe)))))] ++ va_pl L (pE P)) sz)) 1 100000 (va_A ([(h0, .inr (18, [.int r30_modCount, .ref q_el, .int (zI (z30_size))])), (q_el, .inl (cE, ne, .inr (.inr (.inr (.inr fe)))))] ++ va_pl L (pE P)) sz) := by
  refine Met.ofW (cc := cJx4a65c_add_72be8) (maxL := 4) (ret := none) (by decide) rfl ?_
  intro p e s m args below meth c s₁ B hml hv
  obtain ⟨rfl, hsz, hP, hK, hD0, hp0, hp1, hp2, hp3, hp4, hp5⟩ := hv
  have hx := B.exec
  have hb := B.bytes
  have hr := B.returns
  have hts := atoms_spec (ws := v_AL_add3) B.pre
  have hown : s.vm.findClass RJx4a65c = some m.cls := findClass_of_methodNamed B.named
  have hlocks := B.notSynchronized
  have ow : ∀ {k : Nat} {w : Cond}, o_AL_add3[k]? = some w → w.before ([.ref h0, .ref y, .ref q_el, .int (zI (z30_size))] : List Value).toArray s = true := fun h => hts _ (mow_AL_add3 _ (List.mem_of_getElem? h))
  subst hsz
  have hD := hD0.self (sz := s.heap.size)
  generalize hAe : va_A ([(h0, .inr (18, [.int r30_modCount, .ref q_el, .int (zI (z30_size))])), (q_el, .inl (cE, ne, .inr (.inr (.inr (.inr fe)))))] ++ va_pl L (pE P)) s.heap.size = A at hD hp5 ⊢
  have hA : ∀ q : Nat, s.heap.size ≤ q → A q := fun q h => by rw [← hAe]; exact Or.inr h
  have hS : va_S A s.heap s.heap [] := va_S.rf
  have hP : va_P (dC, dI) vwQ ([(h0, .inr (18, [.int r30_modCount, .ref q_el, .int (zI (z30_size))])), (q_el, .inl (cE, ne, .inr (.inr (.inr (.inr fe)))))] ++ va_pl L (pE P)) s.heap := hP
  have hl := lv_entry ([.ref h0, .ref y, .ref q_el, .int (zI (z30_size))]) (n := 4) (Nat.le_of_ble_eq_true rfl)
  rw [lg_entry_eq]
  generalize (lg_sl ([.ref h0, .ref y, .ref q_el, .int (zI (z30_size))]) ++ List.replicate (4 - (lg_sl ([.ref h0, .ref y, .ref q_el, .int (zI (z30_size))])).length) Slot.unset).toArray = ls at hl ⊢
  have hl : lv_has ls 4 [(0, .ref h0), (1, .ref y), (2, .ref q_el), (3, .int (zI (z30_size)))] := hl
  obtain ⟨H, hH⟩ : ∃ H, H = s.heap := ⟨_, rfl⟩
  rw [← hH] at hP
  have hS : va_S A s.heap H [] := by rw [hH]; exact hS
  rw [← hH]
  refine zW_cap (fun Q hQ => ?_)
  refine lv_iload_n hx hb dJx4a65c_add_72be8_0 rfl (lv_at hl 3 rfl) ?_
  refine lv_aload_n hx hb dJx4a65c_add_72be8_1 rfl (lv_at hl 2 rfl) ?_
  refine va_alen (v := zI ((ne : Int))) hx hb hK hP 1 0 rfl rfl (zI_ofNat ne) dJx4a65c_add_72be8_2 ?_
  refine lv_icmp_ne (tgt := 11) hx hb dJx4a65c_add_72be8_3 (by decide) (fun b3 => ?_) (fun b3 => ?_)
  · have yb3 : ¬ (z30_size : Int) = ((ne : Int) : Int) := fun q => b3 ((zI_eq (a := z30_size) (b := (ne : Int)) (by omega) (by omega) (by omega) (by omega)).mpr q)
    refine lv_aload_n hx hb dJx4a65c_add_72be8_11 rfl (lv_at hl 2 rfl) ?_
    refine lv_iload_n hx hb dJx4a65c_add_72be8_12 rfl (lv_at hl 3 rfl) ?_
    refine lv_aload_n hx hb dJx4a65c_add_72be8_13 rfl (lv_at hl 1 rfl) ?_
    refine va_astqM (E := "java/lang/Object") (i := zI (z30_size)) hx hb hK hP hD hS 1 0 rfl rfl (pool_any hK hP hX_y.1 hX_y.2 hp0 hp1 hp2) (zI_in (a := z30_size) (n := ne) (by omega) (by omega) (by omega)) dJx4a65c_add_72be8_14 (fun H locs hP hD hS => ?_)
    have hP : va_P (dC, dI) vwQ ([(h0, .inr (18, [.int r30_modCount, .ref q_el, .int (zI (z30_size))])), (q_el, .inl (cE, ne, .inr (.inr (.inr (.inr (va_up fe (zI (z30_size)).toNatClampNeg (some y)))))))] ++ va_pl L (pE P)) H := hP
    have hD : va_D A ([(h0, .inr (18, [.int r30_modCount, .ref q_el, .int (zI (z30_size))])), (q_el, .inl (cE, ne, .inr (.inr (.inr (.inr (va_up fe (zI (z30_size)).toNatClampNeg (some y)))))))] ++ va_pl L (pE P)) := hD
    generalize efo_1 : (va_up fe (zI (z30_size)).toNatClampNeg (some y)) = fo_1 at hP hD
    rw [zI_cl (by omega) (by omega)] at efo_1
    have hP : va_P (dC, dI) vwQ ([(h0, .inr (18, [.int r30_modCount, .ref q_el, .int (zI (z30_size))])), (q_el, .inl (cE, ne, .inr (.inr (.inr (.inr fo_1)))))] ++ va_pl L (pE P)) H := hP
    have hD : va_D A ([(h0, .inr (18, [.int r30_modCount, .ref q_el, .int (zI (z30_size))])), (q_el, .inl (cE, ne, .inr (.inr (.inr (.inr fo_1)))))] ++ va_pl L (pE P)) := hD
    refine lv_aload_n hx hb dJx4a65c_add_72be8_15 rfl (lv_at hl 0 rfl) ?_
    refine lv_iload_n hx hb dJx4a65c_add_72be8_16 rfl (lv_at hl 3 rfl) ?_
    refine lv_iconst (v := 1) hx hb dJx4a65c_add_72be8_17 (by decide) ?_
    refine lv_iadd hx hb dJx4a65c_add_72be8_18 ?_
    refine lv_topi (fun z ez => ?_)
    obtain rfl : z = zI (z30_size + 1) := ez.trans (zI_add (z30_size) (1))
    refine va_put (D := (dC, dI)) (ci := 18) (v := .int (zI (z30_size + 1))) (ty := .int) (C := RJx4a65c) (T := TJx4a65c) (N := 3) hx hb hts mem_AL_add3_0 tyJx4a65c tyJx4a65c_ok nmJx4a65c hown hK hP hD hS 0 rfl rfl 2 (by decide) (ow (k := 0) rfl) (fun _ h9 => h9) rfl (by decide +kernel) rfl rfl (Nat.le_of_ble_eq_true rfl) dJx4a65c_add_72be8_19 (fun H locs hP hD hS => ?_)
    have hP : va_P (dC, dI) vwQ ([(h0, .inr (18, [.int r30_modCount, .ref q_el, .int (zI (z30_size + 1))])), (q_el, .inl (cE, ne, .inr (.inr (.inr (.inr fo_1)))))] ++ va_pl L (pE P)) H := hP
    have hD : va_D A ([(h0, .inr (18, [.int r30_modCount, .ref q_el, .int (zI (z30_size + 1))])), (q_el, .inl (cE, ne, .inr (.inr (.inr (.inr fo_1)))))] ++ va_pl L (pE P)) := hD
    obtain ⟨z_2, ez_2⟩ : ∃ z9 : Int, z9 = z30_size + 1 := ⟨_, rfl⟩
    rw [← ez_2] at hP hD
    have hP : va_P (dC, dI) vwQ ([(h0, .inr (18, [.int r30_modCount, .ref q_el, .int (zI (z_2))])), (q_el, .inl (cE, ne, .inr (.inr (.inr (.inr fo_1)))))] ++ va_pl L (pE P)) H := hP
    have hD : va_D A ([(h0, .inr (18, [.int r30_modCount, .ref q_el, .int (zI (z_2))])), (q_el, .inl (cE, ne, .inr (.inr (.inr (.inr fo_1)))))] ++ va_pl L (pE P)) := hD
    subst hQ
    refine W.widen (k := 1) (n := 100000) (Nat.le_of_ble_eq_true rfl) (Nat.le_of_ble_eq_true rfl) ?_
    exact W.vret hx hb hr (fun t ht hW => ⟨⟨(), rfl, trivial, z_2, q_el, cE, ne, fo_1, ⟨(by omega), ⟨by omega, ⟨by omega, by omega⟩, (by rw [← efo_1]; exact hX_el.put hX_y.1 hX_y.2), (by rw [← efo_1]; exact up_at), (by rw [← efo_1]; exact up_lt (fun _ _ => rfl))⟩⟩, by rw [ht]; exact hP, va_K.moved hW.alike hK, hD⟩, hS.F ht⟩) hS.2.2 dJx4a65c_add_72be8_22
  · have yb3 : (z30_size : Int) = ((ne : Int) : Int) := (zI_eq (a := z30_size) (b := (ne : Int)) (by omega) (by omega) (by omega) (by omega)).mp b3
    refine lv_aload_n hx hb dJx4a65c_add_72be8_6 rfl (lv_at hl 0 rfl) ?_
    have hPc := hP.part (X := [(h0, .inr (18, [.int r30_modCount, .ref q_el, .int (zI (z30_size))])), (q_el, .inl (cE, ne, .inr (.inr (.inr (.inr fe)))))]) (cx := [(h0, .inr (18, [.int r30_modCount, .ref q_el, .int (zI (z30_size))])), (q_el, .inl (cE, ne, .inr (.inr (.inr (.inr fe)))))]) (pl := va_pl L (pE P)) [0, 1] rfl
    have hDc := hD.part (X := [(h0, .inr (18, [.int r30_modCount, .ref q_el, .int (zI (z30_size))])), (q_el, .inl (cE, ne, .inr (.inr (.inr (.inr fe)))))]) (cx := [(h0, .inr (18, [.int r30_modCount, .ref q_el, .int (zI (z30_size))])), (q_el, .inl (cE, ne, .inr (.inr (.inr (.inr fe)))))]) (pl := va_pl L (pE P)) [0, 1] (by decide) rfl
    have hKc := hK.sub (tys' := [(cE, .object "java/lang/Object")]) [0] rfl
    have hFc := va_freeP (X := [(h0, .inr (18, [.int r30_modCount, .ref q_el, .int (zI (z30_size))])), (q_el, .inl (cE, ne, .inr (.inr (.inr (.inr fe)))))]) (cx := [(h0, .inr (18, [.int r30_modCount, .ref q_el, .int (zI (z30_size))])), (q_el, .inl (cE, ne, .inr (.inr (.inr (.inr fe)))))]) (pl := va_pl L (pE P)) hD hS hA [0, 1] rfl
    refine va_callr (va_runV (As := []) (rest := []) ⟨hx, hb, hml, hown, hts⟩ (c_AL_grow0 l dC dI h0 r30_modCount z30_size q_el cE ne fe L P (by omega) (by omega) (by omega) hX_el H.size sx_mi) (cwV 0 hts g_AL_add3_AL_grow0 rfl rfl rfl (by decide +kernel) ⟨(Nat.le_of_ble_eq_true rfl), (Nat.le_of_ble_eq_true rfl)⟩) ⟨fun a U g mk q => by obtain ⟨q0, q1, qP, qK, qD, e0, e1, e2, e3, e4, e5⟩ := q; exact ⟨q0, q1, qP, va_K.moved (u := U) (U := U.calling g mk a) (Vm.Alike.refl U.vm) qK, qD, va_Dc.moved (u := U) (U := U.calling g mk a) (Vm.Alike.refl U.vm) e0, va_Mi.moved (u := U) (U := U.calling g mk a) (Vm.Alike.refl U.vm) e1, va_AO.moved (u := U) (U := U.calling g mk a) (Vm.Alike.refl U.vm) e2, va_Nw.same rfl (u := U) (U := U.calling g mk a) rfl e3, va_Nw.same rfl (u := U) (U := U.calling g mk a) rfl e4, va_Nw.same rfl (u := U) (U := U.calling g mk a) rfl e5⟩, va_recv hKc hPc (ci := 18) (q0 := 0) rfl rfl, fun U hU hW => ⟨rfl, by rw [hU], by rw [hU]; exact hPc, va_K.moved hW.alike hKc, hDc.weaken (fun _ _ _ _ => trivial), va_Dc.moved hW.alike hp3, va_Mi.moved hW.alike hp4, va_AO.moved hW.alike hp5, va_Nw.warmC hW hp0, va_Nw.warmC hW hp1, va_Nw.warmC hW hp2⟩⟩ rfl rfl hl.1 rfl (lv_room (Nat.le_of_ble_eq_true rfl)) dJx4a65c_add_72be8_7 ⟨(Nat.le_of_ble_eq_true rfl), (Nat.le_of_ble_eq_true rfl)⟩) hS (fun q _ h => hFc q h) hFc (fun u q_3 t H1 locs ht hvm hw hB hz1 hk1 hS => ?_)
    obtain ⟨cn_4, nn_5, fn_6, hxt_6, hP1, hK1, hD1⟩ := hB
    rw [ht] at hP1
    have hK1 := va_K.moved hvm.symm hK1
    obtain ⟨hP, hD⟩ := va_joinP (X := [(h0, .inr (18, [.int r30_modCount, .ref q_el, .int (zI (z30_size))])), (q_el, .inl (cE, ne, .inr (.inr (.inr (.inr fe)))))]) (cx := [(h0, .inr (18, [.int r30_modCount, .ref q_el, .int (zI (z30_size))])), (q_el, .inl (cE, ne, .inr (.inr (.inr (.inr fe)))))]) (wr := []) (rx := [(h0, .inr (18, [.int r30_modCount, .ref q_3, .int (zI (z30_size))])), (q_el, .inl (cE, ne, .inr (.inr (.inr (.inr fe))))), (q_3, .inl (cn_4, nn_5, .inr (.inr (.inr (.inr fn_6)))))]) (pl := va_pl L (pE P)) (pl1 := va_pl L (pE P)) hP hD [0, 1] [] rfl rfl (by decide) (by decide) hk1 hFc hP1 hD1
    have hK := (hK.sub (tys' := []) [] rfl).app hK1
    generalize H1 = H at hP hS ⊢
    have hP : va_P (dC, dI) vwQ ([(h0, .inr (18, [.int r30_modCount, .ref q_3, .int (zI (z30_size))])), (q_el, .inl (cE, ne, .inr (.inr (.inr (.inr fe))))), (q_3, .inl (cn_4, nn_5, .inr (.inr (.inr (.inr fn_6)))))] ++ va_pl L (pE P)) H := hP
    have hD : va_D A ([(h0, .inr (18, [.int r30_modCount, .ref q_3, .int (zI (z30_size))])), (q_el, .inl (cE, ne, .inr (.inr (.inr (.inr fe))))), (q_3, .inl (cn_4, nn_5, .inr (.inr (.inr (.inr fn_6)))))] ++ va_pl L (pE P)) := hD
    have hK : va_K (dC, dI) vwQ [(cE, .object "java/lang/Object"), (cn_4, .object "java/lang/Object")] s := hK
    refine W.widen (k := 1) (n := 100000) (Nat.le_of_ble_eq_true rfl) (Nat.le_of_ble_eq_true rfl) ?_
    have hgr := hxt_6
    refine lv_astore_n (lv' := [(2, .ref q_3), (0, .ref h0), (1, .ref y), (3, .int (zI (z30_size)))]) hx hb dJx4a65c_add_72be8_10 rfl hl (by decide) rfl (fun ls hl => ?_)
    refine lv_aload_n hx hb dJx4a65c_add_72be8_11 rfl (lv_at hl 0 rfl) ?_
    refine lv_iload_n hx hb dJx4a65c_add_72be8_12 rfl (lv_at hl 3 rfl) ?_
    refine lv_aload_n hx hb dJx4a65c_add_72be8_13 rfl (lv_at hl 2 rfl) ?_
    refine va_astqM (E := "java/lang/Object") (i := zI (z30_size)) hx hb hK hP hD hS 2 1 rfl rfl (pool_any hK hP hX_y.1 hX_y.2 hp0 hp1 hp2) (zI_in (a := z30_size) (n := nn_5) (by omega) (by omega) (by omega)) dJx4a65c_add_72be8_14 (fun H locs hP hD hS => ?_)
    have hP : va_P (dC, dI) vwQ ([(h0, .inr (18, [.int r30_modCount, .ref q_3, .int (zI (z30_size))])), (q_el, .inl (cE, ne, .inr (.inr (.inr (.inr fe))))), (q_3, .inl (cn_4, nn_5, .inr (.inr (.inr (.inr (va_up fn_6 (zI (z30_size)).toNatClampNeg (some y)))))))] ++ va_pl L (pE P)) H := hP
    have hD : va_D A ([(h0, .inr (18, [.int r30_modCount, .ref q_3, .int (zI (z30_size))])), (q_el, .inl (cE, ne, .inr (.inr (.inr (.inr fe))))), (q_3, .inl (cn_4, nn_5, .inr (.inr (.inr (.inr (va_up fn_6 (zI (z30_size)).toNatClampNeg (some y)))))))] ++ va_pl L (pE P)) := hD
    generalize efo_7 : (va_up fn_6 (zI (z30_size)).toNatClampNeg (some y)) = fo_7 at hP hD
    rw [zI_cl (by omega) (by omega)] at efo_7
    have hP : va_P (dC, dI) vwQ ([(h0, .inr (18, [.int r30_modCount, .ref q_3, .int (zI (z30_size))])), (q_el, .inl (cE, ne, .inr (.inr (.inr (.inr fe))))), (q_3, .inl (cn_4, nn_5, .inr (.inr (.inr (.inr fo_7)))))] ++ va_pl L (pE P)) H := hP
    have hD : va_D A ([(h0, .inr (18, [.int r30_modCount, .ref q_3, .int (zI (z30_size))])), (q_el, .inl (cE, ne, .inr (.inr (.inr (.inr fe))))), (q_3, .inl (cn_4, nn_5, .inr (.inr (.inr (.inr fo_7)))))] ++ va_pl L (pE P)) := hD
    refine lv_aload_n hx hb dJx4a65c_add_72be8_15 rfl (lv_at hl 1 rfl) ?_
    refine lv_iload_n hx hb dJx4a65c_add_72be8_16 rfl (lv_at hl 3 rfl) ?_
    refine lv_iconst (v := 1) hx hb dJx4a65c_add_72be8_17 (by decide) ?_
    refine lv_iadd hx hb dJx4a65c_add_72be8_18 ?_
    refine lv_topi (fun z ez => ?_)
    obtain rfl : z = zI (z30_size + 1) := ez.trans (zI_add (z30_size) (1))
    refine va_put (D := (dC, dI)) (ci := 18) (v := .int (zI (z30_size + 1))) (ty := .int) (C := RJx4a65c) (T := TJx4a65c) (N := 3) hx hb hts mem_AL_add3_0 tyJx4a65c tyJx4a65c_ok nmJx4a65c hown hK hP hD hS 0 rfl rfl 2 (by decide) (ow (k := 0) rfl) (fun _ h9 => h9) rfl (by decide +kernel) rfl rfl (Nat.le_of_ble_eq_true rfl) dJx4a65c_add_72be8_19 (fun H locs hP hD hS => ?_)
    have hP : va_P (dC, dI) vwQ ([(h0, .inr (18, [.int r30_modCount, .ref q_3, .int (zI (z30_size + 1))])), (q_el, .inl (cE, ne, .inr (.inr (.inr (.inr fe))))), (q_3, .inl (cn_4, nn_5, .inr (.inr (.inr (.inr fo_7)))))] ++ va_pl L (pE P)) H := hP
    have hD : va_D A ([(h0, .inr (18, [.int r30_modCount, .ref q_3, .int (zI (z30_size + 1))])), (q_el, .inl (cE, ne, .inr (.inr (.inr (.inr fe))))), (q_3, .inl (cn_4, nn_5, .inr (.inr (.inr (.inr fo_7)))))] ++ va_pl L (pE P)) := hD
    obtain ⟨z_8, ez_8⟩ : ∃ z9 : Int, z9 = z30_size + 1 := ⟨_, rfl⟩
    rw [← ez_8] at hP hD
    have hP : va_P (dC, dI) vwQ ([(h0, .inr (18, [.int r30_modCount, .ref q_3, .int (zI (z_8))])), (q_el, .inl (cE, ne, .inr (.inr (.inr (.inr fe))))), (q_3, .inl (cn_4, nn_5, .inr (.inr (.inr (.inr fo_7)))))] ++ va_pl L (pE P)) H := hP
    have hD : va_D A ([(h0, .inr (18, [.int r30_modCount, .ref q_3, .int (zI (z_8))])), (q_el, .inl (cE, ne, .inr (.inr (.inr (.inr fe))))), (q_3, .inl (cn_4, nn_5, .inr (.inr (.inr (.inr fo_7)))))] ++ va_pl L (pE P)) := hD
    subst hQ
    have hP := hP.part (X := [(h0, .inr (18, [.int r30_modCount, .ref q_3, .int (zI (z_8))])), (q_el, .inl (cE, ne, .inr (.inr (.inr (.inr fe))))), (q_3, .inl (cn_4, nn_5, .inr (.inr (.inr (.inr fo_7)))))]) (cx := [(h0, .inr (18, [.int r30_modCount, .ref q_3, .int (zI (z_8))])), (q_3, .inl (cn_4, nn_5, .inr (.inr (.inr (.inr fo_7)))))]) (pl := va_pl L (pE P)) [0, 2] rfl
    have hD := hD.part (X := [(h0, .inr (18, [.int r30_modCount, .ref q_3, .int (zI (z_8))])), (q_el, .inl (cE, ne, .inr (.inr (.inr (.inr fe))))), (q_3, .inl (cn_4, nn_5, .inr (.inr (.inr (.inr fo_7)))))]) (cx := [(h0, .inr (18, [.int r30_modCount, .ref q_3, .int (zI (z_8))])), (q_3, .inl (cn_4, nn_5, .inr (.inr (.inr (.inr fo_7)))))]) (pl := va_pl L (pE P)) [0, 2] (by decide) rfl
    have hK := hK.sub (tys' := [(cn_4, .object "java/lang/Object")]) [1] rfl
    refine W.widen (k := 1) (n := 100000) (Nat.le_of_ble_eq_true rfl) (Nat.le_of_ble_eq_true rfl) ?_
    exact W.vret hx hb hr (fun t ht hW => ⟨⟨(), rfl, trivial, z_8, q_3, cn_4, nn_5, fo_7, ⟨(by omega), ⟨by omega, ⟨by omega, by omega⟩, (by rw [← efo_7]; exact hgr.2.2.1.put hX_y.1 hX_y.2), (by rw [← efo_7]; exact up_at), (by rw [← efo_7]; exact up_lt (fun j h9 => hgr.2.2.2 j (by omega)))⟩⟩, by rw [ht]; exact hP, va_K.moved hW.alike hK, hD⟩, hS.F ht⟩) hS.2.2 dJx4a65c_add_72be8_22
theorem dJx4a65c_add_9ea2d_0 : decode cJx4a65c_add_9ea2d 0 = .ok (.aload_n 0, 1) := by decide +kernel
theorem dJx4a65c_add_9ea2d_1 : decode cJx4a65c_add_9ea2d 1 = .ok (.dup, 1) := by decide +kernel
theorem dJx4a65c_add_9ea2d_2 : decode cJx4a65c_add_9ea2d 2 = .ok (.getfield 63, 3) := by decide +kernel
theorem dJx4a65c_add_9ea2d_5 : decode cJx4a65c_add_9ea2d 5 = .ok (.iconst 1, 1) := by decide +kernel
theorem dJx4a65c_add_9ea2d_6 : decode cJx4a65c_add_9ea2d 6 = .ok (.iadd, 1) := by decide +kernel
theorem dJx4a65c_add_9ea2d_7 : decode cJx4a65c_add_9ea2d 7 = .ok (.putfield 63, 3) := by decide +kernel
theorem dJx4a65c_add_9ea2d_10 : decode cJx4a65c_add_9ea2d 10 = .ok (.aload_n 0, 1) := by decide +kernel
theorem dJx4a65c_add_9ea2d_11 : decode cJx4a65c_add_9ea2d 11 = .ok (.aload_n 1, 1) := by decide +kernel
theorem dJx4a65c_add_9ea2d_12 : decode cJx4a65c_add_9ea2d 12 = .ok (.aload_n 0, 1) := by decide +kernel
theorem dJx4a65c_add_9ea2d_13 : decode cJx4a65c_add_9ea2d 13 = .ok (.getfield 9, 3) := by decide +kernel
theorem dJx4a65c_add_9ea2d_16 : decode cJx4a65c_add_9ea2d 16 = .ok (.aload_n 0, 1) := by decide +kernel
theorem dJx4a65c_add_9ea2d_17 : decode cJx4a65c_add_9ea2d 17 = .ok (.getfield 48, 3) := by decide +kernel
theorem dJx4a65c_add_9ea2d_20 : decode cJx4a65c_add_9ea2d 20 = .ok (.invokevirtual 131, 3) := by decide +kernel
theorem dJx4a65c_add_9ea2d_23 : decode cJx4a65c_add_9ea2d 23 = .ok (.iconst 1, 1) := by decide +kernel
theorem dJx4a65c_add_9ea2d_24 : decode cJx4a65c_add_9ea2d 24 = .ok (.ireturn, 1) := by decide +kernel
def o_AL_add : List Cond := [.fieldLink RJx4a65c 63 "java/util/ArrayList" "modCount" "I", .sameField "java/util/ArrayList" "java/util/AbstractList" "modCount" "I", .fieldLink RJx4a65c 9 "java/util/ArrayList" "elementData" "[Ljava/lang/Object;", .fieldLink RJx4a65c 48 "java/util/ArrayList" "size" "I", .methodLink RJx4a65c 131 yJx4a65c_add_72be8, .instanceMethod yJx4a65c_add_72be8, .selects RJx4a65c yJx4a65c_add_72be8 yJx4a65c_add_72be8, .initialized RJx4a65c]
def v_AL_add : List Cond := .code yJx4a65c_add_9ea2d cJx4a65c_add_9ea2d 2 (some .boolean) :: (o_AL_add ++ (wsJx4a65c0 ++ (v_AL_add3 ++ [])))
theorem mow_AL_add : ∀ w ∈ o_AL_add, w ∈ v_AL_add := fun _ h => List.mem_cons_of_mem _ (List.mem_append_left _ h)
theorem mem_AL_add_0 : ∀ w ∈ wsJx4a65c0, w ∈ v_AL_add := fun _ h => List.mem_cons_of_mem _ (List.mem_append_right _ (List.mem_append_left _ h))
theorem mem_AL_add_1 : ∀ w ∈ v_AL_add3, w ∈ v_AL_add := fun _ h => List.mem_cons_of_mem _ (List.mem_append_right _ (List.mem_append_right _ (List.mem_append_left _ h)))
set_option maxRecDepth 20000 in
theorem gw_AL_add : v_AL_add.all goodWord = true := by decide +kernel
set_option maxRecDepth 20000 in
theorem g_AL_add_AL_add3 : GoodIn v_AL_add (wsV RJx4a65c 131 RJx4a65c yJx4a65c_add_72be8 v_AL_add3) := goodIn_app (goodIn_sub (fun w h => mow_AL_add w (by revert w h; decide +kernel)) (by decide +kernel)) (goodIn_sub mem_AL_add_1 gw_AL_add3)
set_option maxHeartbeats 4000000 in
set_option maxRecDepth 100000 in
theorem c_AL_add (l : Launch) (dC : Nat → ClassId) (dI : Nat → Nat → Nat) (h0 : Nat) (r30_modCount : Int32) (z30_size : Int) (q_el : Nat) (cE : ClassId) (ne : Nat) (fe : Nat → Option Nat) (L : List Nat) (P : PO) (y : Nat) (hNz30_size : 0 ≤ z30_size ∧ z30_size ≤ 100000) (hNne : ne ≤ 100000) (hNm : 0 < ne ∧ ne ≤ 40000 ∧ z30_size ≤ ne ∧ z30_size ≤ 40000) (hX_el : ELS L P fe) (hX_y : y ∈ L ∧ OBK (P.kd y)) (sz : Nat) (sx_mi : Nat) : Met l yJx4a65c_add_9ea2d v_AL_add ({ frames := 6, cells := 1, slots := 100000, locals := 170 }) (va_Pc [.ref h0, .ref y] (fun U => U.heap.size = sz ∧ va_P (dC, dI) vwQ ([(h0, .inr (18, [.int r30_modCount, .ref q_el, .int (zI (z30_size))])), (q_el, .inl (cE, ne, .inr (.inr (.inr (.inr fe)))))] ++ va_pl L (pE P)) U.heap ∧ va_K (dC, dI) vwQ [(cE, .object "java/lang/Object")] U ∧ va_D (fun _ => True) ([(h0, .inr (18, [.int r30_modCount, .ref q_el, .int (zI (z30_size))])), (q_el, .inl (cE, ne, .inr (.inr (.inr (.inr fe)))))] ++ va_pl L (pE P)) ∧ va_Nw (.castable "SsaForgeModel$Row" "java/lang/Object") U ∧ va_Nw (.castable "SsaForgeModel$Phi" "java/lang/Object") U ∧ va_Nw (.castable "SsaForgeModel$Block" "java/lang/Object") U ∧ va_Dc U ∧ va_Mi "[Ljava/lang/Object;" sx_mi U ∧ va_AO "java/lang/Object" U)) (va_Qi (fun (r : Int32) (zr : Int) => r = zI zr ∧ (zr = 1)) (fun (zr : Int) (t : State) => ∃ (x0_9 : Int32) (z1_9 : Int) (qn_9 : Nat) (cn_9 : ClassId) (nn_9 : Nat) (fn_9 : Nat → Option Nat), ((0 ≤ z1_9 ∧ z1_9 ≤ 100000) ∧ (z1_9 = z30_size + 1 ∧ (z30_size + 1 ≤ (nn_9 : Int) ∧ ((nn_9 : Int) = ne ∨ (z30_size = ne ∧ 2 * (nn_9 : Int) ≤ 3 * ne + 2))) ∧ ELS L P fn_9 ∧ fn_9 (z30_size).toNat = some y ∧ ∀ j : Nat, (j : Int) < z30_size → fn_9 j = fe j)) ∧ va_P (dC, dI) vwQ ([(h0, .inr (18, [.int x0_9, .ref qn_9, .int (zI (z1_9))])), (qn_9, .inl (cn_9, nn_9, .inr (.inr (.inr (.inr fn_9)))))] ++ va_pl L (pE P)) t.heap ∧ va_K (dC, dI) vwQ [(cn_9, .object "java/lang/Object")] t ∧ va_D (va_A ([(h0, .inr (18, [.int r30_modCount, .ref q_el, .int (zI (z30_size))])), (q_el, .inl (cE, ne, .inr (.inr (.inr (.inr fe)))))] ++ va_pl L (pE P)) sz) ([(h0, .inr (18, [.int x0_9, .ref qn_9, .int (zI (z1_9))])), (qn_9, .inl (cn_9, nn_9, .inr (.inr (.inr (.inr fn_9)))))] ++ va_pl L (pE P))) (va_A ([(h0, .inr (18, [.int r30_modCount, .ref q_el, .int (zI (z30_size))])), (q_el, .inl (cE, ne, .inr (.inr (.inr (.inr fe)))))] ++ va_pl L (pE P)) sz)) 1 100000 (va_A ([(h0, .inr (18, [.int r30_modCount, .ref q_el, .int (zI (z30_size))])), (q_el, .inl (cE, ne, .inr (.inr (.inr (.inr fe)))))] ++ va_pl L (pE P)) sz) := by
  refine Met.ofW (cc := cJx4a65c_add_9ea2d) (maxL := 2) (ret := (some .boolean)) (by decide) rfl ?_
  intro p e s m args below meth c s₁ B hml hv
  obtain ⟨rfl, hsz, hP, hK, hD0, hp0, hp1, hp2, hp3, hp4, hp5⟩ := hv
  have hx := B.exec
  have hb := B.bytes
  have hr := B.returns
  have hts := atoms_spec (ws := v_AL_add) B.pre
  have hown : s.vm.findClass RJx4a65c = some m.cls := findClass_of_methodNamed B.named
  have hlocks := B.notSynchronized
  have ow : ∀ {k : Nat} {w : Cond}, o_AL_add[k]? = some w → w.before ([.ref h0, .ref y] : List Value).toArray s = true := fun h => hts _ (mow_AL_add _ (List.mem_of_getElem? h))
  subst hsz
  have hD := hD0.self (sz := s.heap.size)
  generalize hAe : va_A ([(h0, .inr (18, [.int r30_modCount, .ref q_el, .int (zI (z30_size))])), (q_el, .inl (cE, ne, .inr (.inr (.inr (.inr fe)))))] ++ va_pl L (pE P)) s.heap.size = A at hD hp5 ⊢
  have hA : ∀ q : Nat, s.heap.size ≤ q → A q := fun q h => by rw [← hAe]; exact Or.inr h
  have hS : va_S A s.heap s.heap [] := va_S.rf
  have hP : va_P (dC, dI) vwQ ([(h0, .inr (18, [.int r30_modCount, .ref q_el, .int (zI (z30_size))])), (q_el, .inl (cE, ne, .inr (.inr (.inr (.inr fe)))))] ++ va_pl L (pE P)) s.heap := hP
  have hl := lv_entry ([.ref h0, .ref y]) (n := 2) (Nat.le_of_ble_eq_true rfl)
  rw [lg_entry_eq]
  generalize (lg_sl ([.ref h0, .ref y]) ++ List.replicate (2 - (lg_sl ([.ref h0, .ref y])).length) Slot.unset).toArray = ls at hl ⊢
  have hl : lv_has ls 2 [(0, .ref h0), (1, .ref y)] := hl
  obtain ⟨H, hH⟩ : ∃ H, H = s.heap := ⟨_, rfl⟩
  rw [← hH] at hP
  have hS : va_S A s.heap H [] := by rw [hH]; exact hS
  rw [← hH]
  refine zW_cap (fun Q hQ => ?_)
  refine lv_aload_n hx hb dJx4a65c_add_9ea2d_0 rfl (lv_at hl 0 rfl) ?_
  refine lv_dup hx hb dJx4a65c_add_9ea2d_1 rfl ?_
  refine va_get (D := (dC, dI)) (ci := 18) (v := .int r30_modCount) (C := RJx4a65c) (T := TJx4a65c) (N := 3) hx hb hts mem_AL_add_0 hown hK hP 0 rfl rfl 0 (by decide) (ow (k := 0) rfl) (fun x9 h9 => u_same (ow (k := 1) rfl) x9 h9) rfl dJx4a65c_add_9ea2d_2 ?_
  refine lv_iconst (v := 1) hx hb dJx4a65c_add_9ea2d_5 (by decide) ?_
  refine lv_iadd hx hb dJx4a65c_add_9ea2d_6 ?_
  refine lv_topi (fun x_1 _ => ?_)
  refine va_put (D := (dC, dI)) (ci := 18) (v := .int x_1) (ty := .int) (C := RJx4a65c) (T := TJx4a65c) (N := 3) hx hb hts mem_AL_add_0 tyJx4a65c tyJx4a65c_ok nmJx4a65c hown hK hP hD hS 0 rfl rfl 0 (by decide) (ow (k := 0) rfl) (fun x9 h9 => u_same (ow (k := 1) rfl) x9 h9) rfl (by decide +kernel) rfl rfl (Nat.le_of_ble_eq_true rfl) dJx4a65c_add_9ea2d_7 (fun H locs hP hD hS => ?_)
  have hP : va_P (dC, dI) vwQ ([(h0, .inr (18, [.int x_1, .ref q_el, .int (zI (z30_size))])), (q_el, .inl (cE, ne, .inr (.inr (.inr (.inr fe)))))] ++ va_pl L (pE P)) H := hP
  have hD : va_D A ([(h0, .inr (18, [.int x_1, .ref q_el, .int (zI (z30_size))])), (q_el, .inl (cE, ne, .inr (.inr (.inr (.inr fe)))))] ++ va_pl L (pE P)) := hD
  refine lv_aload_n hx hb dJx4a65c_add_9ea2d_10 rfl (lv_at hl 0 rfl) ?_
  refine lv_aload_n hx hb dJx4a65c_add_9ea2d_11 rfl (lv_at hl 1 rfl) ?_
  refine lv_aload_n hx hb dJx4a65c_add_9ea2d_12 rfl (lv_at hl 0 rfl) ?_
  refine va_get (D := (dC, dI)) (ci := 18) (v := .ref q_el) (C := RJx4a65c) (T := TJx4a65c) (N := 3) hx hb hts mem_AL_add_0 hown hK hP 0 rfl rfl 1 (by decide) (ow (k := 2) rfl) (fun _ h9 => h9) rfl dJx4a65c_add_9ea2d_13 ?_
  refine lv_aload_n hx hb dJx4a65c_add_9ea2d_16 rfl (lv_at hl 0 rfl) ?_
  refine va_get (D := (dC, dI)) (ci := 18) (v := .int (zI (z30_size))) (C := RJx4a65c) (T := TJx4a65c) (N := 3) hx hb hts mem_AL_add_0 hown hK hP 0 rfl rfl 2 (by decide) (ow (k := 3) rfl) (fun _ h9 => h9) rfl dJx4a65c_add_9ea2d_17 ?_
  have hPc := hP.part (X := [(h0, .inr (18, [.int x_1, .ref q_el, .int (zI (z30_size))])), (q_el, .inl (cE, ne, .inr (.inr (.inr (.inr fe)))))]) (cx := [(h0, .inr (18, [.int x_1, .ref q_el, .int (zI (z30_size))])), (q_el, .inl (cE, ne, .inr (.inr (.inr (.inr fe)))))]) (pl := va_pl L (pE P)) [0, 1] rfl
  have hDc := hD.part (X := [(h0, .inr (18, [.int x_1, .ref q_el, .int (zI (z30_size))])), (q_el, .inl (cE, ne, .inr (.inr (.inr (.inr fe)))))]) (cx := [(h0, .inr (18, [.int x_1, .ref q_el, .int (zI (z30_size))])), (q_el, .inl (cE, ne, .inr (.inr (.inr (.inr fe)))))]) (pl := va_pl L (pE P)) [0, 1] (by decide) rfl
  have hKc := hK.sub (tys' := [(cE, .object "java/lang/Object")]) [0] rfl
  have hFc := va_freeP (X := [(h0, .inr (18, [.int x_1, .ref q_el, .int (zI (z30_size))])), (q_el, .inl (cE, ne, .inr (.inr (.inr (.inr fe)))))]) (cx := [(h0, .inr (18, [.int x_1, .ref q_el, .int (zI (z30_size))])), (q_el, .inl (cE, ne, .inr (.inr (.inr (.inr fe)))))]) (pl := va_pl L (pE P)) hD hS hA [0, 1] rfl
  refine va_callv (va_runV (As := [.ref y, .ref q_el, .int (zI (z30_size))]) (rest := []) ⟨hx, hb, hml, hown, hts⟩ (c_AL_add3 l dC dI h0 x_1 z30_size q_el cE ne fe L P y (by omega) (by omega) (by omega) hX_el hX_y H.size sx_mi) (cwV 3 hts g_AL_add_AL_add3 rfl rfl rfl (by decide +kernel) ⟨(Nat.le_of_ble_eq_true rfl), (Nat.le_of_ble_eq_true rfl)⟩) ⟨fun a U g mk q => by obtain ⟨q0, q1, qP, qK, qD, e0, e1, e2, e3, e4, e5⟩ := q; exact ⟨q0, q1, qP, va_K.moved (u := U) (U := U.calling g mk a) (Vm.Alike.refl U.vm) qK, qD, va_Nw.same rfl (u := U) (U := U.calling g mk a) rfl e0, va_Nw.same rfl (u := U) (U := U.calling g mk a) rfl e1, va_Nw.same rfl (u := U) (U := U.calling g mk a) rfl e2, va_Dc.moved (u := U) (U := U.calling g mk a) (Vm.Alike.refl U.vm) e3, va_Mi.moved (u := U) (U := U.calling g mk a) (Vm.Alike.refl U.vm) e4, va_AO.moved (u := U) (U := U.calling g mk a) (Vm.Alike.refl U.vm) e5⟩, va_recv hKc hPc (ci := 18) (q0 := 0) rfl rfl, fun U hU hW => ⟨rfl, by rw [hU], by rw [hU]; exact hPc, va_K.moved hW.alike hKc, hDc.weaken (fun _ _ _ _ => trivial), va_Nw.warmC hW hp0, va_Nw.warmC hW hp1, va_Nw.warmC hW hp2, va_Dc.moved hW.alike hp3, va_Mi.moved hW.alike hp4, va_AO.moved hW.alike hp5⟩⟩ rfl rfl hl.1 rfl (lv_room (Nat.le_of_ble_eq_true rfl)) dJx4a65c_add_9ea2d_20 ⟨(Nat.le_of_ble_eq_true rfl), (Nat.le_of_ble_eq_true rfl)⟩) hS (fun q _ h => hFc q h) hFc (fun  u t H1 locs ht hvm hw hB hz1 hk1 hS => ?_)
  obtain ⟨z0_2, qn_3, cn_4, nn_5, fn_6, hxt_6, hP1, hK1, hD1⟩ := hB
  rw [ht] at hP1
  have hK1 := va_K.moved hvm.symm hK1
  obtain ⟨hP, hD⟩ := va_joinP (X := [(h0, .inr (18, [.int x_1, .ref q_el, .int (zI (z30_size))])), (q_el, .inl (cE, ne, .inr (.inr (.inr (.inr fe)))))]) (cx := [(h0, .inr (18, [.int x_1, .ref q_el, .int (zI (z30_size))])), (q_el, .inl (cE, ne, .inr (.inr (.inr (.inr fe)))))]) (wr := []) (rx := [(h0, .inr (18, [.int x_1, .ref qn_3, .int (zI (z0_2))])), (qn_3, .inl (cn_4, nn_5, .inr (.inr (.inr (.inr fn_6)))))]) (pl := va_pl L (pE P)) (pl1 := va_pl L (pE P)) hP hD [0, 1] [] rfl rfl (by decide) (by decide) hk1 hFc hP1 hD1
  have hK := (hK.sub (tys' := []) [] rfl).app hK1
  generalize H1 = H at hP hS ⊢
  have hP : va_P (dC, dI) vwQ ([(h0, .inr (18, [.int x_1, .ref qn_3, .int (zI (z0_2))])), (qn_3, .inl (cn_4, nn_5, .inr (.inr (.inr (.inr fn_6)))))] ++ va_pl L (pE P)) H := hP
  have hD : va_D A ([(h0, .inr (18, [.int x_1, .ref qn_3, .int (zI (z0_2))])), (qn_3, .inl (cn_4, nn_5, .inr (.inr (.inr (.inr fn_6)))))] ++ va_pl L (pE P)) := hD
  have hK : va_K (dC, dI) vwQ [(cn_4, .object "java/lang/Object")] s := hK
  refine W.widen (k := 1) (n := 100000) (Nat.le_of_ble_eq_true rfl) (Nat.le_of_ble_eq_true rfl) ?_
  obtain ⟨rk_7, hu_7⟩ := hxt_6
  refine lv_iconst (v := 1) hx hb dJx4a65c_add_9ea2d_23 (by decide) ?_
  subst hQ
  refine W.widen (k := 1) (n := 100000) (Nat.le_of_ble_eq_true rfl) (Nat.le_of_ble_eq_true rfl) ?_
  exact W.zret (v := 1) hx hb hr (by decide) (fun t ht hW => ⟨⟨1, (1), rfl, ⟨rfl, (by omega)⟩, x_1, z0_2, qn_3, cn_4, nn_5, fn_6, ⟨(by omega), hu_7⟩, by rw [ht]; exact hP, va_K.moved hW.alike hK, hD⟩, hS.F ht⟩) hS.2.2 dJx4a65c_add_9ea2d_24
