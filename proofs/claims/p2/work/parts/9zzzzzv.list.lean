theorem dJx4a65c_set_bcc79_0 : decode cJx4a65c_set_bcc79 0 = .ok (.iload_n 1, 1) := by decide +kernel
theorem dJx4a65c_set_bcc79_1 : decode cJx4a65c_set_bcc79 1 = .ok (.aload_n 0, 1) := by decide +kernel
theorem dJx4a65c_set_bcc79_2 : decode cJx4a65c_set_bcc79 2 = .ok (.getfield 48, 3) := by decide +kernel
theorem dJx4a65c_set_bcc79_5 : decode cJx4a65c_set_bcc79 5 = .ok (.invokestatic 118, 3) := by decide +kernel
theorem dJx4a65c_set_bcc79_8 : decode cJx4a65c_set_bcc79 8 = .ok (.pop, 1) := by decide +kernel
theorem dJx4a65c_set_bcc79_9 : decode cJx4a65c_set_bcc79 9 = .ok (.aload_n 0, 1) := by decide +kernel
theorem dJx4a65c_set_bcc79_10 : decode cJx4a65c_set_bcc79 10 = .ok (.iload_n 1, 1) := by decide +kernel
theorem dJx4a65c_set_bcc79_11 : decode cJx4a65c_set_bcc79 11 = .ok (.invokevirtual 123, 3) := by decide +kernel
theorem dJx4a65c_set_bcc79_14 : decode cJx4a65c_set_bcc79 14 = .ok (.astore_n 3, 1) := by decide +kernel
theorem dJx4a65c_set_bcc79_15 : decode cJx4a65c_set_bcc79 15 = .ok (.aload_n 0, 1) := by decide +kernel
theorem dJx4a65c_set_bcc79_16 : decode cJx4a65c_set_bcc79 16 = .ok (.getfield 9, 3) := by decide +kernel
theorem dJx4a65c_set_bcc79_19 : decode cJx4a65c_set_bcc79 19 = .ok (.iload_n 1, 1) := by decide +kernel
theorem dJx4a65c_set_bcc79_20 : decode cJx4a65c_set_bcc79 20 = .ok (.aload_n 2, 1) := by decide +kernel
theorem dJx4a65c_set_bcc79_21 : decode cJx4a65c_set_bcc79 21 = .ok (.aastore, 1) := by decide +kernel
theorem dJx4a65c_set_bcc79_22 : decode cJx4a65c_set_bcc79 22 = .ok (.aload_n 3, 1) := by decide +kernel
theorem dJx4a65c_set_bcc79_23 : decode cJx4a65c_set_bcc79 23 = .ok (.areturn, 1) := by decide +kernel
def o_AL_set : List Cond := [.fieldLink RJx4a65c 48 "java/util/ArrayList" "size" "I", .methodLink RJx4a65c 118 yJ15_checkIndex_7cf53, .static yJ15_checkIndex_7cf53, .initialized RJ15, .methodLink RJx4a65c 123 yJx4a65c_elementData_915e3, .instanceMethod yJx4a65c_elementData_915e3, .selects RJx4a65c yJx4a65c_elementData_915e3 yJx4a65c_elementData_915e3, .initialized RJx4a65c, .fieldLink RJx4a65c 9 "java/util/ArrayList" "elementData" "[Ljava/lang/Object;"]
def v_AL_set : List Cond := .code yJx4a65c_set_bcc79 cJx4a65c_set_bcc79 4 (some (.object "java/lang/Object")) :: (o_AL_set ++ (wsJx4a65c0 ++ (v_J15_checkIndexN ++ (v_AL_elementData ++ []))))
theorem mow_AL_set : ∀ w ∈ o_AL_set, w ∈ v_AL_set := fun _ h => List.mem_cons_of_mem _ (List.mem_append_left _ h)
theorem mem_AL_set_0 : ∀ w ∈ wsJx4a65c0, w ∈ v_AL_set := fun _ h => List.mem_cons_of_mem _ (List.mem_append_right _ (List.mem_append_left _ h))
theorem mem_AL_set_1 : ∀ w ∈ v_J15_checkIndexN, w ∈ v_AL_set := fun _ h => List.mem_cons_of_mem _ (List.mem_append_right _ (List.mem_append_right _ (List.mem_append_left _ h)))
theorem mem_AL_set_2 : ∀ w ∈ v_AL_elementData, w ∈ v_AL_set := fun _ h => List.mem_cons_of_mem _ (List.mem_append_right _ (List.mem_append_right _ (List.mem_append_right _ (List.mem_append_left _ h))))
set_option maxRecDepth 20000 in
theorem gw_AL_set : v_AL_set.all goodWord = true := by decide +kernel
set_option maxRecDepth 20000 in
theorem g_AL_set_J15_checkIndexN : GoodIn v_AL_set (va_wsS RJx4a65c 118 yJ15_checkIndex_7cf53 v_J15_checkIndexN) := goodIn_app (goodIn_sub (fun w h => mow_AL_set w (by revert w h; decide +kernel)) (by decide +kernel)) (goodIn_sub mem_AL_set_1 gw_J15_checkIndexN)
set_option maxRecDepth 20000 in
theorem g_AL_set_AL_elementData : GoodIn v_AL_set (wsV RJx4a65c 123 RJx4a65c yJx4a65c_elementData_915e3 v_AL_elementData) := goodIn_app (goodIn_sub (fun w h => mow_AL_set w (by revert w h; decide +kernel)) (by decide +kernel)) (goodIn_sub mem_AL_set_2 gw_AL_elementData)
set_option maxHeartbeats 4000000 in
set_option maxRecDepth 100000 in
theorem c_AL_set (l : Launch) (dC : Nat → ClassId) (dI : Nat → Nat → Nat) (h0 : Nat) (r30_modCount : Int32) (z30_size : Int) (q_el : Nat) (cE : ClassId) (ne : Nat) (fe : Nat → Option Nat) (L : List Nat) (P : PO) (i : Int) (x : Nat) (y : Nat) (hNz30_size : 0 ≤ z30_size ∧ z30_size ≤ 100000) (hNne : ne ≤ 100000) (hNi : 0 ≤ i ∧ i < z30_size ∧ z30_size ≤ ne) (hX_e : fe (i).toNat = some x) (hX_y : y ∈ L ∧ OBK (P.kd y)) (hX_el : ELS L P fe) (sz : Nat) : Met l yJx4a65c_set_bcc79 v_AL_set ({ frames := 2, cells := 0, slots := 0, locals := 43 }) (va_Pc [.ref h0, .int (zI (i)), .ref y] (fun U => U.heap.size = sz ∧ va_P (dC, dI) vwQ ([(h0, .inr (18, [.int r30_modCount, .ref q_el, .int (zI (z30_size))])), (q_el, .inl (cE, ne, .inr (.inr (.inr (.inr fe)))))] ++ va_pl L (pE P)) U.heap ∧ va_K (dC, dI) vwQ [(cE, .object "java/lang/Object")] U ∧ va_D (fun _ => True) ([(h0, .inr (18, [.int r30_modCount, .ref q_el, .int (zI (z30_size))])), (q_el, .inl (cE, ne, .inr (.inr (.inr (.inr fe)))))] ++ va_pl L (pE P)) ∧ va_Nw (.castable "SsaForgeModel$Row" "java/lang/Object") U ∧ va_Nw (.castable "SsaForgeModel$Phi" "java/lang/Object") U ∧ va_Nw (.castable "SsaForgeModel$Block" "java/lang/Object") U)) (va_Qr (fun _ : Unit => True) (fun (_ : Unit) (rq : Nat) (t : State) => ∃ (g0_9 : Nat → Option Nat), (rq = x ∧ ((ELS L P g0_9 ∧ g0_9 = va_up fe (i).toNat (some y)))) ∧ va_P (dC, dI) vwQ ([(h0, .inr (18, [.int r30_modCount, .ref q_el, .int (zI (z30_size))])), (q_el, .inl (cE, ne, .inr (.inr (.inr (.inr g0_9)))))] ++ va_pl L (pE P)) t.heap ∧ va_K (dC, dI) vwQ [(cE, .object "java/lang/Object")] t ∧ va_D (va_A ([(h0, .inr (18, [.int r30_modCount, .ref q_el, .int (zI (z30_size))])), (q_el, .inl (cE, ne, .inr (.inr (.inr (.inr fe)))))] ++ va_pl L (pE P)) sz) ([(h0, .inr (18, [.int r30_modCount, .ref q_el, .int (zI (z30_size))])), (q_el, .inl (cE, ne, .inr (.inr (.inr (.inr g0_9)))))] ++ va_pl L (pE P))) (va_A ([(h0, .inr (18, [.int r30_modCount, .ref q_el, .int (zI (z30_size))])), (q_el, .inl (cE, ne, .inr (.inr (.inr (.inr fe)))))] ++ va_pl L (pE P)) sz)) 0 0 (va_A ([(h0, .inr (18, [.int r30_modCount, .ref q_el, .int (zI (z30_size))])), (q_el, .inl (cE, ne, .inr (.inr (.inr (.inr fe)))))] ++ va_pl L (pE P)) sz) := by
  refine Met.ofW (cc := cJx4a65c_set_bcc79) (maxL := 4) (ret := (some (.object "java/lang/Object"))) (by decide) rfl ?_
  intro p e s m args below meth c s₁ B hml hv
  obtain ⟨rfl, hsz, hP, hK, hD0, hp0, hp1, hp2⟩ := hv
  have hx := B.exec
  have hb := B.bytes
  have hr := B.returns
  have hts := atoms_spec (ws := v_AL_set) B.pre
  have hown : s.vm.findClass RJx4a65c = some m.cls := findClass_of_methodNamed B.named
  have hlocks := B.notSynchronized
  have ow : ∀ {k : Nat} {w : Cond}, o_AL_set[k]? = some w → w.before ([.ref h0, .int (zI (i)), .ref y] : List Value).toArray s = true := fun h => hts _ (mow_AL_set _ (List.mem_of_getElem? h))
  subst hsz
  have hD := hD0.self (sz := s.heap.size)
  generalize hAe : va_A ([(h0, .inr (18, [.int r30_modCount, .ref q_el, .int (zI (z30_size))])), (q_el, .inl (cE, ne, .inr (.inr (.inr (.inr fe)))))] ++ va_pl L (pE P)) s.heap.size = A at hD ⊢
  have hA : ∀ q : Nat, s.heap.size ≤ q → A q := fun q h => by rw [← hAe]; exact Or.inr h
  have hS : va_S A s.heap s.heap [] := va_S.rf
  have hP : va_P (dC, dI) vwQ ([(h0, .inr (18, [.int r30_modCount, .ref q_el, .int (zI (z30_size))])), (q_el, .inl (cE, ne, .inr (.inr (.inr (.inr fe)))))] ++ va_pl L (pE P)) s.heap := hP
  have hl := lv_entry ([.ref h0, .int (zI (i)), .ref y]) (n := 4) (Nat.le_of_ble_eq_true rfl)
  rw [lg_entry_eq]
  generalize (lg_sl ([.ref h0, .int (zI (i)), .ref y]) ++ List.replicate (4 - (lg_sl ([.ref h0, .int (zI (i)), .ref y])).length) Slot.unset).toArray = ls at hl ⊢
  have hl : lv_has ls 4 [(0, .ref h0), (1, .int (zI (i))), (2, .ref y)] := hl
  obtain ⟨H, hH⟩ : ∃ H, H = s.heap := ⟨_, rfl⟩
  rw [← hH] at hP
  have hS : va_S A s.heap H [] := by rw [hH]; exact hS
  rw [← hH]
  refine zW_cap (fun Q hQ => ?_)
  refine lv_iload_n hx hb dJx4a65c_set_bcc79_0 rfl (lv_at hl 1 rfl) ?_
  refine lv_aload_n hx hb dJx4a65c_set_bcc79_1 rfl (lv_at hl 0 rfl) ?_
  refine va_get (D := (dC, dI)) (ci := 18) (v := .int (zI (z30_size))) (C := RJx4a65c) (T := TJx4a65c) (N := 3) hx hb hts mem_AL_set_0 hown hK hP 0 rfl rfl 2 (by decide) (ow (k := 0) rfl) (fun _ h9 => h9) rfl dJx4a65c_set_bcc79_2 ?_
  have hPc := hP.sub (ws' := []) [] rfl
  have hDc := hD.sub (ws' := []) [] (by decide) rfl
  have hKc := hK.sub (tys' := []) [] rfl
  have hFc := va_free (wc := []) hD hS hA [] rfl
  refine va_calli (va_runS (As := [.int (zI (i)), .int (zI (z30_size))]) (rest := []) ⟨hx, hb, hml, hown, hts⟩ (c_J15_checkIndexN l dC dI i z30_size (by omega) H.size) (va_cwS 2 hts g_AL_set_J15_checkIndexN rfl rfl rfl (by decide +kernel) ⟨(Nat.le_of_ble_eq_true rfl), (Nat.le_of_ble_eq_true rfl)⟩) ⟨fun a U g mk q => by obtain ⟨q0, q1, qP, qK, qD⟩ := q; exact ⟨q0, q1, qP, va_K.moved (u := U) (U := U.calling g mk a) (Vm.Alike.refl U.vm) qK, qD⟩, fun U hU hW => ⟨rfl, by rw [hU], by rw [hU]; exact hPc, va_K.moved hW.alike hKc, hDc.weaken (fun _ _ _ _ => trivial)⟩⟩ rfl rfl hl.1 rfl (lv_room (Nat.le_of_ble_eq_true rfl)) dJx4a65c_set_bcc79_5 ⟨(Nat.le_of_ble_eq_true rfl), (Nat.le_of_ble_eq_true rfl)⟩) hS (fun q _ h => hFc q h) hFc (fun r_1 u t H1 locs ht hvm hw hB hz1 hk1 hS => ?_)
  obtain ⟨hP1, hK1, hD1⟩ := hB
  rw [ht] at hP1
  have hK1 := va_K.moved hvm.symm hK1
  obtain ⟨hP, hD⟩ := va_joinQ (X := [(h0, .inr (18, [.int r30_modCount, .ref q_el, .int (zI (z30_size))])), (q_el, .inl (cE, ne, .inr (.inr (.inr (.inr fe)))))]) (cx := []) (wr := [(h0, .inr (18, [.int r30_modCount, .ref q_el, .int (zI (z30_size))])), (q_el, .inl (cE, ne, .inr (.inr (.inr (.inr fe)))))]) (w1 := []) (pl := va_pl L (pE P)) hP hD [] [0, 1] rfl rfl (by decide) (by decide) hk1 hFc hP1 hD1
  have hK := (hK.sub (tys' := [(cE, .object "java/lang/Object")]) [0] rfl).app hK1
  generalize H1 = H at hP hS ⊢
  have hP : va_P (dC, dI) vwQ ([(h0, .inr (18, [.int r30_modCount, .ref q_el, .int (zI (z30_size))])), (q_el, .inl (cE, ne, .inr (.inr (.inr (.inr fe)))))] ++ va_pl L (pE P)) H := hP
  have hD : va_D A ([(h0, .inr (18, [.int r30_modCount, .ref q_el, .int (zI (z30_size))])), (q_el, .inl (cE, ne, .inr (.inr (.inr (.inr fe)))))] ++ va_pl L (pE P)) := hD
  have hK : va_K (dC, dI) vwQ [(cE, .object "java/lang/Object")] s := hK
  refine W.widen (k := 0) (n := 0) (Nat.le_of_ble_eq_true rfl) (Nat.le_of_ble_eq_true rfl) ?_
  obtain rfl : r_1 = (zI (i)) := hw
  refine lv_pop hx hb dJx4a65c_set_bcc79_8 rfl ?_
  refine lv_aload_n hx hb dJx4a65c_set_bcc79_9 rfl (lv_at hl 0 rfl) ?_
  refine lv_iload_n hx hb dJx4a65c_set_bcc79_10 rfl (lv_at hl 1 rfl) ?_
  have hPc := hP.sub (ws' := [(h0, .inr (18, [.int r30_modCount, .ref q_el, .int (zI (z30_size))])), (q_el, .inl (cE, ne, .inr (.inr (.inr (.inr fe)))))]) [0, 1] rfl
  have hDc := hD.sub (ws' := [(h0, .inr (18, [.int r30_modCount, .ref q_el, .int (zI (z30_size))])), (q_el, .inl (cE, ne, .inr (.inr (.inr (.inr fe)))))]) [0, 1] (by decide) rfl
  have hKc := hK.sub (tys' := [(cE, .object "java/lang/Object")]) [0] rfl
  have hFc := va_free (wc := [(h0, .inr (18, [.int r30_modCount, .ref q_el, .int (zI (z30_size))])), (q_el, .inl (cE, ne, .inr (.inr (.inr (.inr fe)))))]) hD hS hA [0, 1] rfl
  refine va_callr (va_runV (As := [.int (zI (i))]) (rest := []) ⟨hx, hb, hml, hown, hts⟩ (c_AL_elementData l dC dI h0 r30_modCount z30_size q_el cE ne fe i x (by omega) (by omega) (by omega) hX_e H.size) (cwV 1 hts g_AL_set_AL_elementData rfl rfl rfl (by decide +kernel) ⟨(Nat.le_of_ble_eq_true rfl), (Nat.le_of_ble_eq_true rfl)⟩) ⟨fun a U g mk q => by obtain ⟨q0, q1, qP, qK, qD⟩ := q; exact ⟨q0, q1, qP, va_K.moved (u := U) (U := U.calling g mk a) (Vm.Alike.refl U.vm) qK, qD⟩, va_recv hKc hPc (ci := 18) (q0 := 0) rfl rfl, fun U hU hW => ⟨rfl, by rw [hU], by rw [hU]; exact hPc, va_K.moved hW.alike hKc, hDc.weaken (fun _ _ _ _ => trivial)⟩⟩ rfl rfl hl.1 rfl (lv_room (Nat.le_of_ble_eq_true rfl)) dJx4a65c_set_bcc79_11 ⟨(Nat.le_of_ble_eq_true rfl), (Nat.le_of_ble_eq_true rfl)⟩) hS (fun q _ h => hFc q h) hFc (fun u q_2 t H1 locs ht hvm hw hB hz1 hk1 hS => ?_)
  obtain ⟨hxt_2, hP1, hK1, hD1⟩ := hB
  rw [ht] at hP1
  have hK1 := va_K.moved hvm.symm hK1
  obtain ⟨hP, hD⟩ := va_joinQ (X := [(h0, .inr (18, [.int r30_modCount, .ref q_el, .int (zI (z30_size))])), (q_el, .inl (cE, ne, .inr (.inr (.inr (.inr fe)))))]) (cx := [(h0, .inr (18, [.int r30_modCount, .ref q_el, .int (zI (z30_size))])), (q_el, .inl (cE, ne, .inr (.inr (.inr (.inr fe)))))]) (wr := []) (w1 := [(h0, .inr (18, [.int r30_modCount, .ref q_el, .int (zI (z30_size))])), (q_el, .inl (cE, ne, .inr (.inr (.inr (.inr fe)))))]) (pl := va_pl L (pE P)) hP hD [0, 1] [] rfl rfl (by decide) (by decide) hk1 hFc hP1 hD1
  have hK := (hK.sub (tys' := []) [] rfl).app hK1
  generalize H1 = H at hP hS ⊢
  have hP : va_P (dC, dI) vwQ ([(h0, .inr (18, [.int r30_modCount, .ref q_el, .int (zI (z30_size))])), (q_el, .inl (cE, ne, .inr (.inr (.inr (.inr fe)))))] ++ va_pl L (pE P)) H := hP
  have hD : va_D A ([(h0, .inr (18, [.int r30_modCount, .ref q_el, .int (zI (z30_size))])), (q_el, .inl (cE, ne, .inr (.inr (.inr (.inr fe)))))] ++ va_pl L (pE P)) := hD
  have hK : va_K (dC, dI) vwQ [(cE, .object "java/lang/Object")] s := hK
  refine W.widen (k := 0) (n := 0) (Nat.le_of_ble_eq_true rfl) (Nat.le_of_ble_eq_true rfl) ?_
  rw [hxt_2]
  refine lv_astore_n (lv' := [(3, .ref x), (0, .ref h0), (1, .int (zI (i))), (2, .ref y)]) hx hb dJx4a65c_set_bcc79_14 rfl hl (by decide) rfl (fun ls hl => ?_)
  refine lv_aload_n hx hb dJx4a65c_set_bcc79_15 rfl (lv_at hl 1 rfl) ?_
  refine va_get (D := (dC, dI)) (ci := 18) (v := .ref q_el) (C := RJx4a65c) (T := TJx4a65c) (N := 3) hx hb hts mem_AL_set_0 hown hK hP 0 rfl rfl 1 (by decide) (ow (k := 8) rfl) (fun _ h9 => h9) rfl dJx4a65c_set_bcc79_16 ?_
  refine lv_iload_n hx hb dJx4a65c_set_bcc79_19 rfl (lv_at hl 2 rfl) ?_
  refine lv_aload_n hx hb dJx4a65c_set_bcc79_20 rfl (lv_at hl 3 rfl) ?_
  refine va_astqM (E := "java/lang/Object") (i := zI (i)) hx hb hK hP hD hS 1 0 rfl rfl (pool_any hK hP hX_y.1 hX_y.2 hp0 hp1 hp2) (zI_in (a := i) (n := ne) (by omega) (by omega) (by omega)) dJx4a65c_set_bcc79_21 (fun H locs hP hD hS => ?_)
  have hP : va_P (dC, dI) vwQ ([(h0, .inr (18, [.int r30_modCount, .ref q_el, .int (zI (z30_size))])), (q_el, .inl (cE, ne, .inr (.inr (.inr (.inr (va_up fe (zI (i)).toNatClampNeg (some y)))))))] ++ va_pl L (pE P)) H := hP
  have hD : va_D A ([(h0, .inr (18, [.int r30_modCount, .ref q_el, .int (zI (z30_size))])), (q_el, .inl (cE, ne, .inr (.inr (.inr (.inr (va_up fe (zI (i)).toNatClampNeg (some y)))))))] ++ va_pl L (pE P)) := hD
  generalize efo_3 : (va_up fe (zI (i)).toNatClampNeg (some y)) = fo_3 at hP hD
  rw [zI_cl (by omega) (by omega)] at efo_3
  have hP : va_P (dC, dI) vwQ ([(h0, .inr (18, [.int r30_modCount, .ref q_el, .int (zI (z30_size))])), (q_el, .inl (cE, ne, .inr (.inr (.inr (.inr fo_3)))))] ++ va_pl L (pE P)) H := hP
  have hD : va_D A ([(h0, .inr (18, [.int r30_modCount, .ref q_el, .int (zI (z30_size))])), (q_el, .inl (cE, ne, .inr (.inr (.inr (.inr fo_3)))))] ++ va_pl L (pE P)) := hD
  refine lv_aload_n hx hb dJx4a65c_set_bcc79_22 rfl (lv_at hl 0 rfl) ?_
  subst hQ
  refine W.widen (k := 0) (n := 0) (Nat.le_of_ble_eq_true rfl) (Nat.le_of_ble_eq_true rfl) ?_
  exact W.aret (v := .ref x) hx hb hr (Or.inl ⟨_, rfl⟩) (Or.inr ⟨_, rfl⟩) (fun t ht hW => ⟨⟨(), x, rfl, trivial, fo_3, ⟨rfl, ⟨(by rw [← efo_3]; exact hX_el.put hX_y.1 hX_y.2), efo_3.symm⟩⟩, by rw [ht]; exact hP, va_K.moved hW.alike hK, hD⟩, hS.F ht⟩) hS.2.2 dJx4a65c_set_bcc79_23
theorem dJ8_newLength_cabcc_0 : decode cJ8_newLength_cabcc 0 = .ok (.iload_n 0, 1) := by decide +kernel
theorem dJ8_newLength_cabcc_1 : decode cJ8_newLength_cabcc 1 = .ok (.iload_n 1, 1) := by decide +kernel
theorem dJ8_newLength_cabcc_2 : decode cJ8_newLength_cabcc 2 = .ok (.iload_n 2, 1) := by decide +kernel
theorem dJ8_newLength_cabcc_3 : decode cJ8_newLength_cabcc 3 = .ok (.invokestatic 194, 3) := by decide +kernel
theorem dJ8_newLength_cabcc_6 : decode cJ8_newLength_cabcc 6 = .ok (.iadd, 1) := by decide +kernel
theorem dJ8_newLength_cabcc_7 : decode cJ8_newLength_cabcc 7 = .ok (.istore_n 3, 1) := by decide +kernel
theorem dJ8_newLength_cabcc_8 : decode cJ8_newLength_cabcc 8 = .ok (.iconst 0, 1) := by decide +kernel
theorem dJ8_newLength_cabcc_9 : decode cJ8_newLength_cabcc 9 = .ok (.iload_n 3, 1) := by decide +kernel
theorem dJ8_newLength_cabcc_10 : decode cJ8_newLength_cabcc 10 = .ok (.if_icmp .ge 11, 3) := by decide +kernel
theorem dJ8_newLength_cabcc_13 : decode cJ8_newLength_cabcc 13 = .ok (.iload_n 3, 1) := by decide +kernel
theorem dJ8_newLength_cabcc_14 : decode cJ8_newLength_cabcc 14 = .ok (.ldc 200, 2) := by decide +kernel
theorem dJ8_newLength_cabcc_16 : decode cJ8_newLength_cabcc 16 = .ok (.if_icmp .gt 5, 3) := by decide +kernel
theorem dJ8_newLength_cabcc_19 : decode cJ8_newLength_cabcc 19 = .ok (.iload_n 3, 1) := by decide +kernel
theorem dJ8_newLength_cabcc_20 : decode cJ8_newLength_cabcc 20 = .ok (.ireturn, 1) := by decide +kernel
def o_J8_newLength : List Cond := [.methodLink RJ8 194 Lib.Math.max.name, .static Lib.Math.max.name, .initialized "java/lang/Math", .code Lib.Math.max.name Lib.Math.max.code 2 (some .int), .constant RJ8 200 (2147483639)]
def v_J8_newLength : List Cond := .code yJ8_newLength_cabcc cJ8_newLength_cabcc 4 (some .int) :: (o_J8_newLength ++ [])
theorem mow_J8_newLength : ∀ w ∈ o_J8_newLength, w ∈ v_J8_newLength := fun _ h => List.mem_cons_of_mem _ (List.mem_append_left _ h)
set_option maxRecDepth 20000 in
theorem gw_J8_newLength : v_J8_newLength.all goodWord = true := by decide +kernel
set_option maxHeartbeats 4000000 in
set_option maxRecDepth 100000 in
theorem c_J8_newLength (l : Launch) (dC : Nat → ClassId) (dI : Nat → Nat → Nat) (o : Int) (g1 : Int) (g2 : Int) (hNo : 0 ≤ o ∧ o ≤ 100000 ∧ 0 ≤ g1 ∧ g1 ≤ 100000 ∧ 0 ≤ g2 ∧ g2 ≤ 100000 ∧ 0 < o + g1) (sz : Nat) : Met l yJ8_newLength_cabcc v_J8_newLength ({ frames := 1, cells := 0, slots := 0, locals := 14 }) (va_Pc [.int (zI (o)), .int (zI (g1)), .int (zI (g2))] (fun U => U.heap.size = sz ∧ va_P (dC, dI) vwQ [] U.heap ∧ va_K (dC, dI) vwQ [] U ∧ va_D (fun _ => True) [])) (va_Qi (fun (r : Int32) (_ : Unit) => ∃ z : Int, r = zI z ∧ (o + g1 ≤ z ∧ o + g2 ≤ z ∧ (z = o + g1 ∨ z = o + g2))) (fun (_ : Unit) (t : State) => va_P (dC, dI) vwQ [] t.heap ∧ va_K (dC, dI) vwQ [] t ∧ va_D (va_A [] sz) []) (va_A [] sz)) 0 0 (va_A [] sz) := by
  refine Met.ofW (cc := cJ8_newLength_cabcc) (maxL := 4) (ret := (some .int)) (by decide) rfl ?_
  intro p e s m args below meth c s₁ B hml hv
  obtain ⟨rfl, hsz, hP, hK, hD0⟩ := hv
  have hx := B.exec
  have hb := B.bytes
  have hr := B.returns
  have hts := atoms_spec (ws := v_J8_newLength) B.pre
  have hown : s.vm.findClass RJ8 = some m.cls := findClass_of_methodNamed B.named
  have hlocks := B.notSynchronized
  have ow : ∀ {k : Nat} {w : Cond}, o_J8_newLength[k]? = some w → w.before ([.int (zI (o)), .int (zI (g1)), .int (zI (g2))] : List Value).toArray s = true := fun h => hts _ (mow_J8_newLength _ (List.mem_of_getElem? h))
  subst hsz
  have hD := hD0.self (sz := s.heap.size)
  generalize hAe : va_A [] s.heap.size = A at hD ⊢
  have hA : ∀ q : Nat, s.heap.size ≤ q → A q := fun q h => by rw [← hAe]; exact Or.inr h
  have hS : va_S A s.heap s.heap [] := va_S.rf
  have hP : va_P (dC, dI) vwQ [] s.heap := hP
  have hl := lv_entry ([.int (zI (o)), .int (zI (g1)), .int (zI (g2))]) (n := 4) (Nat.le_of_ble_eq_true rfl)
  rw [lg_entry_eq]
  generalize (lg_sl ([.int (zI (o)), .int (zI (g1)), .int (zI (g2))]) ++ List.replicate (4 - (lg_sl ([.int (zI (o)), .int (zI (g1)), .int (zI (g2))])).length) Slot.unset).toArray = ls at hl ⊢
  have hl : lv_has ls 4 [(0, .int (zI (o))), (1, .int (zI (g1))), (2, .int (zI (g2)))] := hl
  obtain ⟨H, hH⟩ : ∃ H, H = s.heap := ⟨_, rfl⟩
  rw [← hH] at hP
  have hS : va_S A s.heap H [] := by rw [hH]; exact hS
  rw [← hH]
  refine zW_cap (fun Q hQ => ?_)
  refine lv_iload_n hx hb dJ8_newLength_cabcc_0 rfl (lv_at hl 0 rfl) ?_
  refine lv_iload_n hx hb dJ8_newLength_cabcc_1 rfl (lv_at hl 1 rfl) ?_
  refine lv_iload_n hx hb dJ8_newLength_cabcc_2 rfl (lv_at hl 2 rfl) ?_
  refine va_mmax hx hb (hml.trans hl.1.symm) hown (ow (k := 0) rfl) (ow (k := 1) rfl) (ow (k := 2) rfl) (ow (k := 3) rfl) (Nat.le_of_ble_eq_true rfl) (Nat.le_of_ble_eq_true rfl) (Nat.le_of_ble_eq_true rfl) (Nat.le_of_ble_eq_true rfl) dJ8_newLength_cabcc_3 ?_
  refine lv_topi (fun z9 ez => ?_)
  obtain ⟨z_1, rfl, hzz_1⟩ := zI_max (a := g1) (b := g2) (by omega) (by omega) (by omega) (by omega) ez
  refine lv_iadd hx hb dJ8_newLength_cabcc_6 ?_
  refine lv_topi (fun z ez => ?_)
  obtain rfl : z = zI (o + z_1) := ez.trans (zI_add (o) (z_1))
  refine lv_istore_n (lv' := [(3, .int (zI (o + z_1))), (0, .int (zI (o))), (1, .int (zI (g1))), (2, .int (zI (g2)))]) hx hb dJ8_newLength_cabcc_7 rfl hl (by decide) rfl (fun ls hl => ?_)
  refine lv_iconst (v := 0) hx hb dJ8_newLength_cabcc_8 (by decide) ?_
  refine lv_iload_n hx hb dJ8_newLength_cabcc_9 rfl (lv_at hl 0 rfl) ?_
  refine lv_icmp_ge (tgt := 21) hx hb dJ8_newLength_cabcc_10 (by decide) (fun b10 => ?_) (fun b10 => ?_)
  · have yb10 : (o + z_1 : Int) ≤ (0 : Int) := (zI_le (a := o + z_1) (b := 0) (by omega) (by omega) (by omega) (by omega)).mp b10
    exfalso
    omega
  · have yb10 : ¬ (o + z_1 : Int) ≤ (0 : Int) := fun q => b10 ((zI_le (a := o + z_1) (b := 0) (by omega) (by omega) (by omega) (by omega)).mpr q)
    refine lv_iload_n hx hb dJ8_newLength_cabcc_13 rfl (lv_at hl 0 rfl) ?_
    refine lv_ldc (v := 2147483639) hx hb hown (ow (k := 4) rfl) dJ8_newLength_cabcc_14 ?_
    refine lv_icmp_gt (tgt := 21) hx hb dJ8_newLength_cabcc_16 (by decide) (fun b16 => ?_) (fun b16 => ?_)
    · have yb16 : (2147483639 : Int) < (o + z_1 : Int) := (zI_lt (a := 2147483639) (b := o + z_1) (by omega) (by omega) (by omega) (by omega)).mp b16
      exfalso
      omega
    · have yb16 : ¬ (2147483639 : Int) < (o + z_1 : Int) := fun q => b16 ((zI_lt (a := 2147483639) (b := o + z_1) (by omega) (by omega) (by omega) (by omega)).mpr q)
      refine lv_iload_n hx hb dJ8_newLength_cabcc_19 rfl (lv_at hl 0 rfl) ?_
      subst hQ
      refine W.widen (k := 0) (n := 0) (Nat.le_of_ble_eq_true rfl) (Nat.le_of_ble_eq_true rfl) ?_
      exact W.iret (v := (zI (o + z_1))) hx hb hr (fun t ht hW => ⟨⟨(zI (o + z_1)), (), rfl, ⟨o + z_1, rfl, (by omega)⟩, by rw [ht]; exact hP, va_K.moved hW.alike hK, hD⟩, hS.F ht⟩) hS.2.2 dJ8_newLength_cabcc_20
