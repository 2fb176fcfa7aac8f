theorem dJx4a65c_remove_915e3_0 : decode cJx4a65c_remove_915e3 0 = .ok (.iload_n 1, 1) := by decide +kernel
theorem dJx4a65c_remove_915e3_1 : decode cJx4a65c_remove_915e3 1 = .ok (.aload_n 0, 1) := by decide +kernel
theorem dJx4a65c_remove_915e3_2 : decode cJx4a65c_remove_915e3 2 = .ok (.getfield 48, 3) := by decide +kernel
theorem dJx4a65c_remove_915e3_5 : decode cJx4a65c_remove_915e3 5 = .ok (.invokestatic 118, 3) := by decide +kernel
theorem dJx4a65c_remove_915e3_8 : decode cJx4a65c_remove_915e3 8 = .ok (.pop, 1) := by decide +kernel
theorem dJx4a65c_remove_915e3_9 : decode cJx4a65c_remove_915e3 9 = .ok (.aload_n 0, 1) := by decide +kernel
theorem dJx4a65c_remove_915e3_10 : decode cJx4a65c_remove_915e3 10 = .ok (.getfield 9, 3) := by decide +kernel
theorem dJx4a65c_remove_915e3_13 : decode cJx4a65c_remove_915e3 13 = .ok (.astore_n 2, 1) := by decide +kernel
theorem dJx4a65c_remove_915e3_14 : decode cJx4a65c_remove_915e3 14 = .ok (.aload_n 2, 1) := by decide +kernel
theorem dJx4a65c_remove_915e3_15 : decode cJx4a65c_remove_915e3 15 = .ok (.iload_n 1, 1) := by decide +kernel
theorem dJx4a65c_remove_915e3_16 : decode cJx4a65c_remove_915e3 16 = .ok (.aaload, 1) := by decide +kernel
theorem dJx4a65c_remove_915e3_17 : decode cJx4a65c_remove_915e3 17 = .ok (.astore_n 3, 1) := by decide +kernel
theorem dJx4a65c_remove_915e3_18 : decode cJx4a65c_remove_915e3 18 = .ok (.aload_n 0, 1) := by decide +kernel
theorem dJx4a65c_remove_915e3_19 : decode cJx4a65c_remove_915e3 19 = .ok (.aload_n 2, 1) := by decide +kernel
theorem dJx4a65c_remove_915e3_20 : decode cJx4a65c_remove_915e3 20 = .ok (.iload_n 1, 1) := by decide +kernel
theorem dJx4a65c_remove_915e3_21 : decode cJx4a65c_remove_915e3 21 = .ok (.invokevirtual 144, 3) := by decide +kernel
theorem dJx4a65c_remove_915e3_24 : decode cJx4a65c_remove_915e3 24 = .ok (.aload_n 3, 1) := by decide +kernel
theorem dJx4a65c_remove_915e3_25 : decode cJx4a65c_remove_915e3 25 = .ok (.areturn, 1) := by decide +kernel
def o_AL_remove : List Cond := [.fieldLink RJx4a65c 48 "java/util/ArrayList" "size" "I", .methodLink RJx4a65c 118 yJ15_checkIndex_7cf53, .static yJ15_checkIndex_7cf53, .initialized RJ15, .fieldLink RJx4a65c 9 "java/util/ArrayList" "elementData" "[Ljava/lang/Object;", .methodLink RJx4a65c 144 yJx4a65c_fastRemove_b59b0, .instanceMethod yJx4a65c_fastRemove_b59b0, .selects RJx4a65c yJx4a65c_fastRemove_b59b0 yJx4a65c_fastRemove_b59b0, .initialized RJx4a65c]
def v_AL_remove : List Cond := .code yJx4a65c_remove_915e3 cJx4a65c_remove_915e3 4 (some (.object "java/lang/Object")) :: (o_AL_remove ++ (wsJx4a65c0 ++ (v_J15_checkIndexN ++ (v_AL_fastRemove ++ []))))
theorem mow_AL_remove : ∀ w ∈ o_AL_remove, w ∈ v_AL_remove := fun _ h => List.mem_cons_of_mem _ (List.mem_append_left _ h)
theorem mem_AL_remove_0 : ∀ w ∈ wsJx4a65c0, w ∈ v_AL_remove := fun _ h => List.mem_cons_of_mem _ (List.mem_append_right _ (List.mem_append_left _ h))
theorem mem_AL_remove_1 : ∀ w ∈ v_J15_checkIndexN, w ∈ v_AL_remove := fun _ h => List.mem_cons_of_mem _ (List.mem_append_right _ (List.mem_append_right _ (List.mem_append_left _ h)))
theorem mem_AL_remove_2 : ∀ w ∈ v_AL_fastRemove, w ∈ v_AL_remove := fun _ h => List.mem_cons_of_mem _ (List.mem_append_right _ (List.mem_append_right _ (List.mem_append_right _ (List.mem_append_left _ h))))
set_option maxRecDepth 20000 in
theorem gw_AL_remove : v_AL_remove.all goodWord = true := by decide +kernel
set_option maxRecDepth 20000 in
theorem g_AL_remove_J15_checkIndexN : GoodIn v_AL_remove (va_wsS RJx4a65c 118 yJ15_checkIndex_7cf53 v_J15_checkIndexN) := goodIn_app (goodIn_sub (fun w h => mow_AL_remove w (by revert w h; decide +kernel)) (by decide +kernel)) (goodIn_sub mem_AL_remove_1 gw_J15_checkIndexN)
set_option maxRecDepth 20000 in
theorem g_AL_remove_AL_fastRemove : GoodIn v_AL_remove (wsV RJx4a65c 144 RJx4a65c yJx4a65c_fastRemove_b59b0 v_AL_fastRemove) := goodIn_app (goodIn_sub (fun w h => mow_AL_remove w (by revert w h; decide +kernel)) (by decide +kernel)) (goodIn_sub mem_AL_remove_2 gw_AL_fastRemove)
set_option maxHeartbeats 4000000 in
set_option maxRecDepth 100000 in
theorem c_AL_remove (l : Launch) (dC : Nat → ClassId) (dI : Nat → Nat → Nat) (h0 : Nat) (r30_modCount : Int32) (z30_size : Int) (q_el : Nat) (cE : ClassId) (ne : Nat) (fe : Nat → Option Nat) (L : List Nat) (P : PO) (i : Int) (x : Nat) (hNz30_size : 0 ≤ z30_size ∧ z30_size ≤ 100000) (hNne : ne ≤ 100000) (hNi : 0 ≤ i ∧ i < z30_size ∧ z30_size ≤ ne) (hX_e : fe (i).toNat = some x) (hX_el : ELS L P fe) (sz : Nat) : Met l yJx4a65c_remove_915e3 v_AL_remove ({ frames := 2, cells := 0, slots := 0, locals := 83 }) (va_Pc [.ref h0, .int (zI (i))] (fun U => U.heap.size = sz ∧ va_P (dC, dI) vwQ ([(h0, .inr (18, [.int r30_modCount, .ref q_el, .int (zI (z30_size))])), (q_el, .inl (cE, ne, .inr (.inr (.inr (.inr fe)))))] ++ va_pl L (pE P)) U.heap ∧ va_K (dC, dI) vwQ [(cE, .object "java/lang/Object")] U ∧ va_D (fun _ => True) ([(h0, .inr (18, [.int r30_modCount, .ref q_el, .int (zI (z30_size))])), (q_el, .inl (cE, ne, .inr (.inr (.inr (.inr fe)))))] ++ va_pl L (pE P)) ∧ va_Nw (.castable "SsaForgeModel$Row" "java/lang/Object") U ∧ va_Nw (.castable "SsaForgeModel$Phi" "java/lang/Object") U ∧ va_Nw (.castable "SsaForgeModel$Block" "java/lang/Object") U)) (va_Qr (fun _ : Unit => True) (fun (_ : Unit) (rq : Nat) (t : State) => ∃ (x0_9 : Int32) (z1_9 : Int) (g2_9 : Nat → Option Nat), (rq = x ∧ ((0 ≤ z1_9 ∧ z1_9 ≤ 100000) ∧ (z1_9 = z30_size - 1 ∧ ELS L P g2_9 ∧ RMV fe g2_9 (i) (z30_size)))) ∧ va_P (dC, dI) vwQ ([(h0, .inr (18, [.int x0_9, .ref q_el, .int (zI (z1_9))])), (q_el, .inl (cE, ne, .inr (.inr (.inr (.inr g2_9)))))] ++ va_pl L (pE P)) t.heap ∧ va_K (dC, dI) vwQ [(cE, .object "java/lang/Object")] t ∧ va_D (va_A ([(h0, .inr (18, [.int r30_modCount, .ref q_el, .int (zI (z30_size))])), (q_el, .inl (cE, ne, .inr (.inr (.inr (.inr fe)))))] ++ va_pl L (pE P)) sz) ([(h0, .inr (18, [.int x0_9, .ref q_el, .int (zI (z1_9))])), (q_el, .inl (cE, ne, .inr (.inr (.inr (.inr g2_9)))))] ++ va_pl L (pE P))) (va_A ([(h0, .inr (18, [.int r30_modCount, .ref q_el, .int (zI (z30_size))])), (q_el, .inl (cE, ne, .inr (.inr (.inr (.inr fe)))))] ++ va_pl L (pE P)) sz)) 0 0 (va_A ([(h0, .inr (18, [.int r30_modCount, .ref q_el, .int (zI (z30_size))])), (q_el, .inl (cE, ne, .inr (.inr (.inr (.inr fe)))))] ++ va_pl L (pE P)) sz) := by
  refine Met.ofW (cc := cJx4a65c_remove_915e3) (maxL := 4) (ret := (some (.object "java/lang/Object"))) (by decide) rfl ?_
  intro p e s m args below meth c s₁ B hml hv
  obtain ⟨rfl, hsz, hP, hK, hD0, hp0, hp1, hp2⟩ := hv
  have hx := B.exec
  have hb := B.bytes
  have hr := B.returns
  have hts := atoms_spec (ws := v_AL_remove) B.pre
  have hown : s.vm.findClass RJx4a65c = some m.cls := findClass_of_methodNamed B.named
  have hlocks := B.notSynchronized
  have ow : ∀ {k : Nat} {w : Cond}, o_AL_remove[k]? = some w → w.before ([.ref h0, .int (zI (i))] : List Value).toArray s = true := fun h => hts _ (mow_AL_remove _ (List.mem_of_getElem? h))
  subst hsz
  have hD := hD0.self (sz := s.heap.size)
  generalize hAe : va_A ([(h0, .inr (18, [.int r30_modCount, .ref q_el, .int (zI (z30_size))])), (q_el, .inl (cE, ne, .inr (.inr (.inr (.inr fe)))))] ++ va_pl L (pE P)) s.heap.size = A at hD ⊢
  have hA : ∀ q : Nat, s.heap.size ≤ q → A q := fun q h => by rw [← hAe]; exact Or.inr h
  have hS : va_S A s.heap s.heap [] := va_S.rf
  have hP : va_P (dC, dI) vwQ ([(h0, .inr (18, [.int r30_modCount, .ref q_el, .int (zI (z30_size))])), (q_el, .inl (cE, ne, .inr (.inr (.inr (.inr fe)))))] ++ va_pl L (pE P)) s.heap := hP
  have hl := lv_entry ([.ref h0, .int (zI (i))]) (n := 4) (Nat.le_of_ble_eq_true rfl)
  rw [lg_entry_eq]
  generalize (lg_sl ([.ref h0, .int (zI (i))]) ++ List.replicate (4 - (lg_sl ([.ref h0, .int (zI (i))])).length) Slot.unset).toArray = ls at hl ⊢
  have hl : lv_has ls 4 [(0, .ref h0), (1, .int (zI (i)))] := hl
  obtain ⟨H, hH⟩ : ∃ H, H = s.heap := ⟨_, rfl⟩
  rw [← hH] at hP
  have hS : va_S A s.heap H [] := by rw [hH]; exact hS
  rw [← hH]
  refine zW_cap (fun Q hQ => ?_)
  refine lv_iload_n hx hb dJx4a65c_remove_915e3_0 rfl (lv_at hl 1 rfl) ?_
  refine lv_aload_n hx hb dJx4a65c_remove_915e3_1 rfl (lv_at hl 0 rfl) ?_
  refine va_get (D := (dC, dI)) (ci := 18) (v := .int (zI (z30_size))) (C := RJx4a65c) (T := TJx4a65c) (N := 3) hx hb hts mem_AL_remove_0 hown hK hP 0 rfl rfl 2 (by decide) (ow (k := 0) rfl) (fun _ h9 => h9) rfl dJx4a65c_remove_915e3_2 ?_
  have hPc := hP.sub (ws' := []) [] rfl
  have hDc := hD.sub (ws' := []) [] (by decide) rfl
  have hKc := hK.sub (tys' := []) [] rfl
  have hFc := va_free (wc := []) hD hS hA [] rfl
  refine va_calli (va_runS (As := [.int (zI (i)), .int (zI (z30_size))]) (rest := []) ⟨hx, hb, hml, hown, hts⟩ (c_J15_checkIndexN l dC dI i z30_size (by omega) H.size) (va_cwS 2 hts g_AL_remove_J15_checkIndexN rfl rfl rfl (by decide +kernel) ⟨(Nat.le_of_ble_eq_true rfl), (Nat.le_of_ble_eq_true rfl)⟩) ⟨fun a U g mk q => by obtain ⟨q0, q1, qP, qK, qD⟩ := q; exact ⟨q0, q1, qP, va_K.moved (u := U) (U := U.calling g mk a) (Vm.Alike.refl U.vm) qK, qD⟩, fun U hU hW => ⟨rfl, by rw [hU], by rw [hU]; exact hPc, va_K.moved hW.alike hKc, hDc.weaken (fun _ _ _ _ => trivial)⟩⟩ rfl rfl hl.1 rfl (lv_room (Nat.le_of_ble_eq_true rfl)) dJx4a65c_remove_915e3_5 ⟨(Nat.le_of_ble_eq_true rfl), (Nat.le_of_ble_eq_true rfl)⟩) hS (fun q _ h => hFc q h) hFc (fun r_1 u t H1 locs ht hvm hw hB hz1 hk1 hS => ?_)
  obtain ⟨hP1, hK1, hD1⟩ := hB
  rw [ht] at hP1
  have hK1 := va_K.moved hvm.symm hK1
  obtain ⟨hP, hD⟩ := va_joinQ (X := [(h0, .inr (18, [.int r30_modCount, .ref q_el, .int (zI (z30_size))])), (q_el, .inl (cE, ne, .inr (.inr (.inr (.inr fe)))))]) (cx := []) (wr := [(h0, .inr (18, [.int r30_modCount, .ref q_el, .int (zI (z30_size))])), (q_el, .inl (cE, ne, .inr (.inr (.inr (.inr fe)))))]) (w1 := []) (pl := va_pl L (pE P)) hP hD [] [0, 1] rfl rfl (by decide) (by decide) hk1 hFc hP1 hD1
  have hK := (hK.sub (tys' := [(cE, .object "java/lang/Object")]) [0] rfl).app hK1
  generalize H1 = H at hP hS ⊢
  have hP : va_P (dC, dI) vwQ ([(h0, .inr (18, [.int r30_modCount, .ref q_el, .int (zI (z30_size))])), (q_el, .inl (cE, ne, .inr (.inr (.inr (.inr fe)))))] ++ va_pl L (pE P)) H := hP
  have hD : va_D A ([(h0, .inr (18, [.int r30_modCount, .ref q_el, .int (zI (z30_size))])), (q_el, .inl (cE, ne, .inr (.inr (.inr (.inr fe)))))] ++ va_pl L (pE P)) := hD
  have hK : va_K (dC, dI) vwQ [(cE, .object "java/lang/Object")] s := hK
  refine W.widen (k := 0) (n := 0) (Nat.le_of_ble_eq_true rfl) (Nat.le_of_ble_eq_true rfl) ?_
  obtain rfl : r_1 = (zI (i)) := hw
  refine lv_pop hx hb dJx4a65c_remove_915e3_8 rfl ?_
  refine lv_aload_n hx hb dJx4a65c_remove_915e3_9 rfl (lv_at hl 0 rfl) ?_
  refine va_get (D := (dC, dI)) (ci := 18) (v := .ref q_el) (C := RJx4a65c) (T := TJx4a65c) (N := 3) hx hb hts mem_AL_remove_0 hown hK hP 0 rfl rfl 1 (by decide) (ow (k := 4) rfl) (fun _ h9 => h9) rfl dJx4a65c_remove_915e3_10 ?_
  refine lv_astore_n (lv' := [(2, .ref q_el), (0, .ref h0), (1, .int (zI (i)))]) hx hb dJx4a65c_remove_915e3_13 rfl hl (by decide) rfl (fun ls hl => ?_)
  refine lv_aload_n hx hb dJx4a65c_remove_915e3_14 rfl (lv_at hl 0 rfl) ?_
  refine lv_iload_n hx hb dJx4a65c_remove_915e3_15 rfl (lv_at hl 2 rfl) ?_
  refine va_aldq hx hb hK hP 1 0 rfl rfl (zI_in (a := i) (n := ne) (by omega) (by omega) (by omega)) dJx4a65c_remove_915e3_16 ?_
  rw [show va_rf (fe (zI (i)).toNatClampNeg) = .ref x from (by rw [zI_cl (by omega) (by omega), hX_e]; rfl)]
  refine lv_astore_n (lv' := [(3, .ref x), (2, .ref q_el), (0, .ref h0), (1, .int (zI (i)))]) hx hb dJx4a65c_remove_915e3_17 rfl hl (by decide) rfl (fun ls hl => ?_)
  refine lv_aload_n hx hb dJx4a65c_remove_915e3_18 rfl (lv_at hl 2 rfl) ?_
  refine lv_aload_n hx hb dJx4a65c_remove_915e3_19 rfl (lv_at hl 1 rfl) ?_
  refine lv_iload_n hx hb dJx4a65c_remove_915e3_20 rfl (lv_at hl 3 rfl) ?_
  have hPc := hP.part (X := [(h0, .inr (18, [.int r30_modCount, .ref q_el, .int (zI (z30_size))])), (q_el, .inl (cE, ne, .inr (.inr (.inr (.inr fe)))))]) (cx := [(h0, .inr (18, [.int r30_modCount, .ref q_el, .int (zI (z30_size))])), (q_el, .inl (cE, ne, .inr (.inr (.inr (.inr fe)))))]) (pl := va_pl L (pE P)) [0, 1] rfl
  have hDc := hD.part (X := [(h0, .inr (18, [.int r30_modCount, .ref q_el, .int (zI (z30_size))])), (q_el, .inl (cE, ne, .inr (.inr (.inr (.inr fe)))))]) (cx := [(h0, .inr (18, [.int r30_modCount, .ref q_el, .int (zI (z30_size))])), (q_el, .inl (cE, ne, .inr (.inr (.inr (.inr fe)))))]) (pl := va_pl L (pE P)) [0, 1] (by decide) rfl
  have hKc := hK.sub (tys' := [(cE, .object "java/lang/Object")]) [0] rfl
  have hFc := va_freeP (X := [(h0, .inr (18, [.int r30_modCount, .ref q_el, .int (zI (z30_size))])), (q_el, .inl (cE, ne, .inr (.inr (.inr (.inr fe)))))]) (cx := [(h0, .inr (18, [.int r30_modCount, .ref q_el, .int (zI (z30_size))])), (q_el, .inl (cE, ne, .inr (.inr (.inr (.inr fe)))))]) (pl := va_pl L (pE P)) hD hS hA [0, 1] rfl
  refine va_callv (va_runV (As := [.ref q_el, .int (zI (i))]) (rest := []) ⟨hx, hb, hml, hown, hts⟩ (c_AL_fastRemove l dC dI h0 r30_modCount z30_size q_el cE ne fe L P i (by omega) (by omega) (by omega) hX_el H.size) (cwV 2 hts g_AL_remove_AL_fastRemove rfl rfl rfl (by decide +kernel) ⟨(Nat.le_of_ble_eq_true rfl), (Nat.le_of_ble_eq_true rfl)⟩) ⟨fun a U g mk q => by obtain ⟨q0, q1, qP, qK, qD, e0, e1, e2⟩ := q; exact ⟨q0, q1, qP, va_K.moved (u := U) (U := U.calling g mk a) (Vm.Alike.refl U.vm) qK, qD, va_Nw.same rfl (u := U) (U := U.calling g mk a) rfl e0, va_Nw.same rfl (u := U) (U := U.calling g mk a) rfl e1, va_Nw.same rfl (u := U) (U := U.calling g mk a) rfl e2⟩, va_recv hKc hPc (ci := 18) (q0 := 0) rfl rfl, fun U hU hW => ⟨rfl, by rw [hU], by rw [hU]; exact hPc, va_K.moved hW.alike hKc, hDc.weaken (fun _ _ _ _ => trivial), va_Nw.warmC hW hp0, va_Nw.warmC hW hp1, va_Nw.warmC hW hp2⟩⟩ rfl rfl hl.1 rfl (lv_room (Nat.le_of_ble_eq_true rfl)) dJx4a65c_remove_915e3_21 ⟨(Nat.le_of_ble_eq_true rfl), (Nat.le_of_ble_eq_true rfl)⟩) hS (fun q _ h => hFc q h) hFc (fun  u t H1 locs ht hvm hw hB hz1 hk1 hS => ?_)
  obtain ⟨x0_2, z1_3, g2_4, hxt_4, hP1, hK1, hD1⟩ := hB
  rw [ht] at hP1
  have hK1 := va_K.moved hvm.symm hK1
  obtain ⟨hP, hD⟩ := va_joinP (X := [(h0, .inr (18, [.int r30_modCount, .ref q_el, .int (zI (z30_size))])), (q_el, .inl (cE, ne, .inr (.inr (.inr (.inr fe)))))]) (cx := [(h0, .inr (18, [.int r30_modCount, .ref q_el, .int (zI (z30_size))])), (q_el, .inl (cE, ne, .inr (.inr (.inr (.inr fe)))))]) (wr := []) (rx := [(h0, .inr (18, [.int x0_2, .ref q_el, .int (zI (z1_3))])), (q_el, .inl (cE, ne, .inr (.inr (.inr (.inr g2_4)))))]) (pl := va_pl L (pE P)) (pl1 := va_pl L (pE P)) hP hD [0, 1] [] rfl rfl (by decide) (by decide) hk1 hFc hP1 hD1
  have hK := (hK.sub (tys' := []) [] rfl).app hK1
  generalize H1 = H at hP hS ⊢
  have hP : va_P (dC, dI) vwQ ([(h0, .inr (18, [.int x0_2, .ref q_el, .int (zI (z1_3))])), (q_el, .inl (cE, ne, .inr (.inr (.inr (.inr g2_4)))))] ++ va_pl L (pE P)) H := hP
  have hD : va_D A ([(h0, .inr (18, [.int x0_2, .ref q_el, .int (zI (z1_3))])), (q_el, .inl (cE, ne, .inr (.inr (.inr (.inr g2_4)))))] ++ va_pl L (pE P)) := hD
  have hK : va_K (dC, dI) vwQ [(cE, .object "java/lang/Object")] s := hK
  refine W.widen (k := 0) (n := 0) (Nat.le_of_ble_eq_true rfl) (Nat.le_of_ble_eq_true rfl) ?_
  obtain ⟨rk_5, hu_5⟩ := hxt_4
  refine lv_aload_n hx hb dJx4a65c_remove_915e3_24 rfl (lv_at hl 0 rfl) ?_
  subst hQ
  refine W.widen (k := 0) (n := 0) (Nat.le_of_ble_eq_true rfl) (Nat.le_of_ble_eq_true rfl) ?_
  exact W.aret (v := .ref x) hx hb hr (Or.inl ⟨_, rfl⟩) (Or.inr ⟨_, rfl⟩) (fun t ht hW => ⟨⟨(), x, rfl, trivial, x0_2, z1_3, g2_4, ⟨rfl, ⟨(by omega), hu_5⟩⟩, by rw [ht]; exact hP, va_K.moved hW.alike hK, hD⟩, hS.F ht⟩) hS.2.2 dJx4a65c_remove_915e3_25
