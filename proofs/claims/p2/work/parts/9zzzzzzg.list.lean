def o_PL_size : List Cond := [.fieldLink RJx4a65c 48 "java/util/ArrayList" "size" "I"]
def v_PL_size : List Cond := .code yJx4a65c_size_8abf5 cJx4a65c_size_8abf5 1 (some .int) :: (o_PL_size ++ (wsJx4a65c0 ++ []))
theorem mow_PL_size : ∀ w ∈ o_PL_size, w ∈ v_PL_size := fun _ h => List.mem_cons_of_mem _ (List.mem_append_left _ h)
theorem mem_PL_size_0 : ∀ w ∈ wsJx4a65c0, w ∈ v_PL_size := fun _ h => List.mem_cons_of_mem _ (List.mem_append_right _ (List.mem_append_left _ h))
set_option maxRecDepth 20000 in
theorem gw_PL_size : v_PL_size.all goodWord = true := by decide +kernel
set_option maxHeartbeats 4000000 in
set_option maxRecDepth 100000 in
theorem c_PL_size (l : Launch) (dC : Nat → ClassId) (dI : Nat → Nat → Nat) (cO : ClassId) (L : List Nat) (P : PO) (xl : Nat) (hX_x : xl ∈ L) (hX_k : P.kd xl = 30) (hNz : 0 ≤ P.lz xl ∧ P.lz xl ≤ 100000) (sz : Nat) : Met l yJx4a65c_size_8abf5 v_PL_size ({ frames := 0, cells := 0, slots := 0, locals := 0 }) (va_Pc [.ref xl] (fun U => U.heap.size = sz ∧ va_P (dC, dI) vwQ ([] ++ va_pl L (pE P)) U.heap ∧ va_K (dC, dI) vwQ [(cO, .object "java/lang/Object")] U ∧ va_D (fun _ => True) ([] ++ va_pl L (pE P)))) (va_Qi (fun (r : Int32) (_ : Unit) => r = zI (P.lz xl)) (fun (_ : Unit) (t : State) => va_P (dC, dI) vwQ ([] ++ va_pl L (pE P)) t.heap ∧ va_K (dC, dI) vwQ [(cO, .object "java/lang/Object")] t ∧ va_D (va_A ([] ++ va_pl L (pE P)) sz) ([] ++ va_pl L (pE P))) (va_A ([] ++ va_pl L (pE P)) sz)) 0 0 (va_A ([] ++ va_pl L (pE P)) sz) := by
  refine Met.ofW (cc := cJx4a65c_size_8abf5) (maxL := 1) (ret := (some .int)) (by decide) rfl ?_
  intro p e s m args below meth c s₁ B hml hv
  obtain ⟨rfl, hsz, hP, hK, hD0⟩ := hv
  have hx := B.exec
  have hb := B.bytes
  have hr := B.returns
  have hts := atoms_spec (ws := v_PL_size) B.pre
  have hown : s.vm.findClass RJx4a65c = some m.cls := findClass_of_methodNamed B.named
  have hlocks := B.notSynchronized
  have ow : ∀ {k : Nat} {w : Cond}, o_PL_size[k]? = some w → w.before ([.ref xl] : List Value).toArray s = true := fun h => hts _ (mow_PL_size _ (List.mem_of_getElem? h))
  subst hsz
  have hD := hD0.self (sz := s.heap.size)
  generalize hAe : va_A ([] ++ va_pl L (pE P)) s.heap.size = A at hD ⊢
  have hA : ∀ q : Nat, s.heap.size ≤ q → A q := fun q h => by rw [← hAe]; exact Or.inr h
  have hS : va_S A s.heap s.heap [] := va_S.rf
  have hP : va_P (dC, dI) vwQ ([] ++ va_pl L (pE P)) s.heap := hP
  have hl := lv_entry ([.ref xl]) (n := 1) (Nat.le_of_ble_eq_true rfl)
  rw [lg_entry_eq]
  generalize (lg_sl ([.ref xl]) ++ List.replicate (1 - (lg_sl ([.ref xl])).length) Slot.unset).toArray = ls at hl ⊢
  have hl : lv_has ls 1 [(0, .ref xl)] := hl
  obtain ⟨H, hH⟩ : ∃ H, H = s.heap := ⟨_, rfl⟩
  rw [← hH] at hP
  have hS : va_S A s.heap H [] := by rw [hH]; exact hS
  rw [← hH]
  refine zW_cap (fun Q hQ => ?_)
  obtain ⟨hP, hD⟩ := pool_out (X := []) hX_x (pE_list hX_k) hP hD
  obtain ⟨Lp_1, eLp_1⟩ : ∃ l9 : List Nat, l9 = L.erase xl := ⟨_, rfl⟩
  rw [← eLp_1] at hP hD
  obtain ⟨qr, eqr⟩ : ∃ q9 : Nat, q9 = P.le xl := ⟨_, rfl⟩
  rw [← eqr] at hP hD
  have hP : va_P (dC, dI) vwQ ([(xl, .inr (18, [.int (zI (P.lm xl)), .ref qr, .int (zI (P.lz xl))]))] ++ va_pl Lp_1 (pE P)) H := hP
  have hD : va_D A ([(xl, .inr (18, [.int (zI (P.lm xl)), .ref qr, .int (zI (P.lz xl))]))] ++ va_pl Lp_1 (pE P)) := hD
  refine lv_aload_n hx hb dJx4a65c_size_8abf5_0 rfl (lv_at hl 0 rfl) ?_
  refine va_get (D := (dC, dI)) (ci := 18) (v := .int (zI (P.lz xl))) (C := RJx4a65c) (T := TJx4a65c) (N := 3) hx hb hts mem_PL_size_0 hown hK hP 0 rfl rfl 2 (by decide) (ow (k := 0) rfl) (fun _ h9 => h9) rfl dJx4a65c_size_8abf5_1 ?_
  subst hQ
  rw [eqr] at hP hD
  rw [eLp_1] at hP hD
  obtain ⟨hP, hD⟩ := pool_same (X := []) hX_x (pE_list hX_k) hP hD
  have hP : va_P (dC, dI) vwQ ([] ++ va_pl L (pE P)) H := hP
  have hD : va_D A ([] ++ va_pl L (pE P)) := hD
  refine W.widen (k := 0) (n := 0) (Nat.le_of_ble_eq_true rfl) (Nat.le_of_ble_eq_true rfl) ?_
  exact W.iret (v := (zI (P.lz xl))) hx hb hr (fun t ht hW => ⟨⟨(zI (P.lz xl)), (), rfl, rfl, by rw [ht]; exact hP, va_K.moved hW.alike hK, hD⟩, hS.F ht⟩) hS.2.2 dJx4a65c_size_8abf5_4
def o_PL_get : List Cond := [.fieldLink RJx4a65c 48 "java/util/ArrayList" "size" "I", .methodLink RJx4a65c 118 yJ15_checkIndex_7cf53, .static yJ15_checkIndex_7cf53, .initialized RJ15, .methodLink RJx4a65c 123 yJx4a65c_elementData_915e3, .instanceMethod yJx4a65c_elementData_915e3, .selects RJx4a65c yJx4a65c_elementData_915e3 yJx4a65c_elementData_915e3, .initialized RJx4a65c]
def v_PL_get : List Cond := .code yJx4a65c_get_915e3 cJx4a65c_get_915e3 2 (some (.object "java/lang/Object")) :: (o_PL_get ++ (wsJx4a65c0 ++ (v_J15_checkIndexN ++ (v_AL_elementData ++ []))))
theorem mow_PL_get : ∀ w ∈ o_PL_get, w ∈ v_PL_get := fun _ h => List.mem_cons_of_mem _ (List.mem_append_left _ h)
theorem mem_PL_get_0 : ∀ w ∈ wsJx4a65c0, w ∈ v_PL_get := fun _ h => List.mem_cons_of_mem _ (List.mem_append_right _ (List.mem_append_left _ h))
theorem mem_PL_get_1 : ∀ w ∈ v_J15_checkIndexN, w ∈ v_PL_get := fun _ h => List.mem_cons_of_mem _ (List.mem_append_right _ (List.mem_append_right _ (List.mem_append_left _ h)))
theorem mem_PL_get_2 : ∀ w ∈ v_AL_elementData, w ∈ v_PL_get := fun _ h => List.mem_cons_of_mem _ (List.mem_append_right _ (List.mem_append_right _ (List.mem_append_right _ (List.mem_append_left _ h))))
set_option maxRecDepth 20000 in
theorem gw_PL_get : v_PL_get.all goodWord = true := by decide +kernel
set_option maxRecDepth 20000 in
theorem g_PL_get_J15_checkIndexN : GoodIn v_PL_get (va_wsS RJx4a65c 118 yJ15_checkIndex_7cf53 v_J15_checkIndexN) := goodIn_app (goodIn_sub (fun w h => mow_PL_get w (by revert w h; decide +kernel)) (by decide +kernel)) (goodIn_sub mem_PL_get_1 gw_J15_checkIndexN)
set_option maxRecDepth 20000 in
theorem g_PL_get_AL_elementData : GoodIn v_PL_get (wsV RJx4a65c 123 RJx4a65c yJx4a65c_elementData_915e3 v_AL_elementData) := goodIn_app (goodIn_sub (fun w h => mow_PL_get w (by revert w h; decide +kernel)) (by decide +kernel)) (goodIn_sub mem_PL_get_2 gw_AL_elementData)
set_option maxHeartbeats 4000000 in
set_option maxRecDepth 100000 in
theorem c_PL_get (l : Launch) (dC : Nat → ClassId) (dI : Nat → Nat → Nat) (cO : ClassId) (L : List Nat) (P : PO) (xl : Nat) (i : Int) (x : Nat) (hX_x : xl ∈ L) (hX_k : P.kd xl = 30) (hX_q : P.le xl ∈ L ∧ P.kd (P.le xl) = 31 ∧ P.ac (P.le xl) = cO) (hNi : 0 ≤ i ∧ i < P.lz xl ∧ P.lz xl ≤ P.an (P.le xl) ∧ (P.an (P.le xl) : Int) ≤ 100000) (hX_e0 : P.oa (P.le xl) (i).toNat = some x) (sz : Nat) : Met l yJx4a65c_get_915e3 v_PL_get ({ frames := 2, cells := 0, slots := 0, locals := 43 }) (va_Pc [.ref xl, .int (zI (i))] (fun U => U.heap.size = sz ∧ va_P (dC, dI) vwQ ([] ++ va_pl L (pE P)) U.heap ∧ va_K (dC, dI) vwQ [(cO, .object "java/lang/Object")] U ∧ va_D (fun _ => True) ([] ++ va_pl L (pE P)))) (va_Qr (fun _ : Unit => True) (fun (_ : Unit) (rq : Nat) (t : State) => (rq = x) ∧ va_P (dC, dI) vwQ ([] ++ va_pl L (pE P)) t.heap ∧ va_K (dC, dI) vwQ [(cO, .object "java/lang/Object")] t ∧ va_D (va_A ([] ++ va_pl L (pE P)) sz) ([] ++ va_pl L (pE P))) (va_A ([] ++ va_pl L (pE P)) sz)) 0 0 (va_A ([] ++ va_pl L (pE P)) sz) := by
  refine Met.ofW (cc := cJx4a65c_get_915e3) (maxL := 2) (ret := (some (.object "java/lang/Object"))) (by decide) rfl ?_
  intro p e s m args below meth c s₁ B hml hv
  obtain ⟨rfl, hsz, hP, hK, hD0⟩ := hv
  have hx := B.exec
  have hb := B.bytes
  have hr := B.returns
  have hts := atoms_spec (ws := v_PL_get) B.pre
  have hown : s.vm.findClass RJx4a65c = some m.cls := findClass_of_methodNamed B.named
  have hlocks := B.notSynchronized
  have ow : ∀ {k : Nat} {w : Cond}, o_PL_get[k]? = some w → w.before ([.ref xl, .int (zI (i))] : List Value).toArray s = true := fun h => hts _ (mow_PL_get _ (List.mem_of_getElem? h))
  subst hsz
  have hD := hD0.self (sz := s.heap.size)
  generalize hAe : va_A ([] ++ va_pl L (pE P)) s.heap.size = A at hD ⊢
  have hA : ∀ q : Nat, s.heap.size ≤ q → A q := fun q h => by rw [← hAe]; exact Or.inr h
  have hS : va_S A s.heap s.heap [] := va_S.rf
  have hP : va_P (dC, dI) vwQ ([] ++ va_pl L (pE P)) s.heap := hP
  have hl := lv_entry ([.ref xl, .int (zI (i))]) (n := 2) (Nat.le_of_ble_eq_true rfl)
  rw [lg_entry_eq]
  generalize (lg_sl ([.ref xl, .int (zI (i))]) ++ List.replicate (2 - (lg_sl ([.ref xl, .int (zI (i))])).length) Slot.unset).toArray = ls at hl ⊢
  have hl : lv_has ls 2 [(0, .ref xl), (1, .int (zI (i)))] := hl
  obtain ⟨H, hH⟩ : ∃ H, H = s.heap := ⟨_, rfl⟩
  rw [← hH] at hP
  have hS : va_S A s.heap H [] := by rw [hH]; exact hS
  rw [← hH]
  refine zW_cap (fun Q hQ => ?_)
  obtain ⟨hP, hD⟩ := pool_out (X := []) hX_x (pE_list hX_k) hP hD
  obtain ⟨Lp_1, eLp_1⟩ : ∃ l9 : List Nat, l9 = L.erase xl := ⟨_, rfl⟩
  rw [← eLp_1] at hP hD
  obtain ⟨qr, eqr⟩ : ∃ q9 : Nat, q9 = P.le xl := ⟨_, rfl⟩
  rw [← eqr] at hP hD
  have hP : va_P (dC, dI) vwQ ([(xl, .inr (18, [.int (zI (P.lm xl)), .ref qr, .int (zI (P.lz xl))]))] ++ va_pl Lp_1 (pE P)) H := hP
  have hD : va_D A ([(xl, .inr (18, [.int (zI (P.lm xl)), .ref qr, .int (zI (P.lz xl))]))] ++ va_pl Lp_1 (pE P)) := hD
  have hq1 : qr ∈ L ∧ P.kd qr = 31 ∧ P.ac qr = cO := (by rw [eqr]; exact hX_q)
  have hq2 : qr ∈ Lp_1 := (by rw [eLp_1]; exact mem_er hq1.1 (kd_ne hq1.2.1 hX_k (by decide)))
  obtain ⟨hP, hD⟩ := pool_out (X := [(xl, .inr (18, [.int (zI (P.lm xl)), .ref qr, .int (zI (P.lz xl))]))]) hq2 (pE_obj hq1.2.1) hP hD
  obtain ⟨Lp_2, eLp_2⟩ : ∃ l9 : List Nat, l9 = Lp_1.erase qr := ⟨_, rfl⟩
  rw [← eLp_2] at hP hD
  rw [hq1.2.2] at hP hD
  obtain ⟨nr, enr⟩ : ∃ q9 : Nat, q9 = P.an qr := ⟨_, rfl⟩
  rw [← enr] at hP hD
  obtain ⟨fr, efr⟩ : ∃ q9 : Nat → Option Nat, q9 = P.oa qr := ⟨_, rfl⟩
  rw [← efr] at hP hD
  have hP : va_P (dC, dI) vwQ ([(xl, .inr (18, [.int (zI (P.lm xl)), .ref qr, .int (zI (P.lz xl))])), (qr, .inl (cO, nr, .inr (.inr (.inr (.inr fr)))))] ++ va_pl Lp_2 (pE P)) H := hP
  have hD : va_D A ([(xl, .inr (18, [.int (zI (P.lm xl)), .ref qr, .int (zI (P.lz xl))])), (qr, .inl (cO, nr, .inr (.inr (.inr (.inr fr)))))] ++ va_pl Lp_2 (pE P)) := hD
  have hX_e : fr (i).toNat = some x := (by rw [efr, eqr]; exact hX_e0)
  have hnr : (nr : Int) = P.an (P.le xl) := (by rw [enr, eqr])
  refine lv_iload_n hx hb dJx4a65c_get_915e3_0 rfl (lv_at hl 1 rfl) ?_
  refine lv_aload_n hx hb dJx4a65c_get_915e3_1 rfl (lv_at hl 0 rfl) ?_
  refine va_get (D := (dC, dI)) (ci := 18) (v := .int (zI (P.lz xl))) (C := RJx4a65c) (T := TJx4a65c) (N := 3) hx hb hts mem_PL_get_0 hown hK hP 0 rfl rfl 2 (by decide) (ow (k := 0) rfl) (fun _ h9 => h9) rfl dJx4a65c_get_915e3_2 ?_
  have hPc := hP.sub (ws' := []) [] rfl
  have hDc := hD.sub (ws' := []) [] (by decide) rfl
  have hKc := hK.sub (tys' := []) [] rfl
  have hFc := va_free (wc := []) hD hS hA [] rfl
  refine va_calli (va_runS (As := [.int (zI (i)), .int (zI (P.lz xl))]) (rest := []) ⟨hx, hb, hml, hown, hts⟩ (c_J15_checkIndexN l dC dI i (P.lz xl) (by omega) H.size) (va_cwS 2 hts g_PL_get_J15_checkIndexN rfl rfl rfl (by decide +kernel) ⟨(Nat.le_of_ble_eq_true rfl), (Nat.le_of_ble_eq_true rfl)⟩) ⟨fun a U g mk q => by obtain ⟨q0, q1, qP, qK, qD⟩ := q; exact ⟨q0, q1, qP, va_K.moved (u := U) (U := U.calling g mk a) (Vm.Alike.refl U.vm) qK, qD⟩, fun U hU hW => ⟨rfl, by rw [hU], by rw [hU]; exact hPc, va_K.moved hW.alike hKc, hDc.weaken (fun _ _ _ _ => trivial)⟩⟩ rfl rfl hl.1 rfl (lv_room (Nat.le_of_ble_eq_true rfl)) dJx4a65c_get_915e3_5 ⟨(Nat.le_of_ble_eq_true rfl), (Nat.le_of_ble_eq_true rfl)⟩) hS (fun q _ h => hFc q h) hFc (fun r_3 u t H1 locs ht hvm hw hB hz1 hk1 hS => ?_)
  obtain ⟨hP1, hK1, hD1⟩ := hB
  rw [ht] at hP1
  have hK1 := va_K.moved hvm.symm hK1
  obtain ⟨hP, hD⟩ := va_joinQ (X := [(xl, .inr (18, [.int (zI (P.lm xl)), .ref qr, .int (zI (P.lz xl))])), (qr, .inl (cO, nr, .inr (.inr (.inr (.inr fr)))))]) (cx := []) (wr := [(xl, .inr (18, [.int (zI (P.lm xl)), .ref qr, .int (zI (P.lz xl))])), (qr, .inl (cO, nr, .inr (.inr (.inr (.inr fr)))))]) (w1 := []) (pl := va_pl Lp_2 (pE P)) hP hD [] [0, 1] rfl rfl (by decide) (by decide) hk1 hFc hP1 hD1
  have hK := (hK.sub (tys' := [(cO, .object "java/lang/Object")]) [0] rfl).app hK1
  generalize H1 = H at hP hS ⊢
  have hP : va_P (dC, dI) vwQ ([(xl, .inr (18, [.int (zI (P.lm xl)), .ref qr, .int (zI (P.lz xl))])), (qr, .inl (cO, nr, .inr (.inr (.inr (.inr fr)))))] ++ va_pl Lp_2 (pE P)) H := hP
  have hD : va_D A ([(xl, .inr (18, [.int (zI (P.lm xl)), .ref qr, .int (zI (P.lz xl))])), (qr, .inl (cO, nr, .inr (.inr (.inr (.inr fr)))))] ++ va_pl Lp_2 (pE P)) := hD
  have hK : va_K (dC, dI) vwQ [(cO, .object "java/lang/Object")] s := hK
  refine W.widen (k := 0) (n := 0) (Nat.le_of_ble_eq_true rfl) (Nat.le_of_ble_eq_true rfl) ?_
  obtain rfl : r_3 = (zI (i)) := hw
  refine lv_pop hx hb dJx4a65c_get_915e3_8 rfl ?_
  refine lv_aload_n hx hb dJx4a65c_get_915e3_9 rfl (lv_at hl 0 rfl) ?_
  refine lv_iload_n hx hb dJx4a65c_get_915e3_10 rfl (lv_at hl 1 rfl) ?_
  have hPc := hP.sub (ws' := [(xl, .inr (18, [.int (zI (P.lm xl)), .ref qr, .int (zI (P.lz xl))])), (qr, .inl (cO, nr, .inr (.inr (.inr (.inr fr)))))]) [0, 1] rfl
  have hDc := hD.sub (ws' := [(xl, .inr (18, [.int (zI (P.lm xl)), .ref qr, .int (zI (P.lz xl))])), (qr, .inl (cO, nr, .inr (.inr (.inr (.inr fr)))))]) [0, 1] (by decide) rfl
  have hKc := hK.sub (tys' := [(cO, .object "java/lang/Object")]) [0] rfl
  have hFc := va_free (wc := [(xl, .inr (18, [.int (zI (P.lm xl)), .ref qr, .int (zI (P.lz xl))])), (qr, .inl (cO, nr, .inr (.inr (.inr (.inr fr)))))]) hD hS hA [0, 1] rfl
  refine va_callr (va_runV (As := [.int (zI (i))]) (rest := []) ⟨hx, hb, hml, hown, hts⟩ (c_AL_elementData l dC dI xl ((zI (P.lm xl))) (P.lz xl) qr cO nr fr i x (by omega) (by omega) (by omega) hX_e H.size) (cwV 1 hts g_PL_get_AL_elementData rfl rfl rfl (by decide +kernel) ⟨(Nat.le_of_ble_eq_true rfl), (Nat.le_of_ble_eq_true rfl)⟩) ⟨fun a U g mk q => by obtain ⟨q0, q1, qP, qK, qD⟩ := q; exact ⟨q0, q1, qP, va_K.moved (u := U) (U := U.calling g mk a) (Vm.Alike.refl U.vm) qK, qD⟩, va_recv hKc hPc (ci := 18) (q0 := 0) rfl rfl, fun U hU hW => ⟨rfl, by rw [hU], by rw [hU]; exact hPc, va_K.moved hW.alike hKc, hDc.weaken (fun _ _ _ _ => trivial)⟩⟩ rfl rfl hl.1 rfl (lv_room (Nat.le_of_ble_eq_true rfl)) dJx4a65c_get_915e3_11 ⟨(Nat.le_of_ble_eq_true rfl), (Nat.le_of_ble_eq_true rfl)⟩) hS (fun q _ h => hFc q h) hFc (fun u q_4 t H1 locs ht hvm hw hB hz1 hk1 hS => ?_)
  obtain ⟨hxt_4, hP1, hK1, hD1⟩ := hB
  rw [ht] at hP1
  have hK1 := va_K.moved hvm.symm hK1
  obtain ⟨hP, hD⟩ := va_joinQ (X := [(xl, .inr (18, [.int (zI (P.lm xl)), .ref qr, .int (zI (P.lz xl))])), (qr, .inl (cO, nr, .inr (.inr (.inr (.inr fr)))))]) (cx := [(xl, .inr (18, [.int (zI (P.lm xl)), .ref qr, .int (zI (P.lz xl))])), (qr, .inl (cO, nr, .inr (.inr (.inr (.inr fr)))))]) (wr := []) (w1 := [(xl, .inr (18, [.int (zI (P.lm xl)), .ref qr, .int (zI (P.lz xl))])), (qr, .inl (cO, nr, .inr (.inr (.inr (.inr fr)))))]) (pl := va_pl Lp_2 (pE P)) hP hD [0, 1] [] rfl rfl (by decide) (by decide) hk1 hFc hP1 hD1
  have hK := (hK.sub (tys' := []) [] rfl).app hK1
  generalize H1 = H at hP hS ⊢
  have hP : va_P (dC, dI) vwQ ([(xl, .inr (18, [.int (zI (P.lm xl)), .ref qr, .int (zI (P.lz xl))])), (qr, .inl (cO, nr, .inr (.inr (.inr (.inr fr)))))] ++ va_pl Lp_2 (pE P)) H := hP
  have hD : va_D A ([(xl, .inr (18, [.int (zI (P.lm xl)), .ref qr, .int (zI (P.lz xl))])), (qr, .inl (cO, nr, .inr (.inr (.inr (.inr fr)))))] ++ va_pl Lp_2 (pE P)) := hD
  have hK : va_K (dC, dI) vwQ [(cO, .object "java/lang/Object")] s := hK
  refine W.widen (k := 0) (n := 0) (Nat.le_of_ble_eq_true rfl) (Nat.le_of_ble_eq_true rfl) ?_
  rw [hxt_4]
  subst hQ
  rw [enr] at hP hD
  rw [efr] at hP hD
  rw [← hq1.2.2] at hP hD
  rw [eLp_2] at hP hD
  obtain ⟨hP, hD⟩ := pool_same (X := [(xl, .inr (18, [.int (zI (P.lm xl)), .ref qr, .int (zI (P.lz xl))]))]) hq2 (pE_obj hq1.2.1) hP hD
  have hP : va_P (dC, dI) vwQ ([(xl, .inr (18, [.int (zI (P.lm xl)), .ref qr, .int (zI (P.lz xl))]))] ++ va_pl Lp_1 (pE P)) H := hP
  have hD : va_D A ([(xl, .inr (18, [.int (zI (P.lm xl)), .ref qr, .int (zI (P.lz xl))]))] ++ va_pl Lp_1 (pE P)) := hD
  rw [eqr] at hP hD
  rw [eLp_1] at hP hD
  obtain ⟨hP, hD⟩ := pool_same (X := []) hX_x (pE_list hX_k) hP hD
  have hP : va_P (dC, dI) vwQ ([] ++ va_pl L (pE P)) H := hP
  have hD : va_D A ([] ++ va_pl L (pE P)) := hD
  refine W.widen (k := 0) (n := 0) (Nat.le_of_ble_eq_true rfl) (Nat.le_of_ble_eq_true rfl) ?_
  exact W.aret (v := .ref x) hx hb hr (Or.inl ⟨_, rfl⟩) (Or.inr ⟨_, rfl⟩) (fun t ht hW => ⟨⟨(), x, rfl, trivial, rfl, by rw [ht]; exact hP, va_K.moved hW.alike hK, hD⟩, hS.F ht⟩) hS.2.2 dJx4a65c_get_915e3_14
