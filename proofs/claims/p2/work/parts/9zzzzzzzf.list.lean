def o_PL_remove : List Cond := [.fieldLink RJx4a65c 48 "java/util/ArrayList" "size" "I", .methodLink RJx4a65c 118 yJ15_checkIndex_7cf53, .static yJ15_checkIndex_7cf53, .initialized RJ15, .fieldLink RJx4a65c 9 "java/util/ArrayList" "elementData" "[Ljava/lang/Object;", .methodLink RJx4a65c 144 yJx4a65c_fastRemove_b59b0, .instanceMethod yJx4a65c_fastRemove_b59b0, .selects RJx4a65c yJx4a65c_fastRemove_b59b0 yJx4a65c_fastRemove_b59b0, .initialized RJx4a65c]
def v_PL_remove : List Cond := .code yJx4a65c_remove_915e3 cJx4a65c_remove_915e3 4 (some (.object "java/lang/Object")) :: (o_PL_remove ++ (wsJx4a65c0 ++ (v_J15_checkIndexN ++ (v_AL_fastRemove ++ []))))
theorem mow_PL_remove : ∀ w ∈ o_PL_remove, w ∈ v_PL_remove := fun _ h => List.mem_cons_of_mem _ (List.mem_append_left _ h)
theorem mem_PL_remove_0 : ∀ w ∈ wsJx4a65c0, w ∈ v_PL_remove := fun _ h => List.mem_cons_of_mem _ (List.mem_append_right _ (List.mem_append_left _ h))
theorem mem_PL_remove_1 : ∀ w ∈ v_J15_checkIndexN, w ∈ v_PL_remove := fun _ h => List.mem_cons_of_mem _ (List.mem_append_right _ (List.mem_append_right _ (List.mem_append_left _ h)))
theorem mem_PL_remove_2 : ∀ w ∈ v_AL_fastRemove, w ∈ v_PL_remove := fun _ h => List.mem_cons_of_mem _ (List.mem_append_right _ (List.mem_append_right _ (List.mem_append_right _ (List.mem_append_left _ h))))
set_option maxRecDepth 20000 in
theorem gw_PL_remove : v_PL_remove.all goodWord = true := by decide +kernel
set_option maxRecDepth 20000 in
theorem g_PL_remove_J15_checkIndexN : GoodIn v_PL_remove (va_wsS RJx4a65c 118 yJ15_checkIndex_7cf53 v_J15_checkIndexN) := goodIn_app (goodIn_sub (fun w h => mow_PL_remove w (by revert w h; decide +kernel)) (by decide +kernel)) (goodIn_sub mem_PL_remove_1 gw_J15_checkIndexN)
set_option maxRecDepth 20000 in
theorem g_PL_remove_AL_fastRemove : GoodIn v_PL_remove (wsV RJx4a65c 144 RJx4a65c yJx4a65c_fastRemove_b59b0 v_AL_fastRemove) := goodIn_app (goodIn_sub (fun w h => mow_PL_remove w (by revert w h; decide +kernel)) (by decide +kernel)) (goodIn_sub mem_PL_remove_2 gw_AL_fastRemove)
set_option maxHeartbeats 4000000 in
set_option maxRecDepth 100000 in
theorem c_PL_remove (l : Launch) (dC : Nat → ClassId) (dI : Nat → Nat → Nat) (cO : ClassId) (L : List Nat) (P : PO) (xl : Nat) (i : Int) (x : Nat) (hX_x : xl ∈ L) (hX_k : P.kd xl = 30) (hX_q : P.le xl ∈ L ∧ P.kd (P.le xl) = 31 ∧ P.ac (P.le xl) = cO) (hX_s : ELS L P (P.oa (P.le xl))) (hNi : 0 ≤ i ∧ i < P.lz xl ∧ P.lz xl ≤ P.an (P.le xl) ∧ (P.an (P.le xl) : Int) ≤ 100000) (hX_e0 : P.oa (P.le xl) (i).toNat = some x) (sz : Nat) : Met l yJx4a65c_remove_915e3 v_PL_remove ({ frames := 2, cells := 0, slots := 0, locals := 83 }) (va_Pc [.ref xl, .int (zI (i))] (fun U => U.heap.size = sz ∧ va_P (dC, dI) vwQ ([] ++ va_pl L (pE P)) U.heap ∧ va_K (dC, dI) vwQ [(cO, .object "java/lang/Object")] U ∧ va_D (fun _ => True) ([] ++ va_pl L (pE P)) ∧ va_Nw (.castable "SsaForgeModel$Row" "java/lang/Object") U ∧ va_Nw (.castable "SsaForgeModel$Phi" "java/lang/Object") U ∧ va_Nw (.castable "SsaForgeModel$Block" "java/lang/Object") U)) (va_Qr (fun _ : Unit => True) (fun (_ : Unit) (rq : Nat) (t : State) => ∃ (Pn_9 : PO), (rq = x ∧ ((LS1 xl P Pn_9 ∧ Pn_9.lz xl = P.lz xl - 1 ∧ ELS L Pn_9 (Pn_9.oa (P.le xl)) ∧ RMV (P.oa (P.le xl)) (Pn_9.oa (P.le xl)) (i) (P.lz xl)))) ∧ va_P (dC, dI) vwQ ([] ++ va_pl L (pE Pn_9)) t.heap ∧ va_K (dC, dI) vwQ [(cO, .object "java/lang/Object")] t ∧ va_D (va_A ([] ++ va_pl L (pE P)) sz) ([] ++ va_pl L (pE Pn_9))) (va_A ([] ++ va_pl L (pE P)) sz)) 0 0 (va_A ([] ++ va_pl L (pE P)) sz) := by
  refine Met.ofW (cc := cJx4a65c_remove_915e3) (maxL := 4) (ret := (some (.object "java/lang/Object"))) (by decide) rfl ?_
  intro p e s m args below meth c s₁ B hml hv
  obtain ⟨rfl, hsz, hP, hK, hD0, hp0, hp1, hp2⟩ := hv
  have hx := B.exec
  have hb := B.bytes
  have hr := B.returns
  have hts := atoms_spec (ws := v_PL_remove) B.pre
  have hown : s.vm.findClass RJx4a65c = some m.cls := findClass_of_methodNamed B.named
  have hlocks := B.notSynchronized
  have ow : ∀ {k : Nat} {w : Cond}, o_PL_remove[k]? = some w → w.before ([.ref xl, .int (zI (i))] : List Value).toArray s = true := fun h => hts _ (mow_PL_remove _ (List.mem_of_getElem? h))
  subst hsz
  have hD := hD0.self (sz := s.heap.size)
  generalize hAe : va_A ([] ++ va_pl L (pE P)) s.heap.size = A at hD ⊢
  have hA : ∀ q : Nat, s.heap.size ≤ q → A q := fun q h => by rw [← hAe]; exact Or.inr h
  have hS : va_S A s.heap s.heap [] := va_S.rf
  have hP : va_P (dC, dI) vwQ ([] ++ va_pl L (pE P)) s.heap := hP
  have hl := lv_entry ([.ref xl, .int (zI (i))]) (n := 4) (Nat.le_of_ble_eq_true rfl)
  rw [lg_entry_eq]
  generalize (lg_sl ([.ref xl, .int (zI (i))]) ++ List.replicate (4 - (lg_sl ([.ref xl, .int (zI (i))])).length) Slot.unset).toArray = ls at hl ⊢
  have hl : lv_has ls 4 [(0, .ref xl), (1, .int (zI (i)))] := hl
  obtain ⟨H, hH⟩ : ∃ H, H = s.heap := ⟨_, rfl⟩
  rw [← hH] at hP
  have hS : va_S A s.heap H [] := by rw [hH]; exact hS
  rw [← hH]
  refine zW_cap (fun Q hQ => ?_)
  obtain ⟨hP, hD⟩ := pool_out (X := []) hX_x (pE_list hX_k) hP hD
  obtain ⟨Lp_1, eLp_1⟩ : ∃ l9 : List Nat, l9 = L.erase xl := ⟨_, rfl⟩
  rw [← eLp_1] at hP hD
  obtain ⟨qr, eqr⟩ : ∃ q9 : Nat, q9 = P.le xl := ⟨_, rfl⟩
  rw [← eqr] at hP hD
  have hP : va_P (dC, dI) vwQ ([(xl, .inr (18, [.int (zI (P.lm xl)), .ref qr, .int (zI (P.lz xl))]))] ++ va_pl Lp_1 (pE P)) H := hP
  have hD : va_D A ([(xl, .inr (18, [.int (zI (P.lm xl)), .ref qr, .int (zI (P.lz xl))]))] ++ va_pl Lp_1 (pE P)) := hD
  have hq1 : qr ∈ L ∧ P.kd qr = 31 ∧ P.ac qr = cO := (by rw [eqr]; exact hX_q)
  have hq2 : qr ∈ Lp_1 := (by rw [eLp_1]; exact mem_er hq1.1 (kd_ne hq1.2.1 hX_k (by decide)))
  obtain ⟨hP, hD⟩ := pool_out (X := [(xl, .inr (18, [.int (zI (P.lm xl)), .ref qr, .int (zI (P.lz xl))]))]) hq2 (pE_obj hq1.2.1) hP hD
  obtain ⟨Lp_2, eLp_2⟩ : ∃ l9 : List Nat, l9 = Lp_1.erase qr := ⟨_, rfl⟩
  rw [← eLp_2] at hP hD
  rw [hq1.2.2] at hP hD
  obtain ⟨nr, enr⟩ : ∃ q9 : Nat, q9 = P.an qr := ⟨_, rfl⟩
  rw [← enr] at hP hD
  obtain ⟨fr, efr⟩ : ∃ q9 : Nat → Option Nat, q9 = P.oa qr := ⟨_, rfl⟩
  rw [← efr] at hP hD
  have hP : va_P (dC, dI) vwQ ([(xl, .inr (18, [.int (zI (P.lm xl)), .ref qr, .int (zI (P.lz xl))])), (qr, .inl (cO, nr, .inr (.inr (.inr (.inr fr)))))] ++ va_pl Lp_2 (pE P)) H := hP
  have hD : va_D A ([(xl, .inr (18, [.int (zI (P.lm xl)), .ref qr, .int (zI (P.lz xl))])), (qr, .inl (cO, nr, .inr (.inr (.inr (.inr fr)))))] ++ va_pl Lp_2 (pE P)) := hD
  have hnr : (nr : Int) = P.an (P.le xl) := (by rw [enr, eqr])
  have hX_el : ELS Lp_2 P fr := (by rw [eLp_2, eLp_1, efr, eqr]; rw [eqr] at hq1; exact (hX_s.er (nobk30 hX_k)).er (nobk31 hq1.2.1))
  have hX_e : fr (i).toNat = some x := (by rw [efr, eqr]; exact hX_e0)
  refine lv_iload_n hx hb dJx4a65c_remove_915e3_0 rfl (lv_at hl 1 rfl) ?_
  refine lv_aload_n hx hb dJx4a65c_remove_915e3_1 rfl (lv_at hl 0 rfl) ?_
  refine va_get (D := (dC, dI)) (ci := 18) (v := .int (zI (P.lz xl))) (C := RJx4a65c) (T := TJx4a65c) (N := 3) hx hb hts mem_PL_remove_0 hown hK hP 0 rfl rfl 2 (by decide) (ow (k := 0) rfl) (fun _ h9 => h9) rfl dJx4a65c_remove_915e3_2 ?_
  have hPc := hP.sub (ws' := []) [] rfl
  have hDc := hD.sub (ws' := []) [] (by decide) rfl
  have hKc := hK.sub (tys' := []) [] rfl
  have hFc := va_free (wc := []) hD hS hA [] rfl
  refine va_calli (va_runS (As := [.int (zI (i)), .int (zI (P.lz xl))]) (rest := []) ⟨hx, hb, hml, hown, hts⟩ (c_J15_checkIndexN l dC dI i (P.lz xl) (by omega) H.size) (va_cwS 2 hts g_PL_remove_J15_checkIndexN rfl rfl rfl (by decide +kernel) ⟨(Nat.le_of_ble_eq_true rfl), (Nat.le_of_ble_eq_true rfl)⟩) ⟨fun a U g mk q => by obtain ⟨q0, q1, qP, qK, qD⟩ := q; exact ⟨q0, q1, qP, va_K.moved (u := U) (U := U.calling g mk a) (Vm.Alike.refl U.vm) qK, qD⟩, fun U hU hW => ⟨rfl, by rw [hU], by rw [hU]; exact hPc, va_K.moved hW.alike hKc, hDc.weaken (fun _ _ _ _ => trivial)⟩⟩ rfl rfl hl.1 rfl (lv_room (Nat.le_of_ble_eq_true rfl)) dJx4a65c_remove_915e3_5 ⟨(Nat.le_of_ble_eq_true rfl), (Nat.le_of_ble_eq_true rfl)⟩) hS (fun q _ h => hFc q h) hFc (fun r_3 u t H1 locs ht hvm hw hB hz1 hk1 hS => ?_)
  obtain ⟨hP1, hK1, hD1⟩ := hB
  rw [ht] at hP1
  have hK1 := va_K.moved hvm.symm hK1
  obtain ⟨hP, hD⟩ := va_joinQ (X := [(xl, .inr (18, [.int (zI (P.lm xl)), .ref qr, .int (zI (P.lz xl))])), (qr, .inl (cO, nr, .inr (.inr (.inr (.inr fr)))))]) (cx := []) (wr := [(xl, .inr (18, [.int (zI (P.lm xl)), .ref qr, .int (zI (P.lz xl))])), (qr, .inl (cO, nr, .inr (.inr (.inr (.inr fr)))))]) (w1 := []) (pl := va_pl Lp_2 (pE P)) hP hD [] [0, 1] rfl rfl (by decide) (by decide) hk1 hFc hP1 hD1
  have hK := (hK.sub (tys' := [(cO, .object "java/lang/Object")]) [0] rfl).app hK1
  generalize H1 = H at hP hS ⊢
  have hP : va_P (dC, dI) vwQ ([(xl, .inr (18, [.int (zI (P.lm xl)), .ref qr, .int (zI (P.lz xl))])), (qr, .inl (cO, nr, .inr (.inr (.inr (.inr fr)))))] ++ va_pl Lp_2 (pE P)) H := hP
  have hD : va_D A ([(xl, .inr (18, [.int (zI (P.lm xl)), .ref qr, .int (zI (P.lz xl))])), (qr, .inl (cO, nr, .inr (.inr (.inr (.inr fr)))))] ++ va_pl Lp_2 (pE P)) := hD
  have hK : va_K (dC, dI) vwQ [(cO, .object "java/lang/Object")] s := hK
  refine W.widen (k := 0) (n := 0) (Nat.le_of_ble_eq_true rfl) (Nat.le_of_ble_eq_true rfl) ?_
  obtain rfl : r_3 = (zI (i)) := hw
  refine lv_pop hx hb dJx4a65c_remove_915e3_8 rfl ?_
  refine lv_aload_n hx hb dJx4a65c_remove_915e3_9 rfl (lv_at hl 0 rfl) ?_
  refine va_get (D := (dC, dI)) (ci := 18) (v := .ref qr) (C := RJx4a65c) (T := TJx4a65c) (N := 3) hx hb hts mem_PL_remove_0 hown hK hP 0 rfl rfl 1 (by decide) (ow (k := 4) rfl) (fun _ h9 => h9) rfl dJx4a65c_remove_915e3_10 ?_
  refine lv_astore_n (lv' := [(2, .ref qr), (0, .ref xl), (1, .int (zI (i)))]) hx hb dJx4a65c_remove_915e3_13 rfl hl (by decide) rfl (fun ls hl => ?_)
  refine lv_aload_n hx hb dJx4a65c_remove_915e3_14 rfl (lv_at hl 0 rfl) ?_
  refine lv_iload_n hx hb dJx4a65c_remove_915e3_15 rfl (lv_at hl 2 rfl) ?_
  refine va_aldq hx hb hK hP 1 0 rfl rfl (zI_in (a := i) (n := nr) (by omega) (by omega) (by omega)) dJx4a65c_remove_915e3_16 ?_
  rw [show va_rf (fr (zI (i)).toNatClampNeg) = .ref x from (by rw [zI_cl (by omega) (by omega), hX_e]; rfl)]
  refine lv_astore_n (lv' := [(3, .ref x), (2, .ref qr), (0, .ref xl), (1, .int (zI (i)))]) hx hb dJx4a65c_remove_915e3_17 rfl hl (by decide) rfl (fun ls hl => ?_)
  refine lv_aload_n hx hb dJx4a65c_remove_915e3_18 rfl (lv_at hl 2 rfl) ?_
  refine lv_aload_n hx hb dJx4a65c_remove_915e3_19 rfl (lv_at hl 1 rfl) ?_
  refine lv_iload_n hx hb dJx4a65c_remove_915e3_20 rfl (lv_at hl 3 rfl) ?_
  have hPc := hP.part (X := [(xl, .inr (18, [.int (zI (P.lm xl)), .ref qr, .int (zI (P.lz xl))])), (qr, .inl (cO, nr, .inr (.inr (.inr (.inr fr)))))]) (cx := [(xl, .inr (18, [.int (zI (P.lm xl)), .ref qr, .int (zI (P.lz xl))])), (qr, .inl (cO, nr, .inr (.inr (.inr (.inr fr)))))]) (pl := va_pl Lp_2 (pE P)) [0, 1] rfl
  have hDc := hD.part (X := [(xl, .inr (18, [.int (zI (P.lm xl)), .ref qr, .int (zI (P.lz xl))])), (qr, .inl (cO, nr, .inr (.inr (.inr (.inr fr)))))]) (cx := [(xl, .inr (18, [.int (zI (P.lm xl)), .ref qr, .int (zI (P.lz xl))])), (qr, .inl (cO, nr, .inr (.inr (.inr (.inr fr)))))]) (pl := va_pl Lp_2 (pE P)) [0, 1] (by decide) rfl
  have hKc := hK.sub (tys' := [(cO, .object "java/lang/Object")]) [0] rfl
  have hFc := va_freeP (X := [(xl, .inr (18, [.int (zI (P.lm xl)), .ref qr, .int (zI (P.lz xl))])), (qr, .inl (cO, nr, .inr (.inr (.inr (.inr fr)))))]) (cx := [(xl, .inr (18, [.int (zI (P.lm xl)), .ref qr, .int (zI (P.lz xl))])), (qr, .inl (cO, nr, .inr (.inr (.inr (.inr fr)))))]) (pl := va_pl Lp_2 (pE P)) hD hS hA [0, 1] rfl
  refine va_callv (va_runV (As := [.ref qr, .int (zI (i))]) (rest := []) ⟨hx, hb, hml, hown, hts⟩ (c_AL_fastRemove l dC dI xl ((zI (P.lm xl))) (P.lz xl) qr cO nr fr Lp_2 P i (by omega) (by omega) (by omega) hX_el H.size) (cwV 2 hts g_PL_remove_AL_fastRemove rfl rfl rfl (by decide +kernel) ⟨(Nat.le_of_ble_eq_true rfl), (Nat.le_of_ble_eq_true rfl)⟩) ⟨fun a U g mk q => by obtain ⟨q0, q1, qP, qK, qD, e0, e1, e2⟩ := q; exact ⟨q0, q1, qP, va_K.moved (u := U) (U := U.calling g mk a) (Vm.Alike.refl U.vm) qK, qD, va_Nw.same rfl (u := U) (U := U.calling g mk a) rfl e0, va_Nw.same rfl (u := U) (U := U.calling g mk a) rfl e1, va_Nw.same rfl (u := U) (U := U.calling g mk a) rfl e2⟩, va_recv hKc hPc (ci := 18) (q0 := 0) rfl rfl, fun U hU hW => ⟨rfl, by rw [hU], by rw [hU]; exact hPc, va_K.moved hW.alike hKc, hDc.weaken (fun _ _ _ _ => trivial), va_Nw.warmC hW hp0, va_Nw.warmC hW hp1, va_Nw.warmC hW hp2⟩⟩ rfl rfl hl.1 rfl (lv_room (Nat.le_of_ble_eq_true rfl)) dJx4a65c_remove_915e3_21 ⟨(Nat.le_of_ble_eq_true rfl), (Nat.le_of_ble_eq_true rfl)⟩) hS (fun q _ h => hFc q h) hFc (fun  u t H1 locs ht hvm hw hB hz1 hk1 hS => ?_)
  obtain ⟨x0_4, z1_5, g2_6, hxt_6, hP1, hK1, hD1⟩ := hB
  rw [ht] at hP1
  have hK1 := va_K.moved hvm.symm hK1
  obtain ⟨hP, hD⟩ := va_joinP (X := [(xl, .inr (18, [.int (zI (P.lm xl)), .ref qr, .int (zI (P.lz xl))])), (qr, .inl (cO, nr, .inr (.inr (.inr (.inr fr)))))]) (cx := [(xl, .inr (18, [.int (zI (P.lm xl)), .ref qr, .int (zI (P.lz xl))])), (qr, .inl (cO, nr, .inr (.inr (.inr (.inr fr)))))]) (wr := []) (rx := [(xl, .inr (18, [.int x0_4, .ref qr, .int (zI (z1_5))])), (qr, .inl (cO, nr, .inr (.inr (.inr (.inr g2_6)))))]) (pl := va_pl Lp_2 (pE P)) (pl1 := va_pl Lp_2 (pE P)) hP hD [0, 1] [] rfl rfl (by decide) (by decide) hk1 hFc hP1 hD1
  have hK := (hK.sub (tys' := []) [] rfl).app hK1
  generalize H1 = H at hP hS ⊢
  have hP : va_P (dC, dI) vwQ ([(xl, .inr (18, [.int x0_4, .ref qr, .int (zI (z1_5))])), (qr, .inl (cO, nr, .inr (.inr (.inr (.inr g2_6)))))] ++ va_pl Lp_2 (pE P)) H := hP
  have hD : va_D A ([(xl, .inr (18, [.int x0_4, .ref qr, .int (zI (z1_5))])), (qr, .inl (cO, nr, .inr (.inr (.inr (.inr g2_6)))))] ++ va_pl Lp_2 (pE P)) := hD
  have hK : va_K (dC, dI) vwQ [(cO, .object "java/lang/Object")] s := hK
  refine W.widen (k := 0) (n := 0) (Nat.le_of_ble_eq_true rfl) (Nat.le_of_ble_eq_true rfl) ?_
  obtain ⟨rk_7, hu_7⟩ := hxt_6
  refine lv_aload_n hx hb dJx4a65c_remove_915e3_24 rfl (lv_at hl 0 rfl) ?_
  subst hQ
  have hrm9 := hu_7
  rw [eLp_2] at hP hD
  obtain ⟨Pa_8, ePa_8⟩ : ∃ q9 : PO, q9 = P.ro9 qr (g2_6) := ⟨_, rfl⟩
  obtain ⟨hP, hD⟩ := pool_in (X := [(xl, .inr (18, [.int x0_4, .ref qr, .int (zI (z1_5))]))]) (P' := Pa_8) hq2 (by have h9 := putobjs (P := P) (x := qr) (f := g2_6) hq1.2.1; rw [hq1.2.2, ← enr] at h9; rw [ePa_8]; exact h9) hP hD
  have hP : va_P (dC, dI) vwQ ([(xl, .inr (18, [.int x0_4, .ref qr, .int (zI (z1_5))]))] ++ va_pl Lp_1 (pE Pa_8)) H := hP
  have hD : va_D A ([(xl, .inr (18, [.int x0_4, .ref qr, .int (zI (z1_5))]))] ++ va_pl Lp_1 (pE Pa_8)) := hD
  obtain ⟨md_9, emd_9⟩ := zI_all x0_4
  rw [emd_9] at hP hD
  rw [eLp_1] at hP hD
  obtain ⟨Pb_10, ePb_10⟩ : ∃ q9 : PO, q9 = Pa_8.ls9 xl (md_9) (z1_5) := ⟨_, rfl⟩
  obtain ⟨hP, hD⟩ := pool_in (X := []) (P' := Pb_10) (e := listE (md_9) qr (z1_5)) hX_x (by have h9 := putlist (P := Pa_8) (x := xl) (m := md_9) (z := z1_5) (by rw [ePa_8]; exact hX_k); rw [show Pa_8.le xl = qr from (by rw [ePa_8, eqr]; rfl)] at h9; rw [ePb_10]; exact h9) hP hD
  have hP : va_P (dC, dI) vwQ ([] ++ va_pl L (pE Pb_10)) H := hP
  have hD : va_D A ([] ++ va_pl L (pE Pb_10)) := hD
  have wLS : LS1 xl P Pb_10 := (by rw [ePb_10, ePa_8, eqr]; exact LS1.of _ _ _ _ _)
  have wZ : Pb_10.lz xl = z1_5 := (by rw [ePb_10]; exact ls9_lz _ _ _ _)
  have wF : Pb_10.oa (P.le xl) = g2_6 := (by rw [ePb_10, ePa_8, ← eqr]; exact ro9_at _ _ _)
  refine W.widen (k := 0) (n := 0) (Nat.le_of_ble_eq_true rfl) (Nat.le_of_ble_eq_true rfl) ?_
  exact W.aret (v := .ref x) hx hb hr (Or.inl ⟨_, rfl⟩) (Or.inr ⟨_, rfl⟩) (fun t ht hW => ⟨⟨(), x, rfl, trivial, Pb_10, ⟨rfl, ⟨wLS, (by omega), (by have h9 := hrm9.2.1; rw [eLp_2, eLp_1] at h9; rw [wF]; exact h9.up wLS.1), (by rw [wF, ← eqr, ← efr]; exact hrm9.2.2)⟩⟩, by rw [ht]; exact hP, va_K.moved hW.alike hK, hD⟩, hS.F ht⟩) hS.2.2 dJx4a65c_remove_915e3_25
