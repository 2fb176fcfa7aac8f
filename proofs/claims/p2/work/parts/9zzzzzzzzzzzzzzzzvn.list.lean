def o_PL_addAtX : List Cond := [.methodLink RJx4a65c 135 yJx4a65c_rangeCheckForAdd_d00df, .instanceMethod yJx4a65c_rangeCheckForAdd_d00df, .selects RJx4a65c yJx4a65c_rangeCheckForAdd_d00df yJx4a65c_rangeCheckForAdd_d00df, .initialized RJx4a65c, .fieldLink RJx4a65c 63 "java/util/ArrayList" "modCount" "I", .sameField "java/util/ArrayList" "java/util/AbstractList" "modCount" "I", .fieldLink RJx4a65c 48 "java/util/ArrayList" "size" "I", .fieldLink RJx4a65c 9 "java/util/ArrayList" "elementData" "[Ljava/lang/Object;", .methodLink RJx4a65c 112 arraycopyName, .native arraycopyName, .static arraycopyName, .initialized "java/lang/System", .methodLink RJx4a65c 129 yJx4a65c_grow_d5877, .instanceMethod yJx4a65c_grow_d5877, .selects RJx4a65c yJx4a65c_grow_d5877 yJx4a65c_grow_d5877]
def v_PL_addAtX : List Cond := .code yJx4a65c_add_7a177 cJx4a65c_add_7a177 5 none :: (o_PL_addAtX ++ (v_AL_rangeCheck ++ (wsJx4a65c0 ++ (v_AL_grow0X ++ (v_AL_rangeChecke ++ (v_AL_grow0e ++ []))))))
theorem mow_PL_addAtX : ∀ w ∈ o_PL_addAtX, w ∈ v_PL_addAtX := fun _ h => List.mem_cons_of_mem _ (List.mem_append_left _ h)
theorem mem_PL_addAtX_0 : ∀ w ∈ v_AL_rangeCheck, w ∈ v_PL_addAtX := fun _ h => List.mem_cons_of_mem _ (List.mem_append_right _ (List.mem_append_left _ h))
theorem mem_PL_addAtX_1 : ∀ w ∈ wsJx4a65c0, w ∈ v_PL_addAtX := fun _ h => List.mem_cons_of_mem _ (List.mem_append_right _ (List.mem_append_right _ (List.mem_append_left _ h)))
theorem mem_PL_addAtX_2 : ∀ w ∈ v_AL_grow0X, w ∈ v_PL_addAtX := fun _ h => List.mem_cons_of_mem _ (List.mem_append_right _ (List.mem_append_right _ (List.mem_append_right _ (List.mem_append_left _ h))))
theorem mem_PL_addAtX_3 : ∀ w ∈ v_AL_rangeChecke, w ∈ v_PL_addAtX := fun _ h => List.mem_cons_of_mem _ (List.mem_append_right _ (List.mem_append_right _ (List.mem_append_right _ (List.mem_append_right _ (List.mem_append_left _ h)))))
theorem mem_PL_addAtX_4 : ∀ w ∈ v_AL_grow0e, w ∈ v_PL_addAtX := fun _ h => List.mem_cons_of_mem _ (List.mem_append_right _ (List.mem_append_right _ (List.mem_append_right _ (List.mem_append_right _ (List.mem_append_right _ (List.mem_append_left _ h))))))
set_option maxRecDepth 20000 in
theorem gw_PL_addAtX : v_PL_addAtX.all goodWord = true := by decide +kernel
set_option maxRecDepth 20000 in
theorem g_PL_addAtX_AL_rangeCheck : GoodIn v_PL_addAtX (wsV RJx4a65c 135 RJx4a65c yJx4a65c_rangeCheckForAdd_d00df v_AL_rangeCheck) := goodIn_app (goodIn_sub (fun w h => mow_PL_addAtX w (by revert w h; decide +kernel)) (by decide +kernel)) (goodIn_sub mem_PL_addAtX_0 gw_AL_rangeCheck)
set_option maxRecDepth 20000 in
theorem g_PL_addAtX_AL_grow0X : GoodIn v_PL_addAtX (wsV RJx4a65c 129 RJx4a65c yJx4a65c_grow_d5877 v_AL_grow0X) := goodIn_app (goodIn_sub (fun w h => mow_PL_addAtX w (by revert w h; decide +kernel)) (by decide +kernel)) (goodIn_sub mem_PL_addAtX_2 gw_AL_grow0X)
set_option maxRecDepth 20000 in
theorem g_PL_addAtX_AL_rangeChecke : GoodIn v_PL_addAtX (wsV RJx4a65c 135 RJx4a65c yJx4a65c_rangeCheckForAdd_d00df v_AL_rangeChecke) := goodIn_app (goodIn_sub (fun w h => mow_PL_addAtX w (by revert w h; decide +kernel)) (by decide +kernel)) (goodIn_sub mem_PL_addAtX_3 gw_AL_rangeChecke)
set_option maxRecDepth 20000 in
theorem g_PL_addAtX_AL_grow0e : GoodIn v_PL_addAtX (wsV RJx4a65c 129 RJx4a65c yJx4a65c_grow_d5877 v_AL_grow0e) := goodIn_app (goodIn_sub (fun w h => mow_PL_addAtX w (by revert w h; decide +kernel)) (by decide +kernel)) (goodIn_sub mem_PL_addAtX_4 gw_AL_grow0e)
set_option maxHeartbeats 4000000 in
set_option maxRecDepth 100000 in
theorem c_PL_addAtX (l : Launch) (dC : Nat → ClassId) (dI : Nat → Nat → Nat) (cO : ClassId) (L : List Nat) (P : PO) (xl : Nat) (i : Int) (y : Nat) (sx_ed : Nat) (hX_x : xl ∈ L) (hX_k : P.kd xl = 30) (hNz : 0 ≤ i ∧ i ≤ P.lz xl ∧ 0 ≤ P.lz xl ∧ P.lz xl ≤ 4164) (hX_c : ADC L P cO sx_ed xl) (hX_y : y ∈ L ∧ OBK (P.kd y)) (hX_v : LVC (P.cap xl)) (sz : Nat) (sx_mi : Nat) : Met l yJx4a65c_add_7a177 v_PL_addAtX ({ frames := 5, cells := (P.gc xl), slots := (P.gx xl), locals := 147 }) (va_Pc [.ref xl, .int (zI (i)), .ref y] (fun U => U.heap.size = sz ∧ va_P (dC, dI) vwQ ([] ++ va_pl L (pE P)) U.heap ∧ va_K (dC, dI) vwQ [(cO, .object "java/lang/Object")] U ∧ va_D (fun _ => True) ([] ++ va_pl L (pE P)) ∧ va_Nw (.castable "SsaForgeModel$Row" "java/lang/Object") U ∧ va_Nw (.castable "SsaForgeModel$Phi" "java/lang/Object") U ∧ va_Nw (.castable "SsaForgeModel$Block" "java/lang/Object") U ∧ va_Dc U ∧ va_Mi "[Ljava/lang/Object;" sx_mi U ∧ va_AO "java/lang/Object" U ∧ va_T (.object "java/lang/Object") sx_ed 0 (fun _ => .null) (va_A ([] ++ va_pl L (pE P)) sz) U U.heap ∧ va_Z "java/util/ArrayList" "DEFAULTCAPACITY_EMPTY_ELEMENTDATA" "[Ljava/lang/Object;" (.ref sx_ed) (va_A ([] ++ va_pl L (pE P)) sz) U U.heap)) (va_Qv (fun _ : Unit => True) (fun (_ : Unit) (t : State) => ∃ (Ln_9 : List Nat) (Pn_9 : PO), ((GL1 xl (Pn_9.le xl) L P Ln_9 Pn_9 ∧ Pn_9.lz xl = P.lz xl + 1 ∧ Pn_9.ac (Pn_9.le xl) = cO ∧ (P.lz xl + 1 ≤ (Pn_9.an (Pn_9.le xl) : Int) ∧ ((Pn_9.an (Pn_9.le xl) : Int) ≤ 10 ∨ 2 * (Pn_9.an (Pn_9.le xl) : Int) ≤ 3 * P.lz xl + 2 ∨ (P.fl xl = 1 ∧ Pn_9.an (Pn_9.le xl) = P.an (P.le xl))) ∧ (P.fl xl = 1 → (Pn_9.an (Pn_9.le xl) = P.an (P.le xl) ∧ P.lz xl ≠ P.an (P.le xl)) ∨ (P.lz xl = P.an (P.le xl) ∧ (Pn_9.an (Pn_9.le xl) : Int) = P.an (P.le xl) + (P.an (P.le xl) : Int) / 2)) ∧ (P.fl xl ≠ 1 → Pn_9.an (Pn_9.le xl) = 10)) ∧ ELS Ln_9 Pn_9 (Pn_9.oa (Pn_9.le xl)) ∧ INSF (P.oa (P.le xl)) (Pn_9.oa (Pn_9.le xl)) (i) (P.lz xl) y ∧ (P.fl xl = 1 ∨ P.le xl ∉ L))) ∧ va_P (dC, dI) vwQ ([] ++ va_pl Ln_9 (pE Pn_9)) t.heap ∧ va_K (dC, dI) vwQ [(cO, .object "java/lang/Object")] t ∧ va_D (va_A ([] ++ va_pl L (pE P)) sz) ([] ++ va_pl Ln_9 (pE Pn_9))) (va_A ([] ++ va_pl L (pE P)) sz)) (P.gc xl) (P.gx xl) (va_A ([] ++ va_pl L (pE P)) sz) := by
  refine Met.ofW (cc := cJx4a65c_add_7a177) (maxL := 5) (ret := none) (by decide) rfl ?_
  intro p e s m args below meth c s₁ B hml hv
  obtain ⟨rfl, hsz, hP, hK, hD0, hp0, hp1, hp2, hp3, hp4, hp5, hp6, hp7⟩ := hv
  have hx := B.exec
  have hb := B.bytes
  have hr := B.returns
  have hts := atoms_spec (ws := v_PL_addAtX) B.pre
  have hown : s.vm.findClass RJx4a65c = some m.cls := findClass_of_methodNamed B.named
  have hlocks := B.notSynchronized
  have ow : ∀ {k : Nat} {w : Cond}, o_PL_addAtX[k]? = some w → w.before ([.ref xl, .int (zI (i)), .ref y] : List Value).toArray s = true := fun h => hts _ (mow_PL_addAtX _ (List.mem_of_getElem? h))
  subst hsz
  have hD := hD0.self (sz := s.heap.size)
  generalize hAe : va_A ([] ++ va_pl L (pE P)) s.heap.size = A at hD hp5 hp6 hp7 ⊢
  have hA : ∀ q : Nat, s.heap.size ≤ q → A q := fun q h => by rw [← hAe]; exact Or.inr h
  have hS : va_S A s.heap s.heap [] := va_S.rf
  have hP : va_P (dC, dI) vwQ ([] ++ va_pl L (pE P)) s.heap := hP
  have hl := lv_entry ([.ref xl, .int (zI (i)), .ref y]) (n := 5) (Nat.le_of_ble_eq_true rfl)
  rw [lg_entry_eq]
  generalize (lg_sl ([.ref xl, .int (zI (i)), .ref y]) ++ List.replicate (5 - (lg_sl ([.ref xl, .int (zI (i)), .ref y])).length) Slot.unset).toArray = ls at hl ⊢
  have hl : lv_has ls 5 [(0, .ref xl), (1, .int (zI (i))), (2, .ref y)] := hl
  obtain ⟨H, hH⟩ : ∃ H, H = s.heap := ⟨_, rfl⟩
  rw [← hH] at hP
  have hS : va_S A s.heap H [] := by rw [hH]; exact hS
  rw [← hH]
  refine zW_cap (fun Q hQ => ?_)
  have hgp := P.gx_spec xl
  have hgs := groX_spec (P.lz xl) (P.an (P.le xl))
  have hgc := groC_spec (P.lz xl) (P.an (P.le xl))
  unfold ADC at hX_c
  rcases hX_c with hX_c | hX_c
  · skip
    obtain ⟨hfl, hX_q, hX_s, hNi⟩ := hX_c
    have hX_y0 := hX_y
    have hten := LVC.ten hX_v hfl (by omega)
    obtain ⟨hP, hD⟩ := pool_out (X := []) hX_x (pE_list hX_k) hP hD
    obtain ⟨Lp_1, eLp_1⟩ : ∃ l9 : List Nat, l9 = L.erase xl := ⟨_, rfl⟩
    rw [← eLp_1] at hP hD
    obtain ⟨qr, eqr⟩ : ∃ q9 : Nat, q9 = P.le xl := ⟨_, rfl⟩
    rw [← eqr] at hP hD
    have hP : va_P (dC, dI) vwQ ([(xl, .inr (18, [.int (zI (P.lm xl)), .ref qr, .int (zI (P.lz xl))]))] ++ va_pl Lp_1 (pE P)) H := hP
    have hD : va_D A ([(xl, .inr (18, [.int (zI (P.lm xl)), .ref qr, .int (zI (P.lz xl))]))] ++ va_pl Lp_1 (pE P)) := hD
    have hq1 : qr ∈ L ∧ P.kd qr = 31 ∧ P.ac qr = cO := (by rw [eqr]; exact hX_q)
    have hq2 : qr ∈ Lp_1 := (by rw [eLp_1]; exact mem_er hq1.1 (kd_ne hq1.2.1 hX_k (by decide)))
    obtain ⟨hP, hD⟩ := pool_out (X := [(xl, .inr (18, [.int (zI (P.lm xl)), .ref qr, .int (zI (P.lz xl))]))]) hq2 (pE_obj hq1.2.1) hP hD
    obtain ⟨Lp_2, eLp_2⟩ : ∃ l9 : List Nat, l9 = Lp_1.erase qr := ⟨_, rfl⟩
    rw [← eLp_2] at hP hD
    rw [hq1.2.2] at hP hD
    obtain ⟨nr, enr⟩ : ∃ q9 : Nat, q9 = P.an qr := ⟨_, rfl⟩
    rw [← enr] at hP hD
    obtain ⟨fr, efr⟩ : ∃ q9 : Nat → Option Nat, q9 = P.oa qr := ⟨_, rfl⟩
    rw [← efr] at hP hD
    have hP : va_P (dC, dI) vwQ ([(xl, .inr (18, [.int (zI (P.lm xl)), .ref qr, .int (zI (P.lz xl))])), (qr, .inl (cO, nr, .inr (.inr (.inr (.inr fr)))))] ++ va_pl Lp_2 (pE P)) H := hP
    have hD : va_D A ([(xl, .inr (18, [.int (zI (P.lm xl)), .ref qr, .int (zI (P.lz xl))])), (qr, .inl (cO, nr, .inr (.inr (.inr (.inr fr)))))] ++ va_pl Lp_2 (pE P)) := hD
    have hnr : (nr : Int) = P.an (P.le xl) := (by rw [enr, eqr])
    have hX_el : ELS Lp_2 P fr := (by rw [eLp_2, eLp_1, efr, eqr]; rw [eqr] at hq1; exact (hX_s.er (nobk30 hX_k)).er (nobk31 hq1.2.1))
    have hX_y2 : y ∈ Lp_2 ∧ OBK (P.kd y) := ⟨(by rw [eLp_2, eLp_1]; exact obk_er (obk_er hX_y.1 hX_y.2 (nobk30 hX_k)) hX_y.2 (nobk31 hq1.2.1)), hX_y.2⟩
    have hX_y := hX_y2
    refine lv_aload_n hx hb dJx4a65c_add_7a177_0 rfl (lv_at hl 0 rfl) ?_
    refine lv_iload_n hx hb dJx4a65c_add_7a177_1 rfl (lv_at hl 1 rfl) ?_
    have hPc := hP.sub (ws' := [(xl, .inr (18, [.int (zI (P.lm xl)), .ref qr, .int (zI (P.lz xl))])), (qr, .inl (cO, nr, .inr (.inr (.inr (.inr fr)))))]) [0, 1] rfl
    have hDc := hD.sub (ws' := [(xl, .inr (18, [.int (zI (P.lm xl)), .ref qr, .int (zI (P.lz xl))])), (qr, .inl (cO, nr, .inr (.inr (.inr (.inr fr)))))]) [0, 1] (by decide) rfl
    have hKc := hK.sub (tys' := [(cO, .object "java/lang/Object")]) [0] rfl
    have hFc := va_free (wc := [(xl, .inr (18, [.int (zI (P.lm xl)), .ref qr, .int (zI (P.lz xl))])), (qr, .inl (cO, nr, .inr (.inr (.inr (.inr fr)))))]) hD hS hA [0, 1] rfl
    refine va_callv (va_runV (As := [.int (zI (i))]) (rest := []) ⟨hx, hb, hml, hown, hts⟩ (c_AL_rangeCheck l dC dI xl ((zI (P.lm xl))) (P.lz xl) qr cO nr fr i (by omega) (by omega) (by omega) H.size) (cwV 1 hts g_PL_addAtX_AL_rangeCheck rfl rfl rfl (by decide +kernel) ⟨(Nat.le_of_ble_eq_true rfl), (Nat.le_of_ble_eq_true rfl)⟩) ⟨fun a U g mk q => by obtain ⟨q0, q1, qP, qK, qD⟩ := q; exact ⟨q0, q1, qP, va_K.moved (u := U) (U := U.calling g mk a) (Vm.Alike.refl U.vm) qK, qD⟩, va_recv hKc hPc (ci := 18) (q0 := 0) rfl rfl, fun U hU hW => ⟨rfl, by rw [hU], by rw [hU]; exact hPc, va_K.moved hW.alike hKc, hDc.weaken (fun _ _ _ _ => trivial)⟩⟩ rfl rfl hl.1 rfl (lv_room (Nat.le_of_ble_eq_true rfl)) dJx4a65c_add_7a177_2 ⟨(Nat.zero_le _), (Nat.zero_le _)⟩) hS (fun q _ h => hFc q h) hFc (fun  u t H1 locs ht hvm hw hB hz1 hk1 hS => ?_)
    obtain ⟨hP1, hK1, hD1⟩ := hB
    rw [ht] at hP1
    have hK1 := va_K.moved hvm.symm hK1
    obtain ⟨hP, hD⟩ := va_joinQ (X := [(xl, .inr (18, [.int (zI (P.lm xl)), .ref qr, .int (zI (P.lz xl))])), (qr, .inl (cO, nr, .inr (.inr (.inr (.inr fr)))))]) (cx := [(xl, .inr (18, [.int (zI (P.lm xl)), .ref qr, .int (zI (P.lz xl))])), (qr, .inl (cO, nr, .inr (.inr (.inr (.inr fr)))))]) (wr := []) (w1 := [(xl, .inr (18, [.int (zI (P.lm xl)), .ref qr, .int (zI (P.lz xl))])), (qr, .inl (cO, nr, .inr (.inr (.inr (.inr fr)))))]) (pl := va_pl Lp_2 (pE P)) hP hD [0, 1] [] rfl rfl (by decide) (by decide) hk1 hFc hP1 hD1
    have hK := (hK.sub (tys' := []) [] rfl).app hK1
    generalize H1 = H at hP hS ⊢
    have hP : va_P (dC, dI) vwQ ([(xl, .inr (18, [.int (zI (P.lm xl)), .ref qr, .int (zI (P.lz xl))])), (qr, .inl (cO, nr, .inr (.inr (.inr (.inr fr)))))] ++ va_pl Lp_2 (pE P)) H := hP
    have hD : va_D A ([(xl, .inr (18, [.int (zI (P.lm xl)), .ref qr, .int (zI (P.lz xl))])), (qr, .inl (cO, nr, .inr (.inr (.inr (.inr fr)))))] ++ va_pl Lp_2 (pE P)) := hD
    have hK : va_K (dC, dI) vwQ [(cO, .object "java/lang/Object")] s := hK
    refine W.widen (k := 0) (n := 0) (Nat.le_of_ble_eq_true rfl) (Nat.le_of_ble_eq_true rfl) ?_
    refine lv_aload_n hx hb dJx4a65c_add_7a177_5 rfl (lv_at hl 0 rfl) ?_
    refine lv_dup hx hb dJx4a65c_add_7a177_6 rfl ?_
    refine va_get (D := (dC, dI)) (ci := 18) (v := .int (zI (P.lm xl))) (C := RJx4a65c) (T := TJx4a65c) (N := 3) hx hb hts mem_PL_addAtX_1 hown hK hP 0 rfl rfl 0 (by decide) (ow (k := 4) rfl) (fun x9 h9 => u_same (ow (k := 5) rfl) x9 h9) rfl dJx4a65c_add_7a177_7 ?_
    refine lv_iconst (v := 1) hx hb dJx4a65c_add_7a177_10 (by decide) ?_
    refine lv_iadd hx hb dJx4a65c_add_7a177_11 ?_
    refine lv_topi (fun z ez => ?_)
    obtain rfl : z = zI ((P.lm xl) + 1) := ez.trans (zI_add (P.lm xl) (1))
    refine va_put (D := (dC, dI)) (ci := 18) (v := .int (zI ((P.lm xl) + 1))) (ty := .int) (C := RJx4a65c) (T := TJx4a65c) (N := 3) hx hb hts mem_PL_addAtX_1 tyJx4a65c tyJx4a65c_ok nmJx4a65c hown hK hP hD hS 0 rfl rfl 0 (by decide) (ow (k := 4) rfl) (fun x9 h9 => u_same (ow (k := 5) rfl) x9 h9) rfl (by decide +kernel) rfl rfl (by first | exact Nat.le_of_ble_eq_true rfl | exact (show 0 ≤ P.gc xl from (by omega)) | exact (show 0 ≤ P.gx xl from (by omega))) dJx4a65c_add_7a177_12 (fun H locs hP hD hS => ?_)
    have hP : va_P (dC, dI) vwQ ([(xl, .inr (18, [.int (zI ((P.lm xl) + 1)), .ref qr, .int (zI (P.lz xl))])), (qr, .inl (cO, nr, .inr (.inr (.inr (.inr fr)))))] ++ va_pl Lp_2 (pE P)) H := hP
    have hD : va_D A ([(xl, .inr (18, [.int (zI ((P.lm xl) + 1)), .ref qr, .int (zI (P.lz xl))])), (qr, .inl (cO, nr, .inr (.inr (.inr (.inr fr)))))] ++ va_pl Lp_2 (pE P)) := hD
    obtain ⟨z_3, ez_3⟩ : ∃ z9 : Int, z9 = (P.lm xl) + 1 := ⟨_, rfl⟩
    rw [← ez_3] at hP hD
    have hP : va_P (dC, dI) vwQ ([(xl, .inr (18, [.int (zI (z_3)), .ref qr, .int (zI (P.lz xl))])), (qr, .inl (cO, nr, .inr (.inr (.inr (.inr fr)))))] ++ va_pl Lp_2 (pE P)) H := hP
    have hD : va_D A ([(xl, .inr (18, [.int (zI (z_3)), .ref qr, .int (zI (P.lz xl))])), (qr, .inl (cO, nr, .inr (.inr (.inr (.inr fr)))))] ++ va_pl Lp_2 (pE P)) := hD
    refine lv_aload_n hx hb dJx4a65c_add_7a177_15 rfl (lv_at hl 0 rfl) ?_
    refine va_get (D := (dC, dI)) (ci := 18) (v := .int (zI (P.lz xl))) (C := RJx4a65c) (T := TJx4a65c) (N := 3) hx hb hts mem_PL_addAtX_1 hown hK hP 0 rfl rfl 2 (by decide) (ow (k := 6) rfl) (fun _ h9 => h9) rfl dJx4a65c_add_7a177_16 ?_
    refine lv_dup hx hb dJx4a65c_add_7a177_19 rfl ?_
    refine lv_istore_n (lv' := [(3, .int (zI (P.lz xl))), (0, .ref xl), (1, .int (zI (i))), (2, .ref y)]) hx hb dJx4a65c_add_7a177_20 rfl hl (by decide) rfl (fun ls hl => ?_)
    refine lv_aload_n hx hb dJx4a65c_add_7a177_21 rfl (lv_at hl 1 rfl) ?_
    refine va_get (D := (dC, dI)) (ci := 18) (v := .ref qr) (C := RJx4a65c) (T := TJx4a65c) (N := 3) hx hb hts mem_PL_addAtX_1 hown hK hP 0 rfl rfl 1 (by decide) (ow (k := 7) rfl) (fun _ h9 => h9) rfl dJx4a65c_add_7a177_22 ?_
    refine lv_dup hx hb dJx4a65c_add_7a177_25 rfl ?_
    refine lv_astore (lv' := [(4, .ref qr), (3, .int (zI (P.lz xl))), (0, .ref xl), (1, .int (zI (i))), (2, .ref y)]) hx hb dJx4a65c_add_7a177_26 hl (by decide) rfl (fun ls hl => ?_)
    refine va_alen (v := zI ((nr : Int))) hx hb hK hP 1 0 rfl rfl (zI_ofNat nr) dJx4a65c_add_7a177_28 ?_
    refine lv_icmp_ne (tgt := 38) hx hb dJx4a65c_add_7a177_29 (by decide) (fun b29 => ?_) (fun b29 => ?_)
    · have yb29 : ¬ (P.lz xl : Int) = ((nr : Int) : Int) := fun q => b29 ((zI_eq (a := P.lz xl) (b := (nr : Int)) (by omega) (by omega) (by omega) (by omega)).mpr q)
      refine lv_aload hx hb dJx4a65c_add_7a177_38 (lv_at hl 0 rfl) ?_
      refine lv_iload_n hx hb dJx4a65c_add_7a177_40 rfl (lv_at hl 3 rfl) ?_
      refine lv_aload hx hb dJx4a65c_add_7a177_41 (lv_at hl 0 rfl) ?_
      refine lv_iload_n hx hb dJx4a65c_add_7a177_43 rfl (lv_at hl 3 rfl) ?_
      refine lv_iconst (v := 1) hx hb dJx4a65c_add_7a177_44 (by decide) ?_
      refine lv_iadd hx hb dJx4a65c_add_7a177_45 ?_
      refine lv_topi (fun z ez => ?_)
      obtain rfl : z = zI (i + 1) := ez.trans (zI_add (i) (1))
      refine lv_iload_n hx hb dJx4a65c_add_7a177_46 rfl (lv_at hl 1 rfl) ?_
      refine lv_iload_n hx hb dJx4a65c_add_7a177_47 rfl (lv_at hl 3 rfl) ?_
      refine lv_isub hx hb dJx4a65c_add_7a177_48 ?_
      refine lv_topi (fun z ez => ?_)
      obtain rfl : z = zI ((P.lz xl) - i) := ez.trans (zI_sub (P.lz xl) (i))
      refine va_copyM (sp := zI (i)) (dp := zI (i + 1)) (n := zI ((P.lz xl) - i)) hx hb (hml.trans hl.1.symm) hown (ow (k := 8) rfl) (ow (k := 9) rfl) (ow (k := 10) rfl) (ow (k := 11) rfl) hK hP hD hS 1 1 0 0 rfl rfl rfl rfl (zI_nn (by omega) (by omega)) (zI_nn (by omega) (by omega)) (zI_nn (by omega) (by omega)) (zI_sum (by omega) (by omega) (by omega) (by omega) (by omega)) (zI_sum (by omega) (by omega) (by omega) (by omega) (by omega)) (fun i9 _ y9 h9 => pool_any hK hP (hX_el _ _ h9).1 (hX_el _ _ h9).2 hp0 hp1 hp2) (by first | exact Nat.le_of_ble_eq_true rfl | exact (show 0 ≤ P.gc xl from (by omega)) | exact (show 0 ≤ P.gx xl from (by omega))) (by first | exact Nat.le_of_ble_eq_true rfl | exact (show 0 ≤ P.gc xl from (by omega)) | exact (show 0 ≤ P.gx xl from (by omega))) dJx4a65c_add_7a177_49 (fun H locs hP hD hS => ?_)
      have hP : va_P (dC, dI) vwQ ([(xl, .inr (18, [.int (zI (z_3)), .ref qr, .int (zI (P.lz xl))])), (qr, .inl (cO, nr, .inr (.inr (.inr (.inr (va_cpy fr fr (zI (i)).toNatClampNeg (zI (i + 1)).toNatClampNeg (zI ((P.lz xl) - i)).toNatClampNeg))))))] ++ va_pl Lp_2 (pE P)) H := hP
      have hD : va_D A ([(xl, .inr (18, [.int (zI (z_3)), .ref qr, .int (zI (P.lz xl))])), (qr, .inl (cO, nr, .inr (.inr (.inr (.inr (va_cpy fr fr (zI (i)).toNatClampNeg (zI (i + 1)).toNatClampNeg (zI ((P.lz xl) - i)).toNatClampNeg))))))] ++ va_pl Lp_2 (pE P)) := hD
      generalize efo_4 : (va_cpy fr fr (zI (i)).toNatClampNeg (zI (i + 1)).toNatClampNeg (zI ((P.lz xl) - i)).toNatClampNeg) = fo_4 at hP hD
      rw [zI_cl (a := i) (by omega) (by omega), zI_cl (a := i + 1) (by omega) (by omega), zI_cl (a := (P.lz xl) - i) (by omega) (by omega)] at efo_4
      have hP : va_P (dC, dI) vwQ ([(xl, .inr (18, [.int (zI (z_3)), .ref qr, .int (zI (P.lz xl))])), (qr, .inl (cO, nr, .inr (.inr (.inr (.inr fo_4)))))] ++ va_pl Lp_2 (pE P)) H := hP
      have hD : va_D A ([(xl, .inr (18, [.int (zI (z_3)), .ref qr, .int (zI (P.lz xl))])), (qr, .inl (cO, nr, .inr (.inr (.inr (.inr fo_4)))))] ++ va_pl Lp_2 (pE P)) := hD
      refine lv_aload hx hb dJx4a65c_add_7a177_52 (lv_at hl 0 rfl) ?_
      refine lv_iload_n hx hb dJx4a65c_add_7a177_54 rfl (lv_at hl 3 rfl) ?_
      refine lv_aload_n hx hb dJx4a65c_add_7a177_55 rfl (lv_at hl 4 rfl) ?_
      refine va_astqM (E := "java/lang/Object") (i := zI (i)) hx hb hK hP hD hS 1 0 rfl rfl (pool_any hK hP hX_y.1 hX_y.2 hp0 hp1 hp2) (zI_in (a := i) (n := nr) (by omega) (by omega) (by omega)) dJx4a65c_add_7a177_56 (fun H locs hP hD hS => ?_)
      have hP : va_P (dC, dI) vwQ ([(xl, .inr (18, [.int (zI (z_3)), .ref qr, .int (zI (P.lz xl))])), (qr, .inl (cO, nr, .inr (.inr (.inr (.inr (va_up fo_4 (zI (i)).toNatClampNeg (some y)))))))] ++ va_pl Lp_2 (pE P)) H := hP
      have hD : va_D A ([(xl, .inr (18, [.int (zI (z_3)), .ref qr, .int (zI (P.lz xl))])), (qr, .inl (cO, nr, .inr (.inr (.inr (.inr (va_up fo_4 (zI (i)).toNatClampNeg (some y)))))))] ++ va_pl Lp_2 (pE P)) := hD
      generalize efo_5 : (va_up fo_4 (zI (i)).toNatClampNeg (some y)) = fo_5 at hP hD
      rw [zI_cl (by omega) (by omega)] at efo_5
      have hP : va_P (dC, dI) vwQ ([(xl, .inr (18, [.int (zI (z_3)), .ref qr, .int (zI (P.lz xl))])), (qr, .inl (cO, nr, .inr (.inr (.inr (.inr fo_5)))))] ++ va_pl Lp_2 (pE P)) H := hP
      have hD : va_D A ([(xl, .inr (18, [.int (zI (z_3)), .ref qr, .int (zI (P.lz xl))])), (qr, .inl (cO, nr, .inr (.inr (.inr (.inr fo_5)))))] ++ va_pl Lp_2 (pE P)) := hD
      refine lv_aload_n hx hb dJx4a65c_add_7a177_57 rfl (lv_at hl 2 rfl) ?_
      refine lv_iload_n hx hb dJx4a65c_add_7a177_58 rfl (lv_at hl 1 rfl) ?_
      refine lv_iconst (v := 1) hx hb dJx4a65c_add_7a177_59 (by decide) ?_
      refine lv_iadd hx hb dJx4a65c_add_7a177_60 ?_
      refine lv_topi (fun z ez => ?_)
      obtain rfl : z = zI ((P.lz xl) + 1) := ez.trans (zI_add (P.lz xl) (1))
      refine va_put (D := (dC, dI)) (ci := 18) (v := .int (zI ((P.lz xl) + 1))) (ty := .int) (C := RJx4a65c) (T := TJx4a65c) (N := 3) hx hb hts mem_PL_addAtX_1 tyJx4a65c tyJx4a65c_ok nmJx4a65c hown hK hP hD hS 0 rfl rfl 2 (by decide) (ow (k := 6) rfl) (fun _ h9 => h9) rfl (by decide +kernel) rfl rfl (by first | exact Nat.le_of_ble_eq_true rfl | exact (show 0 ≤ P.gc xl from (by omega)) | exact (show 0 ≤ P.gx xl from (by omega))) dJx4a65c_add_7a177_61 (fun H locs hP hD hS => ?_)
      have hP : va_P (dC, dI) vwQ ([(xl, .inr (18, [.int (zI (z_3)), .ref qr, .int (zI ((P.lz xl) + 1))])), (qr, .inl (cO, nr, .inr (.inr (.inr (.inr fo_5)))))] ++ va_pl Lp_2 (pE P)) H := hP
      have hD : va_D A ([(xl, .inr (18, [.int (zI (z_3)), .ref qr, .int (zI ((P.lz xl) + 1))])), (qr, .inl (cO, nr, .inr (.inr (.inr (.inr fo_5)))))] ++ va_pl Lp_2 (pE P)) := hD
      obtain ⟨z_6, ez_6⟩ : ∃ z9 : Int, z9 = (P.lz xl) + 1 := ⟨_, rfl⟩
      rw [← ez_6] at hP hD
      have hP : va_P (dC, dI) vwQ ([(xl, .inr (18, [.int (zI (z_3)), .ref qr, .int (zI (z_6))])), (qr, .inl (cO, nr, .inr (.inr (.inr (.inr fo_5)))))] ++ va_pl Lp_2 (pE P)) H := hP
      have hD : va_D A ([(xl, .inr (18, [.int (zI (z_3)), .ref qr, .int (zI (z_6))])), (qr, .inl (cO, nr, .inr (.inr (.inr (.inr fo_5)))))] ++ va_pl Lp_2 (pE P)) := hD
      subst hQ
      have hIE : ELS Lp_2 P fo_5 := (by rw [← efo_5, ← efo_4]; exact (hX_el.cpy hX_el _ _ _).put hX_y.1 hX_y.2)
      have hII : INSF fr fo_5 (i) (P.lz xl) y := (by rw [← efo_5, ← efo_4]; exact INSF.of (by omega) (by omega) (fun _ _ => rfl))
      have hP : va_P (dC, dI) vwQ ([(xl, .inr (18, [.int (zI (z_3)), .ref qr, .int (zI (z_6))])), (qr, .inl (cO, nr, .inr (.inr (.inr (.inr fo_5)))))] ++ va_pl Lp_2 (pE P)) H := hP
      have hD : va_D A ([(xl, .inr (18, [.int (zI (z_3)), .ref qr, .int (zI (z_6))])), (qr, .inl (cO, nr, .inr (.inr (.inr (.inr fo_5)))))] ++ va_pl Lp_2 (pE P)) := hD
      have hK := hK.sub (tys' := [(cO, .object "java/lang/Object")]) [0] rfl
      have hni1 := pl_notin (X := [(xl, .inr (18, [.int (zI (z_3)), .ref qr, .int (zI (z_6))]))]) hD
      obtain ⟨Pa_7, ePa_7⟩ : ∃ q9 : PO, q9 = P.nr9 qr xl cO nr (fo_5) := ⟨_, rfl⟩
      obtain ⟨hP, hD⟩ := pool_new (X := [(xl, .inr (18, [.int (zI (z_3)), .ref qr, .int (zI (z_6))]))]) (P' := Pa_7) (by rw [ePa_7]; exact putnr _ _ _ _ _ _) hP hD
      have hP : va_P (dC, dI) vwQ ([(xl, .inr (18, [.int (zI (z_3)), .ref qr, .int (zI (z_6))]))] ++ va_pl (qr :: Lp_2) (pE Pa_7)) H := hP
      have hD : va_D A ([(xl, .inr (18, [.int (zI (z_3)), .ref qr, .int (zI (z_6))]))] ++ va_pl (qr :: Lp_2) (pE Pa_7)) := hD
      have hni2 := pl_notin (X := []) hD
      obtain ⟨Pb_8, ePb_8⟩ : ∃ q9 : PO, q9 = Pa_7.nl9 xl (z_3) qr (z_6) := ⟨_, rfl⟩
      obtain ⟨hP, hD⟩ := pool_new (X := []) (P' := Pb_8) (e := listE (z_3) qr (z_6)) (by rw [ePb_8]; exact putnl _ _ _ _ _) hP hD
      obtain ⟨Lq_9, eLq_9⟩ : ∃ l9 : List Nat, l9 = xl :: qr :: Lp_2 := ⟨_, rfl⟩
      rw [← eLq_9] at hP hD
      have hP : va_P (dC, dI) vwQ ([] ++ va_pl Lq_9 (pE Pb_8)) H := hP
      have hD : va_D A ([] ++ va_pl Lq_9 (pE Pb_8)) := hD
      have wG : GL1 xl qr L P Lq_9 Pb_8 := (by rw [eLq_9, ePb_8, ePa_7, eLp_2, eLp_1, eqr]; refine GL1.mk ?_ ?_ <;> (rw [eLp_2, eLp_1, eqr] at hni1 hni2; assumption))
      have wN : ∀ y : Nat, y ∈ Lp_2 → y ∈ Lq_9 ∧ SM9 y P Pb_8 := (fun y a => ⟨(by rw [eLq_9]; exact List.mem_cons_of_mem _ (List.mem_cons_of_mem _ a)), (by rw [ePb_8, ePa_7]; exact (SM9.at9 (fun (e : y = qr) => hni1 (by rw [← e]; exact a))).trans (SM9.at9 (fun (e : y = xl) => hni2 (by rw [← e]; exact List.mem_cons_of_mem _ a))))⟩)
      have xq9 : xl ≠ qr := (fun e => hni2 (by rw [e]; exact List.mem_cons_self))
      have wZ : Pb_8.lz xl = z_6 := (by rw [ePb_8]; simp [PO.nl9, PO.at9, PO.lz])
      have wF : Pb_8.oa qr = fo_5 := (by rw [ePb_8, ePa_7]; simp [PO.nl9, PO.nr9, PO.at9, PO.oa, Ne.symm xq9])
      have wA : Pb_8.an qr = nr := (by rw [ePb_8, ePa_7]; simp [PO.nl9, PO.nr9, PO.at9, PO.an, Ne.symm xq9])
      have wC : Pb_8.ac qr = cO := (by rw [ePb_8, ePa_7]; simp [PO.nl9, PO.nr9, PO.at9, PO.ac, Ne.symm xq9])
      have wQ : Pb_8.le xl = qr := wG.1.2.2.2.1
      refine W.widen (k := (P.gc xl)) (n := (P.gx xl)) (by omega) (by omega) ?_
      exact W.vret hx hb hr (fun t ht hW => ⟨⟨(), rfl, trivial, Lq_9, Pb_8, ⟨(by rw [wQ]; exact wG), (by omega), (by rw [wQ]; exact wC), (by rw [wQ, wA]; omega), (by rw [wQ, wF]; exact ELS.grow (x := xl) (q := xl) hIE wN), (by rw [wQ, wF, ← eqr, ← efr]; exact hII), Or.inl hfl⟩, by rw [ht]; exact hP, va_K.moved hW.alike hK, hD⟩, hS.F ht⟩) hS.2.2 dJx4a65c_add_7a177_64
    · have yb29 : (P.lz xl : Int) = ((nr : Int) : Int) := (zI_eq (a := P.lz xl) (b := (nr : Int)) (by omega) (by omega) (by omega) (by omega)).mp b29
      refine lv_aload_n hx hb dJx4a65c_add_7a177_32 rfl (lv_at hl 2 rfl) ?_
      have hPc := hP.part (X := [(xl, .inr (18, [.int (zI (z_3)), .ref qr, .int (zI (P.lz xl))])), (qr, .inl (cO, nr, .inr (.inr (.inr (.inr fr)))))]) (cx := [(xl, .inr (18, [.int (zI (z_3)), .ref qr, .int (zI (P.lz xl))])), (qr, .inl (cO, nr, .inr (.inr (.inr (.inr fr)))))]) (pl := va_pl Lp_2 (pE P)) [0, 1] rfl
      have hDc := hD.part (X := [(xl, .inr (18, [.int (zI (z_3)), .ref qr, .int (zI (P.lz xl))])), (qr, .inl (cO, nr, .inr (.inr (.inr (.inr fr)))))]) (cx := [(xl, .inr (18, [.int (zI (z_3)), .ref qr, .int (zI (P.lz xl))])), (qr, .inl (cO, nr, .inr (.inr (.inr (.inr fr)))))]) (pl := va_pl Lp_2 (pE P)) [0, 1] (by decide) rfl
      have hKc := hK.sub (tys' := [(cO, .object "java/lang/Object")]) [0] rfl
      have hFc := va_freeP (X := [(xl, .inr (18, [.int (zI (z_3)), .ref qr, .int (zI (P.lz xl))])), (qr, .inl (cO, nr, .inr (.inr (.inr (.inr fr)))))]) (cx := [(xl, .inr (18, [.int (zI (z_3)), .ref qr, .int (zI (P.lz xl))])), (qr, .inl (cO, nr, .inr (.inr (.inr (.inr fr)))))]) (pl := va_pl Lp_2 (pE P)) hD hS hA [0, 1] rfl
      refine va_callr (va_runV (As := []) (rest := []) ⟨hx, hb, hml, hown, hts⟩ (c_AL_grow0X l dC dI xl ((zI (z_3))) (P.lz xl) qr cO nr fr Lp_2 P (by omega) (by omega) (by omega) hX_el H.size sx_mi) (cwV 0 hts g_PL_addAtX_AL_grow0X rfl rfl rfl (by decide +kernel) ⟨(Nat.le_of_ble_eq_true rfl), (Nat.le_of_ble_eq_true rfl)⟩) ⟨fun a U g mk q => by obtain ⟨q0, q1, qP, qK, qD, e0, e1, e2, e3, e4, e5⟩ := q; exact ⟨q0, q1, qP, va_K.moved (u := U) (U := U.calling g mk a) (Vm.Alike.refl U.vm) qK, qD, va_Dc.moved (u := U) (U := U.calling g mk a) (Vm.Alike.refl U.vm) e0, va_Mi.moved (u := U) (U := U.calling g mk a) (Vm.Alike.refl U.vm) e1, va_AO.moved (u := U) (U := U.calling g mk a) (Vm.Alike.refl U.vm) e2, va_Nw.same rfl (u := U) (U := U.calling g mk a) rfl e3, va_Nw.same rfl (u := U) (U := U.calling g mk a) rfl e4, va_Nw.same rfl (u := U) (U := U.calling g mk a) rfl e5⟩, va_recv hKc hPc (ci := 18) (q0 := 0) rfl rfl, fun U hU hW => ⟨rfl, by rw [hU], by rw [hU]; exact hPc, va_K.moved hW.alike hKc, hDc.weaken (fun _ _ _ _ => trivial), va_Dc.moved hW.alike hp3, va_Mi.moved hW.alike hp4, va_AO.moved hW.alike hp5, va_Nw.warmC hW hp0, va_Nw.warmC hW hp1, va_Nw.warmC hW hp2⟩⟩ rfl rfl hl.1 rfl (lv_room (Nat.le_of_ble_eq_true rfl)) dJx4a65c_add_7a177_33 ⟨(show 0 + (1) ≤ P.gc xl from (by omega)), (show 0 + (((nr : Int) + (nr : Int) / 2).toNat) ≤ P.gx xl from (by omega))⟩) hS (fun q _ h => hFc q h) hFc (fun u q_10 t H1 locs ht hvm hw hB hz1 hk1 hS => ?_)
      obtain ⟨cn_11, nn_12, fn_13, hxt_13, hP1, hK1, hD1⟩ := hB
      rw [ht] at hP1
      have hK1 := va_K.moved hvm.symm hK1
      obtain ⟨hP, hD⟩ := va_joinP (X := [(xl, .inr (18, [.int (zI (z_3)), .ref qr, .int (zI (P.lz xl))])), (qr, .inl (cO, nr, .inr (.inr (.inr (.inr fr)))))]) (cx := [(xl, .inr (18, [.int (zI (z_3)), .ref qr, .int (zI (P.lz xl))])), (qr, .inl (cO, nr, .inr (.inr (.inr (.inr fr)))))]) (wr := []) (rx := [(xl, .inr (18, [.int (zI (z_3)), .ref q_10, .int (zI (P.lz xl))])), (qr, .inl (cO, nr, .inr (.inr (.inr (.inr fr))))), (q_10, .inl (cn_11, nn_12, .inr (.inr (.inr (.inr fn_13)))))]) (pl := va_pl Lp_2 (pE P)) (pl1 := va_pl Lp_2 (pE P)) hP hD [0, 1] [] rfl rfl (by decide) (by decide) hk1 hFc hP1 hD1
      have hK := (hK.sub (tys' := []) [] rfl).app hK1
      generalize H1 = H at hP hS ⊢
      have hP : va_P (dC, dI) vwQ ([(xl, .inr (18, [.int (zI (z_3)), .ref q_10, .int (zI (P.lz xl))])), (qr, .inl (cO, nr, .inr (.inr (.inr (.inr fr))))), (q_10, .inl (cn_11, nn_12, .inr (.inr (.inr (.inr fn_13)))))] ++ va_pl Lp_2 (pE P)) H := hP
      have hD : va_D A ([(xl, .inr (18, [.int (zI (z_3)), .ref q_10, .int (zI (P.lz xl))])), (qr, .inl (cO, nr, .inr (.inr (.inr (.inr fr))))), (q_10, .inl (cn_11, nn_12, .inr (.inr (.inr (.inr fn_13)))))] ++ va_pl Lp_2 (pE P)) := hD
      have hK : va_K (dC, dI) vwQ [(cO, .object "java/lang/Object"), (cn_11, .object "java/lang/Object")] s := hK
      refine W.widen (k := (0 + (1))) (n := (0 + (((nr : Int) + (nr : Int) / 2).toNat))) (by omega) (by omega) ?_
      have hgr := hxt_13
      refine lv_astore (lv' := [(4, .ref q_10), (3, .int (zI (P.lz xl))), (0, .ref xl), (1, .int (zI (i))), (2, .ref y)]) hx hb dJx4a65c_add_7a177_36 hl (by decide) rfl (fun ls hl => ?_)
      refine lv_aload hx hb dJx4a65c_add_7a177_38 (lv_at hl 0 rfl) ?_
      refine lv_iload_n hx hb dJx4a65c_add_7a177_40 rfl (lv_at hl 3 rfl) ?_
      refine lv_aload hx hb dJx4a65c_add_7a177_41 (lv_at hl 0 rfl) ?_
      refine lv_iload_n hx hb dJx4a65c_add_7a177_43 rfl (lv_at hl 3 rfl) ?_
      refine lv_iconst (v := 1) hx hb dJx4a65c_add_7a177_44 (by decide) ?_
      refine lv_iadd hx hb dJx4a65c_add_7a177_45 ?_
      refine lv_topi (fun z ez => ?_)
      obtain rfl : z = zI (i + 1) := ez.trans (zI_add (i) (1))
      refine lv_iload_n hx hb dJx4a65c_add_7a177_46 rfl (lv_at hl 1 rfl) ?_
      refine lv_iload_n hx hb dJx4a65c_add_7a177_47 rfl (lv_at hl 3 rfl) ?_
      refine lv_isub hx hb dJx4a65c_add_7a177_48 ?_
      refine lv_topi (fun z ez => ?_)
      obtain rfl : z = zI ((P.lz xl) - i) := ez.trans (zI_sub (P.lz xl) (i))
      refine va_copyM (sp := zI (i)) (dp := zI (i + 1)) (n := zI ((P.lz xl) - i)) hx hb (hml.trans hl.1.symm) hown (ow (k := 8) rfl) (ow (k := 9) rfl) (ow (k := 10) rfl) (ow (k := 11) rfl) hK hP hD hS 2 2 1 1 rfl rfl rfl rfl (zI_nn (by omega) (by omega)) (zI_nn (by omega) (by omega)) (zI_nn (by omega) (by omega)) (zI_sum (by omega) (by omega) (by omega) (by omega) (by omega)) (zI_sum (by omega) (by omega) (by omega) (by omega) (by omega)) (fun i9 _ y9 h9 => pool_any hK hP (hgr.2.2.1 _ _ h9).1 (hgr.2.2.1 _ _ h9).2 hp0 hp1 hp2) (by first | exact Nat.le_of_ble_eq_true rfl | exact (show (0 + (1)) ≤ P.gc xl from (by omega)) | exact (show (0 + (((nr : Int) + (nr : Int) / 2).toNat)) ≤ P.gx xl from (by omega))) (by first | exact Nat.le_of_ble_eq_true rfl | exact (show (0 + (1)) ≤ P.gc xl from (by omega)) | exact (show (0 + (((nr : Int) + (nr : Int) / 2).toNat)) ≤ P.gx xl from (by omega))) dJx4a65c_add_7a177_49 (fun H locs hP hD hS => ?_)
      have hP : va_P (dC, dI) vwQ ([(xl, .inr (18, [.int (zI (z_3)), .ref q_10, .int (zI (P.lz xl))])), (qr, .inl (cO, nr, .inr (.inr (.inr (.inr fr))))), (q_10, .inl (cn_11, nn_12, .inr (.inr (.inr (.inr (va_cpy fn_13 fn_13 (zI (i)).toNatClampNeg (zI (i + 1)).toNatClampNeg (zI ((P.lz xl) - i)).toNatClampNeg))))))] ++ va_pl Lp_2 (pE P)) H := hP
      have hD : va_D A ([(xl, .inr (18, [.int (zI (z_3)), .ref q_10, .int (zI (P.lz xl))])), (qr, .inl (cO, nr, .inr (.inr (.inr (.inr fr))))), (q_10, .inl (cn_11, nn_12, .inr (.inr (.inr (.inr (va_cpy fn_13 fn_13 (zI (i)).toNatClampNeg (zI (i + 1)).toNatClampNeg (zI ((P.lz xl) - i)).toNatClampNeg))))))] ++ va_pl Lp_2 (pE P)) := hD
      generalize efo_14 : (va_cpy fn_13 fn_13 (zI (i)).toNatClampNeg (zI (i + 1)).toNatClampNeg (zI ((P.lz xl) - i)).toNatClampNeg) = fo_14 at hP hD
      rw [zI_cl (a := i) (by omega) (by omega), zI_cl (a := i + 1) (by omega) (by omega), zI_cl (a := (P.lz xl) - i) (by omega) (by omega)] at efo_14
      have hP : va_P (dC, dI) vwQ ([(xl, .inr (18, [.int (zI (z_3)), .ref q_10, .int (zI (P.lz xl))])), (qr, .inl (cO, nr, .inr (.inr (.inr (.inr fr))))), (q_10, .inl (cn_11, nn_12, .inr (.inr (.inr (.inr fo_14)))))] ++ va_pl Lp_2 (pE P)) H := hP
      have hD : va_D A ([(xl, .inr (18, [.int (zI (z_3)), .ref q_10, .int (zI (P.lz xl))])), (qr, .inl (cO, nr, .inr (.inr (.inr (.inr fr))))), (q_10, .inl (cn_11, nn_12, .inr (.inr (.inr (.inr fo_14)))))] ++ va_pl Lp_2 (pE P)) := hD
      refine lv_aload hx hb dJx4a65c_add_7a177_52 (lv_at hl 0 rfl) ?_
      refine lv_iload_n hx hb dJx4a65c_add_7a177_54 rfl (lv_at hl 3 rfl) ?_
      refine lv_aload_n hx hb dJx4a65c_add_7a177_55 rfl (lv_at hl 4 rfl) ?_
      refine va_astqM (E := "java/lang/Object") (i := zI (i)) hx hb hK hP hD hS 2 1 rfl rfl (pool_any hK hP hX_y.1 hX_y.2 hp0 hp1 hp2) (zI_in (a := i) (n := nn_12) (by omega) (by omega) (by omega)) dJx4a65c_add_7a177_56 (fun H locs hP hD hS => ?_)
      have hP : va_P (dC, dI) vwQ ([(xl, .inr (18, [.int (zI (z_3)), .ref q_10, .int (zI (P.lz xl))])), (qr, .inl (cO, nr, .inr (.inr (.inr (.inr fr))))), (q_10, .inl (cn_11, nn_12, .inr (.inr (.inr (.inr (va_up fo_14 (zI (i)).toNatClampNeg (some y)))))))] ++ va_pl Lp_2 (pE P)) H := hP
      have hD : va_D A ([(xl, .inr (18, [.int (zI (z_3)), .ref q_10, .int (zI (P.lz xl))])), (qr, .inl (cO, nr, .inr (.inr (.inr (.inr fr))))), (q_10, .inl (cn_11, nn_12, .inr (.inr (.inr (.inr (va_up fo_14 (zI (i)).toNatClampNeg (some y)))))))] ++ va_pl Lp_2 (pE P)) := hD
      generalize efo_15 : (va_up fo_14 (zI (i)).toNatClampNeg (some y)) = fo_15 at hP hD
      rw [zI_cl (by omega) (by omega)] at efo_15
      have hP : va_P (dC, dI) vwQ ([(xl, .inr (18, [.int (zI (z_3)), .ref q_10, .int (zI (P.lz xl))])), (qr, .inl (cO, nr, .inr (.inr (.inr (.inr fr))))), (q_10, .inl (cn_11, nn_12, .inr (.inr (.inr (.inr fo_15)))))] ++ va_pl Lp_2 (pE P)) H := hP
      have hD : va_D A ([(xl, .inr (18, [.int (zI (z_3)), .ref q_10, .int (zI (P.lz xl))])), (qr, .inl (cO, nr, .inr (.inr (.inr (.inr fr))))), (q_10, .inl (cn_11, nn_12, .inr (.inr (.inr (.inr fo_15)))))] ++ va_pl Lp_2 (pE P)) := hD
      refine lv_aload_n hx hb dJx4a65c_add_7a177_57 rfl (lv_at hl 2 rfl) ?_
      refine lv_iload_n hx hb dJx4a65c_add_7a177_58 rfl (lv_at hl 1 rfl) ?_
      refine lv_iconst (v := 1) hx hb dJx4a65c_add_7a177_59 (by decide) ?_
      refine lv_iadd hx hb dJx4a65c_add_7a177_60 ?_
      refine lv_topi (fun z ez => ?_)
      obtain rfl : z = zI ((P.lz xl) + 1) := ez.trans (zI_add (P.lz xl) (1))
      refine va_put (D := (dC, dI)) (ci := 18) (v := .int (zI ((P.lz xl) + 1))) (ty := .int) (C := RJx4a65c) (T := TJx4a65c) (N := 3) hx hb hts mem_PL_addAtX_1 tyJx4a65c tyJx4a65c_ok nmJx4a65c hown hK hP hD hS 0 rfl rfl 2 (by decide) (ow (k := 6) rfl) (fun _ h9 => h9) rfl (by decide +kernel) rfl rfl (by first | exact Nat.le_of_ble_eq_true rfl | exact (show (0 + (1)) ≤ P.gc xl from (by omega)) | exact (show (0 + (((nr : Int) + (nr : Int) / 2).toNat)) ≤ P.gx xl from (by omega))) dJx4a65c_add_7a177_61 (fun H locs hP hD hS => ?_)
      have hP : va_P (dC, dI) vwQ ([(xl, .inr (18, [.int (zI (z_3)), .ref q_10, .int (zI ((P.lz xl) + 1))])), (qr, .inl (cO, nr, .inr (.inr (.inr (.inr fr))))), (q_10, .inl (cn_11, nn_12, .inr (.inr (.inr (.inr fo_15)))))] ++ va_pl Lp_2 (pE P)) H := hP
      have hD : va_D A ([(xl, .inr (18, [.int (zI (z_3)), .ref q_10, .int (zI ((P.lz xl) + 1))])), (qr, .inl (cO, nr, .inr (.inr (.inr (.inr fr))))), (q_10, .inl (cn_11, nn_12, .inr (.inr (.inr (.inr fo_15)))))] ++ va_pl Lp_2 (pE P)) := hD
      obtain ⟨z_16, ez_16⟩ : ∃ z9 : Int, z9 = (P.lz xl) + 1 := ⟨_, rfl⟩
      rw [← ez_16] at hP hD
      have hP : va_P (dC, dI) vwQ ([(xl, .inr (18, [.int (zI (z_3)), .ref q_10, .int (zI (z_16))])), (qr, .inl (cO, nr, .inr (.inr (.inr (.inr fr))))), (q_10, .inl (cn_11, nn_12, .inr (.inr (.inr (.inr fo_15)))))] ++ va_pl Lp_2 (pE P)) H := hP
      have hD : va_D A ([(xl, .inr (18, [.int (zI (z_3)), .ref q_10, .int (zI (z_16))])), (qr, .inl (cO, nr, .inr (.inr (.inr (.inr fr))))), (q_10, .inl (cn_11, nn_12, .inr (.inr (.inr (.inr fo_15)))))] ++ va_pl Lp_2 (pE P)) := hD
      subst hQ
      have hIE : ELS Lp_2 P fo_15 := (by rw [← efo_15, ← efo_14]; exact (hgr.2.2.1.cpy hgr.2.2.1 _ _ _).put hX_y.1 hX_y.2)
      have hII : INSF fr fo_15 (i) (P.lz xl) y := (by rw [← efo_15, ← efo_14]; exact INSF.of (by omega) (by omega) (fun j h9 => hgr.2.2.2 j (by omega)))
      have hP := hP.part (X := [(xl, .inr (18, [.int (zI (z_3)), .ref q_10, .int (zI (z_16))])), (qr, .inl (cO, nr, .inr (.inr (.inr (.inr fr))))), (q_10, .inl (cn_11, nn_12, .inr (.inr (.inr (.inr fo_15)))))]) (cx := [(xl, .inr (18, [.int (zI (z_3)), .ref q_10, .int (zI (z_16))])), (q_10, .inl (cn_11, nn_12, .inr (.inr (.inr (.inr fo_15)))))]) (pl := va_pl Lp_2 (pE P)) [0, 2] rfl
      have hD := hD.part (X := [(xl, .inr (18, [.int (zI (z_3)), .ref q_10, .int (zI (z_16))])), (qr, .inl (cO, nr, .inr (.inr (.inr (.inr fr))))), (q_10, .inl (cn_11, nn_12, .inr (.inr (.inr (.inr fo_15)))))]) (cx := [(xl, .inr (18, [.int (zI (z_3)), .ref q_10, .int (zI (z_16))])), (q_10, .inl (cn_11, nn_12, .inr (.inr (.inr (.inr fo_15)))))]) (pl := va_pl Lp_2 (pE P)) [0, 2] (by decide) rfl
      obtain rfl : cO = cn_11 := cls_eq hK 0 1 rfl rfl
      have hP : va_P (dC, dI) vwQ ([(xl, .inr (18, [.int (zI (z_3)), .ref q_10, .int (zI (z_16))])), (q_10, .inl (cO, nn_12, .inr (.inr (.inr (.inr fo_15)))))] ++ va_pl Lp_2 (pE P)) H := hP
      have hD : va_D A ([(xl, .inr (18, [.int (zI (z_3)), .ref q_10, .int (zI (z_16))])), (q_10, .inl (cO, nn_12, .inr (.inr (.inr (.inr fo_15)))))] ++ va_pl Lp_2 (pE P)) := hD
      have hK := hK.sub (tys' := [(cO, .object "java/lang/Object")]) [0] rfl
      have hni1 := pl_notin (X := [(xl, .inr (18, [.int (zI (z_3)), .ref q_10, .int (zI (z_16))]))]) hD
      obtain ⟨Pa_17, ePa_17⟩ : ∃ q9 : PO, q9 = P.nr9 q_10 xl cO nn_12 (fo_15) := ⟨_, rfl⟩
      obtain ⟨hP, hD⟩ := pool_new (X := [(xl, .inr (18, [.int (zI (z_3)), .ref q_10, .int (zI (z_16))]))]) (P' := Pa_17) (by rw [ePa_17]; exact putnr _ _ _ _ _ _) hP hD
      have hP : va_P (dC, dI) vwQ ([(xl, .inr (18, [.int (zI (z_3)), .ref q_10, .int (zI (z_16))]))] ++ va_pl (q_10 :: Lp_2) (pE Pa_17)) H := hP
      have hD : va_D A ([(xl, .inr (18, [.int (zI (z_3)), .ref q_10, .int (zI (z_16))]))] ++ va_pl (q_10 :: Lp_2) (pE Pa_17)) := hD
      have hni2 := pl_notin (X := []) hD
      obtain ⟨Pb_18, ePb_18⟩ : ∃ q9 : PO, q9 = Pa_17.nl9 xl (z_3) q_10 (z_16) := ⟨_, rfl⟩
      obtain ⟨hP, hD⟩ := pool_new (X := []) (P' := Pb_18) (e := listE (z_3) q_10 (z_16)) (by rw [ePb_18]; exact putnl _ _ _ _ _) hP hD
      obtain ⟨Lq_19, eLq_19⟩ : ∃ l9 : List Nat, l9 = xl :: q_10 :: Lp_2 := ⟨_, rfl⟩
      rw [← eLq_19] at hP hD
      have hP : va_P (dC, dI) vwQ ([] ++ va_pl Lq_19 (pE Pb_18)) H := hP
      have hD : va_D A ([] ++ va_pl Lq_19 (pE Pb_18)) := hD
      have wG : GL1 xl q_10 L P Lq_19 Pb_18 := (by rw [eLq_19, ePb_18, ePa_17, eLp_2, eLp_1, eqr]; refine GL1.mk ?_ ?_ <;> (rw [eLp_2, eLp_1, eqr] at hni1 hni2; assumption))
      have wN : ∀ y : Nat, y ∈ Lp_2 → y ∈ Lq_19 ∧ SM9 y P Pb_18 := (fun y a => ⟨(by rw [eLq_19]; exact List.mem_cons_of_mem _ (List.mem_cons_of_mem _ a)), (by rw [ePb_18, ePa_17]; exact (SM9.at9 (fun (e : y = q_10) => hni1 (by rw [← e]; exact a))).trans (SM9.at9 (fun (e : y = xl) => hni2 (by rw [← e]; exact List.mem_cons_of_mem _ a))))⟩)
      have xq9 : xl ≠ q_10 := (fun e => hni2 (by rw [e]; exact List.mem_cons_self))
      have wZ : Pb_18.lz xl = z_16 := (by rw [ePb_18]; simp [PO.nl9, PO.at9, PO.lz])
      have wF : Pb_18.oa q_10 = fo_15 := (by rw [ePb_18, ePa_17]; simp [PO.nl9, PO.nr9, PO.at9, PO.oa, Ne.symm xq9])
      have wA : Pb_18.an q_10 = nn_12 := (by rw [ePb_18, ePa_17]; simp [PO.nl9, PO.nr9, PO.at9, PO.an, Ne.symm xq9])
      have wC : Pb_18.ac q_10 = cO := (by rw [ePb_18, ePa_17]; simp [PO.nl9, PO.nr9, PO.at9, PO.ac, Ne.symm xq9])
      have wQ : Pb_18.le xl = q_10 := wG.1.2.2.2.1
      refine W.widen (k := (P.gc xl)) (n := (P.gx xl)) (by omega) (by omega) ?_
      exact W.vret hx hb hr (fun t ht hW => ⟨⟨(), rfl, trivial, Lq_19, Pb_18, ⟨(by rw [wQ]; exact wG), (by omega), (by rw [wQ]; exact wC), (by rw [wQ, wA]; omega), (by rw [wQ, wF]; exact ELS.grow (x := xl) (q := xl) hIE wN), (by rw [wQ, wF, ← eqr, ← efr]; exact hII), Or.inl hfl⟩, by rw [ht]; exact hP, va_K.moved hW.alike hK, hD⟩, hS.F ht⟩) hS.2.2 dJx4a65c_add_7a177_64
  · skip
    obtain ⟨hfl, hX_z, hX_e⟩ := hX_c
    have hX_n : sx_ed ∉ L := (by first | exact va_T_notin hp0 hD | exact va_T_notin hp1 hD | exact va_T_notin hp2 hD | exact va_T_notin hp3 hD | exact va_T_notin hp4 hD | exact va_T_notin hp5 hD | exact va_T_notin hp6 hD | exact va_T_notin hp7 hD | exact va_T_notin hp8 hD | exact va_T_notin hp9 hD | exact va_T_notin hp10 hD | exact va_T_notin hp11 hD)
    obtain ⟨hP, hD⟩ := pool_out (X := []) hX_x (pE_list hX_k) hP hD
    obtain ⟨Lp_20, eLp_20⟩ : ∃ l9 : List Nat, l9 = L.erase xl := ⟨_, rfl⟩
    rw [← eLp_20, hX_z, hX_e] at hP hD
    have hP : va_P (dC, dI) vwQ ([(xl, .inr (18, [.int (zI (P.lm xl)), .ref sx_ed, .int 0]))] ++ va_pl Lp_20 (pE P)) H := hP
    have hD : va_D A ([(xl, .inr (18, [.int (zI (P.lm xl)), .ref sx_ed, .int 0]))] ++ va_pl Lp_20 (pE P)) := hD
    have hX_y2 : y ∈ Lp_20 ∧ OBK (P.kd y) := ⟨(by rw [eLp_20]; exact obk_er hX_y.1 hX_y.2 (nobk30 hX_k)), hX_y.2⟩
    have hX_y := hX_y2
    have eqr : sx_ed = P.le xl := hX_e.symm
    have hLe : Lp_20 = (L.erase xl).erase (P.le xl) := (by rw [eLp_20, hX_e]; exact (List.erase_of_not_mem (fun h => hX_n (List.mem_of_mem_erase h))).symm)
    refine lv_aload_n hx hb dJx4a65c_add_7a177_0 rfl (lv_at hl 0 rfl) ?_
    refine lv_iload_n hx hb dJx4a65c_add_7a177_1 rfl (lv_at hl 1 rfl) ?_
    have hPc := hP.sub (ws' := [(xl, .inr (18, [.int (zI (P.lm xl)), .ref sx_ed, .int 0]))]) [0] rfl
    have hDc := hD.sub (ws' := [(xl, .inr (18, [.int (zI (P.lm xl)), .ref sx_ed, .int 0]))]) [0] (by decide) rfl
    have hKc := hK.sub (tys' := []) [] rfl
    have hFc := va_free (wc := [(xl, .inr (18, [.int (zI (P.lm xl)), .ref sx_ed, .int 0]))]) hD hS hA [0] rfl
    refine va_callv (va_runV (As := [.int (zI (i))]) (rest := []) ⟨hx, hb, hml, hown, hts⟩ (c_AL_rangeChecke l dC dI xl ((zI (P.lm xl))) sx_ed i (by omega) H.size) (cwV 1 hts g_PL_addAtX_AL_rangeChecke rfl rfl rfl (by decide +kernel) ⟨(Nat.le_of_ble_eq_true rfl), (Nat.le_of_ble_eq_true rfl)⟩) ⟨fun a U g mk q => by obtain ⟨q0, q1, qP, qK, qD⟩ := q; exact ⟨q0, q1, qP, va_K.moved (u := U) (U := U.calling g mk a) (Vm.Alike.refl U.vm) qK, qD⟩, va_recv hKc hPc (ci := 18) (q0 := 0) rfl rfl, fun U hU hW => ⟨rfl, by rw [hU], by rw [hU]; exact hPc, va_K.moved hW.alike hKc, hDc.weaken (fun _ _ _ _ => trivial)⟩⟩ rfl rfl hl.1 rfl (lv_room (Nat.le_of_ble_eq_true rfl)) dJx4a65c_add_7a177_2 ⟨(Nat.zero_le _), (Nat.zero_le _)⟩) hS (fun q _ h => hFc q h) hFc (fun  u t H1 locs ht hvm hw hB hz1 hk1 hS => ?_)
    obtain ⟨hP1, hK1, hD1⟩ := hB
    rw [ht] at hP1
    have hK1 := va_K.moved hvm.symm hK1
    obtain ⟨hP, hD⟩ := va_joinQ (X := [(xl, .inr (18, [.int (zI (P.lm xl)), .ref sx_ed, .int 0]))]) (cx := [(xl, .inr (18, [.int (zI (P.lm xl)), .ref sx_ed, .int 0]))]) (wr := []) (w1 := [(xl, .inr (18, [.int (zI (P.lm xl)), .ref sx_ed, .int 0]))]) (pl := va_pl Lp_20 (pE P)) hP hD [0] [] rfl rfl (by decide) (by decide) hk1 hFc hP1 hD1
    have hK := (hK.sub (tys' := [(cO, .object "java/lang/Object")]) [0] rfl).app hK1
    generalize H1 = H at hP hS ⊢
    have hP : va_P (dC, dI) vwQ ([(xl, .inr (18, [.int (zI (P.lm xl)), .ref sx_ed, .int 0]))] ++ va_pl Lp_20 (pE P)) H := hP
    have hD : va_D A ([(xl, .inr (18, [.int (zI (P.lm xl)), .ref sx_ed, .int 0]))] ++ va_pl Lp_20 (pE P)) := hD
    have hK : va_K (dC, dI) vwQ [(cO, .object "java/lang/Object")] s := hK
    refine W.widen (k := 0) (n := 0) (Nat.le_of_ble_eq_true rfl) (Nat.le_of_ble_eq_true rfl) ?_
    refine lv_aload_n hx hb dJx4a65c_add_7a177_5 rfl (lv_at hl 0 rfl) ?_
    refine lv_dup hx hb dJx4a65c_add_7a177_6 rfl ?_
    refine va_get (D := (dC, dI)) (ci := 18) (v := .int (zI (P.lm xl))) (C := RJx4a65c) (T := TJx4a65c) (N := 3) hx hb hts mem_PL_addAtX_1 hown hK hP 0 rfl rfl 0 (by decide) (ow (k := 4) rfl) (fun x9 h9 => u_same (ow (k := 5) rfl) x9 h9) rfl dJx4a65c_add_7a177_7 ?_
    refine lv_iconst (v := 1) hx hb dJx4a65c_add_7a177_10 (by decide) ?_
    refine lv_iadd hx hb dJx4a65c_add_7a177_11 ?_
    refine lv_topi (fun z ez => ?_)
    obtain rfl : z = zI ((P.lm xl) + 1) := ez.trans (zI_add (P.lm xl) (1))
    refine va_put (D := (dC, dI)) (ci := 18) (v := .int (zI ((P.lm xl) + 1))) (ty := .int) (C := RJx4a65c) (T := TJx4a65c) (N := 3) hx hb hts mem_PL_addAtX_1 tyJx4a65c tyJx4a65c_ok nmJx4a65c hown hK hP hD hS 0 rfl rfl 0 (by decide) (ow (k := 4) rfl) (fun x9 h9 => u_same (ow (k := 5) rfl) x9 h9) rfl (by decide +kernel) rfl rfl (by first | exact Nat.le_of_ble_eq_true rfl | exact (show 0 ≤ P.gc xl from (by omega)) | exact (show 0 ≤ P.gx xl from (by omega))) dJx4a65c_add_7a177_12 (fun H locs hP hD hS => ?_)
    have hP : va_P (dC, dI) vwQ ([(xl, .inr (18, [.int (zI ((P.lm xl) + 1)), .ref sx_ed, .int 0]))] ++ va_pl Lp_20 (pE P)) H := hP
    have hD : va_D A ([(xl, .inr (18, [.int (zI ((P.lm xl) + 1)), .ref sx_ed, .int 0]))] ++ va_pl Lp_20 (pE P)) := hD
    obtain ⟨z_21, ez_21⟩ : ∃ z9 : Int, z9 = (P.lm xl) + 1 := ⟨_, rfl⟩
    rw [← ez_21] at hP hD
    have hP : va_P (dC, dI) vwQ ([(xl, .inr (18, [.int (zI (z_21)), .ref sx_ed, .int 0]))] ++ va_pl Lp_20 (pE P)) H := hP
    have hD : va_D A ([(xl, .inr (18, [.int (zI (z_21)), .ref sx_ed, .int 0]))] ++ va_pl Lp_20 (pE P)) := hD
    refine lv_aload_n hx hb dJx4a65c_add_7a177_15 rfl (lv_at hl 0 rfl) ?_
    refine va_get (D := (dC, dI)) (ci := 18) (v := .int 0) (C := RJx4a65c) (T := TJx4a65c) (N := 3) hx hb hts mem_PL_addAtX_1 hown hK hP 0 rfl rfl 2 (by decide) (ow (k := 6) rfl) (fun _ h9 => h9) rfl dJx4a65c_add_7a177_16 ?_
    refine lv_dup hx hb dJx4a65c_add_7a177_19 rfl ?_
    refine lv_istore_n (lv' := [(3, .int 0), (0, .ref xl), (1, .int (zI (i))), (2, .ref y)]) hx hb dJx4a65c_add_7a177_20 rfl hl (by decide) rfl (fun ls hl => ?_)
    refine lv_aload_n hx hb dJx4a65c_add_7a177_21 rfl (lv_at hl 1 rfl) ?_
    refine va_get (D := (dC, dI)) (ci := 18) (v := .ref sx_ed) (C := RJx4a65c) (T := TJx4a65c) (N := 3) hx hb hts mem_PL_addAtX_1 hown hK hP 0 rfl rfl 1 (by decide) (ow (k := 7) rfl) (fun _ h9 => h9) rfl dJx4a65c_add_7a177_22 ?_
    refine lv_dup hx hb dJx4a65c_add_7a177_25 rfl ?_
    refine lv_astore (lv' := [(4, .ref sx_ed), (3, .int 0), (0, .ref xl), (1, .int (zI (i))), (2, .ref y)]) hx hb dJx4a65c_add_7a177_26 hl (by decide) rfl (fun ls hl => ?_)
    refine va_tlen (v := 0) hx hb hp6 hS (by decide) dJx4a65c_add_7a177_28 ?_
    refine lv_icmp_ne (tgt := 38) hx hb dJx4a65c_add_7a177_29 (by decide) (fun h9 => absurd h9 (by decide)) (fun _ => ?_)
    refine lv_aload_n hx hb dJx4a65c_add_7a177_32 rfl (lv_at hl 2 rfl) ?_
    have hPc := hP.part (X := [(xl, .inr (18, [.int (zI (z_21)), .ref sx_ed, .int 0]))]) (cx := [(xl, .inr (18, [.int (zI (z_21)), .ref sx_ed, .int 0]))]) (pl := va_pl Lp_20 (pE P)) [0] rfl
    have hDc := hD.part (X := [(xl, .inr (18, [.int (zI (z_21)), .ref sx_ed, .int 0]))]) (cx := [(xl, .inr (18, [.int (zI (z_21)), .ref sx_ed, .int 0]))]) (pl := va_pl Lp_20 (pE P)) [0] (by decide) rfl
    have hKc := hK.sub (tys' := []) [] rfl
    have hFc := va_freeP (X := [(xl, .inr (18, [.int (zI (z_21)), .ref sx_ed, .int 0]))]) (cx := [(xl, .inr (18, [.int (zI (z_21)), .ref sx_ed, .int 0]))]) (pl := va_pl Lp_20 (pE P)) hD hS hA [0] rfl
    refine va_callr (va_runV (As := []) (rest := []) ⟨hx, hb, hml, hown, hts⟩ (c_AL_grow0e l dC dI xl ((zI (z_21))) sx_ed Lp_20 P H.size) (cwV 0 hts g_PL_addAtX_AL_grow0e rfl rfl rfl (by decide +kernel) ⟨(Nat.le_of_ble_eq_true rfl), (Nat.le_of_ble_eq_true rfl)⟩) ⟨fun a U g mk q => by obtain ⟨q0, q1, qP, qK, qD, e0, e1, e2⟩ := q; exact ⟨q0, q1, qP, va_K.moved (u := U) (U := U.calling g mk a) (Vm.Alike.refl U.vm) qK, qD, va_T.moved (u := U) (U := U.calling g mk a) (Vm.Alike.refl U.vm) e0, va_Z.moved (u := U) (U := U.calling g mk a) (Vm.Alike.refl U.vm) e1, va_AO.moved (u := U) (U := U.calling g mk a) (Vm.Alike.refl U.vm) e2⟩, va_recv hKc hPc (ci := 18) (q0 := 0) rfl rfl, fun U hU hW => ⟨rfl, by rw [hU], by rw [hU]; exact hPc, va_K.moved hW.alike hKc, hDc.weaken (fun _ _ _ _ => trivial), by rw [hU]; exact va_T.narrow (va_T.moved hW.alike (va_T.kept hp6 hS.2.1)) hFc, by rw [hU]; exact va_Z.narrow (va_Z.moved hW.alike (va_Z.kept hp7 hS.2.1)) hFc, va_AO.moved hW.alike hp5⟩⟩ rfl rfl hl.1 rfl (lv_room (Nat.le_of_ble_eq_true rfl)) dJx4a65c_add_7a177_33 ⟨(show 0 + 1 ≤ P.gc xl from (by omega)), (show 0 + 10 ≤ P.gx xl from (by omega))⟩) hS (fun q _ h => hFc q h) hFc (fun u q_22 t H1 locs ht hvm hw hB hz1 hk1 hS => ?_)
    obtain ⟨cn_23, nn_24, fn_25, hxt_25, hP1, hK1, hD1⟩ := hB
    rw [ht] at hP1
    have hK1 := va_K.moved hvm.symm hK1
    obtain ⟨hP, hD⟩ := va_joinP (X := [(xl, .inr (18, [.int (zI (z_21)), .ref sx_ed, .int 0]))]) (cx := [(xl, .inr (18, [.int (zI (z_21)), .ref sx_ed, .int 0]))]) (wr := []) (rx := [(xl, .inr (18, [.int (zI (z_21)), .ref q_22, .int 0])), (q_22, .inl (cn_23, nn_24, .inr (.inr (.inr (.inr fn_25)))))]) (pl := va_pl Lp_20 (pE P)) (pl1 := va_pl Lp_20 (pE P)) hP hD [0] [] rfl rfl (by decide) (by decide) hk1 hFc hP1 hD1
    have hK := (hK.sub (tys' := [(cO, .object "java/lang/Object")]) [0] rfl).app hK1
    generalize H1 = H at hP hS ⊢
    have hP : va_P (dC, dI) vwQ ([(xl, .inr (18, [.int (zI (z_21)), .ref q_22, .int 0])), (q_22, .inl (cn_23, nn_24, .inr (.inr (.inr (.inr fn_25)))))] ++ va_pl Lp_20 (pE P)) H := hP
    have hD : va_D A ([(xl, .inr (18, [.int (zI (z_21)), .ref q_22, .int 0])), (q_22, .inl (cn_23, nn_24, .inr (.inr (.inr (.inr fn_25)))))] ++ va_pl Lp_20 (pE P)) := hD
    have hK : va_K (dC, dI) vwQ [(cO, .object "java/lang/Object"), (cn_23, .object "java/lang/Object")] s := hK
    refine W.widen (k := 1) (n := 10) (Nat.le_of_ble_eq_true rfl) (Nat.le_of_ble_eq_true rfl) ?_
    have hgr := hxt_25
    refine lv_astore (lv' := [(4, .ref q_22), (3, .int 0), (0, .ref xl), (1, .int (zI (i))), (2, .ref y)]) hx hb dJx4a65c_add_7a177_36 hl (by decide) rfl (fun ls hl => ?_)
    refine lv_aload hx hb dJx4a65c_add_7a177_38 (lv_at hl 0 rfl) ?_
    refine lv_iload_n hx hb dJx4a65c_add_7a177_40 rfl (lv_at hl 3 rfl) ?_
    refine lv_aload hx hb dJx4a65c_add_7a177_41 (lv_at hl 0 rfl) ?_
    refine lv_iload_n hx hb dJx4a65c_add_7a177_43 rfl (lv_at hl 3 rfl) ?_
    refine lv_iconst (v := 1) hx hb dJx4a65c_add_7a177_44 (by decide) ?_
    refine lv_iadd hx hb dJx4a65c_add_7a177_45 ?_
    refine lv_topi (fun z ez => ?_)
    obtain rfl : z = zI (i + 1) := ez.trans (zI_add (i) (1))
    refine lv_iload_n hx hb dJx4a65c_add_7a177_46 rfl (lv_at hl 1 rfl) ?_
    refine lv_iload_n hx hb dJx4a65c_add_7a177_47 rfl (lv_at hl 3 rfl) ?_
    refine lv_isub hx hb dJx4a65c_add_7a177_48 ?_
    refine lv_topi (fun z ez => ?_)
    obtain rfl : z = zI (0 - i) := ez.trans (zI_sub (0) (i))
    refine va_copyM (sp := zI (i)) (dp := zI (i + 1)) (n := zI (0 - i)) hx hb (hml.trans hl.1.symm) hown (ow (k := 8) rfl) (ow (k := 9) rfl) (ow (k := 10) rfl) (ow (k := 11) rfl) hK hP hD hS 1 1 1 1 rfl rfl rfl rfl (zI_nn (by omega) (by omega)) (zI_nn (by omega) (by omega)) (zI_nn (by omega) (by omega)) (zI_sum (by omega) (by omega) (by omega) (by omega) (by omega)) (zI_sum (by omega) (by omega) (by omega) (by omega) (by omega)) (fun i9 _ y9 h9 => pool_any hK hP ((els_none hgr.2 Lp_20 P) _ _ h9).1 ((els_none hgr.2 Lp_20 P) _ _ h9).2 hp0 hp1 hp2) (by first | exact Nat.le_of_ble_eq_true rfl | exact (show 1 ≤ P.gc xl from (by omega)) | exact (show 10 ≤ P.gx xl from (by omega))) (by first | exact Nat.le_of_ble_eq_true rfl | exact (show 1 ≤ P.gc xl from (by omega)) | exact (show 10 ≤ P.gx xl from (by omega))) dJx4a65c_add_7a177_49 (fun H locs hP hD hS => ?_)
    have hP : va_P (dC, dI) vwQ ([(xl, .inr (18, [.int (zI (z_21)), .ref q_22, .int 0])), (q_22, .inl (cn_23, nn_24, .inr (.inr (.inr (.inr (va_cpy fn_25 fn_25 (zI (i)).toNatClampNeg (zI (i + 1)).toNatClampNeg (zI (0 - i)).toNatClampNeg))))))] ++ va_pl Lp_20 (pE P)) H := hP
    have hD : va_D A ([(xl, .inr (18, [.int (zI (z_21)), .ref q_22, .int 0])), (q_22, .inl (cn_23, nn_24, .inr (.inr (.inr (.inr (va_cpy fn_25 fn_25 (zI (i)).toNatClampNeg (zI (i + 1)).toNatClampNeg (zI (0 - i)).toNatClampNeg))))))] ++ va_pl Lp_20 (pE P)) := hD
    generalize efo_26 : (va_cpy fn_25 fn_25 (zI (i)).toNatClampNeg (zI (i + 1)).toNatClampNeg (zI (0 - i)).toNatClampNeg) = fo_26 at hP hD
    rw [zI_cl (a := i) (by omega) (by omega), zI_cl (a := i + 1) (by omega) (by omega), zI_cl (a := 0 - i) (by omega) (by omega)] at efo_26
    have hP : va_P (dC, dI) vwQ ([(xl, .inr (18, [.int (zI (z_21)), .ref q_22, .int 0])), (q_22, .inl (cn_23, nn_24, .inr (.inr (.inr (.inr fo_26)))))] ++ va_pl Lp_20 (pE P)) H := hP
    have hD : va_D A ([(xl, .inr (18, [.int (zI (z_21)), .ref q_22, .int 0])), (q_22, .inl (cn_23, nn_24, .inr (.inr (.inr (.inr fo_26)))))] ++ va_pl Lp_20 (pE P)) := hD
    refine lv_aload hx hb dJx4a65c_add_7a177_52 (lv_at hl 0 rfl) ?_
    refine lv_iload_n hx hb dJx4a65c_add_7a177_54 rfl (lv_at hl 3 rfl) ?_
    refine lv_aload_n hx hb dJx4a65c_add_7a177_55 rfl (lv_at hl 4 rfl) ?_
    refine va_astqM (E := "java/lang/Object") (i := zI (i)) hx hb hK hP hD hS 1 1 rfl rfl (pool_any hK hP hX_y.1 hX_y.2 hp0 hp1 hp2) (zI_in (a := i) (n := nn_24) (by omega) (by omega) (by omega)) dJx4a65c_add_7a177_56 (fun H locs hP hD hS => ?_)
    have hP : va_P (dC, dI) vwQ ([(xl, .inr (18, [.int (zI (z_21)), .ref q_22, .int 0])), (q_22, .inl (cn_23, nn_24, .inr (.inr (.inr (.inr (va_up fo_26 (zI (i)).toNatClampNeg (some y)))))))] ++ va_pl Lp_20 (pE P)) H := hP
    have hD : va_D A ([(xl, .inr (18, [.int (zI (z_21)), .ref q_22, .int 0])), (q_22, .inl (cn_23, nn_24, .inr (.inr (.inr (.inr (va_up fo_26 (zI (i)).toNatClampNeg (some y)))))))] ++ va_pl Lp_20 (pE P)) := hD
    generalize efo_27 : (va_up fo_26 (zI (i)).toNatClampNeg (some y)) = fo_27 at hP hD
    rw [zI_cl (by omega) (by omega)] at efo_27
    have hP : va_P (dC, dI) vwQ ([(xl, .inr (18, [.int (zI (z_21)), .ref q_22, .int 0])), (q_22, .inl (cn_23, nn_24, .inr (.inr (.inr (.inr fo_27)))))] ++ va_pl Lp_20 (pE P)) H := hP
    have hD : va_D A ([(xl, .inr (18, [.int (zI (z_21)), .ref q_22, .int 0])), (q_22, .inl (cn_23, nn_24, .inr (.inr (.inr (.inr fo_27)))))] ++ va_pl Lp_20 (pE P)) := hD
    refine lv_aload_n hx hb dJx4a65c_add_7a177_57 rfl (lv_at hl 2 rfl) ?_
    refine lv_iload_n hx hb dJx4a65c_add_7a177_58 rfl (lv_at hl 1 rfl) ?_
    refine lv_iconst (v := 1) hx hb dJx4a65c_add_7a177_59 (by decide) ?_
    refine lv_iadd hx hb dJx4a65c_add_7a177_60 ?_
    refine lv_topi (fun z ez => ?_)
    obtain rfl : z = 1 := by rw [ez]; decide
    refine va_put (D := (dC, dI)) (ci := 18) (v := .int 1) (ty := .int) (C := RJx4a65c) (T := TJx4a65c) (N := 3) hx hb hts mem_PL_addAtX_1 tyJx4a65c tyJx4a65c_ok nmJx4a65c hown hK hP hD hS 0 rfl rfl 2 (by decide) (ow (k := 6) rfl) (fun _ h9 => h9) rfl (by decide +kernel) rfl rfl (by first | exact Nat.le_of_ble_eq_true rfl | exact (show 1 ≤ P.gc xl from (by omega)) | exact (show 10 ≤ P.gx xl from (by omega))) dJx4a65c_add_7a177_61 (fun H locs hP hD hS => ?_)
    have hP : va_P (dC, dI) vwQ ([(xl, .inr (18, [.int (zI (z_21)), .ref q_22, .int 1])), (q_22, .inl (cn_23, nn_24, .inr (.inr (.inr (.inr fo_27)))))] ++ va_pl Lp_20 (pE P)) H := hP
    have hD : va_D A ([(xl, .inr (18, [.int (zI (z_21)), .ref q_22, .int 1])), (q_22, .inl (cn_23, nn_24, .inr (.inr (.inr (.inr fo_27)))))] ++ va_pl Lp_20 (pE P)) := hD
    subst hQ
    have hIE : ELS Lp_20 P fo_27 := (by rw [← efo_27, ← efo_26]; exact ((els_none hgr.2 Lp_20 P).cpy (els_none hgr.2 Lp_20 P) _ _ _).put hX_y.1 hX_y.2)
    have hII : INSF (P.oa (P.le xl)) fo_27 (i) (P.lz xl) y := (by rw [← efo_27, ← efo_26, hX_z]; exact INSF.of (by omega) (by omega) (fun j h9 => absurd h9 (by omega)))
    obtain rfl : cO = cn_23 := cls_eq hK 0 1 rfl rfl
    have hP : va_P (dC, dI) vwQ ([(xl, .inr (18, [.int (zI (z_21)), .ref q_22, .int 1])), (q_22, .inl (cO, nn_24, .inr (.inr (.inr (.inr fo_27)))))] ++ va_pl Lp_20 (pE P)) H := hP
    have hD : va_D A ([(xl, .inr (18, [.int (zI (z_21)), .ref q_22, .int 1])), (q_22, .inl (cO, nn_24, .inr (.inr (.inr (.inr fo_27)))))] ++ va_pl Lp_20 (pE P)) := hD
    have hK := hK.sub (tys' := [(cO, .object "java/lang/Object")]) [0] rfl
    have hni1 := pl_notin (X := [(xl, .inr (18, [.int (zI (z_21)), .ref q_22, .int 1]))]) hD
    obtain ⟨Pa_28, ePa_28⟩ : ∃ q9 : PO, q9 = P.nr9 q_22 xl cO nn_24 (fo_27) := ⟨_, rfl⟩
    obtain ⟨hP, hD⟩ := pool_new (X := [(xl, .inr (18, [.int (zI (z_21)), .ref q_22, .int 1]))]) (P' := Pa_28) (by rw [ePa_28]; exact putnr _ _ _ _ _ _) hP hD
    have hP : va_P (dC, dI) vwQ ([(xl, .inr (18, [.int (zI (z_21)), .ref q_22, .int 1]))] ++ va_pl (q_22 :: Lp_20) (pE Pa_28)) H := hP
    have hD : va_D A ([(xl, .inr (18, [.int (zI (z_21)), .ref q_22, .int 1]))] ++ va_pl (q_22 :: Lp_20) (pE Pa_28)) := hD
    have hni2 := pl_notin (X := []) hD
    obtain ⟨Pb_29, ePb_29⟩ : ∃ q9 : PO, q9 = Pa_28.nl9 xl (z_21) q_22 (1) := ⟨_, rfl⟩
    obtain ⟨hP, hD⟩ := pool_new (X := []) (P' := Pb_29) (e := listE (z_21) q_22 (1)) (by rw [ePb_29]; exact putnl _ _ _ _ _) hP hD
    obtain ⟨Lq_30, eLq_30⟩ : ∃ l9 : List Nat, l9 = xl :: q_22 :: Lp_20 := ⟨_, rfl⟩
    rw [← eLq_30] at hP hD
    have hP : va_P (dC, dI) vwQ ([] ++ va_pl Lq_30 (pE Pb_29)) H := hP
    have hD : va_D A ([] ++ va_pl Lq_30 (pE Pb_29)) := hD
    have wG : GL1 xl q_22 L P Lq_30 Pb_29 := (by rw [eLq_30, ePb_29, ePa_28, hLe]; refine GL1.mk ?_ ?_ <;> (rw [hLe] at hni1 hni2; assumption))
    have wN : ∀ y : Nat, y ∈ Lp_20 → y ∈ Lq_30 ∧ SM9 y P Pb_29 := (fun y a => ⟨(by rw [eLq_30]; exact List.mem_cons_of_mem _ (List.mem_cons_of_mem _ a)), (by rw [ePb_29, ePa_28]; exact (SM9.at9 (fun (e : y = q_22) => hni1 (by rw [← e]; exact a))).trans (SM9.at9 (fun (e : y = xl) => hni2 (by rw [← e]; exact List.mem_cons_of_mem _ a))))⟩)
    have xq9 : xl ≠ q_22 := (fun e => hni2 (by rw [e]; exact List.mem_cons_self))
    have wZ : Pb_29.lz xl = 1 := (by rw [ePb_29]; simp [PO.nl9, PO.at9, PO.lz])
    have wF : Pb_29.oa q_22 = fo_27 := (by rw [ePb_29, ePa_28]; simp [PO.nl9, PO.nr9, PO.at9, PO.oa, Ne.symm xq9])
    have wA : Pb_29.an q_22 = nn_24 := (by rw [ePb_29, ePa_28]; simp [PO.nl9, PO.nr9, PO.at9, PO.an, Ne.symm xq9])
    have wC : Pb_29.ac q_22 = cO := (by rw [ePb_29, ePa_28]; simp [PO.nl9, PO.nr9, PO.at9, PO.ac, Ne.symm xq9])
    have wQ : Pb_29.le xl = q_22 := wG.1.2.2.2.1
    refine W.widen (k := (P.gc xl)) (n := (P.gx xl)) (by omega) (by omega) ?_
    exact W.vret hx hb hr (fun t ht hW => ⟨⟨(), rfl, trivial, Lq_30, Pb_29, ⟨(by rw [wQ]; exact wG), (by omega), (by rw [wQ]; exact wC), (by rw [wQ, wA]; omega), (by rw [wQ, wF]; exact ELS.grow (x := xl) (q := xl) hIE wN), (by rw [wQ, wF]; exact hII), Or.inr (by rw [hX_e]; exact hX_n)⟩, by rw [ht]; exact hP, va_K.moved hW.alike hK, hD⟩, hS.F ht⟩) hS.2.2 dJx4a65c_add_7a177_64
