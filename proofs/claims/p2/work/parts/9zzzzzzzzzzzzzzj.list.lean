def o_PL_addAX : List Cond := [.fieldLink RJx4a65c 63 "java/util/ArrayList" "modCount" "I", .sameField "java/util/ArrayList" "java/util/AbstractList" "modCount" "I", .fieldLink RJx4a65c 9 "java/util/ArrayList" "elementData" "[Ljava/lang/Object;", .fieldLink RJx4a65c 48 "java/util/ArrayList" "size" "I", .methodLink RJx4a65c 131 yJx4a65c_add_72be8, .instanceMethod yJx4a65c_add_72be8, .selects RJx4a65c yJx4a65c_add_72be8 yJx4a65c_add_72be8, .initialized RJx4a65c]
def v_PL_addAX : List Cond := .code yJx4a65c_add_9ea2d cJx4a65c_add_9ea2d 2 (some .boolean) :: (o_PL_addAX ++ (wsJx4a65c0 ++ (v_AL_add3X ++ (v_AL_add3e ++ []))))
theorem mow_PL_addAX : ∀ w ∈ o_PL_addAX, w ∈ v_PL_addAX := fun _ h => List.mem_cons_of_mem _ (List.mem_append_left _ h)
theorem mem_PL_addAX_0 : ∀ w ∈ wsJx4a65c0, w ∈ v_PL_addAX := fun _ h => List.mem_cons_of_mem _ (List.mem_append_right _ (List.mem_append_left _ h))
theorem mem_PL_addAX_1 : ∀ w ∈ v_AL_add3X, w ∈ v_PL_addAX := fun _ h => List.mem_cons_of_mem _ (List.mem_append_right _ (List.mem_append_right _ (List.mem_append_left _ h)))
theorem mem_PL_addAX_2 : ∀ w ∈ v_AL_add3e, w ∈ v_PL_addAX := fun _ h => List.mem_cons_of_mem _ (List.mem_append_right _ (List.mem_append_right _ (List.mem_append_right _ (List.mem_append_left _ h))))
set_option maxRecDepth 20000 in
theorem gw_PL_addAX : v_PL_addAX.all goodWord = true := by decide +kernel
set_option maxRecDepth 20000 in
theorem g_PL_addAX_AL_add3X : GoodIn v_PL_addAX (wsV RJx4a65c 131 RJx4a65c yJx4a65c_add_72be8 v_AL_add3X) := goodIn_app (goodIn_sub (fun w h => mow_PL_addAX w (by revert w h; decide +kernel)) (by decide +kernel)) (goodIn_sub mem_PL_addAX_1 gw_AL_add3X)
set_option maxRecDepth 20000 in
theorem g_PL_addAX_AL_add3e : GoodIn v_PL_addAX (wsV RJx4a65c 131 RJx4a65c yJx4a65c_add_72be8 v_AL_add3e) := goodIn_app (goodIn_sub (fun w h => mow_PL_addAX w (by revert w h; decide +kernel)) (by decide +kernel)) (goodIn_sub mem_PL_addAX_2 gw_AL_add3e)
set_option maxHeartbeats 4000000 in
set_option maxRecDepth 100000 in
theorem c_PL_addAX (l : Launch) (dC : Nat → ClassId) (dI : Nat → Nat → Nat) (cO : ClassId) (L : List Nat) (P : PO) (xl : Nat) (y : Nat) (sx_ed : Nat) (hX_x : xl ∈ L) (hX_k : P.kd xl = 30) (hNz : 0 ≤ P.lz xl ∧ P.lz xl ≤ 4164) (hX_c : ADC L P cO sx_ed xl) (hX_y : y ∈ L ∧ OBK (P.kd y)) (hX_v : LVC (P.cap xl)) (sz : Nat) (sx_mi : Nat) : Met l yJx4a65c_add_9ea2d v_PL_addAX ({ frames := 6, cells := (P.gc xl), slots := (P.gx xl), locals := 170 }) (va_Pc [.ref xl, .ref y] (fun U => U.heap.size = sz ∧ va_P (dC, dI) vwQ ([] ++ va_pl L (pE P)) U.heap ∧ va_K (dC, dI) vwQ [(cO, .object "java/lang/Object")] U ∧ va_D (fun _ => True) ([] ++ va_pl L (pE P)) ∧ va_Nw (.castable "SsaForgeModel$Row" "java/lang/Object") U ∧ va_Nw (.castable "SsaForgeModel$Phi" "java/lang/Object") U ∧ va_Nw (.castable "SsaForgeModel$Block" "java/lang/Object") U ∧ va_Dc U ∧ va_Mi "[Ljava/lang/Object;" sx_mi U ∧ va_AO "java/lang/Object" U ∧ va_T (.object "java/lang/Object") sx_ed 0 (fun _ => .null) (va_A ([] ++ va_pl L (pE P)) sz) U U.heap ∧ va_Z "java/util/ArrayList" "DEFAULTCAPACITY_EMPTY_ELEMENTDATA" "[Ljava/lang/Object;" (.ref sx_ed) (va_A ([] ++ va_pl L (pE P)) sz) U U.heap)) (va_Qi (fun (r : Int32) (zr : Int) => r = zI zr ∧ (zr = 1)) (fun (zr : Int) (t : State) => ∃ (Ln_9 : List Nat) (Pn_9 : PO), ((GL1 xl (Pn_9.le xl) L P Ln_9 Pn_9 ∧ Pn_9.lz xl = P.lz xl + 1 ∧ Pn_9.ac (Pn_9.le xl) = cO ∧ (P.lz xl + 1 ≤ (Pn_9.an (Pn_9.le xl) : Int) ∧ ((Pn_9.an (Pn_9.le xl) : Int) ≤ 10 ∨ 2 * (Pn_9.an (Pn_9.le xl) : Int) ≤ 3 * P.lz xl + 2 ∨ (P.fl xl = 1 ∧ Pn_9.an (Pn_9.le xl) = P.an (P.le xl))) ∧ (P.fl xl = 1 → (Pn_9.an (Pn_9.le xl) = P.an (P.le xl) ∧ P.lz xl ≠ P.an (P.le xl)) ∨ (P.lz xl = P.an (P.le xl) ∧ (Pn_9.an (Pn_9.le xl) : Int) = P.an (P.le xl) + (P.an (P.le xl) : Int) / 2)) ∧ (P.fl xl ≠ 1 → Pn_9.an (Pn_9.le xl) = 10)) ∧ ELS Ln_9 Pn_9 (Pn_9.oa (Pn_9.le xl)) ∧ Pn_9.oa (Pn_9.le xl) (P.lz xl).toNat = some y ∧ (∀ j : Nat, (j : Int) < P.lz xl → Pn_9.oa (Pn_9.le xl) j = P.oa (P.le xl) j) ∧ (P.fl xl = 1 ∨ P.le xl ∉ L))) ∧ va_P (dC, dI) vwQ ([] ++ va_pl Ln_9 (pE Pn_9)) t.heap ∧ va_K (dC, dI) vwQ [(cO, .object "java/lang/Object")] t ∧ va_D (va_A ([] ++ va_pl L (pE P)) sz) ([] ++ va_pl Ln_9 (pE Pn_9))) (va_A ([] ++ va_pl L (pE P)) sz)) (P.gc xl) (P.gx xl) (va_A ([] ++ va_pl L (pE P)) sz) := by
  refine Met.ofW (cc := cJx4a65c_add_9ea2d) (maxL := 2) (ret := (some .boolean)) (by decide) rfl ?_
  intro p e s m args below meth c s₁ B hml hv
  obtain ⟨rfl, hsz, hP, hK, hD0, hp0, hp1, hp2, hp3, hp4, hp5, hp6, hp7⟩ := hv
  have hx := B.exec
  have hb := B.bytes
  have hr := B.returns
  have hts := atoms_spec (ws := v_PL_addAX) B.pre
  have hown : s.vm.findClass RJx4a65c = some m.cls := findClass_of_methodNamed B.named
  have hlocks := B.notSynchronized
  have ow : ∀ {k : Nat} {w : Cond}, o_PL_addAX[k]? = some w → w.before ([.ref xl, .ref y] : List Value).toArray s = true := fun h => hts _ (mow_PL_addAX _ (List.mem_of_getElem? h))
  subst hsz
  have hD := hD0.self (sz := s.heap.size)
  generalize hAe : va_A ([] ++ va_pl L (pE P)) s.heap.size = A at hD hp5 hp6 hp7 ⊢
  have hA : ∀ q : Nat, s.heap.size ≤ q → A q := fun q h => by rw [← hAe]; exact Or.inr h
  have hS : va_S A s.heap s.heap [] := va_S.rf
  have hP : va_P (dC, dI) vwQ ([] ++ va_pl L (pE P)) s.heap := hP
  have hl := lv_entry ([.ref xl, .ref y]) (n := 2) (Nat.le_of_ble_eq_true rfl)
  rw [lg_entry_eq]
  generalize (lg_sl ([.ref xl, .ref y]) ++ List.replicate (2 - (lg_sl ([.ref xl, .ref y])).length) Slot.unset).toArray = ls at hl ⊢
  have hl : lv_has ls 2 [(0, .ref xl), (1, .ref y)] := hl
  obtain ⟨H, hH⟩ : ∃ H, H = s.heap := ⟨_, rfl⟩
  rw [← hH] at hP
  have hS : va_S A s.heap H [] := by rw [hH]; exact hS
  rw [← hH]
  refine zW_cap (fun Q hQ => ?_)
  have hgp := P.gx_spec xl
  have hgs := groX_spec (P.lz xl) (P.an (P.le xl))
  have hgc := groC_spec (P.lz xl) (P.an (P.le xl))
  unfold ADC at hX_c
  rcases hX_c with hX_c | hX_c
  · skip
    obtain ⟨hfl, hX_q, hX_s, hNi⟩ := hX_c
    have hX_y0 := hX_y
    have hten := LVC.ten hX_v hfl (by omega)
    obtain ⟨hP, hD⟩ := pool_out (X := []) hX_x (pE_list hX_k) hP hD
    obtain ⟨Lp_1, eLp_1⟩ : ∃ l9 : List Nat, l9 = L.erase xl := ⟨_, rfl⟩
    rw [← eLp_1] at hP hD
    obtain ⟨qr, eqr⟩ : ∃ q9 : Nat, q9 = P.le xl := ⟨_, rfl⟩
    rw [← eqr] at hP hD
    have hP : va_P (dC, dI) vwQ ([(xl, .inr (18, [.int (zI (P.lm xl)), .ref qr, .int (zI (P.lz xl))]))] ++ va_pl Lp_1 (pE P)) H := hP
    have hD : va_D A ([(xl, .inr (18, [.int (zI (P.lm xl)), .ref qr, .int (zI (P.lz xl))]))] ++ va_pl Lp_1 (pE P)) := hD
    have hq1 : qr ∈ L ∧ P.kd qr = 31 ∧ P.ac qr = cO := (by rw [eqr]; exact hX_q)
    have hq2 : qr ∈ Lp_1 := (by rw [eLp_1]; exact mem_er hq1.1 (kd_ne hq1.2.1 hX_k (by decide)))
    obtain ⟨hP, hD⟩ := pool_out (X := [(xl, .inr (18, [.int (zI (P.lm xl)), .ref qr, .int (zI (P.lz xl))]))]) hq2 (pE_obj hq1.2.1) hP hD
    obtain ⟨Lp_2, eLp_2⟩ : ∃ l9 : List Nat, l9 = Lp_1.erase qr := ⟨_, rfl⟩
    rw [← eLp_2] at hP hD
    rw [hq1.2.2] at hP hD
    obtain ⟨nr, enr⟩ : ∃ q9 : Nat, q9 = P.an qr := ⟨_, rfl⟩
    rw [← enr] at hP hD
    obtain ⟨fr, efr⟩ : ∃ q9 : Nat → Option Nat, q9 = P.oa qr := ⟨_, rfl⟩
    rw [← efr] at hP hD
    have hP : va_P (dC, dI) vwQ ([(xl, .inr (18, [.int (zI (P.lm xl)), .ref qr, .int (zI (P.lz xl))])), (qr, .inl (cO, nr, .inr (.inr (.inr (.inr fr)))))] ++ va_pl Lp_2 (pE P)) H := hP
    have hD : va_D A ([(xl, .inr (18, [.int (zI (P.lm xl)), .ref qr, .int (zI (P.lz xl))])), (qr, .inl (cO, nr, .inr (.inr (.inr (.inr fr)))))] ++ va_pl Lp_2 (pE P)) := hD
    have hnr : (nr : Int) = P.an (P.le xl) := (by rw [enr, eqr])
    have hX_el : ELS Lp_2 P fr := (by rw [eLp_2, eLp_1, efr, eqr]; rw [eqr] at hq1; exact (hX_s.er (nobk30 hX_k)).er (nobk31 hq1.2.1))
    have hX_y2 : y ∈ Lp_2 ∧ OBK (P.kd y) := ⟨(by rw [eLp_2, eLp_1]; exact obk_er (obk_er hX_y.1 hX_y.2 (nobk30 hX_k)) hX_y.2 (nobk31 hq1.2.1)), hX_y.2⟩
    have hX_y := hX_y2
    refine lv_aload_n hx hb dJx4a65c_add_9ea2d_0 rfl (lv_at hl 0 rfl) ?_
    refine lv_dup hx hb dJx4a65c_add_9ea2d_1 rfl ?_
    refine va_get (D := (dC, dI)) (ci := 18) (v := .int (zI (P.lm xl))) (C := RJx4a65c) (T := TJx4a65c) (N := 3) hx hb hts mem_PL_addAX_0 hown hK hP 0 rfl rfl 0 (by decide) (ow (k := 0) rfl) (fun x9 h9 => u_same (ow (k := 1) rfl) x9 h9) rfl dJx4a65c_add_9ea2d_2 ?_
    refine lv_iconst (v := 1) hx hb dJx4a65c_add_9ea2d_5 (by decide) ?_
    refine lv_iadd hx hb dJx4a65c_add_9ea2d_6 ?_
    refine lv_topi (fun z ez => ?_)
    obtain rfl : z = zI ((P.lm xl) + 1) := ez.trans (zI_add (P.lm xl) (1))
    refine va_put (D := (dC, dI)) (ci := 18) (v := .int (zI ((P.lm xl) + 1))) (ty := .int) (C := RJx4a65c) (T := TJx4a65c) (N := 3) hx hb hts mem_PL_addAX_0 tyJx4a65c tyJx4a65c_ok nmJx4a65c hown hK hP hD hS 0 rfl rfl 0 (by decide) (ow (k := 0) rfl) (fun x9 h9 => u_same (ow (k := 1) rfl) x9 h9) rfl (by decide +kernel) rfl rfl (by first | exact Nat.le_of_ble_eq_true rfl | exact (show 0 ≤ P.gc xl from (by omega)) | exact (show 0 ≤ P.gx xl from (by omega))) dJx4a65c_add_9ea2d_7 (fun H locs hP hD hS => ?_)
    have hP : va_P (dC, dI) vwQ ([(xl, .inr (18, [.int (zI ((P.lm xl) + 1)), .ref qr, .int (zI (P.lz xl))])), (qr, .inl (cO, nr, .inr (.inr (.inr (.inr fr)))))] ++ va_pl Lp_2 (pE P)) H := hP
    have hD : va_D A ([(xl, .inr (18, [.int (zI ((P.lm xl) + 1)), .ref qr, .int (zI (P.lz xl))])), (qr, .inl (cO, nr, .inr (.inr (.inr (.inr fr)))))] ++ va_pl Lp_2 (pE P)) := hD
    obtain ⟨z_3, ez_3⟩ : ∃ z9 : Int, z9 = (P.lm xl) + 1 := ⟨_, rfl⟩
    rw [← ez_3] at hP hD
    have hP : va_P (dC, dI) vwQ ([(xl, .inr (18, [.int (zI (z_3)), .ref qr, .int (zI (P.lz xl))])), (qr, .inl (cO, nr, .inr (.inr (.inr (.inr fr)))))] ++ va_pl Lp_2 (pE P)) H := hP
    have hD : va_D A ([(xl, .inr (18, [.int (zI (z_3)), .ref qr, .int (zI (P.lz xl))])), (qr, .inl (cO, nr, .inr (.inr (.inr (.inr fr)))))] ++ va_pl Lp_2 (pE P)) := hD
    refine lv_aload_n hx hb dJx4a65c_add_9ea2d_10 rfl (lv_at hl 0 rfl) ?_
    refine lv_aload_n hx hb dJx4a65c_add_9ea2d_11 rfl (lv_at hl 1 rfl) ?_
    refine lv_aload_n hx hb dJx4a65c_add_9ea2d_12 rfl (lv_at hl 0 rfl) ?_
    refine va_get (D := (dC, dI)) (ci := 18) (v := .ref qr) (C := RJx4a65c) (T := TJx4a65c) (N := 3) hx hb hts mem_PL_addAX_0 hown hK hP 0 rfl rfl 1 (by decide) (ow (k := 2) rfl) (fun _ h9 => h9) rfl dJx4a65c_add_9ea2d_13 ?_
    refine lv_aload_n hx hb dJx4a65c_add_9ea2d_16 rfl (lv_at hl 0 rfl) ?_
    refine va_get (D := (dC, dI)) (ci := 18) (v := .int (zI (P.lz xl))) (C := RJx4a65c) (T := TJx4a65c) (N := 3) hx hb hts mem_PL_addAX_0 hown hK hP 0 rfl rfl 2 (by decide) (ow (k := 3) rfl) (fun _ h9 => h9) rfl dJx4a65c_add_9ea2d_17 ?_
    have hPc := hP.part (X := [(xl, .inr (18, [.int (zI (z_3)), .ref qr, .int (zI (P.lz xl))])), (qr, .inl (cO, nr, .inr (.inr (.inr (.inr fr)))))]) (cx := [(xl, .inr (18, [.int (zI (z_3)), .ref qr, .int (zI (P.lz xl))])), (qr, .inl (cO, nr, .inr (.inr (.inr (.inr fr)))))]) (pl := va_pl Lp_2 (pE P)) [0, 1] rfl
    have hDc := hD.part (X := [(xl, .inr (18, [.int (zI (z_3)), .ref qr, .int (zI (P.lz xl))])), (qr, .inl (cO, nr, .inr (.inr (.inr (.inr fr)))))]) (cx := [(xl, .inr (18, [.int (zI (z_3)), .ref qr, .int (zI (P.lz xl))])), (qr, .inl (cO, nr, .inr (.inr (.inr (.inr fr)))))]) (pl := va_pl Lp_2 (pE P)) [0, 1] (by decide) rfl
    have hKc := hK.sub (tys' := [(cO, .object "java/lang/Object")]) [0] rfl
    have hFc := va_freeP (X := [(xl, .inr (18, [.int (zI (z_3)), .ref qr, .int (zI (P.lz xl))])), (qr, .inl (cO, nr, .inr (.inr (.inr (.inr fr)))))]) (cx := [(xl, .inr (18, [.int (zI (z_3)), .ref qr, .int (zI (P.lz xl))])), (qr, .inl (cO, nr, .inr (.inr (.inr (.inr fr)))))]) (pl := va_pl Lp_2 (pE P)) hD hS hA [0, 1] rfl
    have hgs := groX_spec (P.lz xl) (nr : Int)
    have hgc := groC_spec (P.lz xl) (nr : Int)
    refine va_callv (va_runV (As := [.ref y, .ref qr, .int (zI (P.lz xl))]) (rest := []) ⟨hx, hb, hml, hown, hts⟩ (c_AL_add3X l dC dI xl ((zI (z_3))) (P.lz xl) qr cO nr fr Lp_2 P y (by omega) (by omega) (by omega) hX_el hX_y H.size sx_mi) (cwV 3 hts g_PL_addAX_AL_add3X rfl rfl rfl (by decide +kernel) ⟨(Nat.le_of_ble_eq_true rfl), (Nat.le_of_ble_eq_true rfl)⟩) ⟨fun a U g mk q => by obtain ⟨q0, q1, qP, qK, qD, e0, e1, e2, e3, e4, e5⟩ := q; exact ⟨q0, q1, qP, va_K.moved (u := U) (U := U.calling g mk a) (Vm.Alike.refl U.vm) qK, qD, va_Nw.same rfl (u := U) (U := U.calling g mk a) rfl e0, va_Nw.same rfl (u := U) (U := U.calling g mk a) rfl e1, va_Nw.same rfl (u := U) (U := U.calling g mk a) rfl e2, va_Dc.moved (u := U) (U := U.calling g mk a) (Vm.Alike.refl U.vm) e3, va_Mi.moved (u := U) (U := U.calling g mk a) (Vm.Alike.refl U.vm) e4, va_AO.moved (u := U) (U := U.calling g mk a) (Vm.Alike.refl U.vm) e5⟩, va_recv hKc hPc (ci := 18) (q0 := 0) rfl rfl, fun U hU hW => ⟨rfl, by rw [hU], by rw [hU]; exact hPc, va_K.moved hW.alike hKc, hDc.weaken (fun _ _ _ _ => trivial), va_Nw.warmC hW hp0, va_Nw.warmC hW hp1, va_Nw.warmC hW hp2, va_Dc.moved hW.alike hp3, va_Mi.moved hW.alike hp4, va_AO.moved hW.alike hp5⟩⟩ rfl rfl hl.1 rfl (lv_room (Nat.le_of_ble_eq_true rfl)) dJx4a65c_add_9ea2d_20 ⟨(show 0 + (groC (P.lz xl) (nr : Int)) ≤ P.gc xl from (by omega)), (show 0 + (groX (P.lz xl) (nr : Int)) ≤ P.gx xl from (by omega))⟩) hS (fun q _ h => hFc q h) hFc (fun  u t H1 locs ht hvm hw hB hz1 hk1 hS => ?_)
    obtain ⟨z0_4, qn_5, cn_6, nn_7, fn_8, hxt_8, hP1, hK1, hD1⟩ := hB
    rw [ht] at hP1
    have hK1 := va_K.moved hvm.symm hK1
    obtain ⟨hP, hD⟩ := va_joinP (X := [(xl, .inr (18, [.int (zI (z_3)), .ref qr, .int (zI (P.lz xl))])), (qr, .inl (cO, nr, .inr (.inr (.inr (.inr fr)))))]) (cx := [(xl, .inr (18, [.int (zI (z_3)), .ref qr, .int (zI (P.lz xl))])), (qr, .inl (cO, nr, .inr (.inr (.inr (.inr fr)))))]) (wr := []) (rx := [(xl, .inr (18, [.int (zI (z_3)), .ref qn_5, .int (zI (z0_4))])), (qn_5, .inl (cn_6, nn_7, .inr (.inr (.inr (.inr fn_8)))))]) (pl := va_pl Lp_2 (pE P)) (pl1 := va_pl Lp_2 (pE P)) hP hD [0, 1] [] rfl rfl (by decide) (by decide) hk1 hFc hP1 hD1
    have hK := (hK.sub (tys' := [(cO, .object "java/lang/Object")]) [0] rfl).app hK1
    generalize H1 = H at hP hS ⊢
    have hP : va_P (dC, dI) vwQ ([(xl, .inr (18, [.int (zI (z_3)), .ref qn_5, .int (zI (z0_4))])), (qn_5, .inl (cn_6, nn_7, .inr (.inr (.inr (.inr fn_8)))))] ++ va_pl Lp_2 (pE P)) H := hP
    have hD : va_D A ([(xl, .inr (18, [.int (zI (z_3)), .ref qn_5, .int (zI (z0_4))])), (qn_5, .inl (cn_6, nn_7, .inr (.inr (.inr (.inr fn_8)))))] ++ va_pl Lp_2 (pE P)) := hD
    have hK : va_K (dC, dI) vwQ [(cO, .object "java/lang/Object"), (cn_6, .object "java/lang/Object")] s := hK
    refine W.widen (k := (0 + (groC (P.lz xl) (nr : Int)))) (n := (0 + (groX (P.lz xl) (nr : Int)))) (by omega) (by omega) ?_
    obtain ⟨rk_9, hu_9⟩ := hxt_8
    refine lv_iconst (v := 1) hx hb dJx4a65c_add_9ea2d_23 (by decide) ?_
    subst hQ
    have hgr9 := hu_9
    obtain rfl : cO = cn_6 := cls_eq hK 0 1 rfl rfl
    have hP : va_P (dC, dI) vwQ ([(xl, .inr (18, [.int (zI (z_3)), .ref qn_5, .int (zI (z0_4))])), (qn_5, .inl (cO, nn_7, .inr (.inr (.inr (.inr fn_8)))))] ++ va_pl Lp_2 (pE P)) H := hP
    have hD : va_D A ([(xl, .inr (18, [.int (zI (z_3)), .ref qn_5, .int (zI (z0_4))])), (qn_5, .inl (cO, nn_7, .inr (.inr (.inr (.inr fn_8)))))] ++ va_pl Lp_2 (pE P)) := hD
    have hK := hK.sub (tys' := [(cO, .object "java/lang/Object")]) [0] rfl
    have hni1 := pl_notin (X := [(xl, .inr (18, [.int (zI (z_3)), .ref qn_5, .int (zI (z0_4))]))]) hD
    obtain ⟨Pa_10, ePa_10⟩ : ∃ q9 : PO, q9 = P.nr9 qn_5 xl cO nn_7 (fn_8) := ⟨_, rfl⟩
    obtain ⟨hP, hD⟩ := pool_new (X := [(xl, .inr (18, [.int (zI (z_3)), .ref qn_5, .int (zI (z0_4))]))]) (P' := Pa_10) (by rw [ePa_10]; exact putnr _ _ _ _ _ _) hP hD
    have hP : va_P (dC, dI) vwQ ([(xl, .inr (18, [.int (zI (z_3)), .ref qn_5, .int (zI (z0_4))]))] ++ va_pl (qn_5 :: Lp_2) (pE Pa_10)) H := hP
    have hD : va_D A ([(xl, .inr (18, [.int (zI (z_3)), .ref qn_5, .int (zI (z0_4))]))] ++ va_pl (qn_5 :: Lp_2) (pE Pa_10)) := hD
    have hni2 := pl_notin (X := []) hD
    obtain ⟨Pb_11, ePb_11⟩ : ∃ q9 : PO, q9 = Pa_10.nl9 xl (z_3) qn_5 (z0_4) := ⟨_, rfl⟩
    obtain ⟨hP, hD⟩ := pool_new (X := []) (P' := Pb_11) (e := listE (z_3) qn_5 (z0_4)) (by rw [ePb_11]; exact putnl _ _ _ _ _) hP hD
    obtain ⟨Lq_12, eLq_12⟩ : ∃ l9 : List Nat, l9 = xl :: qn_5 :: Lp_2 := ⟨_, rfl⟩
    rw [← eLq_12] at hP hD
    have hP : va_P (dC, dI) vwQ ([] ++ va_pl Lq_12 (pE Pb_11)) H := hP
    have hD : va_D A ([] ++ va_pl Lq_12 (pE Pb_11)) := hD
    have wG : GL1 xl qn_5 L P Lq_12 Pb_11 := (by rw [eLq_12, ePb_11, ePa_10, eLp_2, eLp_1, eqr]; refine GL1.mk ?_ ?_ <;> (rw [eLp_2, eLp_1, eqr] at hni1 hni2; assumption))
    have wN : ∀ y : Nat, y ∈ Lp_2 → y ∈ Lq_12 ∧ SM9 y P Pb_11 := (fun y a => ⟨(by rw [eLq_12]; exact List.mem_cons_of_mem _ (List.mem_cons_of_mem _ a)), (by rw [ePb_11, ePa_10]; exact (SM9.at9 (fun (e : y = qn_5) => hni1 (by rw [← e]; exact a))).trans (SM9.at9 (fun (e : y = xl) => hni2 (by rw [← e]; exact List.mem_cons_of_mem _ a))))⟩)
    have xq9 : xl ≠ qn_5 := (fun e => hni2 (by rw [e]; exact List.mem_cons_self))
    have wZ : Pb_11.lz xl = z0_4 := (by rw [ePb_11]; simp [PO.nl9, PO.at9, PO.lz])
    have wF : Pb_11.oa qn_5 = fn_8 := (by rw [ePb_11, ePa_10]; simp [PO.nl9, PO.nr9, PO.at9, PO.oa, Ne.symm xq9])
    have wA : Pb_11.an qn_5 = nn_7 := (by rw [ePb_11, ePa_10]; simp [PO.nl9, PO.nr9, PO.at9, PO.an, Ne.symm xq9])
    have wC : Pb_11.ac qn_5 = cO := (by rw [ePb_11, ePa_10]; simp [PO.nl9, PO.nr9, PO.at9, PO.ac, Ne.symm xq9])
    have wQ : Pb_11.le xl = qn_5 := wG.1.2.2.2.1
    refine W.widen (k := (P.gc xl)) (n := (P.gx xl)) (by omega) (by omega) ?_
    exact W.zret (v := 1) hx hb hr (by decide) (fun t ht hW => ⟨⟨1, (1), rfl, ⟨rfl, (by omega)⟩, Lq_12, Pb_11, ⟨(by rw [wQ]; exact wG), (by omega), (by rw [wQ]; exact wC), (by rw [wQ, wA]; omega), (by rw [wQ, wF]; exact ELS.grow (x := xl) (q := xl) hgr9.2.2.1 wN), (by rw [wQ, wF]; exact hgr9.2.2.2.1), (fun j a => by rw [wQ, wF, ← eqr, ← efr]; exact hgr9.2.2.2.2 j a), Or.inl hfl⟩, by rw [ht]; exact hP, va_K.moved hW.alike hK, hD⟩, hS.F ht⟩) hS.2.2 dJx4a65c_add_9ea2d_24
  · skip
    obtain ⟨hfl, hX_z, hX_e⟩ := hX_c
    have hX_n : sx_ed ∉ L := (by first | exact va_T_notin hp0 hD | exact va_T_notin hp1 hD | exact va_T_notin hp2 hD | exact va_T_notin hp3 hD | exact va_T_notin hp4 hD | exact va_T_notin hp5 hD | exact va_T_notin hp6 hD | exact va_T_notin hp7 hD | exact va_T_notin hp8 hD | exact va_T_notin hp9 hD | exact va_T_notin hp10 hD | exact va_T_notin hp11 hD)
    obtain ⟨hP, hD⟩ := pool_out (X := []) hX_x (pE_list hX_k) hP hD
    obtain ⟨Lp_13, eLp_13⟩ : ∃ l9 : List Nat, l9 = L.erase xl := ⟨_, rfl⟩
    rw [← eLp_13, hX_z, hX_e] at hP hD
    have hP : va_P (dC, dI) vwQ ([(xl, .inr (18, [.int (zI (P.lm xl)), .ref sx_ed, .int 0]))] ++ va_pl Lp_13 (pE P)) H := hP
    have hD : va_D A ([(xl, .inr (18, [.int (zI (P.lm xl)), .ref sx_ed, .int 0]))] ++ va_pl Lp_13 (pE P)) := hD
    have hX_y2 : y ∈ Lp_13 ∧ OBK (P.kd y) := ⟨(by rw [eLp_13]; exact obk_er hX_y.1 hX_y.2 (nobk30 hX_k)), hX_y.2⟩
    have hX_y := hX_y2
    have eqr : sx_ed = P.le xl := hX_e.symm
    have hLe : Lp_13 = (L.erase xl).erase (P.le xl) := (by rw [eLp_13, hX_e]; exact (List.erase_of_not_mem (fun h => hX_n (List.mem_of_mem_erase h))).symm)
    refine lv_aload_n hx hb dJx4a65c_add_9ea2d_0 rfl (lv_at hl 0 rfl) ?_
    refine lv_dup hx hb dJx4a65c_add_9ea2d_1 rfl ?_
    refine va_get (D := (dC, dI)) (ci := 18) (v := .int (zI (P.lm xl))) (C := RJx4a65c) (T := TJx4a65c) (N := 3) hx hb hts mem_PL_addAX_0 hown hK hP 0 rfl rfl 0 (by decide) (ow (k := 0) rfl) (fun x9 h9 => u_same (ow (k := 1) rfl) x9 h9) rfl dJx4a65c_add_9ea2d_2 ?_
    refine lv_iconst (v := 1) hx hb dJx4a65c_add_9ea2d_5 (by decide) ?_
    refine lv_iadd hx hb dJx4a65c_add_9ea2d_6 ?_
    refine lv_topi (fun z ez => ?_)
    obtain rfl : z = zI ((P.lm xl) + 1) := ez.trans (zI_add (P.lm xl) (1))
    refine va_put (D := (dC, dI)) (ci := 18) (v := .int (zI ((P.lm xl) + 1))) (ty := .int) (C := RJx4a65c) (T := TJx4a65c) (N := 3) hx hb hts mem_PL_addAX_0 tyJx4a65c tyJx4a65c_ok nmJx4a65c hown hK hP hD hS 0 rfl rfl 0 (by decide) (ow (k := 0) rfl) (fun x9 h9 => u_same (ow (k := 1) rfl) x9 h9) rfl (by decide +kernel) rfl rfl (by first | exact Nat.le_of_ble_eq_true rfl | exact (show 0 ≤ P.gc xl from (by omega)) | exact (show 0 ≤ P.gx xl from (by omega))) dJx4a65c_add_9ea2d_7 (fun H locs hP hD hS => ?_)
    have hP : va_P (dC, dI) vwQ ([(xl, .inr (18, [.int (zI ((P.lm xl) + 1)), .ref sx_ed, .int 0]))] ++ va_pl Lp_13 (pE P)) H := hP
    have hD : va_D A ([(xl, .inr (18, [.int (zI ((P.lm xl) + 1)), .ref sx_ed, .int 0]))] ++ va_pl Lp_13 (pE P)) := hD
    obtain ⟨z_14, ez_14⟩ : ∃ z9 : Int, z9 = (P.lm xl) + 1 := ⟨_, rfl⟩
    rw [← ez_14] at hP hD
    have hP : va_P (dC, dI) vwQ ([(xl, .inr (18, [.int (zI (z_14)), .ref sx_ed, .int 0]))] ++ va_pl Lp_13 (pE P)) H := hP
    have hD : va_D A ([(xl, .inr (18, [.int (zI (z_14)), .ref sx_ed, .int 0]))] ++ va_pl Lp_13 (pE P)) := hD
    refine lv_aload_n hx hb dJx4a65c_add_9ea2d_10 rfl (lv_at hl 0 rfl) ?_
    refine lv_aload_n hx hb dJx4a65c_add_9ea2d_11 rfl (lv_at hl 1 rfl) ?_
    refine lv_aload_n hx hb dJx4a65c_add_9ea2d_12 rfl (lv_at hl 0 rfl) ?_
    refine va_get (D := (dC, dI)) (ci := 18) (v := .ref sx_ed) (C := RJx4a65c) (T := TJx4a65c) (N := 3) hx hb hts mem_PL_addAX_0 hown hK hP 0 rfl rfl 1 (by decide) (ow (k := 2) rfl) (fun _ h9 => h9) rfl dJx4a65c_add_9ea2d_13 ?_
    refine lv_aload_n hx hb dJx4a65c_add_9ea2d_16 rfl (lv_at hl 0 rfl) ?_
    refine va_get (D := (dC, dI)) (ci := 18) (v := .int 0) (C := RJx4a65c) (T := TJx4a65c) (N := 3) hx hb hts mem_PL_addAX_0 hown hK hP 0 rfl rfl 2 (by decide) (ow (k := 3) rfl) (fun _ h9 => h9) rfl dJx4a65c_add_9ea2d_17 ?_
    have hPc := hP.part (X := [(xl, .inr (18, [.int (zI (z_14)), .ref sx_ed, .int 0]))]) (cx := [(xl, .inr (18, [.int (zI (z_14)), .ref sx_ed, .int 0]))]) (pl := va_pl Lp_13 (pE P)) [0] rfl
    have hDc := hD.part (X := [(xl, .inr (18, [.int (zI (z_14)), .ref sx_ed, .int 0]))]) (cx := [(xl, .inr (18, [.int (zI (z_14)), .ref sx_ed, .int 0]))]) (pl := va_pl Lp_13 (pE P)) [0] (by decide) rfl
    have hKc := hK.sub (tys' := []) [] rfl
    have hFc := va_freeP (X := [(xl, .inr (18, [.int (zI (z_14)), .ref sx_ed, .int 0]))]) (cx := [(xl, .inr (18, [.int (zI (z_14)), .ref sx_ed, .int 0]))]) (pl := va_pl Lp_13 (pE P)) hD hS hA [0] rfl
    refine va_callv (va_runV (As := [.ref y, .ref sx_ed, .int 0]) (rest := []) ⟨hx, hb, hml, hown, hts⟩ (c_AL_add3e l dC dI xl ((zI (z_14))) sx_ed Lp_13 P y hX_y H.size) (cwV 3 hts g_PL_addAX_AL_add3e rfl rfl rfl (by decide +kernel) ⟨(Nat.le_of_ble_eq_true rfl), (Nat.le_of_ble_eq_true rfl)⟩) ⟨fun a U g mk q => by obtain ⟨q0, q1, qP, qK, qD, e0, e1, e2, e3, e4, e5⟩ := q; exact ⟨q0, q1, qP, va_K.moved (u := U) (U := U.calling g mk a) (Vm.Alike.refl U.vm) qK, qD, va_T.moved (u := U) (U := U.calling g mk a) (Vm.Alike.refl U.vm) e0, va_Z.moved (u := U) (U := U.calling g mk a) (Vm.Alike.refl U.vm) e1, va_AO.moved (u := U) (U := U.calling g mk a) (Vm.Alike.refl U.vm) e2, va_Nw.same rfl (u := U) (U := U.calling g mk a) rfl e3, va_Nw.same rfl (u := U) (U := U.calling g mk a) rfl e4, va_Nw.same rfl (u := U) (U := U.calling g mk a) rfl e5⟩, va_recv hKc hPc (ci := 18) (q0 := 0) rfl rfl, fun U hU hW => ⟨rfl, by rw [hU], by rw [hU]; exact hPc, va_K.moved hW.alike hKc, hDc.weaken (fun _ _ _ _ => trivial), by rw [hU]; exact va_T.narrow (va_T.moved hW.alike (va_T.kept hp6 hS.2.1)) hFc, by rw [hU]; exact va_Z.narrow (va_Z.moved hW.alike (va_Z.kept hp7 hS.2.1)) hFc, va_AO.moved hW.alike hp5, va_Nw.warmC hW hp0, va_Nw.warmC hW hp1, va_Nw.warmC hW hp2⟩⟩ rfl rfl hl.1 rfl (lv_room (Nat.le_of_ble_eq_true rfl)) dJx4a65c_add_9ea2d_20 ⟨(show 0 + 1 ≤ P.gc xl from (by omega)), (show 0 + 10 ≤ P.gx xl from (by omega))⟩) hS (fun q _ h => hFc q h) hFc (fun  u t H1 locs ht hvm hw hB hz1 hk1 hS => ?_)
    obtain ⟨z0_15, qn_16, cn_17, nn_18, fn_19, hxt_19, hP1, hK1, hD1⟩ := hB
    rw [ht] at hP1
    have hK1 := va_K.moved hvm.symm hK1
    obtain ⟨hP, hD⟩ := va_joinP (X := [(xl, .inr (18, [.int (zI (z_14)), .ref sx_ed, .int 0]))]) (cx := [(xl, .inr (18, [.int (zI (z_14)), .ref sx_ed, .int 0]))]) (wr := []) (rx := [(xl, .inr (18, [.int (zI (z_14)), .ref qn_16, .int (zI (z0_15))])), (qn_16, .inl (cn_17, nn_18, .inr (.inr (.inr (.inr fn_19)))))]) (pl := va_pl Lp_13 (pE P)) (pl1 := va_pl Lp_13 (pE P)) hP hD [0] [] rfl rfl (by decide) (by decide) hk1 hFc hP1 hD1
    have hK := (hK.sub (tys' := [(cO, .object "java/lang/Object")]) [0] rfl).app hK1
    generalize H1 = H at hP hS ⊢
    have hP : va_P (dC, dI) vwQ ([(xl, .inr (18, [.int (zI (z_14)), .ref qn_16, .int (zI (z0_15))])), (qn_16, .inl (cn_17, nn_18, .inr (.inr (.inr (.inr fn_19)))))] ++ va_pl Lp_13 (pE P)) H := hP
    have hD : va_D A ([(xl, .inr (18, [.int (zI (z_14)), .ref qn_16, .int (zI (z0_15))])), (qn_16, .inl (cn_17, nn_18, .inr (.inr (.inr (.inr fn_19)))))] ++ va_pl Lp_13 (pE P)) := hD
    have hK : va_K (dC, dI) vwQ [(cO, .object "java/lang/Object"), (cn_17, .object "java/lang/Object")] s := hK
    refine W.widen (k := 1) (n := 10) (Nat.le_of_ble_eq_true rfl) (Nat.le_of_ble_eq_true rfl) ?_
    obtain ⟨rk_20, hu_20⟩ := hxt_19
    refine lv_iconst (v := 1) hx hb dJx4a65c_add_9ea2d_23 (by decide) ?_
    subst hQ
    have hgr9 := hu_20
    obtain rfl : cO = cn_17 := cls_eq hK 0 1 rfl rfl
    have hP : va_P (dC, dI) vwQ ([(xl, .inr (18, [.int (zI (z_14)), .ref qn_16, .int (zI (z0_15))])), (qn_16, .inl (cO, nn_18, .inr (.inr (.inr (.inr fn_19)))))] ++ va_pl Lp_13 (pE P)) H := hP
    have hD : va_D A ([(xl, .inr (18, [.int (zI (z_14)), .ref qn_16, .int (zI (z0_15))])), (qn_16, .inl (cO, nn_18, .inr (.inr (.inr (.inr fn_19)))))] ++ va_pl Lp_13 (pE P)) := hD
    have hK := hK.sub (tys' := [(cO, .object "java/lang/Object")]) [0] rfl
    have hni1 := pl_notin (X := [(xl, .inr (18, [.int (zI (z_14)), .ref qn_16, .int (zI (z0_15))]))]) hD
    obtain ⟨Pa_21, ePa_21⟩ : ∃ q9 : PO, q9 = P.nr9 qn_16 xl cO nn_18 (fn_19) := ⟨_, rfl⟩
    obtain ⟨hP, hD⟩ := pool_new (X := [(xl, .inr (18, [.int (zI (z_14)), .ref qn_16, .int (zI (z0_15))]))]) (P' := Pa_21) (by rw [ePa_21]; exact putnr _ _ _ _ _ _) hP hD
    have hP : va_P (dC, dI) vwQ ([(xl, .inr (18, [.int (zI (z_14)), .ref qn_16, .int (zI (z0_15))]))] ++ va_pl (qn_16 :: Lp_13) (pE Pa_21)) H := hP
    have hD : va_D A ([(xl, .inr (18, [.int (zI (z_14)), .ref qn_16, .int (zI (z0_15))]))] ++ va_pl (qn_16 :: Lp_13) (pE Pa_21)) := hD
    have hni2 := pl_notin (X := []) hD
    obtain ⟨Pb_22, ePb_22⟩ : ∃ q9 : PO, q9 = Pa_21.nl9 xl (z_14) qn_16 (z0_15) := ⟨_, rfl⟩
    obtain ⟨hP, hD⟩ := pool_new (X := []) (P' := Pb_22) (e := listE (z_14) qn_16 (z0_15)) (by rw [ePb_22]; exact putnl _ _ _ _ _) hP hD
    obtain ⟨Lq_23, eLq_23⟩ : ∃ l9 : List Nat, l9 = xl :: qn_16 :: Lp_13 := ⟨_, rfl⟩
    rw [← eLq_23] at hP hD
    have hP : va_P (dC, dI) vwQ ([] ++ va_pl Lq_23 (pE Pb_22)) H := hP
    have hD : va_D A ([] ++ va_pl Lq_23 (pE Pb_22)) := hD
    have wG : GL1 xl qn_16 L P Lq_23 Pb_22 := (by rw [eLq_23, ePb_22, ePa_21, hLe]; refine GL1.mk ?_ ?_ <;> (rw [hLe] at hni1 hni2; assumption))
    have wN : ∀ y : Nat, y ∈ Lp_13 → y ∈ Lq_23 ∧ SM9 y P Pb_22 := (fun y a => ⟨(by rw [eLq_23]; exact List.mem_cons_of_mem _ (List.mem_cons_of_mem _ a)), (by rw [ePb_22, ePa_21]; exact (SM9.at9 (fun (e : y = qn_16) => hni1 (by rw [← e]; exact a))).trans (SM9.at9 (fun (e : y = xl) => hni2 (by rw [← e]; exact List.mem_cons_of_mem _ a))))⟩)
    have xq9 : xl ≠ qn_16 := (fun e => hni2 (by rw [e]; exact List.mem_cons_self))
    have wZ : Pb_22.lz xl = z0_15 := (by rw [ePb_22]; simp [PO.nl9, PO.at9, PO.lz])
    have wF : Pb_22.oa qn_16 = fn_19 := (by rw [ePb_22, ePa_21]; simp [PO.nl9, PO.nr9, PO.at9, PO.oa, Ne.symm xq9])
    have wA : Pb_22.an qn_16 = nn_18 := (by rw [ePb_22, ePa_21]; simp [PO.nl9, PO.nr9, PO.at9, PO.an, Ne.symm xq9])
    have wC : Pb_22.ac qn_16 = cO := (by rw [ePb_22, ePa_21]; simp [PO.nl9, PO.nr9, PO.at9, PO.ac, Ne.symm xq9])
    have wQ : Pb_22.le xl = qn_16 := wG.1.2.2.2.1
    refine W.widen (k := (P.gc xl)) (n := (P.gx xl)) (by omega) (by omega) ?_
    exact W.zret (v := 1) hx hb hr (by decide) (fun t ht hW => ⟨⟨1, (1), rfl, ⟨rfl, (by omega)⟩, Lq_23, Pb_22, ⟨(by rw [wQ]; exact wG), (by omega), (by rw [wQ]; exact wC), (by rw [wQ, wA]; omega), (by rw [wQ, wF]; exact ELS.grow (x := xl) (q := xl) hgr9.2.2.1 wN), (by rw [wQ, wF, hX_z]; exact hgr9.2.2.2), (fun j a => absurd a (by omega)), Or.inr (by rw [hX_e]; exact hX_n)⟩, by rw [ht]; exact hP, va_K.moved hW.alike hK, hD⟩, hS.F ht⟩) hS.2.2 dJx4a65c_add_9ea2d_24
