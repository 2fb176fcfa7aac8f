def o_P13_rowC : List Cond := [.fieldLink RX13 25 "SsaForgeModel$Code" "rowN" "I", .fieldLink RX13 16 "SsaForgeModel$Code" "rows" "Ljava/util/ArrayList;", .methodLink RX13 38 yJx4a65c_size_8abf5, .instanceMethod yJx4a65c_size_8abf5, .selects RJx4a65c yJx4a65c_size_8abf5 yJx4a65c_size_8abf5, .initialized RJx4a65c, .methodLink RX13 49 yJx4a65c_get_915e3, .instanceMethod yJx4a65c_get_915e3, .selects RJx4a65c yJx4a65c_get_915e3 yJx4a65c_get_915e3, .classLink RX13 55 "SsaForgeModel$Row", .fieldLink RX13 58 "SsaForgeModel$Row" "gone" "Z", .fieldLink RX13 62 "SsaForgeModel$Row" "regA" "Z", .fieldLink RX13 65 "SsaForgeModel$Row" "regB" "Z", .fieldLink RX13 68 "SsaForgeModel$Row" "a" "I", .fieldLink RX13 71 "SsaForgeModel$Row" "b" "I", .fieldLink RX13 74 "SsaForgeModel$Row" "t" "I", .classLink RX13 55 RX17, .instantiable RX17 7, .initialized RX17, .instanceMethod yX17_init, .methodLink RX13 45 yJx4a65c_add_9ea2d, .instanceMethod yJx4a65c_add_9ea2d, .selects RJx4a65c yJx4a65c_add_9ea2d yJx4a65c_add_9ea2d]
def v_P13_rowC : List Cond := .code yX13_row cX13_row 2 (some (.object "SsaForgeModel$Row")) :: (o_P13_rowC ++ (wsX130 ++ (v_PL_size ++ (v_PL_get ++ (wsX170 ++ (v_X17_init ++ (v_PL_addAR ++ [])))))))
theorem mow_P13_rowC : ∀ w ∈ o_P13_rowC, w ∈ v_P13_rowC := fun _ h => List.mem_cons_of_mem _ (List.mem_append_left _ h)
theorem mem_P13_rowC_0 : ∀ w ∈ wsX130, w ∈ v_P13_rowC := fun _ h => List.mem_cons_of_mem _ (List.mem_append_right _ (List.mem_append_left _ h))
theorem mem_P13_rowC_1 : ∀ w ∈ v_PL_size, w ∈ v_P13_rowC := fun _ h => List.mem_cons_of_mem _ (List.mem_append_right _ (List.mem_append_right _ (List.mem_append_left _ h)))
theorem mem_P13_rowC_2 : ∀ w ∈ v_PL_get, w ∈ v_P13_rowC := fun _ h => List.mem_cons_of_mem _ (List.mem_append_right _ (List.mem_append_right _ (List.mem_append_right _ (List.mem_append_left _ h))))
theorem mem_P13_rowC_3 : ∀ w ∈ wsX170, w ∈ v_P13_rowC := fun _ h => List.mem_cons_of_mem _ (List.mem_append_right _ (List.mem_append_right _ (List.mem_append_right _ (List.mem_append_right _ (List.mem_append_left _ h)))))
theorem mem_P13_rowC_4 : ∀ w ∈ v_X17_init, w ∈ v_P13_rowC := fun _ h => List.mem_cons_of_mem _ (List.mem_append_right _ (List.mem_append_right _ (List.mem_append_right _ (List.mem_append_right _ (List.mem_append_right _ (List.mem_append_left _ h))))))
theorem mem_P13_rowC_5 : ∀ w ∈ v_PL_addAR, w ∈ v_P13_rowC := fun _ h => List.mem_cons_of_mem _ (List.mem_append_right _ (List.mem_append_right _ (List.mem_append_right _ (List.mem_append_right _ (List.mem_append_right _ (List.mem_append_right _ (List.mem_append_left _ h)))))))
set_option maxRecDepth 20000 in
theorem gw_P13_rowC : v_P13_rowC.all goodWord = true := by decide +kernel
set_option maxRecDepth 20000 in
theorem g_P13_rowC_PL_size : GoodIn v_P13_rowC (wsV RX13 38 RJx4a65c yJx4a65c_size_8abf5 v_PL_size) := goodIn_app (goodIn_sub (fun w h => mow_P13_rowC w (by revert w h; decide +kernel)) (by decide +kernel)) (goodIn_sub mem_P13_rowC_1 gw_PL_size)
set_option maxRecDepth 20000 in
theorem g_P13_rowC_PL_get : GoodIn v_P13_rowC (wsV RX13 49 RJx4a65c yJx4a65c_get_915e3 v_PL_get) := goodIn_app (goodIn_sub (fun w h => mow_P13_rowC w (by revert w h; decide +kernel)) (by decide +kernel)) (goodIn_sub mem_P13_rowC_2 gw_PL_get)
set_option maxRecDepth 20000 in
theorem g_P13_rowC_PL_addAR : GoodIn v_P13_rowC (wsV RX13 45 RJx4a65c yJx4a65c_add_9ea2d v_PL_addAR) := goodIn_app (goodIn_sub (fun w h => mow_P13_rowC w (by revert w h; decide +kernel)) (by decide +kernel)) (goodIn_sub mem_P13_rowC_5 gw_PL_addAR)
set_option maxHeartbeats 4000000 in
set_option maxRecDepth 100000 in
theorem c_P13_rowC (l : Launch) (dC : Nat → ClassId) (dI : Nat → Nat → Nat) (cI : ClassId) (cZ : ClassId) (hc : Nat) (v13_0 : Value) (v13_2 : Value) (z13_rowN : Int) (v13_4 : Value) (v13_6 : Value) (la : Nat) (lr : Nat) (cO : ClassId) (L : List Nat) (P : PO) (sx_ed : Nat) (hNz13_rowN : 0 ≤ z13_rowN ∧ z13_rowN ≤ 19000) (hX_a : ALP L P cO cI cZ sx_ed la) (hX_lr : lr ∈ L ∧ P.kd lr = 30 ∧ P.ek lr = 17 ∧ P.ow lr = lr) (hNr : z13_rowN ≤ P.lz lr ∧ P.lz lr ≤ 19000 ∧ 0 ≤ z13_rowN) (sz : Nat) (HU : Heap) (sx_mi : Nat) : Met l yX13_row v_P13_rowC ({ frames := 7, cells := 2, slots := 100007, locals := 191 }) (va_Pc [.ref hc] (fun U => U.heap.size = sz ∧ va_P (dC, dI) vwQ ([(hc, .inr (12, [v13_0, .ref lr, v13_2, .int (zI (z13_rowN)), v13_4, .ref la, v13_6]))] ++ va_pl L (pE P)) U.heap ∧ va_K (dC, dI) vwQ [(cO, .object "java/lang/Object"), (cI, .int), (cZ, .boolean)] U ∧ va_D (fun _ => True) ([(hc, .inr (12, [v13_0, .ref lr, v13_2, .int (zI (z13_rowN)), v13_4, .ref la, v13_6]))] ++ va_pl L (pE P)) ∧ va_Nw (.castable "SsaForgeModel$Row" "SsaForgeModel$Row") U ∧ U.heap = HU ∧ va_Nw (.methodLinkNest RX13 57 yX17_init "SsaForgeModel") U ∧ va_Nw (.castable "SsaForgeModel$Row" "java/lang/Object") U ∧ va_Nw (.castable "SsaForgeModel$Phi" "java/lang/Object") U ∧ va_Nw (.castable "SsaForgeModel$Block" "java/lang/Object") U ∧ va_Dc U ∧ va_Mi "[Ljava/lang/Object;" sx_mi U ∧ va_AO "java/lang/Object" U ∧ va_T (.object "java/lang/Object") sx_ed 0 (fun _ => .null) (va_A ([(hc, .inr (12, [v13_0, .ref lr, v13_2, .int (zI (z13_rowN)), v13_4, .ref la, v13_6]))] ++ va_pl L (pE P)) sz) U U.heap ∧ va_Z "java/util/ArrayList" "DEFAULTCAPACITY_EMPTY_ELEMENTDATA" "[Ljava/lang/Object;" (.ref sx_ed) (va_A ([(hc, .inr (12, [v13_0, .ref lr, v13_2, .int (zI (z13_rowN)), v13_4, .ref la, v13_6]))] ++ va_pl L (pE P)) sz) U U.heap)) (va_Qr (fun _ : Unit => True) (fun (_ : Unit) (rq : Nat) (t : State) => ∃ (z0_9 : Int) (Ln_9 : List Nat) (Pn_9 : PO) (kc_9 : Nat) (ks_9 : Nat), ((RM HU t.heap kc_9 ks_9 ∧ ((ks_9 : Int) ≤ 7 * (Pn_9.lz lr - P.lz lr) + 5 * (Pn_9.cap lr - P.cap lr) ∧ (kc_9 : Int) ≤ 1 * (Pn_9.lz lr - P.lz lr) + (Pn_9.cap lr - P.cap lr) ∧ (ks_9 : Int) ≤ 100007 ∧ (kc_9 : Int) ≤ 2)) ∧ ((0 ≤ z0_9 ∧ z0_9 ≤ 19001) ∧ (KEP [lr] L P Ln_9 Pn_9 la ∧ ALP Ln_9 Pn_9 cO cI cZ sx_ed la ∧ CR9 lr rq (z13_rowN) L P Ln_9 Pn_9 ∧ (z0_9 = z13_rowN + 1 ∧ Pn_9.tot 2 la = P.tot 2 la ∧ Pn_9.tot 1 la = P.tot 1 la ∧ Pn_9.cat 2 la = P.cat 2 la ∧ Pn_9.cat 1 la = P.cat 1 la ∧ CPS lr L P Pn_9)))) ∧ va_P (dC, dI) vwQ ([(hc, .inr (12, [v13_0, .ref lr, v13_2, .int (zI (z0_9)), v13_4, .ref la, v13_6]))] ++ va_pl Ln_9 (pE Pn_9)) t.heap ∧ va_K (dC, dI) vwQ [(cO, .object "java/lang/Object"), (cI, .int), (cZ, .boolean)] t ∧ va_D (va_A ([(hc, .inr (12, [v13_0, .ref lr, v13_2, .int (zI (z13_rowN)), v13_4, .ref la, v13_6]))] ++ va_pl L (pE P)) sz) ([(hc, .inr (12, [v13_0, .ref lr, v13_2, .int (zI (z0_9)), v13_4, .ref la, v13_6]))] ++ va_pl Ln_9 (pE Pn_9))) (va_A ([(hc, .inr (12, [v13_0, .ref lr, v13_2, .int (zI (z13_rowN)), v13_4, .ref la, v13_6]))] ++ va_pl L (pE P)) sz)) 2 100007 (va_A ([(hc, .inr (12, [v13_0, .ref lr, v13_2, .int (zI (z13_rowN)), v13_4, .ref la, v13_6]))] ++ va_pl L (pE P)) sz) := by
  refine Met.ofW (cc := cX13_row) (maxL := 2) (ret := (some (.object "SsaForgeModel$Row"))) (by decide) rfl ?_
  intro p e s m args below meth c s₁ B hml hv
  obtain ⟨rfl, hsz, hP, hK, hD0, hp0, hp1, hp2, hp3, hp4, hp5, hp6, hp7, hp8, hp9, hp10⟩ := hv
  have hx := B.exec
  have hb := B.bytes
  have hr := B.returns
  have hts := atoms_spec (ws := v_P13_rowC) B.pre
  have hown : s.vm.findClass RX13 = some m.cls := findClass_of_methodNamed B.named
  have hlocks := B.notSynchronized
  have ow : ∀ {k : Nat} {w : Cond}, o_P13_rowC[k]? = some w → w.before ([.ref hc] : List Value).toArray s = true := fun h => hts _ (mow_P13_rowC _ (List.mem_of_getElem? h))
  subst hsz
  have hD := hD0.self (sz := s.heap.size)
  generalize hAe : va_A ([(hc, .inr (12, [v13_0, .ref lr, v13_2, .int (zI (z13_rowN)), v13_4, .ref la, v13_6]))] ++ va_pl L (pE P)) s.heap.size = A at hD hp8 hp9 hp10 ⊢
  have hA : ∀ q : Nat, s.heap.size ≤ q → A q := fun q h => by rw [← hAe]; exact Or.inr h
  have hS : va_S A s.heap s.heap [] := va_S.rf
  have hP : va_P (dC, dI) vwQ ([(hc, .inr (12, [v13_0, .ref lr, v13_2, .int (zI (z13_rowN)), v13_4, .ref la, v13_6]))] ++ va_pl L (pE P)) s.heap := hP
  have hl := lv_entry ([.ref hc]) (n := 2) (Nat.le_of_ble_eq_true rfl)
  rw [lg_entry_eq]
  generalize (lg_sl ([.ref hc]) ++ List.replicate (2 - (lg_sl ([.ref hc])).length) Slot.unset).toArray = ls at hl ⊢
  have hl : lv_has ls 2 [(0, .ref hc)] := hl
  obtain ⟨H, hH⟩ : ∃ H, H = s.heap := ⟨_, rfl⟩
  rw [← hH] at hP
  have hS : va_S A s.heap H [] := by rw [hH]; exact hS
  rw [← hH]
  refine zW_cap (fun Q hQ => ?_)
  have hX_a9 := hX_a
  have hla := hX_a.lok.2.2.1
  have hla2 := hX_a.1.1.2.1
  have hC_lr := hX_lr
  refine lv_aload_n hx hb dX13_row_0 rfl (lv_at hl 0 rfl) ?_
  refine va_get (D := (dC, dI)) (ci := 12) (v := .int (zI (z13_rowN))) (C := RX13) (T := TX13) (N := 7) hx hb hts mem_P13_rowC_0 hown hK hP 0 rfl rfl 3 (by decide) (ow (k := 0) rfl) (fun _ h9 => h9) rfl dX13_row_1 ?_
  refine lv_aload_n hx hb dX13_row_4 rfl (lv_at hl 0 rfl) ?_
  refine va_get (D := (dC, dI)) (ci := 12) (v := .ref lr) (C := RX13) (T := TX13) (N := 7) hx hb hts mem_P13_rowC_0 hown hK hP 0 rfl rfl 1 (by decide) (ow (k := 1) rfl) (fun _ h9 => h9) rfl dX13_row_5 ?_
  have hlk_1 := (show LOK L P cO 17 lr from (by have q9 := (hX_a9.gla lr hC_lr.1 hC_lr.2.1).1; rw [hC_lr.2.2.1] at q9; exact q9))
  have hX_x := hlk_1.1
  have hX_k := hlk_1.2.1
  have hlz9 := hlk_1.2.2.1
  have hPc := hP.part (X := [(hc, .inr (12, [v13_0, .ref lr, v13_2, .int (zI (z13_rowN)), v13_4, .ref la, v13_6]))]) (cx := []) (pl := va_pl L (pE P)) [] rfl
  have hDc := hD.part (X := [(hc, .inr (12, [v13_0, .ref lr, v13_2, .int (zI (z13_rowN)), v13_4, .ref la, v13_6]))]) (cx := []) (pl := va_pl L (pE P)) [] (by decide) rfl
  have hKc := hK.sub (tys' := [(cO, .object "java/lang/Object")]) [0] rfl
  have hFc := va_freeP (X := [(hc, .inr (12, [v13_0, .ref lr, v13_2, .int (zI (z13_rowN)), v13_4, .ref la, v13_6]))]) (cx := []) (pl := va_pl L (pE P)) hD hS hA [] rfl
  refine va_calli (va_runV (As := []) (rest := [.int (zI (z13_rowN))]) ⟨hx, hb, hml, hown, hts⟩ (c_PL_size l dC dI cO L P lr hX_x hX_k (by omega) H.size) (cwV 0 hts g_P13_rowC_PL_size rfl rfl rfl (by decide +kernel) ⟨(Nat.le_of_ble_eq_true rfl), (Nat.le_of_ble_eq_true rfl)⟩) ⟨fun a U g mk q => by obtain ⟨q0, q1, qP, qK, qD⟩ := q; exact ⟨q0, q1, qP, va_K.moved (u := U) (U := U.calling g mk a) (Vm.Alike.refl U.vm) qK, qD⟩, recv_30 hKc hPc hC_lr.1 hC_lr.2.1, fun U hU hW => ⟨rfl, by rw [hU], by rw [hU]; exact hPc, va_K.moved hW.alike hKc, hDc.weaken (fun _ _ _ _ => trivial)⟩⟩ rfl rfl hl.1 rfl (lv_room (Nat.le_of_ble_eq_true rfl)) dX13_row_8 ⟨(Nat.le_of_ble_eq_true rfl), (Nat.le_of_ble_eq_true rfl)⟩) hS (fun q _ h => hFc q h) hFc (fun r_2 u t H1 locs ht hvm hw hB hz1 hk1 hS => ?_)
  obtain ⟨hP1, hK1, hD1⟩ := hB
  rw [ht] at hP1
  have hK1 := va_K.moved hvm.symm hK1
  obtain ⟨hP, hD⟩ := va_joinP (X := [(hc, .inr (12, [v13_0, .ref lr, v13_2, .int (zI (z13_rowN)), v13_4, .ref la, v13_6]))]) (cx := []) (wr := [(hc, .inr (12, [v13_0, .ref lr, v13_2, .int (zI (z13_rowN)), v13_4, .ref la, v13_6]))]) (rx := []) (pl := va_pl L (pE P)) (pl1 := va_pl L (pE P)) hP hD [] [0] rfl rfl (by decide) (by decide) hk1 hFc hP1 hD1
  have hK := (hK.sub (tys' := [(cI, .int), (cZ, .boolean)]) [1, 2] rfl).app hK1
  generalize H1 = H at hP hS ⊢
  have hP : va_P (dC, dI) vwQ ([(hc, .inr (12, [v13_0, .ref lr, v13_2, .int (zI (z13_rowN)), v13_4, .ref la, v13_6]))] ++ va_pl L (pE P)) H := hP
  have hD : va_D A ([(hc, .inr (12, [v13_0, .ref lr, v13_2, .int (zI (z13_rowN)), v13_4, .ref la, v13_6]))] ++ va_pl L (pE P)) := hD
  have hK : va_K (dC, dI) vwQ [(cI, .int), (cZ, .boolean), (cO, .object "java/lang/Object")] s := hK
  refine W.widen (k := 0) (n := 0) (Nat.le_of_ble_eq_true rfl) (Nat.le_of_ble_eq_true rfl) ?_
  obtain rfl : r_2 = (zI (P.lz lr)) := hw
  refine lv_icmp_ne (tgt := 29) hx hb dX13_row_11 (by decide) (fun b11 => ?_) (fun b11 => ?_)
  · have yb11 : ¬ (z13_rowN : Int) = (P.lz lr : Int) := fun q => b11 ((zI_eq (a := z13_rowN) (b := P.lz lr) (by omega) (by omega) (by omega) (by omega)).mpr q)
    refine lv_aload_n hx hb dX13_row_29 rfl (lv_at hl 0 rfl) ?_
    refine va_get (D := (dC, dI)) (ci := 12) (v := .ref lr) (C := RX13) (T := TX13) (N := 7) hx hb hts mem_P13_rowC_0 hown hK hP 0 rfl rfl 1 (by decide) (ow (k := 1) rfl) (fun _ h9 => h9) rfl dX13_row_30 ?_
    refine lv_aload_n hx hb dX13_row_33 rfl (lv_at hl 0 rfl) ?_
    refine va_get (D := (dC, dI)) (ci := 12) (v := .int (zI (z13_rowN))) (C := RX13) (T := TX13) (N := 7) hx hb hts mem_P13_rowC_0 hown hK hP 0 rfl rfl 3 (by decide) (ow (k := 0) rfl) (fun _ h9 => h9) rfl dX13_row_34 ?_
    have hlk_3 := (show LOK L P cO 17 lr from (by have q9 := (hX_a9.gla lr hC_lr.1 hC_lr.2.1).1; rw [hC_lr.2.2.1] at q9; exact q9))
    obtain ⟨x, ex⟩ : ∃ q9 : Nat, q9 = P.el lr (z13_rowN) := ⟨_, rfl⟩
    have hX_x := hlk_3.1
    have hX_k := hlk_3.2.1
    have hq9 := hlk_3.row (i := z13_rowN) (by omega) (by omega)
    have hX_q : P.le lr ∈ L ∧ P.kd (P.le lr) = 31 ∧ P.ac (P.le lr) = cO := ⟨hq9.1, hq9.2.1, hq9.2.2.1⟩
    have hq8 := hq9.2.2.2
    have hX_e0 : P.oa (P.le lr) (z13_rowN).toNat = some x := (by rw [ex]; exact (hlk_3.2.2.2.2 (z13_rowN) (by omega) (by omega)).1)
    have hxm : x ∈ L := (by rw [ex]; exact (hlk_3.2.2.2.2 (z13_rowN) (by omega) (by omega)).2.1)
    have hxk := (hlk_3.2.2.2.2 (z13_rowN) (by omega) (by omega)).2.2
    rw [← ex] at hxk
    have hPc := hP.part (X := [(hc, .inr (12, [v13_0, .ref lr, v13_2, .int (zI (z13_rowN)), v13_4, .ref la, v13_6]))]) (cx := []) (pl := va_pl L (pE P)) [] rfl
    have hDc := hD.part (X := [(hc, .inr (12, [v13_0, .ref lr, v13_2, .int (zI (z13_rowN)), v13_4, .ref la, v13_6]))]) (cx := []) (pl := va_pl L (pE P)) [] (by decide) rfl
    have hKc := hK.sub (tys' := [(cO, .object "java/lang/Object")]) [2] rfl
    have hFc := va_freeP (X := [(hc, .inr (12, [v13_0, .ref lr, v13_2, .int (zI (z13_rowN)), v13_4, .ref la, v13_6]))]) (cx := []) (pl := va_pl L (pE P)) hD hS hA [] rfl
    refine va_callr (va_runV (As := [.int (zI (z13_rowN))]) (rest := []) ⟨hx, hb, hml, hown, hts⟩ (c_PL_get l dC dI cO L P lr z13_rowN x hX_x hX_k hX_q (by omega) hX_e0 H.size) (cwV 1 hts g_P13_rowC_PL_get rfl rfl rfl (by decide +kernel) ⟨(Nat.le_of_ble_eq_true rfl), (Nat.le_of_ble_eq_true rfl)⟩) ⟨fun a U g mk q => by obtain ⟨q0, q1, qP, qK, qD⟩ := q; exact ⟨q0, q1, qP, va_K.moved (u := U) (U := U.calling g mk a) (Vm.Alike.refl U.vm) qK, qD⟩, recv_30 hKc hPc hC_lr.1 hC_lr.2.1, fun U hU hW => ⟨rfl, by rw [hU], by rw [hU]; exact hPc, va_K.moved hW.alike hKc, hDc.weaken (fun _ _ _ _ => trivial)⟩⟩ rfl rfl hl.1 rfl (lv_room (Nat.le_of_ble_eq_true rfl)) dX13_row_37 ⟨(Nat.le_of_ble_eq_true rfl), (Nat.le_of_ble_eq_true rfl)⟩) hS (fun q _ h => hFc q h) hFc (fun u q_4 t H1 locs ht hvm hw hB hz1 hk1 hS => ?_)
    obtain ⟨hxt_4, hP1, hK1, hD1⟩ := hB
    rw [ht] at hP1
    have hK1 := va_K.moved hvm.symm hK1
    obtain ⟨hP, hD⟩ := va_joinP (X := [(hc, .inr (12, [v13_0, .ref lr, v13_2, .int (zI (z13_rowN)), v13_4, .ref la, v13_6]))]) (cx := []) (wr := [(hc, .inr (12, [v13_0, .ref lr, v13_2, .int (zI (z13_rowN)), v13_4, .ref la, v13_6]))]) (rx := []) (pl := va_pl L (pE P)) (pl1 := va_pl L (pE P)) hP hD [] [0] rfl rfl (by decide) (by decide) hk1 hFc hP1 hD1
    have hK := (hK.sub (tys' := [(cI, .int), (cZ, .boolean)]) [0, 1] rfl).app hK1
    generalize H1 = H at hP hS ⊢
    have hP : va_P (dC, dI) vwQ ([(hc, .inr (12, [v13_0, .ref lr, v13_2, .int (zI (z13_rowN)), v13_4, .ref la, v13_6]))] ++ va_pl L (pE P)) H := hP
    have hD : va_D A ([(hc, .inr (12, [v13_0, .ref lr, v13_2, .int (zI (z13_rowN)), v13_4, .ref la, v13_6]))] ++ va_pl L (pE P)) := hD
    have hK : va_K (dC, dI) vwQ [(cI, .int), (cZ, .boolean), (cO, .object "java/lang/Object")] s := hK
    refine W.widen (k := 0) (n := 0) (Nat.le_of_ble_eq_true rfl) (Nat.le_of_ble_eq_true rfl) ?_
    rw [hxt_4]
    clear hX_e0
    obtain ⟨xr_5, h9⟩ : ∃ q9 : Nat, q9 = x := ⟨_, rfl⟩
    subst h9
    have hm_6 := hxm
    have hk_7 := hxk
    have hel9 := ex
    have hE_8 : P.ek xr_5 ≠ 1 := (by rw [ex]; exact (hX_a9.gla lr hC_lr.1 hC_lr.2.1).2.2 hC_lr.2.2.1 _ (by omega) (by omega))
    refine va_castY (C := "SsaForgeModel$Row") (nm := "SsaForgeModel$Row") hx hb hown (ow (k := 9) rfl) hp0 (recv_17 hK hP hm_6 hk_7) dX13_row_40 ?_
    refine lv_astore_n (lv' := [(1, .ref xr_5), (0, .ref hc)]) hx hb dX13_row_43 rfl hl (by decide) rfl (fun ls hl => ?_)
    refine lv_aload_n hx hb dX13_row_44 rfl (lv_at hl 1 rfl) ?_
    refine lv_dup hx hb dX13_row_45 rfl ?_
    refine va_get (D := (dC, dI)) (ci := 12) (v := .int (zI (z13_rowN))) (C := RX13) (T := TX13) (N := 7) hx hb hts mem_P13_rowC_0 hown hK hP 0 rfl rfl 3 (by decide) (ow (k := 0) rfl) (fun _ h9 => h9) rfl dX13_row_46 ?_
    refine lv_iconst (v := 1) hx hb dX13_row_49 (by decide) ?_
    refine lv_iadd hx hb dX13_row_50 ?_
    refine lv_topi (fun z ez => ?_)
    obtain rfl : z = zI (z13_rowN + 1) := ez.trans (zI_add (z13_rowN) (1))
    refine va_put (D := (dC, dI)) (ci := 12) (v := .int (zI (z13_rowN + 1))) (ty := .int) (C := RX13) (T := TX13) (N := 7) hx hb hts mem_P13_rowC_0 tyX13 tyX13_ok nmX13 hown hK hP hD hS 0 rfl rfl 3 (by decide) (ow (k := 0) rfl) (fun _ h9 => h9) rfl (by decide +kernel) rfl rfl (Nat.le_of_ble_eq_true rfl) dX13_row_51 (fun H locs hP hD hS => ?_)
    have hP : va_P (dC, dI) vwQ ([(hc, .inr (12, [v13_0, .ref lr, v13_2, .int (zI (z13_rowN + 1)), v13_4, .ref la, v13_6]))] ++ va_pl L (pE P)) H := hP
    have hD : va_D A ([(hc, .inr (12, [v13_0, .ref lr, v13_2, .int (zI (z13_rowN + 1)), v13_4, .ref la, v13_6]))] ++ va_pl L (pE P)) := hD
    obtain ⟨z_9, ez_9⟩ : ∃ z9 : Int, z9 = z13_rowN + 1 := ⟨_, rfl⟩
    rw [← ez_9] at hP hD
    have hP : va_P (dC, dI) vwQ ([(hc, .inr (12, [v13_0, .ref lr, v13_2, .int (zI (z_9)), v13_4, .ref la, v13_6]))] ++ va_pl L (pE P)) H := hP
    have hD : va_D A ([(hc, .inr (12, [v13_0, .ref lr, v13_2, .int (zI (z_9)), v13_4, .ref la, v13_6]))] ++ va_pl L (pE P)) := hD
    refine lv_aload_n hx hb dX13_row_54 rfl (lv_at hl 0 rfl) ?_
    refine lv_iconst (v := 0) hx hb dX13_row_55 (by decide) ?_
    have ⟨hr1, hr2, hr3, hr4, hr5, hr6, hr7, hr8, hr9⟩ := hX_a9.rok hm_6 hk_7
    refine lv_topi (fun z ez => ?_)
    obtain rfl : z = zI (0) := ez
    obtain ⟨kp_10, gkp_10⟩ := va_pl_get (X := [(hc, .inr (12, [v13_0, .ref lr, v13_2, .int (zI (z_9)), v13_4, .ref la, v13_6]))]) (f := pE P) hm_6
    have hkp_10 := gkp_10
    rw [pE_row hk_7] at hkp_10
    have hD0 := hD
    refine va_put (D := (dC, dI)) (ci := 21) (v := .int (zI (0))) (ty := .boolean) (C := RX17) (T := TX17) (N := 7) hx hb hts mem_P13_rowC_3 tyX17 tyX17_ok nmX17 hown hK hP hD hS kp_10 hkp_10 rfl 6 (by decide) (ow (k := 10) rfl) (fun _ h9 => h9) rfl (by decide +kernel) (zI_bool (by omega) (by omega)) (zI_fitb (by omega) (by omega)) (Nat.le_of_ble_eq_true rfl) dX13_row_56 (fun H locs hP hD hS => ?_)
    obtain ⟨Pw_11, ePw_11⟩ : ∃ q9 : PO, q9 = P.rw9 6 xr_5 (0) := ⟨_, rfl⟩
    have eU : (([(hc, .inr (12, [v13_0, .ref lr, v13_2, .int (zI (z_9)), v13_4, .ref la, v13_6]))] : va_W) ++ va_pl L (pE P)).set kp_10 (xr_5, rowE (P.ro xr_5) (P.rt xr_5) (P.ra xr_5) (P.rb xr_5) (P.rA xr_5) (P.rB xr_5) (0)) = ([(hc, .inr (12, [v13_0, .ref lr, v13_2, .int (zI (z_9)), v13_4, .ref la, v13_6]))] : va_W) ++ va_pl L (pE Pw_11) := (by rw [va_pl_set hD0 hm_6 gkp_10, ePw_11]; exact congrArg (fun f9 => ([(hc, .inr (12, [v13_0, .ref lr, v13_2, .int (zI (z_9)), v13_4, .ref la, v13_6]))] : va_W) ++ va_pl L f9) (put17_6 hk_7))
    have hP : va_P (dC, dI) vwQ ([(hc, .inr (12, [v13_0, .ref lr, v13_2, .int (zI (z_9)), v13_4, .ref la, v13_6]))] ++ va_pl L (pE Pw_11)) H := (by rw [← eU]; exact hP)
    have hD : va_D A ([(hc, .inr (12, [v13_0, .ref lr, v13_2, .int (zI (z_9)), v13_4, .ref la, v13_6]))] ++ va_pl L (pE Pw_11)) := (by rw [← eU]; exact hD)
    clear eU hD0 gkp_10 hkp_10
    have wPw_11 : RW1 xr_5 P Pw_11 := (by rw [ePw_11]; exact RW1.put _ _ _ _)
    have hy_12 : Pw_11.kd la = 30 := (by rw [ePw_11]; exact hX_a.lok.2.1)
    have hy_13 : Pw_11.kd lr = 30 := (by rw [ePw_11]; exact hC_lr.2.1)
    have hy_14 : Pw_11.kd xr_5 = 17 := (by rw [ePw_11]; exact hk_7)
    have : Pw_11.ro xr_5 = P.ro xr_5 := (by rw [ePw_11]; exact rw9_of _ (by decide))
    have : Pw_11.rt xr_5 = P.rt xr_5 := (by rw [ePw_11]; exact rw9_of _ (by decide))
    have : Pw_11.ra xr_5 = P.ra xr_5 := (by rw [ePw_11]; exact rw9_of _ (by decide))
    have : Pw_11.rb xr_5 = P.rb xr_5 := (by rw [ePw_11]; exact rw9_of _ (by decide))
    have : Pw_11.rA xr_5 = P.rA xr_5 := (by rw [ePw_11]; exact rw9_of _ (by decide))
    have : Pw_11.rB xr_5 = P.rB xr_5 := (by rw [ePw_11]; exact rw9_of _ (by decide))
    have : Pw_11.rg xr_5 = 0 := (by rw [ePw_11]; exact rw9_at _ _ _ _)
    refine lv_aload_n hx hb dX13_row_59 rfl (lv_at hl 0 rfl) ?_
    refine lv_iconst (v := 0) hx hb dX13_row_60 (by decide) ?_
    refine lv_topi (fun z ez => ?_)
    obtain rfl : z = zI (0) := ez
    obtain ⟨kp_15, gkp_15⟩ := va_pl_get (X := [(hc, .inr (12, [v13_0, .ref lr, v13_2, .int (zI (z_9)), v13_4, .ref la, v13_6]))]) (f := pE Pw_11) hm_6
    have hkp_15 := gkp_15
    rw [pE_row hy_14] at hkp_15
    have hD0 := hD
    refine va_put (D := (dC, dI)) (ci := 21) (v := .int (zI (0))) (ty := .boolean) (C := RX17) (T := TX17) (N := 7) hx hb hts mem_P13_rowC_3 tyX17 tyX17_ok nmX17 hown hK hP hD hS kp_15 hkp_15 rfl 4 (by decide) (ow (k := 11) rfl) (fun _ h9 => h9) rfl (by decide +kernel) (zI_bool (by omega) (by omega)) (zI_fitb (by omega) (by omega)) (Nat.le_of_ble_eq_true rfl) dX13_row_61 (fun H locs hP hD hS => ?_)
    obtain ⟨Pw_16, ePw_16⟩ : ∃ q9 : PO, q9 = Pw_11.rw9 4 xr_5 (0) := ⟨_, rfl⟩
    have eU : (([(hc, .inr (12, [v13_0, .ref lr, v13_2, .int (zI (z_9)), v13_4, .ref la, v13_6]))] : va_W) ++ va_pl L (pE Pw_11)).set kp_15 (xr_5, rowE (Pw_11.ro xr_5) (Pw_11.rt xr_5) (Pw_11.ra xr_5) (Pw_11.rb xr_5) (0) (Pw_11.rB xr_5) (Pw_11.rg xr_5)) = ([(hc, .inr (12, [v13_0, .ref lr, v13_2, .int (zI (z_9)), v13_4, .ref la, v13_6]))] : va_W) ++ va_pl L (pE Pw_16) := (by rw [va_pl_set hD0 hm_6 gkp_15, ePw_16]; exact congrArg (fun f9 => ([(hc, .inr (12, [v13_0, .ref lr, v13_2, .int (zI (z_9)), v13_4, .ref la, v13_6]))] : va_W) ++ va_pl L f9) (put17_4 hy_14))
    have hP : va_P (dC, dI) vwQ ([(hc, .inr (12, [v13_0, .ref lr, v13_2, .int (zI (z_9)), v13_4, .ref la, v13_6]))] ++ va_pl L (pE Pw_16)) H := (by rw [← eU]; exact hP)
    have hD : va_D A ([(hc, .inr (12, [v13_0, .ref lr, v13_2, .int (zI (z_9)), v13_4, .ref la, v13_6]))] ++ va_pl L (pE Pw_16)) := (by rw [← eU]; exact hD)
    clear eU hD0 gkp_15 hkp_15
    have wPw_16 : RW1 xr_5 Pw_11 Pw_16 := (by rw [ePw_16]; exact RW1.put _ _ _ _)
    have hy_17 : Pw_16.kd la = 30 := (by rw [ePw_16]; exact hy_12)
    have hy_18 : Pw_16.kd lr = 30 := (by rw [ePw_16]; exact hy_13)
    have hy_19 : Pw_16.kd xr_5 = 17 := (by rw [ePw_16]; exact hy_14)
    have : Pw_16.ro xr_5 = Pw_11.ro xr_5 := (by rw [ePw_16]; exact rw9_of _ (by decide))
    have : Pw_16.rt xr_5 = Pw_11.rt xr_5 := (by rw [ePw_16]; exact rw9_of _ (by decide))
    have : Pw_16.ra xr_5 = Pw_11.ra xr_5 := (by rw [ePw_16]; exact rw9_of _ (by decide))
    have : Pw_16.rb xr_5 = Pw_11.rb xr_5 := (by rw [ePw_16]; exact rw9_of _ (by decide))
    have : Pw_16.rA xr_5 = 0 := (by rw [ePw_16]; exact rw9_at _ _ _ _)
    have : Pw_16.rB xr_5 = Pw_11.rB xr_5 := (by rw [ePw_16]; exact rw9_of _ (by decide))
    have : Pw_16.rg xr_5 = Pw_11.rg xr_5 := (by rw [ePw_16]; exact rw9_of _ (by decide))
    refine lv_aload_n hx hb dX13_row_64 rfl (lv_at hl 0 rfl) ?_
    refine lv_iconst (v := 0) hx hb dX13_row_65 (by decide) ?_
    refine lv_topi (fun z ez => ?_)
    obtain rfl : z = zI (0) := ez
    obtain ⟨kp_20, gkp_20⟩ := va_pl_get (X := [(hc, .inr (12, [v13_0, .ref lr, v13_2, .int (zI (z_9)), v13_4, .ref la, v13_6]))]) (f := pE Pw_16) hm_6
    have hkp_20 := gkp_20
    rw [pE_row hy_19] at hkp_20
    have hD0 := hD
    refine va_put (D := (dC, dI)) (ci := 21) (v := .int (zI (0))) (ty := .boolean) (C := RX17) (T := TX17) (N := 7) hx hb hts mem_P13_rowC_3 tyX17 tyX17_ok nmX17 hown hK hP hD hS kp_20 hkp_20 rfl 5 (by decide) (ow (k := 12) rfl) (fun _ h9 => h9) rfl (by decide +kernel) (zI_bool (by omega) (by omega)) (zI_fitb (by omega) (by omega)) (Nat.le_of_ble_eq_true rfl) dX13_row_66 (fun H locs hP hD hS => ?_)
    obtain ⟨Pw_21, ePw_21⟩ : ∃ q9 : PO, q9 = Pw_16.rw9 5 xr_5 (0) := ⟨_, rfl⟩
    have eU : (([(hc, .inr (12, [v13_0, .ref lr, v13_2, .int (zI (z_9)), v13_4, .ref la, v13_6]))] : va_W) ++ va_pl L (pE Pw_16)).set kp_20 (xr_5, rowE (Pw_16.ro xr_5) (Pw_16.rt xr_5) (Pw_16.ra xr_5) (Pw_16.rb xr_5) (Pw_16.rA xr_5) (0) (Pw_16.rg xr_5)) = ([(hc, .inr (12, [v13_0, .ref lr, v13_2, .int (zI (z_9)), v13_4, .ref la, v13_6]))] : va_W) ++ va_pl L (pE Pw_21) := (by rw [va_pl_set hD0 hm_6 gkp_20, ePw_21]; exact congrArg (fun f9 => ([(hc, .inr (12, [v13_0, .ref lr, v13_2, .int (zI (z_9)), v13_4, .ref la, v13_6]))] : va_W) ++ va_pl L f9) (put17_5 hy_19))
    have hP : va_P (dC, dI) vwQ ([(hc, .inr (12, [v13_0, .ref lr, v13_2, .int (zI (z_9)), v13_4, .ref la, v13_6]))] ++ va_pl L (pE Pw_21)) H := (by rw [← eU]; exact hP)
    have hD : va_D A ([(hc, .inr (12, [v13_0, .ref lr, v13_2, .int (zI (z_9)), v13_4, .ref la, v13_6]))] ++ va_pl L (pE Pw_21)) := (by rw [← eU]; exact hD)
    clear eU hD0 gkp_20 hkp_20
    have wPw_21 : RW1 xr_5 Pw_16 Pw_21 := (by rw [ePw_21]; exact RW1.put _ _ _ _)
    have hy_22 : Pw_21.kd la = 30 := (by rw [ePw_21]; exact hy_17)
    have hy_23 : Pw_21.kd lr = 30 := (by rw [ePw_21]; exact hy_18)
    have hy_24 : Pw_21.kd xr_5 = 17 := (by rw [ePw_21]; exact hy_19)
    have : Pw_21.ro xr_5 = Pw_16.ro xr_5 := (by rw [ePw_21]; exact rw9_of _ (by decide))
    have : Pw_21.rt xr_5 = Pw_16.rt xr_5 := (by rw [ePw_21]; exact rw9_of _ (by decide))
    have : Pw_21.ra xr_5 = Pw_16.ra xr_5 := (by rw [ePw_21]; exact rw9_of _ (by decide))
    have : Pw_21.rb xr_5 = Pw_16.rb xr_5 := (by rw [ePw_21]; exact rw9_of _ (by decide))
    have : Pw_21.rA xr_5 = Pw_16.rA xr_5 := (by rw [ePw_21]; exact rw9_of _ (by decide))
    have : Pw_21.rB xr_5 = 0 := (by rw [ePw_21]; exact rw9_at _ _ _ _)
    have : Pw_21.rg xr_5 = Pw_16.rg xr_5 := (by rw [ePw_21]; exact rw9_of _ (by decide))
    refine lv_aload_n hx hb dX13_row_69 rfl (lv_at hl 0 rfl) ?_
    refine lv_iconst (v := 0) hx hb dX13_row_70 (by decide) ?_
    refine lv_topi (fun z ez => ?_)
    obtain rfl : z = zI (0) := ez
    obtain ⟨kp_25, gkp_25⟩ := va_pl_get (X := [(hc, .inr (12, [v13_0, .ref lr, v13_2, .int (zI (z_9)), v13_4, .ref la, v13_6]))]) (f := pE Pw_21) hm_6
    have hkp_25 := gkp_25
    rw [pE_row hy_24] at hkp_25
    have hD0 := hD
    refine va_put (D := (dC, dI)) (ci := 21) (v := .int (zI (0))) (ty := .int) (C := RX17) (T := TX17) (N := 7) hx hb hts mem_P13_rowC_3 tyX17 tyX17_ok nmX17 hown hK hP hD hS kp_25 hkp_25 rfl 2 (by decide) (ow (k := 13) rfl) (fun _ h9 => h9) rfl (by decide +kernel) rfl rfl (Nat.le_of_ble_eq_true rfl) dX13_row_71 (fun H locs hP hD hS => ?_)
    obtain ⟨Pw_26, ePw_26⟩ : ∃ q9 : PO, q9 = Pw_21.rw9 2 xr_5 (0) := ⟨_, rfl⟩
    have eU : (([(hc, .inr (12, [v13_0, .ref lr, v13_2, .int (zI (z_9)), v13_4, .ref la, v13_6]))] : va_W) ++ va_pl L (pE Pw_21)).set kp_25 (xr_5, rowE (Pw_21.ro xr_5) (Pw_21.rt xr_5) (0) (Pw_21.rb xr_5) (Pw_21.rA xr_5) (Pw_21.rB xr_5) (Pw_21.rg xr_5)) = ([(hc, .inr (12, [v13_0, .ref lr, v13_2, .int (zI (z_9)), v13_4, .ref la, v13_6]))] : va_W) ++ va_pl L (pE Pw_26) := (by rw [va_pl_set hD0 hm_6 gkp_25, ePw_26]; exact congrArg (fun f9 => ([(hc, .inr (12, [v13_0, .ref lr, v13_2, .int (zI (z_9)), v13_4, .ref la, v13_6]))] : va_W) ++ va_pl L f9) (put17_2 hy_24))
    have hP : va_P (dC, dI) vwQ ([(hc, .inr (12, [v13_0, .ref lr, v13_2, .int (zI (z_9)), v13_4, .ref la, v13_6]))] ++ va_pl L (pE Pw_26)) H := (by rw [← eU]; exact hP)
    have hD : va_D A ([(hc, .inr (12, [v13_0, .ref lr, v13_2, .int (zI (z_9)), v13_4, .ref la, v13_6]))] ++ va_pl L (pE Pw_26)) := (by rw [← eU]; exact hD)
    clear eU hD0 gkp_25 hkp_25
    have wPw_26 : RW1 xr_5 Pw_21 Pw_26 := (by rw [ePw_26]; exact RW1.put _ _ _ _)
    have hy_27 : Pw_26.kd la = 30 := (by rw [ePw_26]; exact hy_22)
    have hy_28 : Pw_26.kd lr = 30 := (by rw [ePw_26]; exact hy_23)
    have hy_29 : Pw_26.kd xr_5 = 17 := (by rw [ePw_26]; exact hy_24)
    have : Pw_26.ro xr_5 = Pw_21.ro xr_5 := (by rw [ePw_26]; exact rw9_of _ (by decide))
    have : Pw_26.rt xr_5 = Pw_21.rt xr_5 := (by rw [ePw_26]; exact rw9_of _ (by decide))
    have : Pw_26.ra xr_5 = 0 := (by rw [ePw_26]; exact rw9_at _ _ _ _)
    have : Pw_26.rb xr_5 = Pw_21.rb xr_5 := (by rw [ePw_26]; exact rw9_of _ (by decide))
    have : Pw_26.rA xr_5 = Pw_21.rA xr_5 := (by rw [ePw_26]; exact rw9_of _ (by decide))
    have : Pw_26.rB xr_5 = Pw_21.rB xr_5 := (by rw [ePw_26]; exact rw9_of _ (by decide))
    have : Pw_26.rg xr_5 = Pw_21.rg xr_5 := (by rw [ePw_26]; exact rw9_of _ (by decide))
    refine lv_aload_n hx hb dX13_row_74 rfl (lv_at hl 0 rfl) ?_
    refine lv_iconst (v := 0) hx hb dX13_row_75 (by decide) ?_
    refine lv_topi (fun z ez => ?_)
    obtain rfl : z = zI (0) := ez
    obtain ⟨kp_30, gkp_30⟩ := va_pl_get (X := [(hc, .inr (12, [v13_0, .ref lr, v13_2, .int (zI (z_9)), v13_4, .ref la, v13_6]))]) (f := pE Pw_26) hm_6
    have hkp_30 := gkp_30
    rw [pE_row hy_29] at hkp_30
    have hD0 := hD
    refine va_put (D := (dC, dI)) (ci := 21) (v := .int (zI (0))) (ty := .int) (C := RX17) (T := TX17) (N := 7) hx hb hts mem_P13_rowC_3 tyX17 tyX17_ok nmX17 hown hK hP hD hS kp_30 hkp_30 rfl 3 (by decide) (ow (k := 14) rfl) (fun _ h9 => h9) rfl (by decide +kernel) rfl rfl (Nat.le_of_ble_eq_true rfl) dX13_row_76 (fun H locs hP hD hS => ?_)
    obtain ⟨Pw_31, ePw_31⟩ : ∃ q9 : PO, q9 = Pw_26.rw9 3 xr_5 (0) := ⟨_, rfl⟩
    have eU : (([(hc, .inr (12, [v13_0, .ref lr, v13_2, .int (zI (z_9)), v13_4, .ref la, v13_6]))] : va_W) ++ va_pl L (pE Pw_26)).set kp_30 (xr_5, rowE (Pw_26.ro xr_5) (Pw_26.rt xr_5) (Pw_26.ra xr_5) (0) (Pw_26.rA xr_5) (Pw_26.rB xr_5) (Pw_26.rg xr_5)) = ([(hc, .inr (12, [v13_0, .ref lr, v13_2, .int (zI (z_9)), v13_4, .ref la, v13_6]))] : va_W) ++ va_pl L (pE Pw_31) := (by rw [va_pl_set hD0 hm_6 gkp_30, ePw_31]; exact congrArg (fun f9 => ([(hc, .inr (12, [v13_0, .ref lr, v13_2, .int (zI (z_9)), v13_4, .ref la, v13_6]))] : va_W) ++ va_pl L f9) (put17_3 hy_29))
    have hP : va_P (dC, dI) vwQ ([(hc, .inr (12, [v13_0, .ref lr, v13_2, .int (zI (z_9)), v13_4, .ref la, v13_6]))] ++ va_pl L (pE Pw_31)) H := (by rw [← eU]; exact hP)
    have hD : va_D A ([(hc, .inr (12, [v13_0, .ref lr, v13_2, .int (zI (z_9)), v13_4, .ref la, v13_6]))] ++ va_pl L (pE Pw_31)) := (by rw [← eU]; exact hD)
    clear eU hD0 gkp_30 hkp_30
    have wPw_31 : RW1 xr_5 Pw_26 Pw_31 := (by rw [ePw_31]; exact RW1.put _ _ _ _)
    have hy_32 : Pw_31.kd la = 30 := (by rw [ePw_31]; exact hy_27)
    have hy_33 : Pw_31.kd lr = 30 := (by rw [ePw_31]; exact hy_28)
    have hy_34 : Pw_31.kd xr_5 = 17 := (by rw [ePw_31]; exact hy_29)
    have : Pw_31.ro xr_5 = Pw_26.ro xr_5 := (by rw [ePw_31]; exact rw9_of _ (by decide))
    have : Pw_31.rt xr_5 = Pw_26.rt xr_5 := (by rw [ePw_31]; exact rw9_of _ (by decide))
    have : Pw_31.ra xr_5 = Pw_26.ra xr_5 := (by rw [ePw_31]; exact rw9_of _ (by decide))
    have : Pw_31.rb xr_5 = 0 := (by rw [ePw_31]; exact rw9_at _ _ _ _)
    have : Pw_31.rA xr_5 = Pw_26.rA xr_5 := (by rw [ePw_31]; exact rw9_of _ (by decide))
    have : Pw_31.rB xr_5 = Pw_26.rB xr_5 := (by rw [ePw_31]; exact rw9_of _ (by decide))
    have : Pw_31.rg xr_5 = Pw_26.rg xr_5 := (by rw [ePw_31]; exact rw9_of _ (by decide))
    refine lv_aload_n hx hb dX13_row_79 rfl (lv_at hl 0 rfl) ?_
    refine lv_iconst (v := 0) hx hb dX13_row_80 (by decide) ?_
    refine lv_topi (fun z ez => ?_)
    obtain rfl : z = zI (0) := ez
    obtain ⟨kp_35, gkp_35⟩ := va_pl_get (X := [(hc, .inr (12, [v13_0, .ref lr, v13_2, .int (zI (z_9)), v13_4, .ref la, v13_6]))]) (f := pE Pw_31) hm_6
    have hkp_35 := gkp_35
    rw [pE_row hy_34] at hkp_35
    have hD0 := hD
    refine va_put (D := (dC, dI)) (ci := 21) (v := .int (zI (0))) (ty := .int) (C := RX17) (T := TX17) (N := 7) hx hb hts mem_P13_rowC_3 tyX17 tyX17_ok nmX17 hown hK hP hD hS kp_35 hkp_35 rfl 1 (by decide) (ow (k := 15) rfl) (fun _ h9 => h9) rfl (by decide +kernel) rfl rfl (Nat.le_of_ble_eq_true rfl) dX13_row_81 (fun H locs hP hD hS => ?_)
    obtain ⟨Pw_36, ePw_36⟩ : ∃ q9 : PO, q9 = Pw_31.rw9 1 xr_5 (0) := ⟨_, rfl⟩
    have eU : (([(hc, .inr (12, [v13_0, .ref lr, v13_2, .int (zI (z_9)), v13_4, .ref la, v13_6]))] : va_W) ++ va_pl L (pE Pw_31)).set kp_35 (xr_5, rowE (Pw_31.ro xr_5) (0) (Pw_31.ra xr_5) (Pw_31.rb xr_5) (Pw_31.rA xr_5) (Pw_31.rB xr_5) (Pw_31.rg xr_5)) = ([(hc, .inr (12, [v13_0, .ref lr, v13_2, .int (zI (z_9)), v13_4, .ref la, v13_6]))] : va_W) ++ va_pl L (pE Pw_36) := (by rw [va_pl_set hD0 hm_6 gkp_35, ePw_36]; exact congrArg (fun f9 => ([(hc, .inr (12, [v13_0, .ref lr, v13_2, .int (zI (z_9)), v13_4, .ref la, v13_6]))] : va_W) ++ va_pl L f9) (put17_1 hy_34))
    have hP : va_P (dC, dI) vwQ ([(hc, .inr (12, [v13_0, .ref lr, v13_2, .int (zI (z_9)), v13_4, .ref la, v13_6]))] ++ va_pl L (pE Pw_36)) H := (by rw [← eU]; exact hP)
    have hD : va_D A ([(hc, .inr (12, [v13_0, .ref lr, v13_2, .int (zI (z_9)), v13_4, .ref la, v13_6]))] ++ va_pl L (pE Pw_36)) := (by rw [← eU]; exact hD)
    clear eU hD0 gkp_35 hkp_35
    have wPw_36 : RW1 xr_5 Pw_31 Pw_36 := (by rw [ePw_36]; exact RW1.put _ _ _ _)
    have hy_37 : Pw_36.kd la = 30 := (by rw [ePw_36]; exact hy_32)
    have hy_38 : Pw_36.kd lr = 30 := (by rw [ePw_36]; exact hy_33)
    have hy_39 : Pw_36.kd xr_5 = 17 := (by rw [ePw_36]; exact hy_34)
    have : Pw_36.ro xr_5 = Pw_31.ro xr_5 := (by rw [ePw_36]; exact rw9_of _ (by decide))
    have : Pw_36.rt xr_5 = 0 := (by rw [ePw_36]; exact rw9_at _ _ _ _)
    have : Pw_36.ra xr_5 = Pw_31.ra xr_5 := (by rw [ePw_36]; exact rw9_of _ (by decide))
    have : Pw_36.rb xr_5 = Pw_31.rb xr_5 := (by rw [ePw_36]; exact rw9_of _ (by decide))
    have : Pw_36.rA xr_5 = Pw_31.rA xr_5 := (by rw [ePw_36]; exact rw9_of _ (by decide))
    have : Pw_36.rB xr_5 = Pw_31.rB xr_5 := (by rw [ePw_36]; exact rw9_of _ (by decide))
    have : Pw_36.rg xr_5 = Pw_31.rg xr_5 := (by rw [ePw_36]; exact rw9_of _ (by decide))
    have hW_40 : RW1 xr_5 P Pw_36 := wPw_11.trans (wPw_16.trans (wPw_21.trans (wPw_26.trans (wPw_31.trans (wPw_36)))))
    have hrw_43 : RWD P Pw_36 := hW_40.rwd (Or.inl hk_7)
    have hak_42 : ALP L Pw_36 cO cI cZ sx_ed la := hX_a9.row hW_40 hk_7 (ROK9.of (by omega) (by omega) (by omega) (by omega) (by omega) (by omega) (by omega) (rUA9 (by have q9 := rUsA_spec (P.ro xr_5) (P.rA xr_5); omega)) (rUB9 (by have q9 := rUsB_spec (P.ro xr_5) (P.rB xr_5); omega))) (fun e9 => by have q9 := hX_a9.op21 hm_6 hk_7 e9; omega)
    have hke_41 : KEP [lr] L P L Pw_36 la := hrw_43.kep _ hX_a.lok.2.1
    have hc9 := hke_41.cat (by rw [hW_40.1]) 2
    have hc8 := hke_41.cat (by rw [hW_40.1]) 1
    have hq_44 : la ∈ L ∧ Pw_36.kd la = 30 := hke_41.mem hX_a.lok.1 hX_a.lok.2.1 (by decide)
    have hq_45 : lr ∈ L ∧ Pw_36.kd lr = 30 := hke_41.mem hC_lr.1 hC_lr.2.1 (by decide)
    have hq_46 : xr_5 ∈ L ∧ Pw_36.kd xr_5 = 17 := hke_41.mem hm_6 hk_7 (by decide)
    have hE_47 : Pw_36.ek xr_5 ≠ 1 := (by rw [hke_41.ek hm_6 hk_7 (by decide)]; exact hE_8)
    have hz9 := hke_41.2.2.1
    have hA_48 : KEP [lr] L P L Pw_36 la := (KEP.refl [lr] L P la).trans hke_41
    have : Pw_36.lz la = P.lz la := hrw_43.lz hX_a.lok.2.1
    have : Pw_36.lz lr = P.lz lr := hrw_43.lz hC_lr.2.1
    have ht9 := hrw_43.tot hX_a9 2 (Or.inr rfl)
    have ht8 := hrw_43.tot hX_a9 1 (Or.inl rfl)
    have : Pw_36.cap lr = P.cap lr := hW_40.cap lr
    have hek_49 : Pw_36.ek lr = 17 := (by rw [hke_41.ek hC_lr.1 hC_lr.2.1 (by decide)]; exact hC_lr.2.2.1)
    have how_50 : Pw_36.ow lr = lr := ((hke_41.1 lr hC_lr.1 (by rw [hC_lr.2.1]; decide)).2.2.2.1 hC_lr.2.1 hC_lr.2.2.2).1
    refine lv_aload_n hx hb dX13_row_84 rfl (lv_at hl 0 rfl) ?_
    subst hQ
    have hK := hK.sub (tys' := [(cO, .object "java/lang/Object"), (cI, .int), (cZ, .boolean)]) [2, 0, 1] rfl
    refine W_knowS (fun hrm9 => ?_)
    refine W.widen (k := 2) (n := 100007) (Nat.le_of_ble_eq_true rfl) (Nat.le_of_ble_eq_true rfl) ?_
    exact W.aret (v := .ref xr_5) hx hb hr (Or.inl ⟨_, rfl⟩) (Or.inr ⟨_, rfl⟩) (fun t ht hW => ⟨⟨(), xr_5, rfl, trivial, z_9, L, Pw_36, 0, 0, ⟨⟨(by rw [ht, ← hp1]; exact hrm9), (by omega)⟩, ⟨(by omega), ⟨hA_48, hak_42, ⟨⟨hq_46.1, hq_46.2, hE_47, (by rw [hW_40.el]; exact hel9)⟩, ⟨by omega, by omega⟩, ⟨by omega, by omega, by omega, by omega, by omega, by omega⟩, (fun i i0 i1 => hW_40.el _ _), ((hW_40.chg _).wk (fun z m q9 => Or.inl q9))⟩, by omega, by omega, by omega, by omega, by omega, (fun y _ _ _ => hW_40.cap y)⟩⟩⟩, by rw [ht]; exact hP, va_K.moved hW.alike hK, hD⟩, hS.F ht⟩) hS.2.2 dX13_row_85
  · have yb11 : (z13_rowN : Int) = (P.lz lr : Int) := (zI_eq (a := z13_rowN) (b := P.lz lr) (by omega) (by omega) (by omega) (by omega)).mp b11
    refine lv_aload_n hx hb dX13_row_14 rfl (lv_at hl 0 rfl) ?_
    refine va_get (D := (dC, dI)) (ci := 12) (v := .ref lr) (C := RX13) (T := TX13) (N := 7) hx hb hts mem_P13_rowC_0 hown hK hP 0 rfl rfl 1 (by decide) (ow (k := 1) rfl) (fun _ h9 => h9) rfl dX13_row_15 ?_
    refine va_new (ci := 21) (fs := [.int 0, .int 0, .int 0, .int 0, .int 0, .int 0, .int 0]) (C := RX17) (T := TX17) (N := 7) hx hb hts mem_P13_rowC_3 tyX17 tyX17_ok hown (ow (k := 16) rfl) (ow (k := 17) rfl) (ow (k := 18) rfl) hK hP hD hS hA rfl (df_X17) (Nat.le_of_ble_eq_true rfl) (Nat.le_of_ble_eq_true rfl) dX13_row_18 (fun q_51 H hP hD hS => ?_)
    have hP := pl_Pp (pl_new (X := [(hc, .inr (12, [v13_0, .ref lr, v13_2, .int (zI (z13_rowN)), v13_4, .ref la, v13_6]))]) (pl := va_pl L (pE P))) hP
    have hD := pl_Dp (pl_new (X := [(hc, .inr (12, [v13_0, .ref lr, v13_2, .int (zI (z13_rowN)), v13_4, .ref la, v13_6]))]) (pl := va_pl L (pE P))) hD
    have hP : va_P (dC, dI) vwQ ([(hc, .inr (12, [v13_0, .ref lr, v13_2, .int (zI (z13_rowN)), v13_4, .ref la, v13_6])), (q_51, .inr (21, [.int 0, .int 0, .int 0, .int 0, .int 0, .int 0, .int 0]))] ++ va_pl L (pE P)) H := hP
    have hD : va_D A ([(hc, .inr (12, [v13_0, .ref lr, v13_2, .int (zI (z13_rowN)), v13_4, .ref la, v13_6])), (q_51, .inr (21, [.int 0, .int 0, .int 0, .int 0, .int 0, .int 0, .int 0]))] ++ va_pl L (pE P)) := hD
    refine W.widen (k := 1) (n := 7) (Nat.le_of_ble_eq_true rfl) (Nat.le_of_ble_eq_true rfl) ?_
    refine lv_dup hx hb dX13_row_21 rfl ?_
    have hPc := hP.sub (ws' := [(q_51, .inr (21, [.int 0, .int 0, .int 0, .int 0, .int 0, .int 0, .int 0]))]) [1] rfl
    have hDc := hD.sub (ws' := [(q_51, .inr (21, [.int 0, .int 0, .int 0, .int 0, .int 0, .int 0, .int 0]))]) [1] (by decide) rfl
    have hKc := hK.sub (tys' := []) [] rfl
    have hFc := va_free (wc := [(q_51, .inr (21, [.int 0, .int 0, .int 0, .int 0, .int 0, .int 0, .int 0]))]) hD hS hA [1] rfl
    refine va_callv (va_runIN (As := []) (rest := [.ref q_51, .ref lr]) ⟨hx, hb, hml, hown, hts⟩ (c_X17_init l dC dI q_51 (.int 0) (.int 0) (.int 0) (.int 0) (.int 0) (.int 0) (.int 0) H.size) ⟨va_cnB 0 hts (goodIn_sub mem_P13_rowC_4 gw_X17_init) rfl rfl rfl hp2 (ow (k := 18) rfl) (by decide +kernel) ⟨(Nat.le_of_ble_eq_true rfl), (Nat.le_of_ble_eq_true rfl)⟩, rfl, (ow (k := 19) rfl)⟩ ⟨fun a U g mk q => by obtain ⟨q0, q1, qP, qK, qD⟩ := q; exact ⟨q0, q1, qP, va_K.moved (u := U) (U := U.calling g mk a) (Vm.Alike.refl U.vm) qK, qD⟩, fun U hU hW => ⟨rfl, by rw [hU], by rw [hU]; exact hPc, va_K.moved hW.alike hKc, hDc.weaken (fun _ _ _ _ => trivial)⟩⟩ rfl rfl hl.1 rfl (lv_room (Nat.le_of_ble_eq_true rfl)) dX13_row_22 ⟨(Nat.le_of_ble_eq_true rfl), (Nat.le_of_ble_eq_true rfl)⟩) hS (fun q _ h => hFc q h) hFc (fun  u t H1 locs ht hvm hw hB hz1 hk1 hS => ?_)
    obtain ⟨hP1, hK1, hD1⟩ := hB
    rw [ht] at hP1
    have hK1 := va_K.moved hvm.symm hK1
    obtain ⟨hP, hD⟩ := va_joinQ (X := [(hc, .inr (12, [v13_0, .ref lr, v13_2, .int (zI (z13_rowN)), v13_4, .ref la, v13_6])), (q_51, .inr (21, [.int 0, .int 0, .int 0, .int 0, .int 0, .int 0, .int 0]))]) (cx := [(q_51, .inr (21, [.int 0, .int 0, .int 0, .int 0, .int 0, .int 0, .int 0]))]) (wr := [(hc, .inr (12, [v13_0, .ref lr, v13_2, .int (zI (z13_rowN)), v13_4, .ref la, v13_6]))]) (w1 := [(q_51, .inr (21, [.int 0, .int 0, .int 0, .int 0, .int 0, .int 0, .int 0]))]) (pl := va_pl L (pE P)) hP hD [1] [0] rfl rfl (by decide) (by decide) hk1 hFc hP1 hD1
    have hK := (hK.sub (tys' := [(cI, .int), (cZ, .boolean), (cO, .object "java/lang/Object")]) [0, 1, 2] rfl).app hK1
    generalize H1 = H at hP hS ⊢
    have hP : va_P (dC, dI) vwQ ([(hc, .inr (12, [v13_0, .ref lr, v13_2, .int (zI (z13_rowN)), v13_4, .ref la, v13_6])), (q_51, .inr (21, [.int 0, .int 0, .int 0, .int 0, .int 0, .int 0, .int 0]))] ++ va_pl L (pE P)) H := hP
    have hD : va_D A ([(hc, .inr (12, [v13_0, .ref lr, v13_2, .int (zI (z13_rowN)), v13_4, .ref la, v13_6])), (q_51, .inr (21, [.int 0, .int 0, .int 0, .int 0, .int 0, .int 0, .int 0]))] ++ va_pl L (pE P)) := hD
    have hK : va_K (dC, dI) vwQ [(cI, .int), (cZ, .boolean), (cO, .object "java/lang/Object")] s := hK
    refine W.widen (k := 1) (n := 7) (Nat.le_of_ble_eq_true rfl) (Nat.le_of_ble_eq_true rfl) ?_
    have hqn_54 : q_51 ∉ L := pl_notin (X := [(hc, .inr (12, [v13_0, .ref lr, v13_2, .int (zI (z13_rowN)), v13_4, .ref la, v13_6]))]) hD
    obtain ⟨Pm_52, ePm_52⟩ : ∃ Q9 : PO, Q9 = P.mrow q_51 0 := ⟨_, rfl⟩
    obtain ⟨Lm_53, eLm_53⟩ : ∃ l9 : List Nat, l9 = q_51 :: L := ⟨_, rfl⟩
    obtain ⟨hP, hD⟩ := pool_new (X := [(hc, .inr (12, [v13_0, .ref lr, v13_2, .int (zI (z13_rowN)), v13_4, .ref la, v13_6]))]) (P' := Pm_52) (by rw [ePm_52]; exact pE_mrow P q_51 0) hP hD
    rw [← eLm_53] at hP hD
    have hex_55 : EXT9 L P Lm_53 Pm_52 := (by rw [eLm_53, ePm_52]; exact EXT9.one hqn_54)
    have hm9 := mrow_at P q_51 0
    rw [← ePm_52] at hm9
    have hak_56 : ALP Lm_53 Pm_52 cO cI cZ sx_ed la := (by rw [eLm_53] at hex_55 ⊢; exact hX_a9.new1 hex_55 (by rw [ePm_52]; exact mrow_new _ _ _ _ _ _ _ _))
    have hke_57 : KEP [lr] L P Lm_53 Pm_52 la := hex_55.kep hX_a9
    have hP : va_P (dC, dI) vwQ ([(hc, .inr (12, [v13_0, .ref lr, v13_2, .int (zI (z13_rowN)), v13_4, .ref la, v13_6]))] ++ va_pl Lm_53 (pE Pm_52)) H := hP
    have hD : va_D A ([(hc, .inr (12, [v13_0, .ref lr, v13_2, .int (zI (z13_rowN)), v13_4, .ref la, v13_6]))] ++ va_pl Lm_53 (pE Pm_52)) := hD
    have hq_58 : la ∈ Lm_53 ∧ Pm_52.kd la = 30 := hke_57.mem hX_a.lok.1 hX_a.lok.2.1 (by decide)
    have hq_59 : lr ∈ Lm_53 ∧ Pm_52.kd lr = 30 := hke_57.mem hC_lr.1 hC_lr.2.1 (by decide)
    have hz9 := hke_57.2.2.1
    have hA_60 : KEP [lr] L P Lm_53 Pm_52 la := (KEP.refl [lr] L P la).trans hke_57
    have : Pm_52.lz la = P.lz la := (hex_55 la hX_a.lok.1).2.1 0
    have : Pm_52.lz lr = P.lz lr := (hex_55 lr hC_lr.1).2.1 0
    have ht9 := hex_55.tot hX_a9
    have hc9 := hex_55.cat hX_a9
    have : Pm_52.cap lr = P.cap lr := hex_55.cap hX_a9.owa hC_lr.1 hC_lr.2.1
    have hek_61 : Pm_52.ek lr = 17 := (by rw [hke_57.ek hC_lr.1 hC_lr.2.1 (by decide)]; exact hC_lr.2.2.1)
    have how_62 : Pm_52.ow lr = lr := ((hke_57.1 lr hC_lr.1 (by rw [hC_lr.2.1]; decide)).2.2.2.1 hC_lr.2.1 hC_lr.2.2.2).1
    have hm_63 : q_51 ∈ Lm_53 := (by rw [eLm_53]; exact List.mem_cons_self)
    have hk_64 := hm9.1
    have hE_65 : Pm_52.ek q_51 ≠ 1 := (by rw [hm9.2.1]; decide)
    have hlk_66 := (show LOK Lm_53 Pm_52 cO 17 lr from (by have q9 := (hak_56.gla lr hq_59.1 hq_59.2).1; rw [hek_61] at q9; exact q9))
    have hX_x := hlk_66.1
    have hX_k := hlk_66.2.1
    have hlz9 := hlk_66.2.2.1
    have hX_c := hak_56.adc hlk_66
    have hX_y : q_51 ∈ Lm_53 ∧ OBK (Pm_52.kd q_51) := ⟨hm_63, (by rw [hk_64]; unfold OBK; decide)⟩
    have hPc := hP.part (X := [(hc, .inr (12, [v13_0, .ref lr, v13_2, .int (zI (z13_rowN)), v13_4, .ref la, v13_6]))]) (cx := []) (pl := va_pl Lm_53 (pE Pm_52)) [] rfl
    have hDc := hD.part (X := [(hc, .inr (12, [v13_0, .ref lr, v13_2, .int (zI (z13_rowN)), v13_4, .ref la, v13_6]))]) (cx := []) (pl := va_pl Lm_53 (pE Pm_52)) [] (by decide) rfl
    have hKc := hK.sub (tys' := [(cO, .object "java/lang/Object")]) [2] rfl
    have hFc := va_freeP (X := [(hc, .inr (12, [v13_0, .ref lr, v13_2, .int (zI (z13_rowN)), v13_4, .ref la, v13_6]))]) (cx := []) (pl := va_pl Lm_53 (pE Pm_52)) hD hS hA [] rfl
    have hgl := ADC.gl hX_c
    refine va_calli (va_runV (As := [.ref q_51]) (rest := []) ⟨hx, hb, hml, hown, hts⟩ (c_PL_addAR l dC dI cO Lm_53 Pm_52 lr q_51 sx_ed hX_x hX_k (by omega) hX_c hX_y H.size sx_mi) (cwV 1 hts g_P13_rowC_PL_addAR rfl rfl rfl (by decide +kernel) ⟨(Nat.le_of_ble_eq_true rfl), (Nat.le_of_ble_eq_true rfl)⟩) ⟨fun a U g mk q => by obtain ⟨q0, q1, qP, qK, qD, e0, e1, e2, e3, e4, e5, e6, e7⟩ := q; exact ⟨q0, q1, qP, va_K.moved (u := U) (U := U.calling g mk a) (Vm.Alike.refl U.vm) qK, qD, va_Nw.same rfl (u := U) (U := U.calling g mk a) rfl e0, va_Nw.same rfl (u := U) (U := U.calling g mk a) rfl e1, va_Nw.same rfl (u := U) (U := U.calling g mk a) rfl e2, va_Dc.moved (u := U) (U := U.calling g mk a) (Vm.Alike.refl U.vm) e3, va_Mi.moved (u := U) (U := U.calling g mk a) (Vm.Alike.refl U.vm) e4, va_AO.moved (u := U) (U := U.calling g mk a) (Vm.Alike.refl U.vm) e5, va_T.moved (u := U) (U := U.calling g mk a) (Vm.Alike.refl U.vm) e6, va_Z.moved (u := U) (U := U.calling g mk a) (Vm.Alike.refl U.vm) e7⟩, recv_30 hKc hPc hq_59.1 hq_59.2, fun U hU hW => ⟨rfl, by rw [hU], by rw [hU]; exact hPc, va_K.moved hW.alike hKc, hDc.weaken (fun _ _ _ _ => trivial), va_Nw.warmC hW hp3, va_Nw.warmC hW hp4, va_Nw.warmC hW hp5, va_Dc.moved hW.alike hp6, va_Mi.moved hW.alike hp7, va_AO.moved hW.alike hp8, by rw [hU]; exact va_T.narrow (va_T.moved hW.alike (va_T.kept hp9 hS.2.1)) hFc, by rw [hU]; exact va_Z.narrow (va_Z.moved hW.alike (va_Z.kept hp10 hS.2.1)) hFc⟩⟩ rfl rfl hl.1 rfl (lv_room (Nat.le_of_ble_eq_true rfl)) dX13_row_25 ⟨(Nat.le_trans (show 1 + (Pm_52.gc lr) ≤ 2 by omega) (Nat.le_of_ble_eq_true rfl)), (Nat.le_trans (show 7 + (Pm_52.gs lr) ≤ 100007 by omega) (Nat.le_of_ble_eq_true rfl))⟩) hS (fun q _ h => hFc q h) hFc (fun r_67 z_68 t H1 locs ht hvm hw hB hz1 hk1 hS => ?_)
    obtain ⟨Ln_69, Pn_70, hxt_70, hP1, hK1, hD1⟩ := hB
    rw [ht] at hP1
    have hK1 := va_K.moved hvm.symm hK1
    obtain ⟨hP, hD⟩ := va_joinP (X := [(hc, .inr (12, [v13_0, .ref lr, v13_2, .int (zI (z13_rowN)), v13_4, .ref la, v13_6]))]) (cx := []) (wr := [(hc, .inr (12, [v13_0, .ref lr, v13_2, .int (zI (z13_rowN)), v13_4, .ref la, v13_6]))]) (rx := []) (pl := va_pl Lm_53 (pE Pm_52)) (pl1 := va_pl Ln_69 (pE Pn_70)) hP hD [] [0] rfl rfl (by decide) (by decide) hk1 hFc hP1 hD1
    have hK := (hK.sub (tys' := [(cI, .int), (cZ, .boolean)]) [0, 1] rfl).app hK1
    generalize H1 = H at hP hS ⊢
    have hP : va_P (dC, dI) vwQ ([(hc, .inr (12, [v13_0, .ref lr, v13_2, .int (zI (z13_rowN)), v13_4, .ref la, v13_6]))] ++ va_pl Ln_69 (pE Pn_70)) H := hP
    have hD : va_D A ([(hc, .inr (12, [v13_0, .ref lr, v13_2, .int (zI (z13_rowN)), v13_4, .ref la, v13_6]))] ++ va_pl Ln_69 (pE Pn_70)) := hD
    have hK : va_K (dC, dI) vwQ [(cI, .int), (cZ, .boolean), (cO, .object "java/lang/Object")] s := hK
    refine W.widen (k := (1 + (Pm_52.gc lr))) (n := (7 + (Pm_52.gs lr))) (by omega) (by omega) ?_
    obtain ⟨rfl, hzz_68⟩ := hw
    have hu_71 := hxt_70
    have hfx := hu_71.2.2.2.2.2.2.2
    have han := hu_71.2.2.2.1
    have hke_72 : KEP [lr] Lm_53 Pm_52 Ln_69 Pn_70 la := hu_71.1.kep hak_56 hq_59.1 hq_59.2 hfx (by rw [hek_61]; decide) (Or.inr (by simp))
    have hak_73 : ALP Ln_69 Pn_70 cO cI cZ sx_ed la := hak_56.add hu_71.1 hq_59.1 hq_59.2 hfx hek_61 (by decide) hlk_66 hm_63 hk_64 hu_71.2.1 (by omega) hu_71.2.2.1 hu_71.2.2.2.1.1 (by have q9 := hak_56.adc40 hlk_66; omega) hu_71.2.2.2.2.1 hu_71.2.2.2.2.2.1 hu_71.2.2.2.2.2.2.1 (fun q9 => absurd q9 (by decide)) (fun _ => hE_65)
    have hgr9 := (gro_cap (P := Pm_52) (P' := Pn_70) (x := lr) (hak_56.adcl hlk_66) hu_71.1.1.2.2.2.2.2.2.2.2 hu_71.2.2.2.1.1 hu_71.2.2.2.1.2.2.1 hu_71.2.2.2.1.2.2.2 hu_71.2.2.2.1.2.1).1
    clear han
    have hq_74 : la ∈ Ln_69 ∧ Pn_70.kd la = 30 := hke_72.mem hq_58.1 hq_58.2 (by decide)
    have hq_75 : lr ∈ Ln_69 ∧ Pn_70.kd lr = 30 := hke_72.mem hq_59.1 hq_59.2 (by decide)
    have hq_76 : q_51 ∈ Ln_69 ∧ Pn_70.kd q_51 = 17 := hke_72.mem hm_63 hk_64 (by decide)
    have hE_77 : Pn_70.ek q_51 ≠ 1 := (by rw [hke_72.ek hm_63 hk_64 (by decide)]; exact hE_65)
    have hz9 := hke_72.2.2.1
    have hA_78 : KEP [lr] L P Ln_69 Pn_70 la := hA_60.trans hke_72
    have ht9 := hak_56.tot0 hke_72 (fun y9 m9 k9 o9 => hu_71.1.lz hak_56 hq_59.1 hq_59.2 hfx m9 k9 (fun e9 => o9 (by rw [e9]; exact how_62)))
    have hc9 := hak_56.cat0 hke_72 (fun y9 m9 k9 o9 => hu_71.1.cap hak_56 hq_59.1 hq_59.2 hfx m9 k9 (fun e9 => o9 (by rw [e9]; exact how_62)))
    have hza := hu_71.2.1
    have hek_79 : Pn_70.ek lr = 17 := (by rw [hke_72.ek hq_59.1 hq_59.2 (by decide)]; exact hek_61)
    have how_80 : Pn_70.ow lr = lr := ((hke_72.1 lr hq_59.1 (by rw [hq_59.2]; decide)).2.2.2.1 hq_59.2 how_62).1
    clear hfx
    refine lv_pop hx hb dX13_row_28 rfl ?_
    refine lv_aload_n hx hb dX13_row_29 rfl (lv_at hl 0 rfl) ?_
    refine va_get (D := (dC, dI)) (ci := 12) (v := .ref lr) (C := RX13) (T := TX13) (N := 7) hx hb hts mem_P13_rowC_0 hown hK hP 0 rfl rfl 1 (by decide) (ow (k := 1) rfl) (fun _ h9 => h9) rfl dX13_row_30 ?_
    refine lv_aload_n hx hb dX13_row_33 rfl (lv_at hl 0 rfl) ?_
    refine va_get (D := (dC, dI)) (ci := 12) (v := .int (zI (z13_rowN))) (C := RX13) (T := TX13) (N := 7) hx hb hts mem_P13_rowC_0 hown hK hP 0 rfl rfl 3 (by decide) (ow (k := 0) rfl) (fun _ h9 => h9) rfl dX13_row_34 ?_
    have hlk_81 := (show LOK Ln_69 Pn_70 cO 17 lr from (by have q9 := (hak_73.gla lr hq_75.1 hq_75.2).1; rw [hek_79] at q9; exact q9))
    obtain ⟨x, ex⟩ : ∃ q9 : Nat, q9 = Pn_70.el lr (z13_rowN) := ⟨_, rfl⟩
    have hX_x := hlk_81.1
    have hX_k := hlk_81.2.1
    have hq9 := hlk_81.row (i := z13_rowN) (by omega) (by omega)
    have hX_q : Pn_70.le lr ∈ Ln_69 ∧ Pn_70.kd (Pn_70.le lr) = 31 ∧ Pn_70.ac (Pn_70.le lr) = cO := ⟨hq9.1, hq9.2.1, hq9.2.2.1⟩
    have hq8 := hq9.2.2.2
    have hX_e0 : Pn_70.oa (Pn_70.le lr) (z13_rowN).toNat = some x := (by rw [ex]; exact (hlk_81.2.2.2.2 (z13_rowN) (by omega) (by omega)).1)
    have hxm : x ∈ Ln_69 := (by rw [ex]; exact (hlk_81.2.2.2.2 (z13_rowN) (by omega) (by omega)).2.1)
    have hxk := (hlk_81.2.2.2.2 (z13_rowN) (by omega) (by omega)).2.2
    rw [← ex] at hxk
    have hPc := hP.part (X := [(hc, .inr (12, [v13_0, .ref lr, v13_2, .int (zI (z13_rowN)), v13_4, .ref la, v13_6]))]) (cx := []) (pl := va_pl Ln_69 (pE Pn_70)) [] rfl
    have hDc := hD.part (X := [(hc, .inr (12, [v13_0, .ref lr, v13_2, .int (zI (z13_rowN)), v13_4, .ref la, v13_6]))]) (cx := []) (pl := va_pl Ln_69 (pE Pn_70)) [] (by decide) rfl
    have hKc := hK.sub (tys' := [(cO, .object "java/lang/Object")]) [2] rfl
    have hFc := va_freeP (X := [(hc, .inr (12, [v13_0, .ref lr, v13_2, .int (zI (z13_rowN)), v13_4, .ref la, v13_6]))]) (cx := []) (pl := va_pl Ln_69 (pE Pn_70)) hD hS hA [] rfl
    refine va_callr (va_runV (As := [.int (zI (z13_rowN))]) (rest := []) ⟨hx, hb, hml, hown, hts⟩ (c_PL_get l dC dI cO Ln_69 Pn_70 lr z13_rowN x hX_x hX_k hX_q (by omega) hX_e0 H.size) (cwV 1 hts g_P13_rowC_PL_get rfl rfl rfl (by decide +kernel) ⟨(Nat.le_of_ble_eq_true rfl), (Nat.le_of_ble_eq_true rfl)⟩) ⟨fun a U g mk q => by obtain ⟨q0, q1, qP, qK, qD⟩ := q; exact ⟨q0, q1, qP, va_K.moved (u := U) (U := U.calling g mk a) (Vm.Alike.refl U.vm) qK, qD⟩, recv_30 hKc hPc hq_75.1 hq_75.2, fun U hU hW => ⟨rfl, by rw [hU], by rw [hU]; exact hPc, va_K.moved hW.alike hKc, hDc.weaken (fun _ _ _ _ => trivial)⟩⟩ rfl rfl hl.1 rfl (lv_room (Nat.le_of_ble_eq_true rfl)) dX13_row_37 ⟨(Nat.le_trans (show (1 + (Pm_52.gc lr)) + 0 ≤ 2 by omega) (Nat.le_of_ble_eq_true rfl)), (Nat.le_trans (show (7 + (Pm_52.gs lr)) + 0 ≤ 100007 by omega) (Nat.le_of_ble_eq_true rfl))⟩) hS (fun q _ h => hFc q h) hFc (fun u q_82 t H1 locs ht hvm hw hB hz1 hk1 hS => ?_)
    obtain ⟨hxt_82, hP1, hK1, hD1⟩ := hB
    rw [ht] at hP1
    have hK1 := va_K.moved hvm.symm hK1
    obtain ⟨hP, hD⟩ := va_joinP (X := [(hc, .inr (12, [v13_0, .ref lr, v13_2, .int (zI (z13_rowN)), v13_4, .ref la, v13_6]))]) (cx := []) (wr := [(hc, .inr (12, [v13_0, .ref lr, v13_2, .int (zI (z13_rowN)), v13_4, .ref la, v13_6]))]) (rx := []) (pl := va_pl Ln_69 (pE Pn_70)) (pl1 := va_pl Ln_69 (pE Pn_70)) hP hD [] [0] rfl rfl (by decide) (by decide) hk1 hFc hP1 hD1
    have hK := (hK.sub (tys' := [(cI, .int), (cZ, .boolean)]) [0, 1] rfl).app hK1
    generalize H1 = H at hP hS ⊢
    have hP : va_P (dC, dI) vwQ ([(hc, .inr (12, [v13_0, .ref lr, v13_2, .int (zI (z13_rowN)), v13_4, .ref la, v13_6]))] ++ va_pl Ln_69 (pE Pn_70)) H := hP
    have hD : va_D A ([(hc, .inr (12, [v13_0, .ref lr, v13_2, .int (zI (z13_rowN)), v13_4, .ref la, v13_6]))] ++ va_pl Ln_69 (pE Pn_70)) := hD
    have hK : va_K (dC, dI) vwQ [(cI, .int), (cZ, .boolean), (cO, .object "java/lang/Object")] s := hK
    refine W.widen (k := (1 + (Pm_52.gc lr))) (n := (7 + (Pm_52.gs lr))) (by omega) (by omega) ?_
    rw [hxt_82]
    clear hX_e0
    obtain ⟨xr_83, h9⟩ : ∃ q9 : Nat, q9 = x := ⟨_, rfl⟩
    subst h9
    have hm_84 := hxm
    have hk_85 := hxk
    have hel9 := ex
    have hE_86 : Pn_70.ek xr_83 ≠ 1 := (by rw [ex]; exact (hak_73.gla lr hq_75.1 hq_75.2).2.2 hek_79 _ (by omega) (by omega))
    refine va_castY (C := "SsaForgeModel$Row") (nm := "SsaForgeModel$Row") hx hb hown (ow (k := 9) rfl) hp0 (recv_17 hK hP hm_84 hk_85) dX13_row_40 ?_
    refine lv_astore_n (lv' := [(1, .ref xr_83), (0, .ref hc)]) hx hb dX13_row_43 rfl hl (by decide) rfl (fun ls hl => ?_)
    refine lv_aload_n hx hb dX13_row_44 rfl (lv_at hl 1 rfl) ?_
    refine lv_dup hx hb dX13_row_45 rfl ?_
    refine va_get (D := (dC, dI)) (ci := 12) (v := .int (zI (z13_rowN))) (C := RX13) (T := TX13) (N := 7) hx hb hts mem_P13_rowC_0 hown hK hP 0 rfl rfl 3 (by decide) (ow (k := 0) rfl) (fun _ h9 => h9) rfl dX13_row_46 ?_
    refine lv_iconst (v := 1) hx hb dX13_row_49 (by decide) ?_
    refine lv_iadd hx hb dX13_row_50 ?_
    refine lv_topi (fun z ez => ?_)
    obtain rfl : z = zI (z13_rowN + 1) := ez.trans (zI_add (z13_rowN) (1))
    refine va_put (D := (dC, dI)) (ci := 12) (v := .int (zI (z13_rowN + 1))) (ty := .int) (C := RX13) (T := TX13) (N := 7) hx hb hts mem_P13_rowC_0 tyX13 tyX13_ok nmX13 hown hK hP hD hS 0 rfl rfl 3 (by decide) (ow (k := 0) rfl) (fun _ h9 => h9) rfl (by decide +kernel) rfl rfl (by first | exact Nat.le_of_ble_eq_true rfl | exact Nat.le_trans (show (1 + (Pm_52.gc lr)) ≤ 2 from (by omega)) (Nat.le_of_ble_eq_true rfl) | exact Nat.le_trans (show (7 + (Pm_52.gs lr)) ≤ 100007 from (by omega)) (Nat.le_of_ble_eq_true rfl)) dX13_row_51 (fun H locs hP hD hS => ?_)
    have hP : va_P (dC, dI) vwQ ([(hc, .inr (12, [v13_0, .ref lr, v13_2, .int (zI (z13_rowN + 1)), v13_4, .ref la, v13_6]))] ++ va_pl Ln_69 (pE Pn_70)) H := hP
    have hD : va_D A ([(hc, .inr (12, [v13_0, .ref lr, v13_2, .int (zI (z13_rowN + 1)), v13_4, .ref la, v13_6]))] ++ va_pl Ln_69 (pE Pn_70)) := hD
    obtain ⟨z_87, ez_87⟩ : ∃ z9 : Int, z9 = z13_rowN + 1 := ⟨_, rfl⟩
    rw [← ez_87] at hP hD
    have hP : va_P (dC, dI) vwQ ([(hc, .inr (12, [v13_0, .ref lr, v13_2, .int (zI (z_87)), v13_4, .ref la, v13_6]))] ++ va_pl Ln_69 (pE Pn_70)) H := hP
    have hD : va_D A ([(hc, .inr (12, [v13_0, .ref lr, v13_2, .int (zI (z_87)), v13_4, .ref la, v13_6]))] ++ va_pl Ln_69 (pE Pn_70)) := hD
    refine lv_aload_n hx hb dX13_row_54 rfl (lv_at hl 0 rfl) ?_
    refine lv_iconst (v := 0) hx hb dX13_row_55 (by decide) ?_
    have ⟨hr1, hr2, hr3, hr4, hr5, hr6, hr7, hr8, hr9⟩ := hak_73.rok hm_84 hk_85
    refine lv_topi (fun z ez => ?_)
    obtain rfl : z = zI (0) := ez
    obtain ⟨kp_88, gkp_88⟩ := va_pl_get (X := [(hc, .inr (12, [v13_0, .ref lr, v13_2, .int (zI (z_87)), v13_4, .ref la, v13_6]))]) (f := pE Pn_70) hm_84
    have hkp_88 := gkp_88
    rw [pE_row hk_85] at hkp_88
    have hD0 := hD
    refine va_put (D := (dC, dI)) (ci := 21) (v := .int (zI (0))) (ty := .boolean) (C := RX17) (T := TX17) (N := 7) hx hb hts mem_P13_rowC_3 tyX17 tyX17_ok nmX17 hown hK hP hD hS kp_88 hkp_88 rfl 6 (by decide) (ow (k := 10) rfl) (fun _ h9 => h9) rfl (by decide +kernel) (zI_bool (by omega) (by omega)) (zI_fitb (by omega) (by omega)) (by first | exact Nat.le_of_ble_eq_true rfl | exact Nat.le_trans (show (1 + (Pm_52.gc lr)) ≤ 2 from (by omega)) (Nat.le_of_ble_eq_true rfl) | exact Nat.le_trans (show (7 + (Pm_52.gs lr)) ≤ 100007 from (by omega)) (Nat.le_of_ble_eq_true rfl)) dX13_row_56 (fun H locs hP hD hS => ?_)
    obtain ⟨Pw_89, ePw_89⟩ : ∃ q9 : PO, q9 = Pn_70.rw9 6 xr_83 (0) := ⟨_, rfl⟩
    have eU : (([(hc, .inr (12, [v13_0, .ref lr, v13_2, .int (zI (z_87)), v13_4, .ref la, v13_6]))] : va_W) ++ va_pl Ln_69 (pE Pn_70)).set kp_88 (xr_83, rowE (Pn_70.ro xr_83) (Pn_70.rt xr_83) (Pn_70.ra xr_83) (Pn_70.rb xr_83) (Pn_70.rA xr_83) (Pn_70.rB xr_83) (0)) = ([(hc, .inr (12, [v13_0, .ref lr, v13_2, .int (zI (z_87)), v13_4, .ref la, v13_6]))] : va_W) ++ va_pl Ln_69 (pE Pw_89) := (by rw [va_pl_set hD0 hm_84 gkp_88, ePw_89]; exact congrArg (fun f9 => ([(hc, .inr (12, [v13_0, .ref lr, v13_2, .int (zI (z_87)), v13_4, .ref la, v13_6]))] : va_W) ++ va_pl Ln_69 f9) (put17_6 hk_85))
    have hP : va_P (dC, dI) vwQ ([(hc, .inr (12, [v13_0, .ref lr, v13_2, .int (zI (z_87)), v13_4, .ref la, v13_6]))] ++ va_pl Ln_69 (pE Pw_89)) H := (by rw [← eU]; exact hP)
    have hD : va_D A ([(hc, .inr (12, [v13_0, .ref lr, v13_2, .int (zI (z_87)), v13_4, .ref la, v13_6]))] ++ va_pl Ln_69 (pE Pw_89)) := (by rw [← eU]; exact hD)
    clear eU hD0 gkp_88 hkp_88
    have wPw_89 : RW1 xr_83 Pn_70 Pw_89 := (by rw [ePw_89]; exact RW1.put _ _ _ _)
    have hy_90 : Pw_89.kd la = 30 := (by rw [ePw_89]; exact hq_74.2)
    have hy_91 : Pw_89.kd lr = 30 := (by rw [ePw_89]; exact hq_75.2)
    have hy_92 : Pw_89.kd q_51 = 17 := (by rw [ePw_89]; exact hq_76.2)
    have hy_93 : Pw_89.kd xr_83 = 17 := (by rw [ePw_89]; exact hk_85)
    have : Pw_89.ro xr_83 = Pn_70.ro xr_83 := (by rw [ePw_89]; exact rw9_of _ (by decide))
    have : Pw_89.rt xr_83 = Pn_70.rt xr_83 := (by rw [ePw_89]; exact rw9_of _ (by decide))
    have : Pw_89.ra xr_83 = Pn_70.ra xr_83 := (by rw [ePw_89]; exact rw9_of _ (by decide))
    have : Pw_89.rb xr_83 = Pn_70.rb xr_83 := (by rw [ePw_89]; exact rw9_of _ (by decide))
    have : Pw_89.rA xr_83 = Pn_70.rA xr_83 := (by rw [ePw_89]; exact rw9_of _ (by decide))
    have : Pw_89.rB xr_83 = Pn_70.rB xr_83 := (by rw [ePw_89]; exact rw9_of _ (by decide))
    have : Pw_89.rg xr_83 = 0 := (by rw [ePw_89]; exact rw9_at _ _ _ _)
    refine lv_aload_n hx hb dX13_row_59 rfl (lv_at hl 0 rfl) ?_
    refine lv_iconst (v := 0) hx hb dX13_row_60 (by decide) ?_
    refine lv_topi (fun z ez => ?_)
    obtain rfl : z = zI (0) := ez
    obtain ⟨kp_94, gkp_94⟩ := va_pl_get (X := [(hc, .inr (12, [v13_0, .ref lr, v13_2, .int (zI (z_87)), v13_4, .ref la, v13_6]))]) (f := pE Pw_89) hm_84
    have hkp_94 := gkp_94
    rw [pE_row hy_93] at hkp_94
    have hD0 := hD
    refine va_put (D := (dC, dI)) (ci := 21) (v := .int (zI (0))) (ty := .boolean) (C := RX17) (T := TX17) (N := 7) hx hb hts mem_P13_rowC_3 tyX17 tyX17_ok nmX17 hown hK hP hD hS kp_94 hkp_94 rfl 4 (by decide) (ow (k := 11) rfl) (fun _ h9 => h9) rfl (by decide +kernel) (zI_bool (by omega) (by omega)) (zI_fitb (by omega) (by omega)) (by first | exact Nat.le_of_ble_eq_true rfl | exact Nat.le_trans (show (1 + (Pm_52.gc lr)) ≤ 2 from (by omega)) (Nat.le_of_ble_eq_true rfl) | exact Nat.le_trans (show (7 + (Pm_52.gs lr)) ≤ 100007 from (by omega)) (Nat.le_of_ble_eq_true rfl)) dX13_row_61 (fun H locs hP hD hS => ?_)
    obtain ⟨Pw_95, ePw_95⟩ : ∃ q9 : PO, q9 = Pw_89.rw9 4 xr_83 (0) := ⟨_, rfl⟩
    have eU : (([(hc, .inr (12, [v13_0, .ref lr, v13_2, .int (zI (z_87)), v13_4, .ref la, v13_6]))] : va_W) ++ va_pl Ln_69 (pE Pw_89)).set kp_94 (xr_83, rowE (Pw_89.ro xr_83) (Pw_89.rt xr_83) (Pw_89.ra xr_83) (Pw_89.rb xr_83) (0) (Pw_89.rB xr_83) (Pw_89.rg xr_83)) = ([(hc, .inr (12, [v13_0, .ref lr, v13_2, .int (zI (z_87)), v13_4, .ref la, v13_6]))] : va_W) ++ va_pl Ln_69 (pE Pw_95) := (by rw [va_pl_set hD0 hm_84 gkp_94, ePw_95]; exact congrArg (fun f9 => ([(hc, .inr (12, [v13_0, .ref lr, v13_2, .int (zI (z_87)), v13_4, .ref la, v13_6]))] : va_W) ++ va_pl Ln_69 f9) (put17_4 hy_93))
    have hP : va_P (dC, dI) vwQ ([(hc, .inr (12, [v13_0, .ref lr, v13_2, .int (zI (z_87)), v13_4, .ref la, v13_6]))] ++ va_pl Ln_69 (pE Pw_95)) H := (by rw [← eU]; exact hP)
    have hD : va_D A ([(hc, .inr (12, [v13_0, .ref lr, v13_2, .int (zI (z_87)), v13_4, .ref la, v13_6]))] ++ va_pl Ln_69 (pE Pw_95)) := (by rw [← eU]; exact hD)
    clear eU hD0 gkp_94 hkp_94
    have wPw_95 : RW1 xr_83 Pw_89 Pw_95 := (by rw [ePw_95]; exact RW1.put _ _ _ _)
    have hy_96 : Pw_95.kd la = 30 := (by rw [ePw_95]; exact hy_90)
    have hy_97 : Pw_95.kd lr = 30 := (by rw [ePw_95]; exact hy_91)
    have hy_98 : Pw_95.kd q_51 = 17 := (by rw [ePw_95]; exact hy_92)
    have hy_99 : Pw_95.kd xr_83 = 17 := (by rw [ePw_95]; exact hy_93)
    have : Pw_95.ro xr_83 = Pw_89.ro xr_83 := (by rw [ePw_95]; exact rw9_of _ (by decide))
    have : Pw_95.rt xr_83 = Pw_89.rt xr_83 := (by rw [ePw_95]; exact rw9_of _ (by decide))
    have : Pw_95.ra xr_83 = Pw_89.ra xr_83 := (by rw [ePw_95]; exact rw9_of _ (by decide))
    have : Pw_95.rb xr_83 = Pw_89.rb xr_83 := (by rw [ePw_95]; exact rw9_of _ (by decide))
    have : Pw_95.rA xr_83 = 0 := (by rw [ePw_95]; exact rw9_at _ _ _ _)
    have : Pw_95.rB xr_83 = Pw_89.rB xr_83 := (by rw [ePw_95]; exact rw9_of _ (by decide))
    have : Pw_95.rg xr_83 = Pw_89.rg xr_83 := (by rw [ePw_95]; exact rw9_of _ (by decide))
    refine lv_aload_n hx hb dX13_row_64 rfl (lv_at hl 0 rfl) ?_
    refine lv_iconst (v := 0) hx hb dX13_row_65 (by decide) ?_
    refine lv_topi (fun z ez => ?_)
    obtain rfl : z = zI (0) := ez
    obtain ⟨kp_100, gkp_100⟩ := va_pl_get (X := [(hc, .inr (12, [v13_0, .ref lr, v13_2, .int (zI (z_87)), v13_4, .ref la, v13_6]))]) (f := pE Pw_95) hm_84
    have hkp_100 := gkp_100
    rw [pE_row hy_99] at hkp_100
    have hD0 := hD
    refine va_put (D := (dC, dI)) (ci := 21) (v := .int (zI (0))) (ty := .boolean) (C := RX17) (T := TX17) (N := 7) hx hb hts mem_P13_rowC_3 tyX17 tyX17_ok nmX17 hown hK hP hD hS kp_100 hkp_100 rfl 5 (by decide) (ow (k := 12) rfl) (fun _ h9 => h9) rfl (by decide +kernel) (zI_bool (by omega) (by omega)) (zI_fitb (by omega) (by omega)) (by first | exact Nat.le_of_ble_eq_true rfl | exact Nat.le_trans (show (1 + (Pm_52.gc lr)) ≤ 2 from (by omega)) (Nat.le_of_ble_eq_true rfl) | exact Nat.le_trans (show (7 + (Pm_52.gs lr)) ≤ 100007 from (by omega)) (Nat.le_of_ble_eq_true rfl)) dX13_row_66 (fun H locs hP hD hS => ?_)
    obtain ⟨Pw_101, ePw_101⟩ : ∃ q9 : PO, q9 = Pw_95.rw9 5 xr_83 (0) := ⟨_, rfl⟩
    have eU : (([(hc, .inr (12, [v13_0, .ref lr, v13_2, .int (zI (z_87)), v13_4, .ref la, v13_6]))] : va_W) ++ va_pl Ln_69 (pE Pw_95)).set kp_100 (xr_83, rowE (Pw_95.ro xr_83) (Pw_95.rt xr_83) (Pw_95.ra xr_83) (Pw_95.rb xr_83) (Pw_95.rA xr_83) (0) (Pw_95.rg xr_83)) = ([(hc, .inr (12, [v13_0, .ref lr, v13_2, .int (zI (z_87)), v13_4, .ref la, v13_6]))] : va_W) ++ va_pl Ln_69 (pE Pw_101) := (by rw [va_pl_set hD0 hm_84 gkp_100, ePw_101]; exact congrArg (fun f9 => ([(hc, .inr (12, [v13_0, .ref lr, v13_2, .int (zI (z_87)), v13_4, .ref la, v13_6]))] : va_W) ++ va_pl Ln_69 f9) (put17_5 hy_99))
    have hP : va_P (dC, dI) vwQ ([(hc, .inr (12, [v13_0, .ref lr, v13_2, .int (zI (z_87)), v13_4, .ref la, v13_6]))] ++ va_pl Ln_69 (pE Pw_101)) H := (by rw [← eU]; exact hP)
    have hD : va_D A ([(hc, .inr (12, [v13_0, .ref lr, v13_2, .int (zI (z_87)), v13_4, .ref la, v13_6]))] ++ va_pl Ln_69 (pE Pw_101)) := (by rw [← eU]; exact hD)
    clear eU hD0 gkp_100 hkp_100
    have wPw_101 : RW1 xr_83 Pw_95 Pw_101 := (by rw [ePw_101]; exact RW1.put _ _ _ _)
    have hy_102 : Pw_101.kd la = 30 := (by rw [ePw_101]; exact hy_96)
    have hy_103 : Pw_101.kd lr = 30 := (by rw [ePw_101]; exact hy_97)
    have hy_104 : Pw_101.kd q_51 = 17 := (by rw [ePw_101]; exact hy_98)
    have hy_105 : Pw_101.kd xr_83 = 17 := (by rw [ePw_101]; exact hy_99)
    have : Pw_101.ro xr_83 = Pw_95.ro xr_83 := (by rw [ePw_101]; exact rw9_of _ (by decide))
    have : Pw_101.rt xr_83 = Pw_95.rt xr_83 := (by rw [ePw_101]; exact rw9_of _ (by decide))
    have : Pw_101.ra xr_83 = Pw_95.ra xr_83 := (by rw [ePw_101]; exact rw9_of _ (by decide))
    have : Pw_101.rb xr_83 = Pw_95.rb xr_83 := (by rw [ePw_101]; exact rw9_of _ (by decide))
    have : Pw_101.rA xr_83 = Pw_95.rA xr_83 := (by rw [ePw_101]; exact rw9_of _ (by decide))
    have : Pw_101.rB xr_83 = 0 := (by rw [ePw_101]; exact rw9_at _ _ _ _)
    have : Pw_101.rg xr_83 = Pw_95.rg xr_83 := (by rw [ePw_101]; exact rw9_of _ (by decide))
    refine lv_aload_n hx hb dX13_row_69 rfl (lv_at hl 0 rfl) ?_
    refine lv_iconst (v := 0) hx hb dX13_row_70 (by decide) ?_
    refine lv_topi (fun z ez => ?_)
    obtain rfl : z = zI (0) := ez
    obtain ⟨kp_106, gkp_106⟩ := va_pl_get (X := [(hc, .inr (12, [v13_0, .ref lr, v13_2, .int (zI (z_87)), v13_4, .ref la, v13_6]))]) (f := pE Pw_101) hm_84
    have hkp_106 := gkp_106
    rw [pE_row hy_105] at hkp_106
    have hD0 := hD
    refine va_put (D := (dC, dI)) (ci := 21) (v := .int (zI (0))) (ty := .int) (C := RX17) (T := TX17) (N := 7) hx hb hts mem_P13_rowC_3 tyX17 tyX17_ok nmX17 hown hK hP hD hS kp_106 hkp_106 rfl 2 (by decide) (ow (k := 13) rfl) (fun _ h9 => h9) rfl (by decide +kernel) rfl rfl (by first | exact Nat.le_of_ble_eq_true rfl | exact Nat.le_trans (show (1 + (Pm_52.gc lr)) ≤ 2 from (by omega)) (Nat.le_of_ble_eq_true rfl) | exact Nat.le_trans (show (7 + (Pm_52.gs lr)) ≤ 100007 from (by omega)) (Nat.le_of_ble_eq_true rfl)) dX13_row_71 (fun H locs hP hD hS => ?_)
    obtain ⟨Pw_107, ePw_107⟩ : ∃ q9 : PO, q9 = Pw_101.rw9 2 xr_83 (0) := ⟨_, rfl⟩
    have eU : (([(hc, .inr (12, [v13_0, .ref lr, v13_2, .int (zI (z_87)), v13_4, .ref la, v13_6]))] : va_W) ++ va_pl Ln_69 (pE Pw_101)).set kp_106 (xr_83, rowE (Pw_101.ro xr_83) (Pw_101.rt xr_83) (0) (Pw_101.rb xr_83) (Pw_101.rA xr_83) (Pw_101.rB xr_83) (Pw_101.rg xr_83)) = ([(hc, .inr (12, [v13_0, .ref lr, v13_2, .int (zI (z_87)), v13_4, .ref la, v13_6]))] : va_W) ++ va_pl Ln_69 (pE Pw_107) := (by rw [va_pl_set hD0 hm_84 gkp_106, ePw_107]; exact congrArg (fun f9 => ([(hc, .inr (12, [v13_0, .ref lr, v13_2, .int (zI (z_87)), v13_4, .ref la, v13_6]))] : va_W) ++ va_pl Ln_69 f9) (put17_2 hy_105))
    have hP : va_P (dC, dI) vwQ ([(hc, .inr (12, [v13_0, .ref lr, v13_2, .int (zI (z_87)), v13_4, .ref la, v13_6]))] ++ va_pl Ln_69 (pE Pw_107)) H := (by rw [← eU]; exact hP)
    have hD : va_D A ([(hc, .inr (12, [v13_0, .ref lr, v13_2, .int (zI (z_87)), v13_4, .ref la, v13_6]))] ++ va_pl Ln_69 (pE Pw_107)) := (by rw [← eU]; exact hD)
    clear eU hD0 gkp_106 hkp_106
    have wPw_107 : RW1 xr_83 Pw_101 Pw_107 := (by rw [ePw_107]; exact RW1.put _ _ _ _)
    have hy_108 : Pw_107.kd la = 30 := (by rw [ePw_107]; exact hy_102)
    have hy_109 : Pw_107.kd lr = 30 := (by rw [ePw_107]; exact hy_103)
    have hy_110 : Pw_107.kd q_51 = 17 := (by rw [ePw_107]; exact hy_104)
    have hy_111 : Pw_107.kd xr_83 = 17 := (by rw [ePw_107]; exact hy_105)
    have : Pw_107.ro xr_83 = Pw_101.ro xr_83 := (by rw [ePw_107]; exact rw9_of _ (by decide))
    have : Pw_107.rt xr_83 = Pw_101.rt xr_83 := (by rw [ePw_107]; exact rw9_of _ (by decide))
    have : Pw_107.ra xr_83 = 0 := (by rw [ePw_107]; exact rw9_at _ _ _ _)
    have : Pw_107.rb xr_83 = Pw_101.rb xr_83 := (by rw [ePw_107]; exact rw9_of _ (by decide))
    have : Pw_107.rA xr_83 = Pw_101.rA xr_83 := (by rw [ePw_107]; exact rw9_of _ (by decide))
    have : Pw_107.rB xr_83 = Pw_101.rB xr_83 := (by rw [ePw_107]; exact rw9_of _ (by decide))
    have : Pw_107.rg xr_83 = Pw_101.rg xr_83 := (by rw [ePw_107]; exact rw9_of _ (by decide))
    refine lv_aload_n hx hb dX13_row_74 rfl (lv_at hl 0 rfl) ?_
    refine lv_iconst (v := 0) hx hb dX13_row_75 (by decide) ?_
    refine lv_topi (fun z ez => ?_)
    obtain rfl : z = zI (0) := ez
    obtain ⟨kp_112, gkp_112⟩ := va_pl_get (X := [(hc, .inr (12, [v13_0, .ref lr, v13_2, .int (zI (z_87)), v13_4, .ref la, v13_6]))]) (f := pE Pw_107) hm_84
    have hkp_112 := gkp_112
    rw [pE_row hy_111] at hkp_112
    have hD0 := hD
    refine va_put (D := (dC, dI)) (ci := 21) (v := .int (zI (0))) (ty := .int) (C := RX17) (T := TX17) (N := 7) hx hb hts mem_P13_rowC_3 tyX17 tyX17_ok nmX17 hown hK hP hD hS kp_112 hkp_112 rfl 3 (by decide) (ow (k := 14) rfl) (fun _ h9 => h9) rfl (by decide +kernel) rfl rfl (by first | exact Nat.le_of_ble_eq_true rfl | exact Nat.le_trans (show (1 + (Pm_52.gc lr)) ≤ 2 from (by omega)) (Nat.le_of_ble_eq_true rfl) | exact Nat.le_trans (show (7 + (Pm_52.gs lr)) ≤ 100007 from (by omega)) (Nat.le_of_ble_eq_true rfl)) dX13_row_76 (fun H locs hP hD hS => ?_)
    obtain ⟨Pw_113, ePw_113⟩ : ∃ q9 : PO, q9 = Pw_107.rw9 3 xr_83 (0) := ⟨_, rfl⟩
    have eU : (([(hc, .inr (12, [v13_0, .ref lr, v13_2, .int (zI (z_87)), v13_4, .ref la, v13_6]))] : va_W) ++ va_pl Ln_69 (pE Pw_107)).set kp_112 (xr_83, rowE (Pw_107.ro xr_83) (Pw_107.rt xr_83) (Pw_107.ra xr_83) (0) (Pw_107.rA xr_83) (Pw_107.rB xr_83) (Pw_107.rg xr_83)) = ([(hc, .inr (12, [v13_0, .ref lr, v13_2, .int (zI (z_87)), v13_4, .ref la, v13_6]))] : va_W) ++ va_pl Ln_69 (pE Pw_113) := (by rw [va_pl_set hD0 hm_84 gkp_112, ePw_113]; exact congrArg (fun f9 => ([(hc, .inr (12, [v13_0, .ref lr, v13_2, .int (zI (z_87)), v13_4, .ref la, v13_6]))] : va_W) ++ va_pl Ln_69 f9) (put17_3 hy_111))
    have hP : va_P (dC, dI) vwQ ([(hc, .inr (12, [v13_0, .ref lr, v13_2, .int (zI (z_87)), v13_4, .ref la, v13_6]))] ++ va_pl Ln_69 (pE Pw_113)) H := (by rw [← eU]; exact hP)
    have hD : va_D A ([(hc, .inr (12, [v13_0, .ref lr, v13_2, .int (zI (z_87)), v13_4, .ref la, v13_6]))] ++ va_pl Ln_69 (pE Pw_113)) := (by rw [← eU]; exact hD)
    clear eU hD0 gkp_112 hkp_112
    have wPw_113 : RW1 xr_83 Pw_107 Pw_113 := (by rw [ePw_113]; exact RW1.put _ _ _ _)
    have hy_114 : Pw_113.kd la = 30 := (by rw [ePw_113]; exact hy_108)
    have hy_115 : Pw_113.kd lr = 30 := (by rw [ePw_113]; exact hy_109)
    have hy_116 : Pw_113.kd q_51 = 17 := (by rw [ePw_113]; exact hy_110)
    have hy_117 : Pw_113.kd xr_83 = 17 := (by rw [ePw_113]; exact hy_111)
    have : Pw_113.ro xr_83 = Pw_107.ro xr_83 := (by rw [ePw_113]; exact rw9_of _ (by decide))
    have : Pw_113.rt xr_83 = Pw_107.rt xr_83 := (by rw [ePw_113]; exact rw9_of _ (by decide))
    have : Pw_113.ra xr_83 = Pw_107.ra xr_83 := (by rw [ePw_113]; exact rw9_of _ (by decide))
    have : Pw_113.rb xr_83 = 0 := (by rw [ePw_113]; exact rw9_at _ _ _ _)
    have : Pw_113.rA xr_83 = Pw_107.rA xr_83 := (by rw [ePw_113]; exact rw9_of _ (by decide))
    have : Pw_113.rB xr_83 = Pw_107.rB xr_83 := (by rw [ePw_113]; exact rw9_of _ (by decide))
    have : Pw_113.rg xr_83 = Pw_107.rg xr_83 := (by rw [ePw_113]; exact rw9_of _ (by decide))
    refine lv_aload_n hx hb dX13_row_79 rfl (lv_at hl 0 rfl) ?_
    refine lv_iconst (v := 0) hx hb dX13_row_80 (by decide) ?_
    refine lv_topi (fun z ez => ?_)
    obtain rfl : z = zI (0) := ez
    obtain ⟨kp_118, gkp_118⟩ := va_pl_get (X := [(hc, .inr (12, [v13_0, .ref lr, v13_2, .int (zI (z_87)), v13_4, .ref la, v13_6]))]) (f := pE Pw_113) hm_84
    have hkp_118 := gkp_118
    rw [pE_row hy_117] at hkp_118
    have hD0 := hD
    refine va_put (D := (dC, dI)) (ci := 21) (v := .int (zI (0))) (ty := .int) (C := RX17) (T := TX17) (N := 7) hx hb hts mem_P13_rowC_3 tyX17 tyX17_ok nmX17 hown hK hP hD hS kp_118 hkp_118 rfl 1 (by decide) (ow (k := 15) rfl) (fun _ h9 => h9) rfl (by decide +kernel) rfl rfl (by first | exact Nat.le_of_ble_eq_true rfl | exact Nat.le_trans (show (1 + (Pm_52.gc lr)) ≤ 2 from (by omega)) (Nat.le_of_ble_eq_true rfl) | exact Nat.le_trans (show (7 + (Pm_52.gs lr)) ≤ 100007 from (by omega)) (Nat.le_of_ble_eq_true rfl)) dX13_row_81 (fun H locs hP hD hS => ?_)
    obtain ⟨Pw_119, ePw_119⟩ : ∃ q9 : PO, q9 = Pw_113.rw9 1 xr_83 (0) := ⟨_, rfl⟩
    have eU : (([(hc, .inr (12, [v13_0, .ref lr, v13_2, .int (zI (z_87)), v13_4, .ref la, v13_6]))] : va_W) ++ va_pl Ln_69 (pE Pw_113)).set kp_118 (xr_83, rowE (Pw_113.ro xr_83) (0) (Pw_113.ra xr_83) (Pw_113.rb xr_83) (Pw_113.rA xr_83) (Pw_113.rB xr_83) (Pw_113.rg xr_83)) = ([(hc, .inr (12, [v13_0, .ref lr, v13_2, .int (zI (z_87)), v13_4, .ref la, v13_6]))] : va_W) ++ va_pl Ln_69 (pE Pw_119) := (by rw [va_pl_set hD0 hm_84 gkp_118, ePw_119]; exact congrArg (fun f9 => ([(hc, .inr (12, [v13_0, .ref lr, v13_2, .int (zI (z_87)), v13_4, .ref la, v13_6]))] : va_W) ++ va_pl Ln_69 f9) (put17_1 hy_117))
    have hP : va_P (dC, dI) vwQ ([(hc, .inr (12, [v13_0, .ref lr, v13_2, .int (zI (z_87)), v13_4, .ref la, v13_6]))] ++ va_pl Ln_69 (pE Pw_119)) H := (by rw [← eU]; exact hP)
    have hD : va_D A ([(hc, .inr (12, [v13_0, .ref lr, v13_2, .int (zI (z_87)), v13_4, .ref la, v13_6]))] ++ va_pl Ln_69 (pE Pw_119)) := (by rw [← eU]; exact hD)
    clear eU hD0 gkp_118 hkp_118
    have wPw_119 : RW1 xr_83 Pw_113 Pw_119 := (by rw [ePw_119]; exact RW1.put _ _ _ _)
    have hy_120 : Pw_119.kd la = 30 := (by rw [ePw_119]; exact hy_114)
    have hy_121 : Pw_119.kd lr = 30 := (by rw [ePw_119]; exact hy_115)
    have hy_122 : Pw_119.kd q_51 = 17 := (by rw [ePw_119]; exact hy_116)
    have hy_123 : Pw_119.kd xr_83 = 17 := (by rw [ePw_119]; exact hy_117)
    have : Pw_119.ro xr_83 = Pw_113.ro xr_83 := (by rw [ePw_119]; exact rw9_of _ (by decide))
    have : Pw_119.rt xr_83 = 0 := (by rw [ePw_119]; exact rw9_at _ _ _ _)
    have : Pw_119.ra xr_83 = Pw_113.ra xr_83 := (by rw [ePw_119]; exact rw9_of _ (by decide))
    have : Pw_119.rb xr_83 = Pw_113.rb xr_83 := (by rw [ePw_119]; exact rw9_of _ (by decide))
    have : Pw_119.rA xr_83 = Pw_113.rA xr_83 := (by rw [ePw_119]; exact rw9_of _ (by decide))
    have : Pw_119.rB xr_83 = Pw_113.rB xr_83 := (by rw [ePw_119]; exact rw9_of _ (by decide))
    have : Pw_119.rg xr_83 = Pw_113.rg xr_83 := (by rw [ePw_119]; exact rw9_of _ (by decide))
    have hW_124 : RW1 xr_83 Pn_70 Pw_119 := wPw_89.trans (wPw_95.trans (wPw_101.trans (wPw_107.trans (wPw_113.trans (wPw_119)))))
    have hrw_127 : RWD Pn_70 Pw_119 := hW_124.rwd (Or.inl hk_85)
    have hak_126 : ALP Ln_69 Pw_119 cO cI cZ sx_ed la := hak_73.row hW_124 hk_85 (ROK9.of (by omega) (by omega) (by omega) (by omega) (by omega) (by omega) (by omega) (rUA9 (by have q9 := rUsA_spec (Pn_70.ro xr_83) (Pn_70.rA xr_83); omega)) (rUB9 (by have q9 := rUsB_spec (Pn_70.ro xr_83) (Pn_70.rB xr_83); omega))) (fun e9 => by have q9 := hak_73.op21 hm_84 hk_85 e9; omega)
    have hke_125 : KEP [lr] Ln_69 Pn_70 Ln_69 Pw_119 la := hrw_127.kep _ hq_74.2
    have hc9 := hke_125.cat (by rw [hW_124.1]) 2
    have hc8 := hke_125.cat (by rw [hW_124.1]) 1
    have hq_128 : la ∈ Ln_69 ∧ Pw_119.kd la = 30 := hke_125.mem hq_74.1 hq_74.2 (by decide)
    have hq_129 : lr ∈ Ln_69 ∧ Pw_119.kd lr = 30 := hke_125.mem hq_75.1 hq_75.2 (by decide)
    have hq_130 : q_51 ∈ Ln_69 ∧ Pw_119.kd q_51 = 17 := hke_125.mem hq_76.1 hq_76.2 (by decide)
    have hq_131 : xr_83 ∈ Ln_69 ∧ Pw_119.kd xr_83 = 17 := hke_125.mem hm_84 hk_85 (by decide)
    have hE_132 : Pw_119.ek q_51 ≠ 1 := (by rw [hke_125.ek hq_76.1 hq_76.2 (by decide)]; exact hE_77)
    have hE_133 : Pw_119.ek xr_83 ≠ 1 := (by rw [hke_125.ek hm_84 hk_85 (by decide)]; exact hE_86)
    have hz9 := hke_125.2.2.1
    have hA_134 : KEP [lr] L P Ln_69 Pw_119 la := hA_78.trans hke_125
    have : Pw_119.lz la = Pn_70.lz la := hrw_127.lz hq_74.2
    have : Pw_119.lz lr = Pn_70.lz lr := hrw_127.lz hq_75.2
    have ht9 := hrw_127.tot hak_73 2 (Or.inr rfl)
    have ht8 := hrw_127.tot hak_73 1 (Or.inl rfl)
    have : Pw_119.cap lr = Pn_70.cap lr := hW_124.cap lr
    have hek_135 : Pw_119.ek lr = 17 := (by rw [hke_125.ek hq_75.1 hq_75.2 (by decide)]; exact hek_79)
    have how_136 : Pw_119.ow lr = lr := ((hke_125.1 lr hq_75.1 (by rw [hq_75.2]; decide)).2.2.2.1 hq_75.2 how_80).1
    refine lv_aload_n hx hb dX13_row_84 rfl (lv_at hl 0 rfl) ?_
    subst hQ
    have hK := hK.sub (tys' := [(cO, .object "java/lang/Object"), (cI, .int), (cZ, .boolean)]) [2, 0, 1] rfl
    refine W_knowS (fun hrm9 => ?_)
    refine W.widen (k := 2) (n := 100007) (by omega) (by omega) ?_
    exact W.aret (v := .ref xr_83) hx hb hr (Or.inl ⟨_, rfl⟩) (Or.inr ⟨_, rfl⟩) (fun t ht hW => ⟨⟨(), xr_83, rfl, trivial, z_87, Ln_69, Pw_119, (1 + (Pm_52.gc lr)), (7 + (Pm_52.gs lr)), ⟨⟨(by rw [ht, ← hp1]; exact hrm9), (by omega)⟩, ⟨(by omega), ⟨hA_134, hak_126, ⟨⟨hq_131.1, hq_131.2, hE_133, (by rw [hW_124.el]; exact hel9)⟩, ⟨by omega, by omega⟩, ⟨by omega, by omega, by omega, by omega, by omega, by omega⟩, (fun i i0 i1 => by rw [hW_124.el, hu_71.1.elx hu_71.2.2.2.2.2.2.1 i0 (by omega)]; exact hex_55.el hX_a.owa hX_lr.1 hX_lr.2.1 i0 i1), ((hex_55.chg.wk (fun z _ q9 => q9.elim)).trans (hu_71.1.chg) (fun z m q9 => by rcases q9 with q9 | q9; exact Or.inr (Or.inl q9); exact Or.inr (Or.inr (by rw [q9]; exact (hex_55 lr hX_lr.1).2.2.1 1))) |>.trans (hW_124.chg _) (fun z m q9 => Or.inl q9))⟩, by omega, by omega, by omega, by omega, by omega, (fun y m k n => by rw [hW_124.cap, hu_71.1.capO hak_56.owa hq_59.1 hq_59.2 hu_71.2.2.2.2.2.2.2 (hex_55 y m).1 (by show Pm_52.2.1 0 y = 30; rw [(hex_55 y m).2.2.1 0]; exact k) n, hex_55.cap hX_a.owa m k])⟩⟩⟩, by rw [ht]; exact hP, va_K.moved hW.alike hK, hD⟩, hS.F ht⟩) hS.2.2 dX13_row_85
def o_P19_copyRowC : List Cond := [.methodLink RX19 153 yX13_row, .instanceMethod yX13_row, .selects RX13 yX13_row yX13_row, .initialized RX13, .fieldLink RX19 64 "SsaForgeModel$Row" "op" "I", .fieldLink RX19 122 "SsaForgeModel$Row" "t" "I", .fieldLink RX19 204 "SsaForgeModel$Row" "a" "I", .fieldLink RX19 233 "SsaForgeModel$Row" "regA" "Z", .fieldLink RX19 116 "SsaForgeModel$Block" "rows" "Ljava/util/ArrayList;", .methodLink RX19 181 yJx4a65c_add_9ea2d, .instanceMethod yJx4a65c_add_9ea2d, .selects RJx4a65c yJx4a65c_add_9ea2d yJx4a65c_add_9ea2d, .initialized RJx4a65c]
def v_P19_copyRowC : List Cond := .code yX19_copy cX19_copy 6 none :: (o_P19_copyRowC ++ (v_P13_rowC ++ (wsX170 ++ (wsX120 ++ (v_PL_addAR ++ [])))))
theorem mow_P19_copyRowC : ∀ w ∈ o_P19_copyRowC, w ∈ v_P19_copyRowC := fun _ h => List.mem_cons_of_mem _ (List.mem_append_left _ h)
theorem mem_P19_copyRowC_0 : ∀ w ∈ v_P13_rowC, w ∈ v_P19_copyRowC := fun _ h => List.mem_cons_of_mem _ (List.mem_append_right _ (List.mem_append_left _ h))
theorem mem_P19_copyRowC_1 : ∀ w ∈ wsX170, w ∈ v_P19_copyRowC := fun _ h => List.mem_cons_of_mem _ (List.mem_append_right _ (List.mem_append_right _ (List.mem_append_left _ h)))
theorem mem_P19_copyRowC_2 : ∀ w ∈ wsX120, w ∈ v_P19_copyRowC := fun _ h => List.mem_cons_of_mem _ (List.mem_append_right _ (List.mem_append_right _ (List.mem_append_right _ (List.mem_append_left _ h))))
theorem mem_P19_copyRowC_3 : ∀ w ∈ v_PL_addAR, w ∈ v_P19_copyRowC := fun _ h => List.mem_cons_of_mem _ (List.mem_append_right _ (List.mem_append_right _ (List.mem_append_right _ (List.mem_append_right _ (List.mem_append_left _ h)))))
set_option maxRecDepth 20000 in
theorem gw_P19_copyRowC : v_P19_copyRowC.all goodWord = true := by decide +kernel
set_option maxRecDepth 20000 in
theorem g_P19_copyRowC_P13_rowC : GoodIn v_P19_copyRowC (wsV RX19 153 RX13 yX13_row v_P13_rowC) := goodIn_app (goodIn_sub (fun w h => mow_P19_copyRowC w (by revert w h; decide +kernel)) (by decide +kernel)) (goodIn_sub mem_P19_copyRowC_0 gw_P13_rowC)
set_option maxRecDepth 20000 in
theorem g_P19_copyRowC_PL_addAR : GoodIn v_P19_copyRowC (wsV RX19 181 RJx4a65c yJx4a65c_add_9ea2d v_PL_addAR) := goodIn_app (goodIn_sub (fun w h => mow_P19_copyRowC w (by revert w h; decide +kernel)) (by decide +kernel)) (goodIn_sub mem_P19_copyRowC_3 gw_PL_addAR)
set_option maxHeartbeats 4000000 in
set_option maxRecDepth 100000 in
theorem c_P19_copyRowC (l : Launch) (dC : Nat → ClassId) (dI : Nat → Nat → Nat) (cI : ClassId) (cZ : ClassId) (hc : Nat) (v13_0 : Value) (v13_2 : Value) (z13_rowN : Int) (v13_4 : Value) (v13_6 : Value) (la : Nat) (lr : Nat) (cO : ClassId) (L : List Nat) (P : PO) (sx_ed : Nat) (xb : Nat) (l0 : Nat) (t0 : Int) (o0 : Int) (b0 : Int) (hNz13_rowN : 0 ≤ z13_rowN ∧ z13_rowN ≤ 19000) (hX_a : ALP L P cO cI cZ sx_ed la) (hX_lr : lr ∈ L ∧ P.kd lr = 30 ∧ P.ek lr = 17 ∧ P.ow lr = lr) (hX_b : INB P la xb) (hX_l0 : P.br xb = l0) (hNr : z13_rowN ≤ P.lz lr ∧ P.lz lr ≤ 19000 ∧ 0 ≤ z13_rowN ∧ 0 ≤ t0 ∧ t0 ≤ 1001 ∧ -2147483648 ≤ o0 ∧ o0 ≤ 2147483647 ∧ 0 ≤ b0 ∧ b0 ≤ 1 ∧ P.tot 2 la ≤ 19000) (hX_o : OPQ b0 o0) (sz : Nat) (sx_mi : Nat) (HU : Heap) : Met l yX19_copy v_P19_copyRowC ({ frames := 8, cells := 3, slots := 200007, locals := 212 }) (va_Pc [.ref hc, .ref xb, .int (zI (t0)), .int (zI (o0)), .int (zI (b0))] (fun U => U.heap.size = sz ∧ va_P (dC, dI) vwQ ([(hc, .inr (12, [v13_0, .ref lr, v13_2, .int (zI (z13_rowN)), v13_4, .ref la, v13_6]))] ++ va_pl L (pE P)) U.heap ∧ va_K (dC, dI) vwQ [(cO, .object "java/lang/Object"), (cI, .int), (cZ, .boolean)] U ∧ va_D (fun _ => True) ([(hc, .inr (12, [v13_0, .ref lr, v13_2, .int (zI (z13_rowN)), v13_4, .ref la, v13_6]))] ++ va_pl L (pE P)) ∧ va_Nw (.castable "SsaForgeModel$Row" "SsaForgeModel$Row") U ∧ va_Nw (.methodLinkNest RX13 57 yX17_init "SsaForgeModel") U ∧ va_Nw (.castable "SsaForgeModel$Row" "java/lang/Object") U ∧ va_Nw (.castable "SsaForgeModel$Phi" "java/lang/Object") U ∧ va_Nw (.castable "SsaForgeModel$Block" "java/lang/Object") U ∧ va_Dc U ∧ va_Mi "[Ljava/lang/Object;" sx_mi U ∧ va_AO "java/lang/Object" U ∧ va_T (.object "java/lang/Object") sx_ed 0 (fun _ => .null) (va_A ([(hc, .inr (12, [v13_0, .ref lr, v13_2, .int (zI (z13_rowN)), v13_4, .ref la, v13_6]))] ++ va_pl L (pE P)) sz) U U.heap ∧ va_Z "java/util/ArrayList" "DEFAULTCAPACITY_EMPTY_ELEMENTDATA" "[Ljava/lang/Object;" (.ref sx_ed) (va_A ([(hc, .inr (12, [v13_0, .ref lr, v13_2, .int (zI (z13_rowN)), v13_4, .ref la, v13_6]))] ++ va_pl L (pE P)) sz) U U.heap ∧ U.heap = HU)) (va_Qv (fun _ : Unit => True) (fun (_ : Unit) (t : State) => ∃ (z0_9 : Int) (Ln_9 : List Nat) (Pn_9 : PO) (kc_9 : Nat) (ks_9 : Nat), ((RM HU t.heap kc_9 ks_9 ∧ ((ks_9 : Int) ≤ 7 * (Pn_9.lz lr - P.lz lr) + 5 * (Pn_9.cap lr - P.cap lr) + 5 * (Pn_9.cat 2 la - P.cat 2 la) ∧ (kc_9 : Int) ≤ (Pn_9.lz lr - P.lz lr) + (Pn_9.cap lr - P.cap lr) + (Pn_9.cat 2 la - P.cat 2 la))) ∧ ((0 ≤ z0_9 ∧ z0_9 ≤ 19001) ∧ (KEP [lr] L P Ln_9 Pn_9 la ∧ ALP Ln_9 Pn_9 cO cI cZ sx_ed la ∧ (Pn_9.tot 2 la = P.tot 2 la + 1 ∧ Pn_9.tot 1 la = P.tot 1 la ∧ z0_9 = z13_rowN + 1 ∧ z0_9 ≤ Pn_9.lz lr) ∧ LG9 (Pn_9.lz lr) (P.lz lr) z13_rowN ∧ Pn_9.cat 2 la - P.cat 2 la = Pn_9.cap l0 - P.cap l0))) ∧ va_P (dC, dI) vwQ ([(hc, .inr (12, [v13_0, .ref lr, v13_2, .int (zI (z0_9)), v13_4, .ref la, v13_6]))] ++ va_pl Ln_9 (pE Pn_9)) t.heap ∧ va_K (dC, dI) vwQ [(cO, .object "java/lang/Object"), (cI, .int), (cZ, .boolean)] t ∧ va_D (va_A ([(hc, .inr (12, [v13_0, .ref lr, v13_2, .int (zI (z13_rowN)), v13_4, .ref la, v13_6]))] ++ va_pl L (pE P)) sz) ([(hc, .inr (12, [v13_0, .ref lr, v13_2, .int (zI (z0_9)), v13_4, .ref la, v13_6]))] ++ va_pl Ln_9 (pE Pn_9))) (va_A ([(hc, .inr (12, [v13_0, .ref lr, v13_2, .int (zI (z13_rowN)), v13_4, .ref la, v13_6]))] ++ va_pl L (pE P)) sz)) 3 200007 (va_A ([(hc, .inr (12, [v13_0, .ref lr, v13_2, .int (zI (z13_rowN)), v13_4, .ref la, v13_6]))] ++ va_pl L (pE P)) sz) := by
  refine Met.ofW (cc := cX19_copy) (maxL := 6) (ret := none) (by decide) rfl ?_
  intro p e s m args below meth c s₁ B hml hv
  obtain ⟨rfl, hsz, hP, hK, hD0, hp0, hp1, hp2, hp3, hp4, hp5, hp6, hp7, hp8, hp9, hp10⟩ := hv
  have hx := B.exec
  have hb := B.bytes
  have hr := B.returns
  have hts := atoms_spec (ws := v_P19_copyRowC) B.pre
  have hown : s.vm.findClass RX19 = some m.cls := findClass_of_methodNamed B.named
  have hlocks := B.notSynchronized
  have ow : ∀ {k : Nat} {w : Cond}, o_P19_copyRowC[k]? = some w → w.before ([.ref hc, .ref xb, .int (zI (t0)), .int (zI (o0)), .int (zI (b0))] : List Value).toArray s = true := fun h => hts _ (mow_P19_copyRowC _ (List.mem_of_getElem? h))
  subst hsz
  have hD := hD0.self (sz := s.heap.size)
  generalize hAe : va_A ([(hc, .inr (12, [v13_0, .ref lr, v13_2, .int (zI (z13_rowN)), v13_4, .ref la, v13_6]))] ++ va_pl L (pE P)) s.heap.size = A at hD hp7 hp8 hp9 ⊢
  have hA : ∀ q : Nat, s.heap.size ≤ q → A q := fun q h => by rw [← hAe]; exact Or.inr h
  have hS : va_S A s.heap s.heap [] := va_S.rf
  have hP : va_P (dC, dI) vwQ ([(hc, .inr (12, [v13_0, .ref lr, v13_2, .int (zI (z13_rowN)), v13_4, .ref la, v13_6]))] ++ va_pl L (pE P)) s.heap := hP
  have hl := lv_entry ([.ref hc, .ref xb, .int (zI (t0)), .int (zI (o0)), .int (zI (b0))]) (n := 6) (Nat.le_of_ble_eq_true rfl)
  rw [lg_entry_eq]
  generalize (lg_sl ([.ref hc, .ref xb, .int (zI (t0)), .int (zI (o0)), .int (zI (b0))]) ++ List.replicate (6 - (lg_sl ([.ref hc, .ref xb, .int (zI (t0)), .int (zI (o0)), .int (zI (b0))])).length) Slot.unset).toArray = ls at hl ⊢
  have hl : lv_has ls 6 [(0, .ref hc), (1, .ref xb), (2, .int (zI (t0))), (3, .int (zI (o0))), (4, .int (zI (b0)))] := hl
  obtain ⟨H, hH⟩ : ∃ H, H = s.heap := ⟨_, rfl⟩
  rw [← hH] at hP
  have hS : va_S A s.heap H [] := by rw [hH]; exact hS
  rw [← hH]
  refine zW_cap (fun Q hQ => ?_)
  have hX_a9 := hX_a
  have hla := hX_a.lok.2.2.1
  have hla2 := hX_a.1.1.2.1
  have hC_lr := hX_lr
  have hxb := hX_a.inb hX_b
  have htn := hX_a.totnn
  have hl0k : LOK L P cO 17 l0 := (by rw [← hX_l0]; exact hxb.2.1)
  have hlne : l0 ≠ lr := (fun e9 => kd_ne hxb.1.2 hl0k.2.1 (by decide) (show xb = l0 from (by have q9 := (hX_a.2.1.2.2.1 xb hxb.1.1 hxb.1.2).1.2.1; rw [hX_l0] at q9; rw [e9, hX_lr.2.2.2] at q9; rw [e9]; exact q9.symm)))
  refine lv_aload_n hx hb dX19_copy_0 rfl (lv_at hl 0 rfl) ?_
  have hX_a := hX_a9
  have hX_lr : lr ∈ L ∧ P.kd lr = 30 ∧ P.ek lr = 17 ∧ P.ow lr = lr := ⟨hC_lr.1, hC_lr.2.1, hC_lr.2.2.1, hC_lr.2.2.2⟩
  have hPc := hP.part (X := [(hc, .inr (12, [v13_0, .ref lr, v13_2, .int (zI (z13_rowN)), v13_4, .ref la, v13_6]))]) (cx := [(hc, .inr (12, [v13_0, .ref lr, v13_2, .int (zI (z13_rowN)), v13_4, .ref la, v13_6]))]) (pl := va_pl L (pE P)) [0] rfl
  have hDc := hD.part (X := [(hc, .inr (12, [v13_0, .ref lr, v13_2, .int (zI (z13_rowN)), v13_4, .ref la, v13_6]))]) (cx := [(hc, .inr (12, [v13_0, .ref lr, v13_2, .int (zI (z13_rowN)), v13_4, .ref la, v13_6]))]) (pl := va_pl L (pE P)) [0] (by decide) rfl
  have hKc := hK.sub (tys' := [(cO, .object "java/lang/Object"), (cI, .int), (cZ, .boolean)]) [0, 1, 2] rfl
  have hFc := va_freeP (X := [(hc, .inr (12, [v13_0, .ref lr, v13_2, .int (zI (z13_rowN)), v13_4, .ref la, v13_6]))]) (cx := [(hc, .inr (12, [v13_0, .ref lr, v13_2, .int (zI (z13_rowN)), v13_4, .ref la, v13_6]))]) (pl := va_pl L (pE P)) hD hS hA [0] rfl
  refine W_knowS (fun hrmA => ?_)
  refine va_callr (va_runV (As := []) (rest := []) ⟨hx, hb, hml, hown, hts⟩ (c_P13_rowC l dC dI cI cZ hc v13_0 v13_2 z13_rowN v13_4 v13_6 la lr cO L P sx_ed (by omega) hX_a hX_lr (by omega) H.size H sx_mi) (cwV 0 hts g_P19_copyRowC_P13_rowC rfl rfl rfl (by decide +kernel) ⟨(Nat.le_of_ble_eq_true rfl), (Nat.le_of_ble_eq_true rfl)⟩) ⟨fun a U g mk q => by obtain ⟨q0, q1, qP, qK, qD, e0, e1, e2, e3, e4, e5, e6, e7, e8, e9, e10⟩ := q; exact ⟨q0, q1, qP, va_K.moved (u := U) (U := U.calling g mk a) (Vm.Alike.refl U.vm) qK, qD, va_Nw.same rfl (u := U) (U := U.calling g mk a) rfl e0, e1, va_Nw.same rfl (u := U) (U := U.calling g mk a) rfl e2, va_Nw.same rfl (u := U) (U := U.calling g mk a) rfl e3, va_Nw.same rfl (u := U) (U := U.calling g mk a) rfl e4, va_Nw.same rfl (u := U) (U := U.calling g mk a) rfl e5, va_Dc.moved (u := U) (U := U.calling g mk a) (Vm.Alike.refl U.vm) e6, va_Mi.moved (u := U) (U := U.calling g mk a) (Vm.Alike.refl U.vm) e7, va_AO.moved (u := U) (U := U.calling g mk a) (Vm.Alike.refl U.vm) e8, va_T.moved (u := U) (U := U.calling g mk a) (Vm.Alike.refl U.vm) e9, va_Z.moved (u := U) (U := U.calling g mk a) (Vm.Alike.refl U.vm) e10⟩, va_recv hKc hPc (ci := 12) (q0 := 0) rfl rfl, fun U hU hW => ⟨rfl, by rw [hU], by rw [hU]; exact hPc, va_K.moved hW.alike hKc, hDc.weaken (fun _ _ _ _ => trivial), va_Nw.warmC hW hp0, hU, va_Nw.warmM hW hp1, va_Nw.warmC hW hp2, va_Nw.warmC hW hp3, va_Nw.warmC hW hp4, va_Dc.moved hW.alike hp5, va_Mi.moved hW.alike hp6, va_AO.moved hW.alike hp7, by rw [hU]; exact va_T.narrow (va_T.moved hW.alike (va_T.kept hp8 hS.2.1)) hFc, by rw [hU]; exact va_Z.narrow (va_Z.moved hW.alike (va_Z.kept hp9 hS.2.1)) hFc⟩⟩ rfl rfl hl.1 rfl (lv_room (Nat.le_of_ble_eq_true rfl)) dX19_copy_1 ⟨(Nat.le_of_ble_eq_true rfl), (Nat.le_of_ble_eq_true rfl)⟩) hS (fun q _ h => hFc q h) hFc (fun u q_1 t H1 locs ht hvm hw hB hz1 hk1 hS => ?_)
  obtain ⟨z0_2, Ln_3, Pn_4, kc_5, ks_6, hxt_6, hP1, hK1, hD1⟩ := hB
  rw [ht] at hP1
  have hK1 := va_K.moved hvm.symm hK1
  obtain ⟨hP, hD⟩ := va_joinP (X := [(hc, .inr (12, [v13_0, .ref lr, v13_2, .int (zI (z13_rowN)), v13_4, .ref la, v13_6]))]) (cx := [(hc, .inr (12, [v13_0, .ref lr, v13_2, .int (zI (z13_rowN)), v13_4, .ref la, v13_6]))]) (wr := []) (rx := [(hc, .inr (12, [v13_0, .ref lr, v13_2, .int (zI (z0_2)), v13_4, .ref la, v13_6]))]) (pl := va_pl L (pE P)) (pl1 := va_pl Ln_3 (pE Pn_4)) hP hD [0] [] rfl rfl (by decide) (by decide) hk1 hFc hP1 hD1
  have hK := (hK.sub (tys' := []) [] rfl).app hK1
  have hrmC := hxt_6.1.1
  rw [ht] at hrmC
  refine W_tightS (hrmA.trans hrmC) ?_
  have hrb := hxt_6.1.2
  generalize H1 = H at hP hS ⊢
  have hP : va_P (dC, dI) vwQ ([(hc, .inr (12, [v13_0, .ref lr, v13_2, .int (zI (z0_2)), v13_4, .ref la, v13_6]))] ++ va_pl Ln_3 (pE Pn_4)) H := hP
  have hD : va_D A ([(hc, .inr (12, [v13_0, .ref lr, v13_2, .int (zI (z0_2)), v13_4, .ref la, v13_6]))] ++ va_pl Ln_3 (pE Pn_4)) := hD
  have hK : va_K (dC, dI) vwQ [(cO, .object "java/lang/Object"), (cI, .int), (cZ, .boolean)] s := hK
  refine W.widen (k := (0 + kc_5)) (n := (0 + ks_6)) (by omega) (by omega) ?_
  obtain ⟨rk_7, hu_7⟩ := hxt_6.2
  have hu_8 := hxt_6.2.2
  have hq_10 : la ∈ Ln_3 ∧ Pn_4.kd la = 30 := hu_8.1.mem hX_a.lok.1 hX_a.lok.2.1 (by decide)
  have hq_11 : lr ∈ Ln_3 ∧ Pn_4.kd lr = 30 := hu_8.1.mem hC_lr.1 hC_lr.2.1 (by decide)
  have hq_12 : xb ∈ Ln_3 ∧ Pn_4.kd xb = 12 := hu_8.1.mem hxb.1.1 hxb.1.2 (by decide)
  have hi_13 : INB Pn_4 la xb := hu_8.1.inb hX_b
  have hz9 := hu_8.1.2.2.1
  have hA_14 : KEP [lr] L P Ln_3 Pn_4 la := (KEP.refl [lr] L P la).trans hu_8.1
  have hcr1 := hu_8.2.2.1.2.1.1
  have hlg_9 : LG9 (Pn_4.lz lr) (P.lz lr) z13_rowN := hu_8.2.2.1.2.1.2
  have hcr3 := hlg_9.le
  have hcx := hu_8.2.2.1.2.2.1
  have hn9 := hu_8.2.2.2
  have hek_15 : Pn_4.ek lr = 17 := (by rw [hu_8.1.ek hC_lr.1 hC_lr.2.1 (by decide)]; exact hC_lr.2.2.1)
  have how_16 : Pn_4.ow lr = lr := ((hu_8.1.1 lr hC_lr.1 (by rw [hC_lr.2.1]; decide)).2.2.2.1 hC_lr.2.1 hC_lr.2.2.2).1
  have hcps := hn9.2.2.2.2.2
  have hcl0 : Pn_4.cap l0 = P.cap l0 := hcps l0 hl0k.1 hl0k.2.1 hlne
  refine lv_astore (lv' := [(5, .ref q_1), (0, .ref hc), (1, .ref xb), (2, .int (zI (t0))), (3, .int (zI (o0))), (4, .int (zI (b0)))]) hx hb dX19_copy_4 hl (by decide) rfl (fun ls hl => ?_)
  refine lv_aload hx hb dX19_copy_6 (lv_at hl 0 rfl) ?_
  refine lv_iconst (v := 0) hx hb dX19_copy_8 (by decide) ?_
  have ⟨hr1, hr2, hr3, hr4, hr5, hr6, hr7, hr8, hr9⟩ := hu_8.2.1.rok hu_8.2.2.1.1.1 hu_8.2.2.1.1.2.1
  refine lv_topi (fun z ez => ?_)
  obtain rfl : z = zI (0) := ez
  obtain ⟨kp_17, gkp_17⟩ := va_pl_get (X := [(hc, .inr (12, [v13_0, .ref lr, v13_2, .int (zI (z0_2)), v13_4, .ref la, v13_6]))]) (f := pE Pn_4) hu_8.2.2.1.1.1
  have hkp_17 := gkp_17
  rw [pE_row hu_8.2.2.1.1.2.1] at hkp_17
  have hD0 := hD
  refine va_put (D := (dC, dI)) (ci := 21) (v := .int (zI (0))) (ty := .int) (C := RX17) (T := TX17) (N := 7) hx hb hts mem_P19_copyRowC_1 tyX17 tyX17_ok nmX17 hown hK hP hD hS kp_17 hkp_17 rfl 0 (by decide) (ow (k := 4) rfl) (fun _ h9 => h9) rfl (by decide +kernel) rfl rfl (by first | exact Nat.le_of_ble_eq_true rfl | exact Nat.le_trans (show (0 + kc_5) ≤ 2 from (by omega)) (Nat.le_of_ble_eq_true rfl) | exact Nat.le_trans (show (0 + ks_6) ≤ 100007 from (by omega)) (Nat.le_of_ble_eq_true rfl)) dX19_copy_9 (fun H locs hP hD hS => ?_)
  obtain ⟨Pw_18, ePw_18⟩ : ∃ q9 : PO, q9 = Pn_4.rw9 0 q_1 (0) := ⟨_, rfl⟩
  have eU : (([(hc, .inr (12, [v13_0, .ref lr, v13_2, .int (zI (z0_2)), v13_4, .ref la, v13_6]))] : va_W) ++ va_pl Ln_3 (pE Pn_4)).set kp_17 (q_1, rowE (0) (Pn_4.rt q_1) (Pn_4.ra q_1) (Pn_4.rb q_1) (Pn_4.rA q_1) (Pn_4.rB q_1) (Pn_4.rg q_1)) = ([(hc, .inr (12, [v13_0, .ref lr, v13_2, .int (zI (z0_2)), v13_4, .ref la, v13_6]))] : va_W) ++ va_pl Ln_3 (pE Pw_18) := (by rw [va_pl_set hD0 hu_8.2.2.1.1.1 gkp_17, ePw_18]; exact congrArg (fun f9 => ([(hc, .inr (12, [v13_0, .ref lr, v13_2, .int (zI (z0_2)), v13_4, .ref la, v13_6]))] : va_W) ++ va_pl Ln_3 f9) (put17_0 hu_8.2.2.1.1.2.1))
  have hP : va_P (dC, dI) vwQ ([(hc, .inr (12, [v13_0, .ref lr, v13_2, .int (zI (z0_2)), v13_4, .ref la, v13_6]))] ++ va_pl Ln_3 (pE Pw_18)) H := (by rw [← eU]; exact hP)
  have hD : va_D A ([(hc, .inr (12, [v13_0, .ref lr, v13_2, .int (zI (z0_2)), v13_4, .ref la, v13_6]))] ++ va_pl Ln_3 (pE Pw_18)) := (by rw [← eU]; exact hD)
  clear eU hD0 gkp_17 hkp_17
  have wPw_18 : RW1 q_1 Pn_4 Pw_18 := (by rw [ePw_18]; exact RW1.put _ _ _ _)
  have hy_19 : Pw_18.kd la = 30 := (by rw [ePw_18]; exact hq_10.2)
  have hy_20 : Pw_18.kd lr = 30 := (by rw [ePw_18]; exact hq_11.2)
  have hy_21 : Pw_18.kd xb = 12 := (by rw [ePw_18]; exact hq_12.2)
  have : Pw_18.bf xb = Pn_4.bf xb := wPw_18.2 _ (kd_ne hq_12.2 hu_8.2.2.1.1.2.1 (by decide)) _
  have : Pw_18.bs xb = Pn_4.bs xb := wPw_18.2 _ (kd_ne hq_12.2 hu_8.2.2.1.1.2.1 (by decide)) _
  have hy_22 : Pw_18.kd q_1 = 17 := (by rw [ePw_18]; exact hu_8.2.2.1.1.2.1)
  have : Pw_18.ro q_1 = 0 := (by rw [ePw_18]; exact rw9_at _ _ _ _)
  have : Pw_18.rt q_1 = Pn_4.rt q_1 := (by rw [ePw_18]; exact rw9_of _ (by decide))
  have : Pw_18.ra q_1 = Pn_4.ra q_1 := (by rw [ePw_18]; exact rw9_of _ (by decide))
  have : Pw_18.rb q_1 = Pn_4.rb q_1 := (by rw [ePw_18]; exact rw9_of _ (by decide))
  have : Pw_18.rA q_1 = Pn_4.rA q_1 := (by rw [ePw_18]; exact rw9_of _ (by decide))
  have : Pw_18.rB q_1 = Pn_4.rB q_1 := (by rw [ePw_18]; exact rw9_of _ (by decide))
  have : Pw_18.rg q_1 = Pn_4.rg q_1 := (by rw [ePw_18]; exact rw9_of _ (by decide))
  refine lv_aload hx hb dX19_copy_12 (lv_at hl 0 rfl) ?_
  refine lv_iload_n hx hb dX19_copy_14 rfl (lv_at hl 3 rfl) ?_
  obtain ⟨kp_23, gkp_23⟩ := va_pl_get (X := [(hc, .inr (12, [v13_0, .ref lr, v13_2, .int (zI (z0_2)), v13_4, .ref la, v13_6]))]) (f := pE Pw_18) hu_8.2.2.1.1.1
  have hkp_23 := gkp_23
  rw [pE_row hy_22] at hkp_23
  have hD0 := hD
  refine va_put (D := (dC, dI)) (ci := 21) (v := .int (zI (t0))) (ty := .int) (C := RX17) (T := TX17) (N := 7) hx hb hts mem_P19_copyRowC_1 tyX17 tyX17_ok nmX17 hown hK hP hD hS kp_23 hkp_23 rfl 1 (by decide) (ow (k := 5) rfl) (fun _ h9 => h9) rfl (by decide +kernel) rfl rfl (by first | exact Nat.le_of_ble_eq_true rfl | exact Nat.le_trans (show (0 + kc_5) ≤ 2 from (by omega)) (Nat.le_of_ble_eq_true rfl) | exact Nat.le_trans (show (0 + ks_6) ≤ 100007 from (by omega)) (Nat.le_of_ble_eq_true rfl)) dX19_copy_15 (fun H locs hP hD hS => ?_)
  obtain ⟨Pw_24, ePw_24⟩ : ∃ q9 : PO, q9 = Pw_18.rw9 1 q_1 (t0) := ⟨_, rfl⟩
  have eU : (([(hc, .inr (12, [v13_0, .ref lr, v13_2, .int (zI (z0_2)), v13_4, .ref la, v13_6]))] : va_W) ++ va_pl Ln_3 (pE Pw_18)).set kp_23 (q_1, rowE (Pw_18.ro q_1) (t0) (Pw_18.ra q_1) (Pw_18.rb q_1) (Pw_18.rA q_1) (Pw_18.rB q_1) (Pw_18.rg q_1)) = ([(hc, .inr (12, [v13_0, .ref lr, v13_2, .int (zI (z0_2)), v13_4, .ref la, v13_6]))] : va_W) ++ va_pl Ln_3 (pE Pw_24) := (by rw [va_pl_set hD0 hu_8.2.2.1.1.1 gkp_23, ePw_24]; exact congrArg (fun f9 => ([(hc, .inr (12, [v13_0, .ref lr, v13_2, .int (zI (z0_2)), v13_4, .ref la, v13_6]))] : va_W) ++ va_pl Ln_3 f9) (put17_1 hy_22))
  have hP : va_P (dC, dI) vwQ ([(hc, .inr (12, [v13_0, .ref lr, v13_2, .int (zI (z0_2)), v13_4, .ref la, v13_6]))] ++ va_pl Ln_3 (pE Pw_24)) H := (by rw [← eU]; exact hP)
  have hD : va_D A ([(hc, .inr (12, [v13_0, .ref lr, v13_2, .int (zI (z0_2)), v13_4, .ref la, v13_6]))] ++ va_pl Ln_3 (pE Pw_24)) := (by rw [← eU]; exact hD)
  clear eU hD0 gkp_23 hkp_23
  have wPw_24 : RW1 q_1 Pw_18 Pw_24 := (by rw [ePw_24]; exact RW1.put _ _ _ _)
  have hy_25 : Pw_24.kd la = 30 := (by rw [ePw_24]; exact hy_19)
  have hy_26 : Pw_24.kd lr = 30 := (by rw [ePw_24]; exact hy_20)
  have hy_27 : Pw_24.kd xb = 12 := (by rw [ePw_24]; exact hy_21)
  have : Pw_24.bf xb = Pw_18.bf xb := wPw_24.2 _ (kd_ne hy_21 hy_22 (by decide)) _
  have : Pw_24.bs xb = Pw_18.bs xb := wPw_24.2 _ (kd_ne hy_21 hy_22 (by decide)) _
  have hy_28 : Pw_24.kd q_1 = 17 := (by rw [ePw_24]; exact hy_22)
  have : Pw_24.ro q_1 = Pw_18.ro q_1 := (by rw [ePw_24]; exact rw9_of _ (by decide))
  have : Pw_24.rt q_1 = t0 := (by rw [ePw_24]; exact rw9_at _ _ _ _)
  have : Pw_24.ra q_1 = Pw_18.ra q_1 := (by rw [ePw_24]; exact rw9_of _ (by decide))
  have : Pw_24.rb q_1 = Pw_18.rb q_1 := (by rw [ePw_24]; exact rw9_of _ (by decide))
  have : Pw_24.rA q_1 = Pw_18.rA q_1 := (by rw [ePw_24]; exact rw9_of _ (by decide))
  have : Pw_24.rB q_1 = Pw_18.rB q_1 := (by rw [ePw_24]; exact rw9_of _ (by decide))
  have : Pw_24.rg q_1 = Pw_18.rg q_1 := (by rw [ePw_24]; exact rw9_of _ (by decide))
  refine lv_aload hx hb dX19_copy_18 (lv_at hl 0 rfl) ?_
  refine lv_iload_n hx hb dX19_copy_20 rfl (lv_at hl 4 rfl) ?_
  obtain ⟨kp_29, gkp_29⟩ := va_pl_get (X := [(hc, .inr (12, [v13_0, .ref lr, v13_2, .int (zI (z0_2)), v13_4, .ref la, v13_6]))]) (f := pE Pw_24) hu_8.2.2.1.1.1
  have hkp_29 := gkp_29
  rw [pE_row hy_28] at hkp_29
  have hD0 := hD
  refine va_put (D := (dC, dI)) (ci := 21) (v := .int (zI (o0))) (ty := .int) (C := RX17) (T := TX17) (N := 7) hx hb hts mem_P19_copyRowC_1 tyX17 tyX17_ok nmX17 hown hK hP hD hS kp_29 hkp_29 rfl 2 (by decide) (ow (k := 6) rfl) (fun _ h9 => h9) rfl (by decide +kernel) rfl rfl (by first | exact Nat.le_of_ble_eq_true rfl | exact Nat.le_trans (show (0 + kc_5) ≤ 2 from (by omega)) (Nat.le_of_ble_eq_true rfl) | exact Nat.le_trans (show (0 + ks_6) ≤ 100007 from (by omega)) (Nat.le_of_ble_eq_true rfl)) dX19_copy_21 (fun H locs hP hD hS => ?_)
  obtain ⟨Pw_30, ePw_30⟩ : ∃ q9 : PO, q9 = Pw_24.rw9 2 q_1 (o0) := ⟨_, rfl⟩
  have eU : (([(hc, .inr (12, [v13_0, .ref lr, v13_2, .int (zI (z0_2)), v13_4, .ref la, v13_6]))] : va_W) ++ va_pl Ln_3 (pE Pw_24)).set kp_29 (q_1, rowE (Pw_24.ro q_1) (Pw_24.rt q_1) (o0) (Pw_24.rb q_1) (Pw_24.rA q_1) (Pw_24.rB q_1) (Pw_24.rg q_1)) = ([(hc, .inr (12, [v13_0, .ref lr, v13_2, .int (zI (z0_2)), v13_4, .ref la, v13_6]))] : va_W) ++ va_pl Ln_3 (pE Pw_30) := (by rw [va_pl_set hD0 hu_8.2.2.1.1.1 gkp_29, ePw_30]; exact congrArg (fun f9 => ([(hc, .inr (12, [v13_0, .ref lr, v13_2, .int (zI (z0_2)), v13_4, .ref la, v13_6]))] : va_W) ++ va_pl Ln_3 f9) (put17_2 hy_28))
  have hP : va_P (dC, dI) vwQ ([(hc, .inr (12, [v13_0, .ref lr, v13_2, .int (zI (z0_2)), v13_4, .ref la, v13_6]))] ++ va_pl Ln_3 (pE Pw_30)) H := (by rw [← eU]; exact hP)
  have hD : va_D A ([(hc, .inr (12, [v13_0, .ref lr, v13_2, .int (zI (z0_2)), v13_4, .ref la, v13_6]))] ++ va_pl Ln_3 (pE Pw_30)) := (by rw [← eU]; exact hD)
  clear eU hD0 gkp_29 hkp_29
  have wPw_30 : RW1 q_1 Pw_24 Pw_30 := (by rw [ePw_30]; exact RW1.put _ _ _ _)
  have hy_31 : Pw_30.kd la = 30 := (by rw [ePw_30]; exact hy_25)
  have hy_32 : Pw_30.kd lr = 30 := (by rw [ePw_30]; exact hy_26)
  have hy_33 : Pw_30.kd xb = 12 := (by rw [ePw_30]; exact hy_27)
  have : Pw_30.bf xb = Pw_24.bf xb := wPw_30.2 _ (kd_ne hy_27 hy_28 (by decide)) _
  have : Pw_30.bs xb = Pw_24.bs xb := wPw_30.2 _ (kd_ne hy_27 hy_28 (by decide)) _
  have hy_34 : Pw_30.kd q_1 = 17 := (by rw [ePw_30]; exact hy_28)
  have : Pw_30.ro q_1 = Pw_24.ro q_1 := (by rw [ePw_30]; exact rw9_of _ (by decide))
  have : Pw_30.rt q_1 = Pw_24.rt q_1 := (by rw [ePw_30]; exact rw9_of _ (by decide))
  have : Pw_30.ra q_1 = o0 := (by rw [ePw_30]; exact rw9_at _ _ _ _)
  have : Pw_30.rb q_1 = Pw_24.rb q_1 := (by rw [ePw_30]; exact rw9_of _ (by decide))
  have : Pw_30.rA q_1 = Pw_24.rA q_1 := (by rw [ePw_30]; exact rw9_of _ (by decide))
  have : Pw_30.rB q_1 = Pw_24.rB q_1 := (by rw [ePw_30]; exact rw9_of _ (by decide))
  have : Pw_30.rg q_1 = Pw_24.rg q_1 := (by rw [ePw_30]; exact rw9_of _ (by decide))
  refine lv_aload hx hb dX19_copy_24 (lv_at hl 0 rfl) ?_
  refine lv_iload hx hb dX19_copy_26 (lv_at hl 5 rfl) ?_
  have ho9 : b0 = 0 ∨ (0 ≤ o0 ∧ o0 ≤ 1001) := hX_o
  obtain ⟨kp_35, gkp_35⟩ := va_pl_get (X := [(hc, .inr (12, [v13_0, .ref lr, v13_2, .int (zI (z0_2)), v13_4, .ref la, v13_6]))]) (f := pE Pw_30) hu_8.2.2.1.1.1
  have hkp_35 := gkp_35
  rw [pE_row hy_34] at hkp_35
  have hD0 := hD
  refine va_put (D := (dC, dI)) (ci := 21) (v := .int (zI (b0))) (ty := .boolean) (C := RX17) (T := TX17) (N := 7) hx hb hts mem_P19_copyRowC_1 tyX17 tyX17_ok nmX17 hown hK hP hD hS kp_35 hkp_35 rfl 4 (by decide) (ow (k := 7) rfl) (fun _ h9 => h9) rfl (by decide +kernel) (zI_bool (by omega) (by omega)) (zI_fitb (by omega) (by omega)) (by first | exact Nat.le_of_ble_eq_true rfl | exact Nat.le_trans (show (0 + kc_5) ≤ 2 from (by omega)) (Nat.le_of_ble_eq_true rfl) | exact Nat.le_trans (show (0 + ks_6) ≤ 100007 from (by omega)) (Nat.le_of_ble_eq_true rfl)) dX19_copy_28 (fun H locs hP hD hS => ?_)
  obtain ⟨Pw_36, ePw_36⟩ : ∃ q9 : PO, q9 = Pw_30.rw9 4 q_1 (b0) := ⟨_, rfl⟩
  have eU : (([(hc, .inr (12, [v13_0, .ref lr, v13_2, .int (zI (z0_2)), v13_4, .ref la, v13_6]))] : va_W) ++ va_pl Ln_3 (pE Pw_30)).set kp_35 (q_1, rowE (Pw_30.ro q_1) (Pw_30.rt q_1) (Pw_30.ra q_1) (Pw_30.rb q_1) (b0) (Pw_30.rB q_1) (Pw_30.rg q_1)) = ([(hc, .inr (12, [v13_0, .ref lr, v13_2, .int (zI (z0_2)), v13_4, .ref la, v13_6]))] : va_W) ++ va_pl Ln_3 (pE Pw_36) := (by rw [va_pl_set hD0 hu_8.2.2.1.1.1 gkp_35, ePw_36]; exact congrArg (fun f9 => ([(hc, .inr (12, [v13_0, .ref lr, v13_2, .int (zI (z0_2)), v13_4, .ref la, v13_6]))] : va_W) ++ va_pl Ln_3 f9) (put17_4 hy_34))
  have hP : va_P (dC, dI) vwQ ([(hc, .inr (12, [v13_0, .ref lr, v13_2, .int (zI (z0_2)), v13_4, .ref la, v13_6]))] ++ va_pl Ln_3 (pE Pw_36)) H := (by rw [← eU]; exact hP)
  have hD : va_D A ([(hc, .inr (12, [v13_0, .ref lr, v13_2, .int (zI (z0_2)), v13_4, .ref la, v13_6]))] ++ va_pl Ln_3 (pE Pw_36)) := (by rw [← eU]; exact hD)
  clear eU hD0 gkp_35 hkp_35
  have wPw_36 : RW1 q_1 Pw_30 Pw_36 := (by rw [ePw_36]; exact RW1.put _ _ _ _)
  have hy_37 : Pw_36.kd la = 30 := (by rw [ePw_36]; exact hy_31)
  have hy_38 : Pw_36.kd lr = 30 := (by rw [ePw_36]; exact hy_32)
  have hy_39 : Pw_36.kd xb = 12 := (by rw [ePw_36]; exact hy_33)
  have : Pw_36.bf xb = Pw_30.bf xb := wPw_36.2 _ (kd_ne hy_33 hy_34 (by decide)) _
  have : Pw_36.bs xb = Pw_30.bs xb := wPw_36.2 _ (kd_ne hy_33 hy_34 (by decide)) _
  have hy_40 : Pw_36.kd q_1 = 17 := (by rw [ePw_36]; exact hy_34)
  have : Pw_36.ro q_1 = Pw_30.ro q_1 := (by rw [ePw_36]; exact rw9_of _ (by decide))
  have : Pw_36.rt q_1 = Pw_30.rt q_1 := (by rw [ePw_36]; exact rw9_of _ (by decide))
  have : Pw_36.ra q_1 = Pw_30.ra q_1 := (by rw [ePw_36]; exact rw9_of _ (by decide))
  have : Pw_36.rb q_1 = Pw_30.rb q_1 := (by rw [ePw_36]; exact rw9_of _ (by decide))
  have : Pw_36.rA q_1 = b0 := (by rw [ePw_36]; exact rw9_at _ _ _ _)
  have : Pw_36.rB q_1 = Pw_30.rB q_1 := (by rw [ePw_36]; exact rw9_of _ (by decide))
  have : Pw_36.rg q_1 = Pw_30.rg q_1 := (by rw [ePw_36]; exact rw9_of _ (by decide))
  have hW_41 : RW1 q_1 Pn_4 Pw_36 := wPw_18.trans (wPw_24.trans (wPw_30.trans (wPw_36)))
  have hrw_44 : RWD Pn_4 Pw_36 := hW_41.rwd (Or.inl hu_8.2.2.1.1.2.1)
  have hak_43 : ALP Ln_3 Pw_36 cO cI cZ sx_ed la := hu_8.2.1.row hW_41 hu_8.2.2.1.1.2.1 (ROK9.of (by omega) (by omega) (by omega) (by omega) (by omega) (by omega) (by omega) (rUA9 (by have q9 := rUsA_spec (Pn_4.ro q_1) (Pn_4.rA q_1); omega)) (rUB9 (by have q9 := rUsB_spec (Pn_4.ro q_1) (Pn_4.rB q_1); omega))) (fun e9 => by have q9 := hu_8.2.1.op21 hu_8.2.2.1.1.1 hu_8.2.2.1.1.2.1 e9; omega)
  have hke_42 : KEP [lr] Ln_3 Pn_4 Ln_3 Pw_36 la := hrw_44.kep _ hq_10.2
  have hc9 := hke_42.cat (by rw [hW_41.1]) 2
  have hc8 := hke_42.cat (by rw [hW_41.1]) 1
  have hq_45 : la ∈ Ln_3 ∧ Pw_36.kd la = 30 := hke_42.mem hq_10.1 hq_10.2 (by decide)
  have hq_46 : lr ∈ Ln_3 ∧ Pw_36.kd lr = 30 := hke_42.mem hq_11.1 hq_11.2 (by decide)
  have hq_47 : xb ∈ Ln_3 ∧ Pw_36.kd xb = 12 := hke_42.mem hq_12.1 hq_12.2 (by decide)
  have hq_48 : q_1 ∈ Ln_3 ∧ Pw_36.kd q_1 = 17 := hke_42.mem hu_8.2.2.1.1.1 hu_8.2.2.1.1.2.1 (by decide)
  have hi_49 : INB Pw_36 la xb := hke_42.inb hi_13
  have hE_50 : Pw_36.ek q_1 ≠ 1 := (by rw [hke_42.ek hu_8.2.2.1.1.1 hu_8.2.2.1.1.2.1 (by decide)]; exact hu_8.2.2.1.1.2.2.1)
  have hz9 := hke_42.2.2.1
  have hA_51 : KEP [lr] L P Ln_3 Pw_36 la := hA_14.trans hke_42
  have : Pw_36.lz la = Pn_4.lz la := hrw_44.lz hq_10.2
  have : Pw_36.lz lr = Pn_4.lz lr := hrw_44.lz hq_11.2
  have ht9 := hrw_44.tot hu_8.2.1 2 (Or.inr rfl)
  have ht8 := hrw_44.tot hu_8.2.1 1 (Or.inl rfl)
  have : Pw_36.cap lr = Pn_4.cap lr := hW_41.cap lr
  have hek_52 : Pw_36.ek lr = 17 := (by rw [hke_42.ek hq_11.1 hq_11.2 (by decide)]; exact hek_15)
  have how_53 : Pw_36.ow lr = lr := ((hke_42.1 lr hq_11.1 (by rw [hq_11.2]; decide)).2.2.2.1 hq_11.2 how_16).1
  clear ho9 hr8 hr9
  refine lv_aload_n hx hb dX19_copy_31 rfl (lv_at hl 2 rfl) ?_
  have hfb := (hak_43.inb hi_49).2.2.2.2
  obtain ⟨kp_54, hkp_54⟩ := va_pl_get (X := [(hc, .inr (12, [v13_0, .ref lr, v13_2, .int (zI (z0_2)), v13_4, .ref la, v13_6]))]) (f := pE Pw_36) hq_47.1
  rw [pE_block hq_47.2] at hkp_54
  refine va_get (D := (dC, dI)) (ci := 19) (v := .ref (Pw_36.br xb)) (C := RX12) (T := TX12) (N := 5) hx hb hts mem_P19_copyRowC_2 hown hK hP kp_54 hkp_54 rfl 1 (by decide) (ow (k := 8) rfl) (fun _ h9 => h9) rfl dX19_copy_32 ?_
  obtain ⟨pr_55, epr_55⟩ : ∃ q9 : Nat, q9 = Pw_36.br xb := ⟨_, rfl⟩
  rw [← epr_55]
  have hlk_56 : LOK Ln_3 Pw_36 cO 17 pr_55 := (by rw [epr_55]; exact (hak_43.inb hi_49).2.1)
  have hlz9 := hlk_56.2.2.1
  have hl0e : pr_55 = l0 := (epr_55.symm).symm.trans (hA_51.br hxb.1.1 hxb.1.2 hX_l0)
  have hl0w : Pw_36.cap pr_55 = P.cap l0 := (by rw [hl0e, hW_41.cap]; exact hcl0)
  refine lv_aload hx hb dX19_copy_35 (lv_at hl 0 rfl) ?_
  have hlk_57 := (show LOK Ln_3 Pw_36 cO 17 pr_55 from (by rw [← epr_55.symm]; exact (hak_43.inb hi_49).2.1))
  have hX_x := hlk_57.1
  have hX_k := hlk_57.2.1
  have hlz9 := hlk_57.2.2.1
  have hX_c := hak_43.adc hlk_57
  have hX_y : q_1 ∈ Ln_3 ∧ OBK (Pw_36.kd q_1) := ⟨hq_48.1, (by rw [hq_48.2]; unfold OBK; decide)⟩
  have hPc := hP.part (X := [(hc, .inr (12, [v13_0, .ref lr, v13_2, .int (zI (z0_2)), v13_4, .ref la, v13_6]))]) (cx := []) (pl := va_pl Ln_3 (pE Pw_36)) [] rfl
  have hDc := hD.part (X := [(hc, .inr (12, [v13_0, .ref lr, v13_2, .int (zI (z0_2)), v13_4, .ref la, v13_6]))]) (cx := []) (pl := va_pl Ln_3 (pE Pw_36)) [] (by decide) rfl
  have hKc := hK.sub (tys' := [(cO, .object "java/lang/Object")]) [0] rfl
  have hFc := va_freeP (X := [(hc, .inr (12, [v13_0, .ref lr, v13_2, .int (zI (z0_2)), v13_4, .ref la, v13_6]))]) (cx := []) (pl := va_pl Ln_3 (pE Pw_36)) hD hS hA [] rfl
  have hgl := ADC.gl hX_c
  refine va_calli (va_runV (As := [.ref q_1]) (rest := []) ⟨hx, hb, hml, hown, hts⟩ (c_PL_addAR l dC dI cO Ln_3 Pw_36 pr_55 q_1 sx_ed hX_x hX_k (by omega) hX_c hX_y H.size sx_mi) (cwV 1 hts g_P19_copyRowC_PL_addAR rfl rfl rfl (by decide +kernel) ⟨(Nat.le_of_ble_eq_true rfl), (Nat.le_of_ble_eq_true rfl)⟩) ⟨fun a U g mk q => by obtain ⟨q0, q1, qP, qK, qD, e0, e1, e2, e3, e4, e5, e6, e7⟩ := q; exact ⟨q0, q1, qP, va_K.moved (u := U) (U := U.calling g mk a) (Vm.Alike.refl U.vm) qK, qD, va_Nw.same rfl (u := U) (U := U.calling g mk a) rfl e0, va_Nw.same rfl (u := U) (U := U.calling g mk a) rfl e1, va_Nw.same rfl (u := U) (U := U.calling g mk a) rfl e2, va_Dc.moved (u := U) (U := U.calling g mk a) (Vm.Alike.refl U.vm) e3, va_Mi.moved (u := U) (U := U.calling g mk a) (Vm.Alike.refl U.vm) e4, va_AO.moved (u := U) (U := U.calling g mk a) (Vm.Alike.refl U.vm) e5, va_T.moved (u := U) (U := U.calling g mk a) (Vm.Alike.refl U.vm) e6, va_Z.moved (u := U) (U := U.calling g mk a) (Vm.Alike.refl U.vm) e7⟩, recv_30 hKc hPc hlk_56.1 hlk_56.2.1, fun U hU hW => ⟨rfl, by rw [hU], by rw [hU]; exact hPc, va_K.moved hW.alike hKc, hDc.weaken (fun _ _ _ _ => trivial), va_Nw.warmC hW hp2, va_Nw.warmC hW hp3, va_Nw.warmC hW hp4, va_Dc.moved hW.alike hp5, va_Mi.moved hW.alike hp6, va_AO.moved hW.alike hp7, by rw [hU]; exact va_T.narrow (va_T.moved hW.alike (va_T.kept hp8 hS.2.1)) hFc, by rw [hU]; exact va_Z.narrow (va_Z.moved hW.alike (va_Z.kept hp9 hS.2.1)) hFc⟩⟩ rfl rfl hl.1 rfl (lv_room (Nat.le_of_ble_eq_true rfl)) dX19_copy_37 ⟨(Nat.le_trans (show (0 + kc_5) + (Pw_36.gc pr_55) ≤ 3 by omega) (Nat.le_of_ble_eq_true rfl)), (Nat.le_trans (show (0 + ks_6) + (Pw_36.gs pr_55) ≤ 200007 by omega) (Nat.le_of_ble_eq_true rfl))⟩) hS (fun q _ h => hFc q h) hFc (fun r_58 z_59 t H1 locs ht hvm hw hB hz1 hk1 hS => ?_)
  obtain ⟨Ln_60, Pn_61, hxt_61, hP1, hK1, hD1⟩ := hB
  rw [ht] at hP1
  have hK1 := va_K.moved hvm.symm hK1
  obtain ⟨hP, hD⟩ := va_joinP (X := [(hc, .inr (12, [v13_0, .ref lr, v13_2, .int (zI (z0_2)), v13_4, .ref la, v13_6]))]) (cx := []) (wr := [(hc, .inr (12, [v13_0, .ref lr, v13_2, .int (zI (z0_2)), v13_4, .ref la, v13_6]))]) (rx := []) (pl := va_pl Ln_3 (pE Pw_36)) (pl1 := va_pl Ln_60 (pE Pn_61)) hP hD [] [0] rfl rfl (by decide) (by decide) hk1 hFc hP1 hD1
  have hK := (hK.sub (tys' := [(cI, .int), (cZ, .boolean)]) [1, 2] rfl).app hK1
  generalize H1 = H at hP hS ⊢
  have hP : va_P (dC, dI) vwQ ([(hc, .inr (12, [v13_0, .ref lr, v13_2, .int (zI (z0_2)), v13_4, .ref la, v13_6]))] ++ va_pl Ln_60 (pE Pn_61)) H := hP
  have hD : va_D A ([(hc, .inr (12, [v13_0, .ref lr, v13_2, .int (zI (z0_2)), v13_4, .ref la, v13_6]))] ++ va_pl Ln_60 (pE Pn_61)) := hD
  have hK : va_K (dC, dI) vwQ [(cI, .int), (cZ, .boolean), (cO, .object "java/lang/Object")] s := hK
  refine W.widen (k := ((0 + kc_5) + (Pw_36.gc pr_55))) (n := ((0 + ks_6) + (Pw_36.gs pr_55))) (by omega) (by omega) ?_
  obtain ⟨rfl, hzz_59⟩ := hw
  have hu_62 := hxt_61
  have hek_65 : Pw_36.ek pr_55 = 17 := (by rw [← epr_55.symm]; exact (hak_43.2.1.2.2.1 xb hq_47.1 hq_47.2).1.1)
  have hfx := hu_62.2.2.2.2.2.2.2
  have han := hu_62.2.2.2.1
  have hic := hak_43.in hi_49
  have hal : Pw_36.lz pr_55 = Pw_36.lz (Pw_36.br xb) := (by rw [epr_55.symm])
  have hke_63 : KEP [lr] Ln_3 Pw_36 Ln_60 Pn_61 la := hu_62.1.kep hak_43 hlk_57.1 hlk_57.2.1 hfx (by rw [hek_65]; decide) (Or.inl (fun e9 => kd_ne hq_47.2 hlk_57.2.1 (by decide) (show xb = pr_55 from (by have q9 := (hak_43.2.1.2.2.1 xb hq_47.1 hq_47.2).1.2.1; rw [epr_55.symm, e9] at q9; exact q9.symm))))
  have hak_64 : ALP Ln_60 Pn_61 cO cI cZ sx_ed la := hak_43.add hu_62.1 hlk_57.1 hlk_57.2.1 hfx hek_65 (by decide) hlk_57 hq_48.1 hq_48.2 hu_62.2.1 (by omega) hu_62.2.2.1 hu_62.2.2.2.1.1 (by have q9 := hak_43.adc40 hlk_57; omega) hu_62.2.2.2.2.1 hu_62.2.2.2.2.2.1 hu_62.2.2.2.2.2.2.1 (fun q9 => absurd q9 (by decide)) (fun _ => hE_50)
  have ht9 : Pn_61.tot 2 la = Pw_36.tot 2 la + (1) ∧ Pn_61.tot 1 la = Pw_36.tot 1 la := hak_43.tots hke_63 hi_49 2 (Or.inr rfl) epr_55.symm (d := 1) hu_62.2.1 (fun y m9 k9 n9 => hu_62.1.lz hak_43 hlk_57.1 hlk_57.2.1 hfx m9 k9 n9)
  have hgr9 := gro_cap (P := Pw_36) (P' := Pn_61) (x := pr_55) (hak_43.adc hlk_57) hu_62.1.1.2.2.2.2.2.2.2.2 hu_62.2.2.2.1.1 hu_62.2.2.2.1.2.2.1 hu_62.2.2.2.1.2.2.2 hu_62.2.2.2.1.2.1
  clear han
  have hc9 : Pn_61.cat 2 la = Pw_36.cat 2 la + (Pn_61.cap pr_55 - Pw_36.cap pr_55) ∧ Pn_61.cat 1 la = Pw_36.cat 1 la := hak_43.cats hke_63 hi_49 2 (Or.inr rfl) epr_55.symm (by omega) (fun y m9 k9 n9 => hu_62.1.cap hak_43 hlk_57.1 hlk_57.2.1 hfx m9 k9 n9)
  have hq_66 : la ∈ Ln_60 ∧ Pn_61.kd la = 30 := hke_63.mem hq_45.1 hq_45.2 (by decide)
  have hq_67 : lr ∈ Ln_60 ∧ Pn_61.kd lr = 30 := hke_63.mem hq_46.1 hq_46.2 (by decide)
  have hq_68 : xb ∈ Ln_60 ∧ Pn_61.kd xb = 12 := hke_63.mem hq_47.1 hq_47.2 (by decide)
  have hq_69 : q_1 ∈ Ln_60 ∧ Pn_61.kd q_1 = 17 := hke_63.mem hq_48.1 hq_48.2 (by decide)
  have hq_70 : pr_55 ∈ Ln_60 ∧ Pn_61.kd pr_55 = 30 := hke_63.mem hlk_56.1 hlk_56.2.1 (by decide)
  have hi_71 : INB Pn_61 la xb := hke_63.inb hi_49
  have hE_72 : Pn_61.ek q_1 ≠ 1 := (by rw [hke_63.ek hq_48.1 hq_48.2 (by decide)]; exact hE_50)
  have ha_73 : Pn_61.br xb = pr_55 := hke_63.br hq_47.1 hq_47.2 epr_55.symm
  have hz9 := hke_63.2.2.1
  have hA_74 : KEP [lr] L P Ln_60 Pn_61 la := hA_51.trans hke_63
  have hza := hu_62.2.1
  have : Pn_61.lz lr = Pw_36.lz lr := hu_62.1.lz hak_43 hlk_57.1 hlk_57.2.1 hfx hq_46.1 hq_46.2 (fun e9 => (show Pw_36.ow pr_55 ≠ pr_55 from (fun e9 => kd_ne hq_47.2 hlk_57.2.1 (by decide) (show xb = pr_55 from (by have q9 := (hak_43.2.1.2.2.1 xb hq_47.1 hq_47.2).1.2.1; rw [epr_55.symm, e9] at q9; exact q9.symm)))) (by rw [← e9]; exact how_53))
  have : Pn_61.cap lr = Pw_36.cap lr := hu_62.1.capO hak_43.owa hlk_57.1 hlk_57.2.1 hfx hq_46.1 hq_46.2 (fun e9 => (show Pw_36.ow pr_55 ≠ pr_55 from (fun e9 => kd_ne hq_47.2 hlk_57.2.1 (by decide) (show xb = pr_55 from (by have q9 := (hak_43.2.1.2.2.1 xb hq_47.1 hq_47.2).1.2.1; rw [epr_55.symm, e9] at q9; exact q9.symm)))) (by rw [← e9]; exact how_53))
  have hek_75 : Pn_61.ek lr = 17 := (by rw [hke_63.ek hq_46.1 hq_46.2 (by decide)]; exact hek_52)
  have how_76 : Pn_61.ow lr = lr := ((hke_63.1 lr hq_46.1 (by rw [hq_46.2]; decide)).2.2.2.1 hq_46.2 how_53).1
  have hgr8 := hgr9.1
  clear hgr9 hfx
  have hl0v : Pn_61.cap pr_55 = Pn_61.cap l0 := (by rw [hl0e])
  refine lv_pop hx hb dX19_copy_40 rfl ?_
  subst hQ
  have hK := hK.sub (tys' := [(cO, .object "java/lang/Object"), (cI, .int), (cZ, .boolean)]) [2, 0, 1] rfl
  refine W_knowS (fun hrm9 => ?_)
  refine W.widen (k := 3) (n := 200007) (by omega) (by omega) ?_
  exact W.vret hx hb hr (fun t ht hW => ⟨⟨(), rfl, trivial, z0_2, Ln_60, Pn_61, ((0 + kc_5) + (Pw_36.gc pr_55)), ((0 + ks_6) + (Pw_36.gs pr_55)), ⟨⟨(by rw [ht, ← hp10]; exact hrm9), (by refine ⟨?_, ?_⟩ <;> omega)⟩, ⟨(by omega), ⟨hA_74, hak_64, ⟨by omega, by omega, by omega, by omega⟩, hlg_9.to (by omega), by omega⟩⟩⟩, by rw [ht]; exact hP, va_K.moved hW.alike hK, hD⟩, hS.F ht⟩) hS.2.2 dX19_copy_41
