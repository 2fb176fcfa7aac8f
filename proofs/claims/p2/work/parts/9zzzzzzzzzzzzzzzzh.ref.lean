def o_P13_rowR : List Cond := [.fieldLink RX13 25 "SsaForgeModel$Code" "rowN" "I", .fieldLink RX13 16 "SsaForgeModel$Code" "rows" "Ljava/util/ArrayList;", .methodLink RX13 38 yJx4a65c_size_8abf5, .instanceMethod yJx4a65c_size_8abf5, .selects RJx4a65c yJx4a65c_size_8abf5 yJx4a65c_size_8abf5, .initialized RJx4a65c, .methodLink RX13 49 yJx4a65c_get_915e3, .instanceMethod yJx4a65c_get_915e3, .selects RJx4a65c yJx4a65c_get_915e3 yJx4a65c_get_915e3, .classLink RX13 55 "SsaForgeModel$Row", .fieldLink RX13 58 "SsaForgeModel$Row" "gone" "Z", .fieldLink RX13 62 "SsaForgeModel$Row" "regA" "Z", .fieldLink RX13 65 "SsaForgeModel$Row" "regB" "Z", .fieldLink RX13 68 "SsaForgeModel$Row" "a" "I", .fieldLink RX13 71 "SsaForgeModel$Row" "b" "I", .fieldLink RX13 74 "SsaForgeModel$Row" "t" "I", .classLink RX13 55 RX17, .instantiable RX17 7, .initialized RX17, .instanceMethod yX17_init, .methodLink RX13 45 yJx4a65c_add_9ea2d, .instanceMethod yJx4a65c_add_9ea2d, .selects RJx4a65c yJx4a65c_add_9ea2d yJx4a65c_add_9ea2d]
def v_P13_rowR : List Cond := .code yX13_row cX13_row 2 (some (.object "SsaForgeModel$Row")) :: (o_P13_rowR ++ (wsX130 ++ (v_PL_size ++ (v_PL_get ++ (wsX170 ++ (v_X17_init ++ (v_PL_addAR ++ [])))))))
theorem mow_P13_rowR : ∀ w ∈ o_P13_rowR, w ∈ v_P13_rowR := fun _ h => List.mem_cons_of_mem _ (List.mem_append_left _ h)
theorem mem_P13_rowR_0 : ∀ w ∈ wsX130, w ∈ v_P13_rowR := fun _ h => List.mem_cons_of_mem _ (List.mem_append_right _ (List.mem_append_left _ h))
theorem mem_P13_rowR_1 : ∀ w ∈ v_PL_size, w ∈ v_P13_rowR := fun _ h => List.mem_cons_of_mem _ (List.mem_append_right _ (List.mem_append_right _ (List.mem_append_left _ h)))
theorem mem_P13_rowR_2 : ∀ w ∈ v_PL_get, w ∈ v_P13_rowR := fun _ h => List.mem_cons_of_mem _ (List.mem_append_right _ (List.mem_append_right _ (List.mem_append_right _ (List.mem_append_left _ h))))
theorem mem_P13_rowR_3 : ∀ w ∈ wsX170, w ∈ v_P13_rowR := fun _ h => List.mem_cons_of_mem _ (List.mem_append_right _ (List.mem_append_right _ (List.mem_append_right _ (List.mem_append_right _ (List.mem_append_left _ h)))))
theorem mem_P13_rowR_4 : ∀ w ∈ v_X17_init, w ∈ v_P13_rowR := fun _ h => List.mem_cons_of_mem _ (List.mem_append_right _ (List.mem_append_right _ (List.mem_append_right _ (List.mem_append_right _ (List.mem_append_right _ (List.mem_append_left _ h))))))
theorem mem_P13_rowR_5 : ∀ w ∈ v_PL_addAR, w ∈ v_P13_rowR := fun _ h => List.mem_cons_of_mem _ (List.mem_append_right _ (List.mem_append_right _ (List.mem_append_right _ (List.mem_append_right _ (List.mem_append_right _ (List.mem_append_right _ (List.mem_append_left _ h)))))))
set_option maxRecDepth 20000 in
theorem gw_P13_rowR : v_P13_rowR.all goodWord = true := by decide +kernel
set_option maxRecDepth 20000 in
theorem g_P13_rowR_PL_size : GoodIn v_P13_rowR (wsV RX13 38 RJx4a65c yJx4a65c_size_8abf5 v_PL_size) := goodIn_app (goodIn_sub (fun w h => mow_P13_rowR w (by revert w h; decide +kernel)) (by decide +kernel)) (goodIn_sub mem_P13_rowR_1 gw_PL_size)
set_option maxRecDepth 20000 in
theorem g_P13_rowR_PL_get : GoodIn v_P13_rowR (wsV RX13 49 RJx4a65c yJx4a65c_get_915e3 v_PL_get) := goodIn_app (goodIn_sub (fun w h => mow_P13_rowR w (by revert w h; decide +kernel)) (by decide +kernel)) (goodIn_sub mem_P13_rowR_2 gw_PL_get)
set_option maxRecDepth 20000 in
theorem g_P13_rowR_PL_addAR : GoodIn v_P13_rowR (wsV RX13 45 RJx4a65c yJx4a65c_add_9ea2d v_PL_addAR) := goodIn_app (goodIn_sub (fun w h => mow_P13_rowR w (by revert w h; decide +kernel)) (by decide +kernel)) (goodIn_sub mem_P13_rowR_5 gw_PL_addAR)
set_option maxHeartbeats 4000000 in
set_option maxRecDepth 100000 in
theorem c_P13_rowR (l : Launch) (dC : Nat → ClassId) (dI : Nat → Nat → Nat) (cI : ClassId) (cZ : ClassId) (hc : Nat) (v13_0 : Value) (v13_2 : Value) (z13_rowN : Int) (v13_4 : Value) (v13_6 : Value) (la : Nat) (lr : Nat) (cO : ClassId) (L : List Nat) (P : PO) (sx_ed : Nat) (hNz13_rowN : 0 ≤ z13_rowN ∧ z13_rowN ≤ 19000) (hX_g : GLR L P cO cI cZ sx_ed) (hX_la : la ∈ L ∧ P.kd la = 30 ∧ P.ek la = 12 ∧ P.ow la = la) (hX_lr : lr ∈ L ∧ P.kd lr = 30 ∧ P.ek lr = 17 ∧ P.ow lr = lr) (hNr : z13_rowN ≤ P.lz lr ∧ P.lz lr ≤ 19000 ∧ 0 ≤ z13_rowN) (sz : Nat) (HU : Heap) (sx_mi : Nat) : Met l yX13_row v_P13_rowR ({ frames := 7, cells := 2, slots := 100007, locals := 191 }) (va_Pc [.ref hc] (fun U => U.heap.size = sz ∧ va_P (dC, dI) vwQ ([(hc, .inr (12, [v13_0, .ref lr, v13_2, .int (zI (z13_rowN)), v13_4, .ref la, v13_6]))] ++ va_pl L (pE P)) U.heap ∧ va_K (dC, dI) vwQ [(cO, .object "java/lang/Object"), (cI, .int), (cZ, .boolean)] U ∧ va_D (fun _ => True) ([(hc, .inr (12, [v13_0, .ref lr, v13_2, .int (zI (z13_rowN)), v13_4, .ref la, v13_6]))] ++ va_pl L (pE P)) ∧ va_Nw (.castable "SsaForgeModel$Row" "SsaForgeModel$Row") U ∧ U.heap = HU ∧ va_Nw (.methodLinkNest RX13 57 yX17_init "SsaForgeModel") U ∧ va_Nw (.castable "SsaForgeModel$Row" "java/lang/Object") U ∧ va_Nw (.castable "SsaForgeModel$Phi" "java/lang/Object") U ∧ va_Nw (.castable "SsaForgeModel$Block" "java/lang/Object") U ∧ va_Dc U ∧ va_Mi "[Ljava/lang/Object;" sx_mi U ∧ va_AO "java/lang/Object" U ∧ va_T (.object "java/lang/Object") sx_ed 0 (fun _ => .null) (va_A ([(hc, .inr (12, [v13_0, .ref lr, v13_2, .int (zI (z13_rowN)), v13_4, .ref la, v13_6]))] ++ va_pl L (pE P)) sz) U U.heap ∧ va_Z "java/util/ArrayList" "DEFAULTCAPACITY_EMPTY_ELEMENTDATA" "[Ljava/lang/Object;" (.ref sx_ed) (va_A ([(hc, .inr (12, [v13_0, .ref lr, v13_2, .int (zI (z13_rowN)), v13_4, .ref la, v13_6]))] ++ va_pl L (pE P)) sz) U U.heap)) (va_Qr (fun _ : Unit => True) (fun (_ : Unit) (rq : Nat) (t : State) => ∃ (z0_9 : Int) (Ln_9 : List Nat) (Pn_9 : PO) (kc_9 : Nat) (ks_9 : Nat), ((RM HU t.heap kc_9 ks_9 ∧ ((ks_9 : Int) ≤ 7 * (Pn_9.lz lr - P.lz lr) + 5 * (Pn_9.cap lr - P.cap lr) ∧ (kc_9 : Int) ≤ 1 * (Pn_9.lz lr - P.lz lr) + (Pn_9.cap lr - P.cap lr) ∧ (ks_9 : Int) ≤ 100007 ∧ (kc_9 : Int) ≤ 2)) ∧ ((0 ≤ z0_9 ∧ z0_9 ≤ 19001) ∧ (KEG [lr] L P Ln_9 Pn_9 ∧ GLR Ln_9 Pn_9 cO cI cZ sx_ed ∧ CRH lr rq (z13_rowN) L P Ln_9 Pn_9 ∧ (rq = Pn_9.el lr (z13_rowN) ∧ (∀ i : Int, 0 ≤ i → i < P.lz lr → Pn_9.el lr i = P.el lr i) ∧ (Pn_9.lz lr = P.lz lr ∨ (Pn_9.lz lr = P.lz lr + 1 ∧ z13_rowN = P.lz lr ∧ rq ∉ L))) ∧ (z0_9 = z13_rowN + 1)))) ∧ va_P (dC, dI) vwQ ([(hc, .inr (12, [v13_0, .ref lr, v13_2, .int (zI (z0_9)), v13_4, .ref la, v13_6]))] ++ va_pl Ln_9 (pE Pn_9)) t.heap ∧ va_K (dC, dI) vwQ [(cO, .object "java/lang/Object"), (cI, .int), (cZ, .boolean)] t ∧ va_D (va_A ([(hc, .inr (12, [v13_0, .ref lr, v13_2, .int (zI (z13_rowN)), v13_4, .ref la, v13_6]))] ++ va_pl L (pE P)) sz) ([(hc, .inr (12, [v13_0, .ref lr, v13_2, .int (zI (z0_9)), v13_4, .ref la, v13_6]))] ++ va_pl Ln_9 (pE Pn_9))) (va_A ([(hc, .inr (12, [v13_0, .ref lr, v13_2, .int (zI (z13_rowN)), v13_4, .ref la, v13_6]))] ++ va_pl L (pE P)) sz)) 2 100007 (va_A ([(hc, .inr (12, [v13_0, .ref lr, v13_2, .int (zI (z13_rowN)), v13_4, .ref la, v13_6]))] ++ va_pl L (pE P)) sz) := by
  refine Met.ofW (cc := cX13_row) (maxL := 2) (ret := (some (.object "SsaForgeModel$Row"))) (by decide) rfl ?_
  intro p e s m args below meth c s₁ B hml hv
  obtain ⟨rfl, hsz, hP, hK, hD0, hp0, hp1, hp2, hp3, hp4, hp5, hp6, hp7, hp8, hp9, hp10⟩ := hv
  have hx := B.exec
  have hb := B.bytes
  have hr := B.returns
  have hts := atoms_spec (ws := v_P13_rowR) B.pre
  have hown : s.vm.findClass RX13 = some m.cls := findClass_of_methodNamed B.named
  have hlocks := B.notSynchronized
  have ow : ∀ {k : Nat} {w : Cond}, o_P13_rowR[k]? = some w → w.before ([.ref hc] : List Value).toArray s = true := fun h => hts _ (mow_P13_rowR _ (List.mem_of_getElem? h))
  subst hsz
  have hD := hD0.self (sz := s.heap.size)
  generalize hAe : va_A ([(hc, .inr (12, [v13_0, .ref lr, v13_2, .int (zI (z13_rowN)), v13_4, .ref la, v13_6]))] ++ va_pl L (pE P)) s.heap.size = A at hD hp8 hp9 hp10 ⊢
  have hA : ∀ q : Nat, s.heap.size ≤ q → A q := fun q h => by rw [← hAe]; exact Or.inr h
  have hS : va_S A s.heap s.heap [] := va_S.rf
  have hP : va_P (dC, dI) vwQ ([(hc, .inr (12, [v13_0, .ref lr, v13_2, .int (zI (z13_rowN)), v13_4, .ref la, v13_6]))] ++ va_pl L (pE P)) s.heap := hP
  have hl := lv_entry ([.ref hc]) (n := 2) (Nat.le_of_ble_eq_true rfl)
  rw [lg_entry_eq]
  generalize (lg_sl ([.ref hc]) ++ List.replicate (2 - (lg_sl ([.ref hc])).length) Slot.unset).toArray = ls at hl ⊢
  have hl : lv_has ls 2 [(0, .ref hc)] := hl
  obtain ⟨H, hH⟩ : ∃ H, H = s.heap := ⟨_, rfl⟩
  rw [← hH] at hP
  have hS : va_S A s.heap H [] := by rw [hH]; exact hS
  rw [← hH]
  refine zW_cap (fun Q hQ => ?_)
  have hX_g9 := hX_g
  have hC_la := hX_la
  have hC_lr := hX_lr
  refine lv_aload_n hx hb dX13_row_0 rfl (lv_at hl 0 rfl) ?_
  refine va_get (D := (dC, dI)) (ci := 12) (v := .int (zI (z13_rowN))) (C := RX13) (T := TX13) (N := 7) hx hb hts mem_P13_rowR_0 hown hK hP 0 rfl rfl 3 (by decide) (ow (k := 0) rfl) (fun _ h9 => h9) rfl dX13_row_1 ?_
  refine lv_aload_n hx hb dX13_row_4 rfl (lv_at hl 0 rfl) ?_
  refine va_get (D := (dC, dI)) (ci := 12) (v := .ref lr) (C := RX13) (T := TX13) (N := 7) hx hb hts mem_P13_rowR_0 hown hK hP 0 rfl rfl 1 (by decide) (ow (k := 1) rfl) (fun _ h9 => h9) rfl dX13_row_5 ?_
  have hlk_1 := (show LOK L P cO 17 lr from (by have q9 := (hX_g9.gla lr hC_lr.1 hC_lr.2.1).1; rw [hC_lr.2.2.1] at q9; exact q9))
  have hX_x := hlk_1.1
  have hX_k := hlk_1.2.1
  have hlz9 := hlk_1.2.2.1
  have hPc := hP.part (X := [(hc, .inr (12, [v13_0, .ref lr, v13_2, .int (zI (z13_rowN)), v13_4, .ref la, v13_6]))]) (cx := []) (pl := va_pl L (pE P)) [] rfl
  have hDc := hD.part (X := [(hc, .inr (12, [v13_0, .ref lr, v13_2, .int (zI (z13_rowN)), v13_4, .ref la, v13_6]))]) (cx := []) (pl := va_pl L (pE P)) [] (by decide) rfl
  have hKc := hK.sub (tys' := [(cO, .object "java/lang/Object")]) [0] rfl
  have hFc := va_freeP (X := [(hc, .inr (12, [v13_0, .ref lr, v13_2, .int (zI (z13_rowN)), v13_4, .ref la, v13_6]))]) (cx := []) (pl := va_pl L (pE P)) hD hS hA [] rfl
  refine va_calli (va_runV (As := []) (rest := [.int (zI (z13_rowN))]) ⟨hx, hb, hml, hown, hts⟩ (c_PL_size l dC dI cO L P lr hX_x hX_k (by omega) H.size) (cwV 0 hts g_P13_rowR_PL_size rfl rfl rfl (by decide +kernel) ⟨(Nat.le_of_ble_eq_true rfl), (Nat.le_of_ble_eq_true rfl)⟩) ⟨fun a U g mk q => by obtain ⟨q0, q1, qP, qK, qD⟩ := q; exact ⟨q0, q1, qP, va_K.moved (u := U) (U := U.calling g mk a) (Vm.Alike.refl U.vm) qK, qD⟩, recv_30 hKc hPc hC_lr.1 hC_lr.2.1, fun U hU hW => ⟨rfl, by rw [hU], by rw [hU]; exact hPc, va_K.moved hW.alike hKc, hDc.weaken (fun _ _ _ _ => trivial)⟩⟩ rfl rfl hl.1 rfl (lv_room (Nat.le_of_ble_eq_true rfl)) dX13_row_8 ⟨(Nat.le_of_ble_eq_true rfl), (Nat.le_of_ble_eq_true rfl)⟩) hS (fun q _ h => hFc q h) hFc (fun r_2 u t H1 locs ht hvm hw hB hz1 hk1 hS => ?_)
  obtain ⟨hP1, hK1, hD1⟩ := hB
  rw [ht] at hP1
  have hK1 := va_K.moved hvm.symm hK1
  obtain ⟨hP, hD⟩ := va_joinP (X := [(hc, .inr (12, [v13_0, .ref lr, v13_2, .int (zI (z13_rowN)), v13_4, .ref la, v13_6]))]) (cx := []) (wr := [(hc, .inr (12, [v13_0, .ref lr, v13_2, .int (zI (z13_rowN)), v13_4, .ref la, v13_6]))]) (rx := []) (pl := va_pl L (pE P)) (pl1 := va_pl L (pE P)) hP hD [] [0] rfl rfl (by decide) (by decide) hk1 hFc hP1 hD1
  have hK := (hK.sub (tys' := [(cI, .int), (cZ, .boolean)]) [1, 2] rfl).app hK1
  generalize H1 = H at hP hS ⊢
  have hP : va_P (dC, dI) vwQ ([(hc, .inr (12, [v13_0, .ref lr, v13_2, .int (zI (z13_rowN)), v13_4, .ref la, v13_6]))] ++ va_pl L (pE P)) H := hP
  have hD : va_D A ([(hc, .inr (12, [v13_0, .ref lr, v13_2, .int (zI (z13_rowN)), v13_4, .ref la, v13_6]))] ++ va_pl L (pE P)) := hD
  have hK : va_K (dC, dI) vwQ [(cI, .int), (cZ, .boolean), (cO, .object "java/lang/Object")] s := hK
  refine W.widen (k := 0) (n := 0) (Nat.le_of_ble_eq_true rfl) (Nat.le_of_ble_eq_true rfl) ?_
  obtain rfl : r_2 = (zI (P.lz lr)) := hw
  refine lv_icmp_ne (tgt := 29) hx hb dX13_row_11 (by decide) (fun b11 => ?_) (fun b11 => ?_)
  · have yb11 : ¬ (z13_rowN : Int) = (P.lz lr : Int) := fun q => b11 ((zI_eq (a := z13_rowN) (b := P.lz lr) (by omega) (by omega) (by omega) (by omega)).mpr q)
    refine lv_aload_n hx hb dX13_row_29 rfl (lv_at hl 0 rfl) ?_
    refine va_get (D := (dC, dI)) (ci := 12) (v := .ref lr) (C := RX13) (T := TX13) (N := 7) hx hb hts mem_P13_rowR_0 hown hK hP 0 rfl rfl 1 (by decide) (ow (k := 1) rfl) (fun _ h9 => h9) rfl dX13_row_30 ?_
    refine lv_aload_n hx hb dX13_row_33 rfl (lv_at hl 0 rfl) ?_
    refine va_get (D := (dC, dI)) (ci := 12) (v := .int (zI (z13_rowN))) (C := RX13) (T := TX13) (N := 7) hx hb hts mem_P13_rowR_0 hown hK hP 0 rfl rfl 3 (by decide) (ow (k := 0) rfl) (fun _ h9 => h9) rfl dX13_row_34 ?_
    have hlk_3 := (show LOK L P cO 17 lr from (by have q9 := (hX_g9.gla lr hC_lr.1 hC_lr.2.1).1; rw [hC_lr.2.2.1] at q9; exact q9))
    obtain ⟨x, ex⟩ : ∃ q9 : Nat, q9 = P.el lr (z13_rowN) := ⟨_, rfl⟩
    have hX_x := hlk_3.1
    have hX_k := hlk_3.2.1
    have hq9 := hlk_3.row (i := z13_rowN) (by omega) (by omega)
    have hX_q : P.le lr ∈ L ∧ P.kd (P.le lr) = 31 ∧ P.ac (P.le lr) = cO := ⟨hq9.1, hq9.2.1, hq9.2.2.1⟩
    have hq8 := hq9.2.2.2
    have hX_e0 : P.oa (P.le lr) (z13_rowN).toNat = some x := (by rw [ex]; exact (hlk_3.2.2.2.2 (z13_rowN) (by omega) (by omega)).1)
    have hxm : x ∈ L := (by rw [ex]; exact (hlk_3.2.2.2.2 (z13_rowN) (by omega) (by omega)).2.1)
    have hxk := (hlk_3.2.2.2.2 (z13_rowN) (by omega) (by omega)).2.2
    rw [← ex] at hxk
    have hPc := hP.part (X := [(hc, .inr (12, [v13_0, .ref lr, v13_2, .int (zI (z13_rowN)), v13_4, .ref la, v13_6]))]) (cx := []) (pl := va_pl L (pE P)) [] rfl
    have hDc := hD.part (X := [(hc, .inr (12, [v13_0, .ref lr, v13_2, .int (zI (z13_rowN)), v13_4, .ref la, v13_6]))]) (cx := []) (pl := va_pl L (pE P)) [] (by decide) rfl
    have hKc := hK.sub (tys' := [(cO, .object "java/lang/Object")]) [2] rfl
    have hFc := va_freeP (X := [(hc, .inr (12, [v13_0, .ref lr, v13_2, .int (zI (z13_rowN)), v13_4, .ref la, v13_6]))]) (cx := []) (pl := va_pl L (pE P)) hD hS hA [] rfl
    refine va_callr (va_runV (As := [.int (zI (z13_rowN))]) (rest := []) ⟨hx, hb, hml, hown, hts⟩ (c_PL_get l dC dI cO L P lr z13_rowN x hX_x hX_k hX_q (by omega) hX_e0 H.size) (cwV 1 hts g_P13_rowR_PL_get rfl rfl rfl (by decide +kernel) ⟨(Nat.le_of_ble_eq_true rfl), (Nat.le_of_ble_eq_true rfl)⟩) ⟨fun a U g mk q => by obtain ⟨q0, q1, qP, qK, qD⟩ := q; exact ⟨q0, q1, qP, va_K.moved (u := U) (U := U.calling g mk a) (Vm.Alike.refl U.vm) qK, qD⟩, recv_30 hKc hPc hC_lr.1 hC_lr.2.1, fun U hU hW => ⟨rfl, by rw [hU], by rw [hU]; exact hPc, va_K.moved hW.alike hKc, hDc.weaken (fun _ _ _ _ => trivial)⟩⟩ rfl rfl hl.1 rfl (lv_room (Nat.le_of_ble_eq_true rfl)) dX13_row_37 ⟨(Nat.le_of_ble_eq_true rfl), (Nat.le_of_ble_eq_true rfl)⟩) hS (fun q _ h => hFc q h) hFc (fun u q_4 t H1 locs ht hvm hw hB hz1 hk1 hS => ?_)
    obtain ⟨hxt_4, hP1, hK1, hD1⟩ := hB
    rw [ht] at hP1
    have hK1 := va_K.moved hvm.symm hK1
    obtain ⟨hP, hD⟩ := va_joinP (X := [(hc, .inr (12, [v13_0, .ref lr, v13_2, .int (zI (z13_rowN)), v13_4, .ref la, v13_6]))]) (cx := []) (wr := [(hc, .inr (12, [v13_0, .ref lr, v13_2, .int (zI (z13_rowN)), v13_4, .ref la, v13_6]))]) (rx := []) (pl := va_pl L (pE P)) (pl1 := va_pl L (pE P)) hP hD [] [0] rfl rfl (by decide) (by decide) hk1 hFc hP1 hD1
    have hK := (hK.sub (tys' := [(cI, .int), (cZ, .boolean)]) [0, 1] rfl).app hK1
    generalize H1 = H at hP hS ⊢
    have hP : va_P (dC, dI) vwQ ([(hc, .inr (12, [v13_0, .ref lr, v13_2, .int (zI (z13_rowN)), v13_4, .ref la, v13_6]))] ++ va_pl L (pE P)) H := hP
    have hD : va_D A ([(hc, .inr (12, [v13_0, .ref lr, v13_2, .int (zI (z13_rowN)), v13_4, .ref la, v13_6]))] ++ va_pl L (pE P)) := hD
    have hK : va_K (dC, dI) vwQ [(cI, .int), (cZ, .boolean), (cO, .object "java/lang/Object")] s := hK
    refine W.widen (k := 0) (n := 0) (Nat.le_of_ble_eq_true rfl) (Nat.le_of_ble_eq_true rfl) ?_
    rw [hxt_4]
    clear hX_e0
    obtain ⟨xr_5, h9⟩ : ∃ q9 : Nat, q9 = x := ⟨_, rfl⟩
    subst h9
    have hm_6 := hxm
    have hk_7 := hxk
    have hel9 := ex
    have hE_8 : P.ek xr_5 ≠ 1 := (by rw [ex]; exact (hX_g9.gla lr hC_lr.1 hC_lr.2.1).2.2 hC_lr.2.2.1 _ (by omega) (by omega))
    refine va_castY (C := "SsaForgeModel$Row") (nm := "SsaForgeModel$Row") hx hb hown (ow (k := 9) rfl) hp0 (recv_17 hK hP hm_6 hk_7) dX13_row_40 ?_
    refine lv_astore_n (lv' := [(1, .ref xr_5), (0, .ref hc)]) hx hb dX13_row_43 rfl hl (by decide) rfl (fun ls hl => ?_)
    refine lv_aload_n hx hb dX13_row_44 rfl (lv_at hl 1 rfl) ?_
    refine lv_dup hx hb dX13_row_45 rfl ?_
    refine va_get (D := (dC, dI)) (ci := 12) (v := .int (zI (z13_rowN))) (C := RX13) (T := TX13) (N := 7) hx hb hts mem_P13_rowR_0 hown hK hP 0 rfl rfl 3 (by decide) (ow (k := 0) rfl) (fun _ h9 => h9) rfl dX13_row_46 ?_
    refine lv_iconst (v := 1) hx hb dX13_row_49 (by decide) ?_
    refine lv_iadd hx hb dX13_row_50 ?_
    refine lv_topi (fun z ez => ?_)
    obtain rfl : z = zI (z13_rowN + 1) := ez.trans (zI_add (z13_rowN) (1))
    refine va_put (D := (dC, dI)) (ci := 12) (v := .int (zI (z13_rowN + 1))) (ty := .int) (C := RX13) (T := TX13) (N := 7) hx hb hts mem_P13_rowR_0 tyX13 tyX13_ok nmX13 hown hK hP hD hS 0 rfl rfl 3 (by decide) (ow (k := 0) rfl) (fun _ h9 => h9) rfl (by decide +kernel) rfl rfl (Nat.le_of_ble_eq_true rfl) dX13_row_51 (fun H locs hP hD hS => ?_)
    have hP : va_P (dC, dI) vwQ ([(hc, .inr (12, [v13_0, .ref lr, v13_2, .int (zI (z13_rowN + 1)), v13_4, .ref la, v13_6]))] ++ va_pl L (pE P)) H := hP
    have hD : va_D A ([(hc, .inr (12, [v13_0, .ref lr, v13_2, .int (zI (z13_rowN + 1)), v13_4, .ref la, v13_6]))] ++ va_pl L (pE P)) := hD
    obtain ⟨z_9, ez_9⟩ : ∃ z9 : Int, z9 = z13_rowN + 1 := ⟨_, rfl⟩
    rw [← ez_9] at hP hD
    have hP : va_P (dC, dI) vwQ ([(hc, .inr (12, [v13_0, .ref lr, v13_2, .int (zI (z_9)), v13_4, .ref la, v13_6]))] ++ va_pl L (pE P)) H := hP
    have hD : va_D A ([(hc, .inr (12, [v13_0, .ref lr, v13_2, .int (zI (z_9)), v13_4, .ref la, v13_6]))] ++ va_pl L (pE P)) := hD
    refine lv_aload_n hx hb dX13_row_54 rfl (lv_at hl 0 rfl) ?_
    refine lv_iconst (v := 0) hx hb dX13_row_55 (by decide) ?_
    have ⟨hr1, hr2, hr3, hr4, hr5, hr6, hr7, hr8, hr9⟩ := hX_g9.rokR hm_6 hk_7
    refine lv_topi (fun z ez => ?_)
    obtain rfl : z = zI (0) := ez
    obtain ⟨kp_10, gkp_10⟩ := va_pl_get (X := [(hc, .inr (12, [v13_0, .ref lr, v13_2, .int (zI (z_9)), v13_4, .ref la, v13_6]))]) (f := pE P) hm_6
    have hkp_10 := gkp_10
    rw [pE_row hk_7] at hkp_10
    have hD0 := hD
    refine va_put (D := (dC, dI)) (ci := 21) (v := .int (zI (0))) (ty := .boolean) (C := RX17) (T := TX17) (N := 7) hx hb hts mem_P13_rowR_3 tyX17 tyX17_ok nmX17 hown hK hP hD hS kp_10 hkp_10 rfl 6 (by decide) (ow (k := 10) rfl) (fun _ h9 => h9) rfl (by decide +kernel) (zI_bool (by omega) (by omega)) (zI_fitb (by omega) (by omega)) (Nat.le_of_ble_eq_true rfl) dX13_row_56 (fun H locs hP hD hS => ?_)
    obtain ⟨Pw_11, ePw_11⟩ : ∃ q9 : PO, q9 = P.rw9 6 xr_5 (0) := ⟨_, rfl⟩
    have eU : (([(hc, .inr (12, [v13_0, .ref lr, v13_2, .int (zI (z_9)), v13_4, .ref la, v13_6]))] : va_W) ++ va_pl L (pE P)).set kp_10 (xr_5, rowE (P.ro xr_5) (P.rt xr_5) (P.ra xr_5) (P.rb xr_5) (P.rA xr_5) (P.rB xr_5) (0)) = ([(hc, .inr (12, [v13_0, .ref lr, v13_2, .int (zI (z_9)), v13_4, .ref la, v13_6]))] : va_W) ++ va_pl L (pE Pw_11) := (by rw [va_pl_set hD0 hm_6 gkp_10, ePw_11]; exact congrArg (fun f9 => ([(hc, .inr (12, [v13_0, .ref lr, v13_2, .int (zI (z_9)), v13_4, .ref la, v13_6]))] : va_W) ++ va_pl L f9) (put17_6 hk_7))
    have hP : va_P (dC, dI) vwQ ([(hc, .inr (12, [v13_0, .ref lr, v13_2, .int (zI (z_9)), v13_4, .ref la, v13_6]))] ++ va_pl L (pE Pw_11)) H := (by rw [← eU]; exact hP)
    have hD : va_D A ([(hc, .inr (12, [v13_0, .ref lr, v13_2, .int (zI (z_9)), v13_4, .ref la, v13_6]))] ++ va_pl L (pE Pw_11)) := (by rw [← eU]; exact hD)
    clear eU hD0 gkp_10 hkp_10
    have wPw_11 : RW1 xr_5 P Pw_11 := (by rw [ePw_11]; exact RW1.put _ _ _ _)
    have hy_12 : Pw_11.kd la = 30 := (by rw [ePw_11]; exact hC_la.2.1)
    have hy_13 : Pw_11.kd lr = 30 := (by rw [ePw_11]; exact hC_lr.2.1)
    have hy_14 : Pw_11.kd xr_5 = 17 := (by rw [ePw_11]; exact hk_7)
    have : Pw_11.ro xr_5 = P.ro xr_5 := (by rw [ePw_11]; exact rw9_of _ (by decide))
    have : Pw_11.rt xr_5 = P.rt xr_5 := (by rw [ePw_11]; exact rw9_of _ (by decide))
    have : Pw_11.ra xr_5 = P.ra xr_5 := (by rw [ePw_11]; exact rw9_of _ (by decide))
    have : Pw_11.rb xr_5 = P.rb xr_5 := (by rw [ePw_11]; exact rw9_of _ (by decide))
    have : Pw_11.rA xr_5 = P.rA xr_5 := (by rw [ePw_11]; exact rw9_of _ (by decide))
    have : Pw_11.rB xr_5 = P.rB xr_5 := (by rw [ePw_11]; exact rw9_of _ (by decide))
    have : Pw_11.rg xr_5 = 0 := (by rw [ePw_11]; exact rw9_at _ _ _ _)
    have : Pw_11.ek xr_5 = P.ek xr_5 := (by rw [ePw_11]; rfl)
    refine lv_aload_n hx hb dX13_row_59 rfl (lv_at hl 0 rfl) ?_
    refine lv_iconst (v := 0) hx hb dX13_row_60 (by decide) ?_
    refine lv_topi (fun z ez => ?_)
    obtain rfl : z = zI (0) := ez
    obtain ⟨kp_15, gkp_15⟩ := va_pl_get (X := [(hc, .inr (12, [v13_0, .ref lr, v13_2, .int (zI (z_9)), v13_4, .ref la, v13_6]))]) (f := pE Pw_11) hm_6
    have hkp_15 := gkp_15
    rw [pE_row hy_14] at hkp_15
    have hD0 := hD
    refine va_put (D := (dC, dI)) (ci := 21) (v := .int (zI (0))) (ty := .boolean) (C := RX17) (T := TX17) (N := 7) hx hb hts mem_P13_rowR_3 tyX17 tyX17_ok nmX17 hown hK hP hD hS kp_15 hkp_15 rfl 4 (by decide) (ow (k := 11) rfl) (fun _ h9 => h9) rfl (by decide +kernel) (zI_bool (by omega) (by omega)) (zI_fitb (by omega) (by omega)) (Nat.le_of_ble_eq_true rfl) dX13_row_61 (fun H locs hP hD hS => ?_)
    obtain ⟨Pw_16, ePw_16⟩ : ∃ q9 : PO, q9 = Pw_11.rw9 4 xr_5 (0) := ⟨_, rfl⟩
    have eU : (([(hc, .inr (12, [v13_0, .ref lr, v13_2, .int (zI (z_9)), v13_4, .ref la, v13_6]))] : va_W) ++ va_pl L (pE Pw_11)).set kp_15 (xr_5, rowE (Pw_11.ro xr_5) (Pw_11.rt xr_5) (Pw_11.ra xr_5) (Pw_11.rb xr_5) (0) (Pw_11.rB xr_5) (Pw_11.rg xr_5)) = ([(hc, .inr (12, [v13_0, .ref lr, v13_2, .int (zI (z_9)), v13_4, .ref la, v13_6]))] : va_W) ++ va_pl L (pE Pw_16) := (by rw [va_pl_set hD0 hm_6 gkp_15, ePw_16]; exact congrArg (fun f9 => ([(hc, .inr (12, [v13_0, .ref lr, v13_2, .int (zI (z_9)), v13_4, .ref la, v13_6]))] : va_W) ++ va_pl L f9) (put17_4 hy_14))
    have hP : va_P (dC, dI) vwQ ([(hc, .inr (12, [v13_0, .ref lr, v13_2, .int (zI (z_9)), v13_4, .ref la, v13_6]))] ++ va_pl L (pE Pw_16)) H := (by rw [← eU]; exact hP)
    have hD : va_D A ([(hc, .inr (12, [v13_0, .ref lr, v13_2, .int (zI (z_9)), v13_4, .ref la, v13_6]))] ++ va_pl L (pE Pw_16)) := (by rw [← eU]; exact hD)
    clear eU hD0 gkp_15 hkp_15
    have wPw_16 : RW1 xr_5 Pw_11 Pw_16 := (by rw [ePw_16]; exact RW1.put _ _ _ _)
    have hy_17 : Pw_16.kd la = 30 := (by rw [ePw_16]; exact hy_12)
    have hy_18 : Pw_16.kd lr = 30 := (by rw [ePw_16]; exact hy_13)
    have hy_19 : Pw_16.kd xr_5 = 17 := (by rw [ePw_16]; exact hy_14)
    have : Pw_16.ro xr_5 = Pw_11.ro xr_5 := (by rw [ePw_16]; exact rw9_of _ (by decide))
    have : Pw_16.rt xr_5 = Pw_11.rt xr_5 := (by rw [ePw_16]; exact rw9_of _ (by decide))
    have : Pw_16.ra xr_5 = Pw_11.ra xr_5 := (by rw [ePw_16]; exact rw9_of _ (by decide))
    have : Pw_16.rb xr_5 = Pw_11.rb xr_5 := (by rw [ePw_16]; exact rw9_of _ (by decide))
    have : Pw_16.rA xr_5 = 0 := (by rw [ePw_16]; exact rw9_at _ _ _ _)
    have : Pw_16.rB xr_5 = Pw_11.rB xr_5 := (by rw [ePw_16]; exact rw9_of _ (by decide))
    have : Pw_16.rg xr_5 = Pw_11.rg xr_5 := (by rw [ePw_16]; exact rw9_of _ (by decide))
    have : Pw_16.ek xr_5 = Pw_11.ek xr_5 := (by rw [ePw_16]; rfl)
    refine lv_aload_n hx hb dX13_row_64 rfl (lv_at hl 0 rfl) ?_
    refine lv_iconst (v := 0) hx hb dX13_row_65 (by decide) ?_
    refine lv_topi (fun z ez => ?_)
    obtain rfl : z = zI (0) := ez
    obtain ⟨kp_20, gkp_20⟩ := va_pl_get (X := [(hc, .inr (12, [v13_0, .ref lr, v13_2, .int (zI (z_9)), v13_4, .ref la, v13_6]))]) (f := pE Pw_16) hm_6
    have hkp_20 := gkp_20
    rw [pE_row hy_19] at hkp_20
    have hD0 := hD
    refine va_put (D := (dC, dI)) (ci := 21) (v := .int (zI (0))) (ty := .boolean) (C := RX17) (T := TX17) (N := 7) hx hb hts mem_P13_rowR_3 tyX17 tyX17_ok nmX17 hown hK hP hD hS kp_20 hkp_20 rfl 5 (by decide) (ow (k := 12) rfl) (fun _ h9 => h9) rfl (by decide +kernel) (zI_bool (by omega) (by omega)) (zI_fitb (by omega) (by omega)) (Nat.le_of_ble_eq_true rfl) dX13_row_66 (fun H locs hP hD hS => ?_)
    obtain ⟨Pw_21, ePw_21⟩ : ∃ q9 : PO, q9 = Pw_16.rw9 5 xr_5 (0) := ⟨_, rfl⟩
    have eU : (([(hc, .inr (12, [v13_0, .ref lr, v13_2, .int (zI (z_9)), v13_4, .ref la, v13_6]))] : va_W) ++ va_pl L (pE Pw_16)).set kp_20 (xr_5, rowE (Pw_16.ro xr_5) (Pw_16.rt xr_5) (Pw_16.ra xr_5) (Pw_16.rb xr_5) (Pw_16.rA xr_5) (0) (Pw_16.rg xr_5)) = ([(hc, .inr (12, [v13_0, .ref lr, v13_2, .int (zI (z_9)), v13_4, .ref la, v13_6]))] : va_W) ++ va_pl L (pE Pw_21) := (by rw [va_pl_set hD0 hm_6 gkp_20, ePw_21]; exact congrArg (fun f9 => ([(hc, .inr (12, [v13_0, .ref lr, v13_2, .int (zI (z_9)), v13_4, .ref la, v13_6]))] : va_W) ++ va_pl L f9) (put17_5 hy_19))
    have hP : va_P (dC, dI) vwQ ([(hc, .inr (12, [v13_0, .ref lr, v13_2, .int (zI (z_9)), v13_4, .ref la, v13_6]))] ++ va_pl L (pE Pw_21)) H := (by rw [← eU]; exact hP)
    have hD : va_D A ([(hc, .inr (12, [v13_0, .ref lr, v13_2, .int (zI (z_9)), v13_4, .ref la, v13_6]))] ++ va_pl L (pE Pw_21)) := (by rw [← eU]; exact hD)
    clear eU hD0 gkp_20 hkp_20
    have wPw_21 : RW1 xr_5 Pw_16 Pw_21 := (by rw [ePw_21]; exact RW1.put _ _ _ _)
    have hy_22 : Pw_21.kd la = 30 := (by rw [ePw_21]; exact hy_17)
    have hy_23 : Pw_21.kd lr = 30 := (by rw [ePw_21]; exact hy_18)
    have hy_24 : Pw_21.kd xr_5 = 17 := (by rw [ePw_21]; exact hy_19)
    have : Pw_21.ro xr_5 = Pw_16.ro xr_5 := (by rw [ePw_21]; exact rw9_of _ (by decide))
    have : Pw_21.rt xr_5 = Pw_16.rt xr_5 := (by rw [ePw_21]; exact rw9_of _ (by decide))
    have : Pw_21.ra xr_5 = Pw_16.ra xr_5 := (by rw [ePw_21]; exact rw9_of _ (by decide))
    have : Pw_21.rb xr_5 = Pw_16.rb xr_5 := (by rw [ePw_21]; exact rw9_of _ (by decide))
    have : Pw_21.rA xr_5 = Pw_16.rA xr_5 := (by rw [ePw_21]; exact rw9_of _ (by decide))
    have : Pw_21.rB xr_5 = 0 := (by rw [ePw_21]; exact rw9_at _ _ _ _)
    have : Pw_21.rg xr_5 = Pw_16.rg xr_5 := (by rw [ePw_21]; exact rw9_of _ (by decide))
    have : Pw_21.ek xr_5 = Pw_16.ek xr_5 := (by rw [ePw_21]; rfl)
    refine lv_aload_n hx hb dX13_row_69 rfl (lv_at hl 0 rfl) ?_
    refine lv_iconst (v := 0) hx hb dX13_row_70 (by decide) ?_
    refine lv_topi (fun z ez => ?_)
    obtain rfl : z = zI (0) := ez
    obtain ⟨kp_25, gkp_25⟩ := va_pl_get (X := [(hc, .inr (12, [v13_0, .ref lr, v13_2, .int (zI (z_9)), v13_4, .ref la, v13_6]))]) (f := pE Pw_21) hm_6
    have hkp_25 := gkp_25
    rw [pE_row hy_24] at hkp_25
    have hD0 := hD
    refine va_put (D := (dC, dI)) (ci := 21) (v := .int (zI (0))) (ty := .int) (C := RX17) (T := TX17) (N := 7) hx hb hts mem_P13_rowR_3 tyX17 tyX17_ok nmX17 hown hK hP hD hS kp_25 hkp_25 rfl 2 (by decide) (ow (k := 13) rfl) (fun _ h9 => h9) rfl (by decide +kernel) rfl rfl (Nat.le_of_ble_eq_true rfl) dX13_row_71 (fun H locs hP hD hS => ?_)
    obtain ⟨Pw_26, ePw_26⟩ : ∃ q9 : PO, q9 = Pw_21.rw9 2 xr_5 (0) := ⟨_, rfl⟩
    have eU : (([(hc, .inr (12, [v13_0, .ref lr, v13_2, .int (zI (z_9)), v13_4, .ref la, v13_6]))] : va_W) ++ va_pl L (pE Pw_21)).set kp_25 (xr_5, rowE (Pw_21.ro xr_5) (Pw_21.rt xr_5) (0) (Pw_21.rb xr_5) (Pw_21.rA xr_5) (Pw_21.rB xr_5) (Pw_21.rg xr_5)) = ([(hc, .inr (12, [v13_0, .ref lr, v13_2, .int (zI (z_9)), v13_4, .ref la, v13_6]))] : va_W) ++ va_pl L (pE Pw_26) := (by rw [va_pl_set hD0 hm_6 gkp_25, ePw_26]; exact congrArg (fun f9 => ([(hc, .inr (12, [v13_0, .ref lr, v13_2, .int (zI (z_9)), v13_4, .ref la, v13_6]))] : va_W) ++ va_pl L f9) (put17_2 hy_24))
    have hP : va_P (dC, dI) vwQ ([(hc, .inr (12, [v13_0, .ref lr, v13_2, .int (zI (z_9)), v13_4, .ref la, v13_6]))] ++ va_pl L (pE Pw_26)) H := (by rw [← eU]; exact hP)
    have hD : va_D A ([(hc, .inr (12, [v13_0, .ref lr, v13_2, .int (zI (z_9)), v13_4, .ref la, v13_6]))] ++ va_pl L (pE Pw_26)) := (by rw [← eU]; exact hD)
    clear eU hD0 gkp_25 hkp_25
    have wPw_26 : RW1 xr_5 Pw_21 Pw_26 := (by rw [ePw_26]; exact RW1.put _ _ _ _)
    have hy_27 : Pw_26.kd la = 30 := (by rw [ePw_26]; exact hy_22)
    have hy_28 : Pw_26.kd lr = 30 := (by rw [ePw_26]; exact hy_23)
    have hy_29 : Pw_26.kd xr_5 = 17 := (by rw [ePw_26]; exact hy_24)
    have : Pw_26.ro xr_5 = Pw_21.ro xr_5 := (by rw [ePw_26]; exact rw9_of _ (by decide))
    have : Pw_26.rt xr_5 = Pw_21.rt xr_5 := (by rw [ePw_26]; exact rw9_of _ (by decide))
    have : Pw_26.ra xr_5 = 0 := (by rw [ePw_26]; exact rw9_at _ _ _ _)
    have : Pw_26.rb xr_5 = Pw_21.rb xr_5 := (by rw [ePw_26]; exact rw9_of _ (by decide))
    have : Pw_26.rA xr_5 = Pw_21.rA xr_5 := (by rw [ePw_26]; exact rw9_of _ (by decide))
    have : Pw_26.rB xr_5 = Pw_21.rB xr_5 := (by rw [ePw_26]; exact rw9_of _ (by decide))
    have : Pw_26.rg xr_5 = Pw_21.rg xr_5 := (by rw [ePw_26]; exact rw9_of _ (by decide))
    have : Pw_26.ek xr_5 = Pw_21.ek xr_5 := (by rw [ePw_26]; rfl)
    refine lv_aload_n hx hb dX13_row_74 rfl (lv_at hl 0 rfl) ?_
    refine lv_iconst (v := 0) hx hb dX13_row_75 (by decide) ?_
    refine lv_topi (fun z ez => ?_)
    obtain rfl : z = zI (0) := ez
    obtain ⟨kp_30, gkp_30⟩ := va_pl_get (X := [(hc, .inr (12, [v13_0, .ref lr, v13_2, .int (zI (z_9)), v13_4, .ref la, v13_6]))]) (f := pE Pw_26) hm_6
    have hkp_30 := gkp_30
    rw [pE_row hy_29] at hkp_30
    have hD0 := hD
    refine va_put (D := (dC, dI)) (ci := 21) (v := .int (zI (0))) (ty := .int) (C := RX17) (T := TX17) (N := 7) hx hb hts mem_P13_rowR_3 tyX17 tyX17_ok nmX17 hown hK hP hD hS kp_30 hkp_30 rfl 3 (by decide) (ow (k := 14) rfl) (fun _ h9 => h9) rfl (by decide +kernel) rfl rfl (Nat.le_of_ble_eq_true rfl) dX13_row_76 (fun H locs hP hD hS => ?_)
    obtain ⟨Pw_31, ePw_31⟩ : ∃ q9 : PO, q9 = Pw_26.rw9 3 xr_5 (0) := ⟨_, rfl⟩
    have eU : (([(hc, .inr (12, [v13_0, .ref lr, v13_2, .int (zI (z_9)), v13_4, .ref la, v13_6]))] : va_W) ++ va_pl L (pE Pw_26)).set kp_30 (xr_5, rowE (Pw_26.ro xr_5) (Pw_26.rt xr_5) (Pw_26.ra xr_5) (0) (Pw_26.rA xr_5) (Pw_26.rB xr_5) (Pw_26.rg xr_5)) = ([(hc, .inr (12, [v13_0, .ref lr, v13_2, .int (zI (z_9)), v13_4, .ref la, v13_6]))] : va_W) ++ va_pl L (pE Pw_31) := (by rw [va_pl_set hD0 hm_6 gkp_30, ePw_31]; exact congrArg (fun f9 => ([(hc, .inr (12, [v13_0, .ref lr, v13_2, .int (zI (z_9)), v13_4, .ref la, v13_6]))] : va_W) ++ va_pl L f9) (put17_3 hy_29))
    have hP : va_P (dC, dI) vwQ ([(hc, .inr (12, [v13_0, .ref lr, v13_2, .int (zI (z_9)), v13_4, .ref la, v13_6]))] ++ va_pl L (pE Pw_31)) H := (by rw [← eU]; exact hP)
    have hD : va_D A ([(hc, .inr (12, [v13_0, .ref lr, v13_2, .int (zI (z_9)), v13_4, .ref la, v13_6]))] ++ va_pl L (pE Pw_31)) := (by rw [← eU]; exact hD)
    clear eU hD0 gkp_30 hkp_30
    have wPw_31 : RW1 xr_5 Pw_26 Pw_31 := (by rw [ePw_31]; exact RW1.put _ _ _ _)
    have hy_32 : Pw_31.kd la = 30 := (by rw [ePw_31]; exact hy_27)
    have hy_33 : Pw_31.kd lr = 30 := (by rw [ePw_31]; exact hy_28)
    have hy_34 : Pw_31.kd xr_5 = 17 := (by rw [ePw_31]; exact hy_29)
    have : Pw_31.ro xr_5 = Pw_26.ro xr_5 := (by rw [ePw_31]; exact rw9_of _ (by decide))
    have : Pw_31.rt xr_5 = Pw_26.rt xr_5 := (by rw [ePw_31]; exact rw9_of _ (by decide))
    have : Pw_31.ra xr_5 = Pw_26.ra xr_5 := (by rw [ePw_31]; exact rw9_of _ (by decide))
    have : Pw_31.rb xr_5 = 0 := (by rw [ePw_31]; exact rw9_at _ _ _ _)
    have : Pw_31.rA xr_5 = Pw_26.rA xr_5 := (by rw [ePw_31]; exact rw9_of _ (by decide))
    have : Pw_31.rB xr_5 = Pw_26.rB xr_5 := (by rw [ePw_31]; exact rw9_of _ (by decide))
    have : Pw_31.rg xr_5 = Pw_26.rg xr_5 := (by rw [ePw_31]; exact rw9_of _ (by decide))
    have : Pw_31.ek xr_5 = Pw_26.ek xr_5 := (by rw [ePw_31]; rfl)
    refine lv_aload_n hx hb dX13_row_79 rfl (lv_at hl 0 rfl) ?_
    refine lv_iconst (v := 0) hx hb dX13_row_80 (by decide) ?_
    refine lv_topi (fun z ez => ?_)
    obtain rfl : z = zI (0) := ez
    obtain ⟨kp_35, gkp_35⟩ := va_pl_get (X := [(hc, .inr (12, [v13_0, .ref lr, v13_2, .int (zI (z_9)), v13_4, .ref la, v13_6]))]) (f := pE Pw_31) hm_6
    have hkp_35 := gkp_35
    rw [pE_row hy_34] at hkp_35
    have hD0 := hD
    refine va_put (D := (dC, dI)) (ci := 21) (v := .int (zI (0))) (ty := .int) (C := RX17) (T := TX17) (N := 7) hx hb hts mem_P13_rowR_3 tyX17 tyX17_ok nmX17 hown hK hP hD hS kp_35 hkp_35 rfl 1 (by decide) (ow (k := 15) rfl) (fun _ h9 => h9) rfl (by decide +kernel) rfl rfl (Nat.le_of_ble_eq_true rfl) dX13_row_81 (fun H locs hP hD hS => ?_)
    obtain ⟨Pw_36, ePw_36⟩ : ∃ q9 : PO, q9 = Pw_31.rw9 1 xr_5 (0) := ⟨_, rfl⟩
    have eU : (([(hc, .inr (12, [v13_0, .ref lr, v13_2, .int (zI (z_9)), v13_4, .ref la, v13_6]))] : va_W) ++ va_pl L (pE Pw_31)).set kp_35 (xr_5, rowE (Pw_31.ro xr_5) (0) (Pw_31.ra xr_5) (Pw_31.rb xr_5) (Pw_31.rA xr_5) (Pw_31.rB xr_5) (Pw_31.rg xr_5)) = ([(hc, .inr (12, [v13_0, .ref lr, v13_2, .int (zI (z_9)), v13_4, .ref la, v13_6]))] : va_W) ++ va_pl L (pE Pw_36) := (by rw [va_pl_set hD0 hm_6 gkp_35, ePw_36]; exact congrArg (fun f9 => ([(hc, .inr (12, [v13_0, .ref lr, v13_2, .int (zI (z_9)), v13_4, .ref la, v13_6]))] : va_W) ++ va_pl L f9) (put17_1 hy_34))
    have hP : va_P (dC, dI) vwQ ([(hc, .inr (12, [v13_0, .ref lr, v13_2, .int (zI (z_9)), v13_4, .ref la, v13_6]))] ++ va_pl L (pE Pw_36)) H := (by rw [← eU]; exact hP)
    have hD : va_D A ([(hc, .inr (12, [v13_0, .ref lr, v13_2, .int (zI (z_9)), v13_4, .ref la, v13_6]))] ++ va_pl L (pE Pw_36)) := (by rw [← eU]; exact hD)
    clear eU hD0 gkp_35 hkp_35
    have wPw_36 : RW1 xr_5 Pw_31 Pw_36 := (by rw [ePw_36]; exact RW1.put _ _ _ _)
    have hy_37 : Pw_36.kd la = 30 := (by rw [ePw_36]; exact hy_32)
    have hy_38 : Pw_36.kd lr = 30 := (by rw [ePw_36]; exact hy_33)
    have hy_39 : Pw_36.kd xr_5 = 17 := (by rw [ePw_36]; exact hy_34)
    have : Pw_36.ro xr_5 = Pw_31.ro xr_5 := (by rw [ePw_36]; exact rw9_of _ (by decide))
    have : Pw_36.rt xr_5 = 0 := (by rw [ePw_36]; exact rw9_at _ _ _ _)
    have : Pw_36.ra xr_5 = Pw_31.ra xr_5 := (by rw [ePw_36]; exact rw9_of _ (by decide))
    have : Pw_36.rb xr_5 = Pw_31.rb xr_5 := (by rw [ePw_36]; exact rw9_of _ (by decide))
    have : Pw_36.rA xr_5 = Pw_31.rA xr_5 := (by rw [ePw_36]; exact rw9_of _ (by decide))
    have : Pw_36.rB xr_5 = Pw_31.rB xr_5 := (by rw [ePw_36]; exact rw9_of _ (by decide))
    have : Pw_36.rg xr_5 = Pw_31.rg xr_5 := (by rw [ePw_36]; exact rw9_of _ (by decide))
    have : Pw_36.ek xr_5 = Pw_31.ek xr_5 := (by rw [ePw_36]; rfl)
    have hW_40 : RW1 xr_5 P Pw_36 := wPw_11.trans (wPw_16.trans (wPw_21.trans (wPw_26.trans (wPw_31.trans (wPw_36)))))
    have hrw_43 : RWD P Pw_36 := hW_40.rwd (Or.inl hk_7)
    have hak_42 : GLR L Pw_36 cO cI cZ sx_ed := hX_g9.row hW_40 hk_7 (ROKR.of (by omega) (by omega) (by omega) (by omega) (by omega) (by omega) (by omega) (rUA9R (by have q9 := rUsA_spec (P.ro xr_5) (P.rA xr_5); omega)) (rUB9R (by have q9 := rUsB_spec (P.ro xr_5) (P.rB xr_5); omega))) (fun e9 => by have q9 := hX_g9.op21 hm_6 hk_7 e9; omega)
    have hke_41 : KEG [lr] L P L Pw_36 := hrw_43.kegR _ hC_la.2.1
    have hq_44 : la ∈ L ∧ Pw_36.kd la = 30 := hke_41.mem hC_la.1 hC_la.2.1 (by decide)
    have hq_45 : lr ∈ L ∧ Pw_36.kd lr = 30 := hke_41.mem hC_lr.1 hC_lr.2.1 (by decide)
    have hq_46 : xr_5 ∈ L ∧ Pw_36.kd xr_5 = 17 := hke_41.mem hm_6 hk_7 (by decide)
    have hE_47 : Pw_36.ek xr_5 ≠ 1 := (by rw [hke_41.ek hm_6 hk_7 (by decide)]; exact hE_8)
    have hA_48 : KEG [lr] L P L Pw_36 := (KEG.refl [lr] L P).trans hke_41
    have : Pw_36.lz la = P.lz la := hrw_43.lz hC_la.2.1
    have : Pw_36.lz lr = P.lz lr := hrw_43.lz hC_lr.2.1
    have : Pw_36.cap la = P.cap la := hW_40.cap la
    have : Pw_36.cap lr = P.cap lr := hW_40.cap lr
    have hek_49 : Pw_36.ek la = 12 := (by rw [hke_41.ek hC_la.1 hC_la.2.1 (by decide)]; exact hC_la.2.2.1)
    have how_50 : Pw_36.ow la = la := ((hke_41.1 la hC_la.1 (by rw [hC_la.2.1]; decide)).2.2.2.1 hC_la.2.1 hC_la.2.2.2).1
    have hcz := (((hke_41.1 la hC_la.1 (by rw [hC_la.2.1]; decide)).2.2.2.1 hC_la.2.1 hC_la.2.2.2).2 (fun q9 => by have h9 := hC_la.2.2.1; rw [List.mem_singleton.mp q9] at h9; omega)).1
    have hek_51 : Pw_36.ek lr = 17 := (by rw [hke_41.ek hC_lr.1 hC_lr.2.1 (by decide)]; exact hC_lr.2.2.1)
    have how_52 : Pw_36.ow lr = lr := ((hke_41.1 lr hC_lr.1 (by rw [hC_lr.2.1]; decide)).2.2.2.1 hC_lr.2.1 hC_lr.2.2.2).1
    refine lv_aload_n hx hb dX13_row_84 rfl (lv_at hl 0 rfl) ?_
    subst hQ
    have hK := hK.sub (tys' := [(cO, .object "java/lang/Object"), (cI, .int), (cZ, .boolean)]) [2, 0, 1] rfl
    refine W_knowS (fun hrm9 => ?_)
    refine W.widen (k := 2) (n := 100007) (Nat.le_of_ble_eq_true rfl) (Nat.le_of_ble_eq_true rfl) ?_
    exact W.aret (v := .ref xr_5) hx hb hr (Or.inl ⟨_, rfl⟩) (Or.inr ⟨_, rfl⟩) (fun t ht hW => ⟨⟨(), xr_5, rfl, trivial, z_9, L, Pw_36, 0, 0, ⟨⟨(by rw [ht, ← hp1]; exact hrm9), (by omega)⟩, ⟨(by omega), ⟨hA_48, hak_42, ⟨⟨hq_46.1, hq_46.2, hE_47⟩, ⟨by omega, (show _ ∨ _ from by omega)⟩, ⟨by omega, by omega⟩, ((hW_40.chg _).wk (fun z m q9 => Or.inl q9)), (fun y _ _ _ => hW_40.cap y), (fun _ => ⟨hk_7, hE_8⟩)⟩, ⟨(by rw [hW_40.el]; exact hel9), (fun i i0 i1 => hW_40.el _ _), (Or.inl (by omega))⟩, by omega⟩⟩⟩, by rw [ht]; exact hP, va_K.moved hW.alike hK, hD⟩, hS.F ht⟩) hS.2.2 dX13_row_85
  · have yb11 : (z13_rowN : Int) = (P.lz lr : Int) := (zI_eq (a := z13_rowN) (b := P.lz lr) (by omega) (by omega) (by omega) (by omega)).mp b11
    refine lv_aload_n hx hb dX13_row_14 rfl (lv_at hl 0 rfl) ?_
    refine va_get (D := (dC, dI)) (ci := 12) (v := .ref lr) (C := RX13) (T := TX13) (N := 7) hx hb hts mem_P13_rowR_0 hown hK hP 0 rfl rfl 1 (by decide) (ow (k := 1) rfl) (fun _ h9 => h9) rfl dX13_row_15 ?_
    refine va_new (ci := 21) (fs := [.int 0, .int 0, .int 0, .int 0, .int 0, .int 0, .int 0]) (C := RX17) (T := TX17) (N := 7) hx hb hts mem_P13_rowR_3 tyX17 tyX17_ok hown (ow (k := 16) rfl) (ow (k := 17) rfl) (ow (k := 18) rfl) hK hP hD hS hA rfl (df_X17) (Nat.le_of_ble_eq_true rfl) (Nat.le_of_ble_eq_true rfl) dX13_row_18 (fun q_53 H hP hD hS => ?_)
    have hP := pl_Pp (pl_new (X := [(hc, .inr (12, [v13_0, .ref lr, v13_2, .int (zI (z13_rowN)), v13_4, .ref la, v13_6]))]) (pl := va_pl L (pE P))) hP
    have hD := pl_Dp (pl_new (X := [(hc, .inr (12, [v13_0, .ref lr, v13_2, .int (zI (z13_rowN)), v13_4, .ref la, v13_6]))]) (pl := va_pl L (pE P))) hD
    have hP : va_P (dC, dI) vwQ ([(hc, .inr (12, [v13_0, .ref lr, v13_2, .int (zI (z13_rowN)), v13_4, .ref la, v13_6])), (q_53, .inr (21, [.int 0, .int 0, .int 0, .int 0, .int 0, .int 0, .int 0]))] ++ va_pl L (pE P)) H := hP
    have hD : va_D A ([(hc, .inr (12, [v13_0, .ref lr, v13_2, .int (zI (z13_rowN)), v13_4, .ref la, v13_6])), (q_53, .inr (21, [.int 0, .int 0, .int 0, .int 0, .int 0, .int 0, .int 0]))] ++ va_pl L (pE P)) := hD
    refine W.widen (k := 1) (n := 7) (Nat.le_of_ble_eq_true rfl) (Nat.le_of_ble_eq_true rfl) ?_
    refine lv_dup hx hb dX13_row_21 rfl ?_
    have hPc := hP.sub (ws' := [(q_53, .inr (21, [.int 0, .int 0, .int 0, .int 0, .int 0, .int 0, .int 0]))]) [1] rfl
    have hDc := hD.sub (ws' := [(q_53, .inr (21, [.int 0, .int 0, .int 0, .int 0, .int 0, .int 0, .int 0]))]) [1] (by decide) rfl
    have hKc := hK.sub (tys' := []) [] rfl
    have hFc := va_free (wc := [(q_53, .inr (21, [.int 0, .int 0, .int 0, .int 0, .int 0, .int 0, .int 0]))]) hD hS hA [1] rfl
    refine va_callv (va_runIN (As := []) (rest := [.ref q_53, .ref lr]) ⟨hx, hb, hml, hown, hts⟩ (c_X17_init l dC dI q_53 (.int 0) (.int 0) (.int 0) (.int 0) (.int 0) (.int 0) (.int 0) H.size) ⟨va_cnB 0 hts (goodIn_sub mem_P13_rowR_4 gw_X17_init) rfl rfl rfl hp2 (ow (k := 18) rfl) (by decide +kernel) ⟨(Nat.le_of_ble_eq_true rfl), (Nat.le_of_ble_eq_true rfl)⟩, rfl, (ow (k := 19) rfl)⟩ ⟨fun a U g mk q => by obtain ⟨q0, q1, qP, qK, qD⟩ := q; exact ⟨q0, q1, qP, va_K.moved (u := U) (U := U.calling g mk a) (Vm.Alike.refl U.vm) qK, qD⟩, fun U hU hW => ⟨rfl, by rw [hU], by rw [hU]; exact hPc, va_K.moved hW.alike hKc, hDc.weaken (fun _ _ _ _ => trivial)⟩⟩ rfl rfl hl.1 rfl (lv_room (Nat.le_of_ble_eq_true rfl)) dX13_row_22 ⟨(Nat.le_of_ble_eq_true rfl), (Nat.le_of_ble_eq_true rfl)⟩) hS (fun q _ h => hFc q h) hFc (fun  u t H1 locs ht hvm hw hB hz1 hk1 hS => ?_)
    obtain ⟨hP1, hK1, hD1⟩ := hB
    rw [ht] at hP1
    have hK1 := va_K.moved hvm.symm hK1
    obtain ⟨hP, hD⟩ := va_joinQ (X := [(hc, .inr (12, [v13_0, .ref lr, v13_2, .int (zI (z13_rowN)), v13_4, .ref la, v13_6])), (q_53, .inr (21, [.int 0, .int 0, .int 0, .int 0, .int 0, .int 0, .int 0]))]) (cx := [(q_53, .inr (21, [.int 0, .int 0, .int 0, .int 0, .int 0, .int 0, .int 0]))]) (wr := [(hc, .inr (12, [v13_0, .ref lr, v13_2, .int (zI (z13_rowN)), v13_4, .ref la, v13_6]))]) (w1 := [(q_53, .inr (21, [.int 0, .int 0, .int 0, .int 0, .int 0, .int 0, .int 0]))]) (pl := va_pl L (pE P)) hP hD [1] [0] rfl rfl (by decide) (by decide) hk1 hFc hP1 hD1
    have hK := (hK.sub (tys' := [(cI, .int), (cZ, .boolean), (cO, .object "java/lang/Object")]) [0, 1, 2] rfl).app hK1
    generalize H1 = H at hP hS ⊢
    have hP : va_P (dC, dI) vwQ ([(hc, .inr (12, [v13_0, .ref lr, v13_2, .int (zI (z13_rowN)), v13_4, .ref la, v13_6])), (q_53, .inr (21, [.int 0, .int 0, .int 0, .int 0, .int 0, .int 0, .int 0]))] ++ va_pl L (pE P)) H := hP
    have hD : va_D A ([(hc, .inr (12, [v13_0, .ref lr, v13_2, .int (zI (z13_rowN)), v13_4, .ref la, v13_6])), (q_53, .inr (21, [.int 0, .int 0, .int 0, .int 0, .int 0, .int 0, .int 0]))] ++ va_pl L (pE P)) := hD
    have hK : va_K (dC, dI) vwQ [(cI, .int), (cZ, .boolean), (cO, .object "java/lang/Object")] s := hK
    refine W.widen (k := 1) (n := 7) (Nat.le_of_ble_eq_true rfl) (Nat.le_of_ble_eq_true rfl) ?_
    have hqn_56 : q_53 ∉ L := pl_notin (X := [(hc, .inr (12, [v13_0, .ref lr, v13_2, .int (zI (z13_rowN)), v13_4, .ref la, v13_6]))]) hD
    obtain ⟨Pm_54, ePm_54⟩ : ∃ Q9 : PO, Q9 = P.mrow q_53 0 := ⟨_, rfl⟩
    obtain ⟨Lm_55, eLm_55⟩ : ∃ l9 : List Nat, l9 = q_53 :: L := ⟨_, rfl⟩
    obtain ⟨hP, hD⟩ := pool_new (X := [(hc, .inr (12, [v13_0, .ref lr, v13_2, .int (zI (z13_rowN)), v13_4, .ref la, v13_6]))]) (P' := Pm_54) (by rw [ePm_54]; exact pE_mrow P q_53 0) hP hD
    rw [← eLm_55] at hP hD
    have hex_57 : EXT9 L P Lm_55 Pm_54 := (by rw [eLm_55, ePm_54]; exact EXT9.one hqn_56)
    have hm9 := mrow_at P q_53 0
    rw [← ePm_54] at hm9
    have hak_58 : GLR Lm_55 Pm_54 cO cI cZ sx_ed := (by rw [eLm_55] at hex_57 ⊢; exact hX_g9.new1R hex_57 (by rw [ePm_54]; exact mrow_newR _ _ _ _ _ _ _ _))
    have hke_59 : KEG [lr] L P Lm_55 Pm_54 := hex_57.kegR hX_g9
    have hP : va_P (dC, dI) vwQ ([(hc, .inr (12, [v13_0, .ref lr, v13_2, .int (zI (z13_rowN)), v13_4, .ref la, v13_6]))] ++ va_pl Lm_55 (pE Pm_54)) H := hP
    have hD : va_D A ([(hc, .inr (12, [v13_0, .ref lr, v13_2, .int (zI (z13_rowN)), v13_4, .ref la, v13_6]))] ++ va_pl Lm_55 (pE Pm_54)) := hD
    have hq_60 : la ∈ Lm_55 ∧ Pm_54.kd la = 30 := hke_59.mem hC_la.1 hC_la.2.1 (by decide)
    have hq_61 : lr ∈ Lm_55 ∧ Pm_54.kd lr = 30 := hke_59.mem hC_lr.1 hC_lr.2.1 (by decide)
    have hA_62 : KEG [lr] L P Lm_55 Pm_54 := (KEG.refl [lr] L P).trans hke_59
    have : Pm_54.lz la = P.lz la := (hex_57 la hC_la.1).2.1 0
    have : Pm_54.lz lr = P.lz lr := (hex_57 lr hC_lr.1).2.1 0
    have : Pm_54.cap la = P.cap la := hex_57.cap hX_g9.owa hC_la.1 hC_la.2.1
    have : Pm_54.cap lr = P.cap lr := hex_57.cap hX_g9.owa hC_lr.1 hC_lr.2.1
    have hek_63 : Pm_54.ek la = 12 := (by rw [hke_59.ek hC_la.1 hC_la.2.1 (by decide)]; exact hC_la.2.2.1)
    have how_64 : Pm_54.ow la = la := ((hke_59.1 la hC_la.1 (by rw [hC_la.2.1]; decide)).2.2.2.1 hC_la.2.1 hC_la.2.2.2).1
    have hcz := (((hke_59.1 la hC_la.1 (by rw [hC_la.2.1]; decide)).2.2.2.1 hC_la.2.1 hC_la.2.2.2).2 (fun q9 => by have h9 := hC_la.2.2.1; rw [List.mem_singleton.mp q9] at h9; omega)).1
    have hek_65 : Pm_54.ek lr = 17 := (by rw [hke_59.ek hC_lr.1 hC_lr.2.1 (by decide)]; exact hC_lr.2.2.1)
    have how_66 : Pm_54.ow lr = lr := ((hke_59.1 lr hC_lr.1 (by rw [hC_lr.2.1]; decide)).2.2.2.1 hC_lr.2.1 hC_lr.2.2.2).1
    have hm_67 : q_53 ∈ Lm_55 := (by rw [eLm_55]; exact List.mem_cons_self)
    have hk_68 := hm9.1
    have hE_69 : Pm_54.ek q_53 ≠ 1 := (by rw [hm9.2.1]; decide)
    have hlk_70 := (show LOK Lm_55 Pm_54 cO 17 lr from (by have q9 := (hak_58.gla lr hq_61.1 hq_61.2).1; rw [hek_65] at q9; exact q9))
    have hX_x := hlk_70.1
    have hX_k := hlk_70.2.1
    have hlz9 := hlk_70.2.2.1
    have hX_c := hak_58.adc hlk_70
    have hX_y : q_53 ∈ Lm_55 ∧ OBK (Pm_54.kd q_53) := ⟨hm_67, (by rw [hk_68]; unfold OBK; decide)⟩
    have hPc := hP.part (X := [(hc, .inr (12, [v13_0, .ref lr, v13_2, .int (zI (z13_rowN)), v13_4, .ref la, v13_6]))]) (cx := []) (pl := va_pl Lm_55 (pE Pm_54)) [] rfl
    have hDc := hD.part (X := [(hc, .inr (12, [v13_0, .ref lr, v13_2, .int (zI (z13_rowN)), v13_4, .ref la, v13_6]))]) (cx := []) (pl := va_pl Lm_55 (pE Pm_54)) [] (by decide) rfl
    have hKc := hK.sub (tys' := [(cO, .object "java/lang/Object")]) [2] rfl
    have hFc := va_freeP (X := [(hc, .inr (12, [v13_0, .ref lr, v13_2, .int (zI (z13_rowN)), v13_4, .ref la, v13_6]))]) (cx := []) (pl := va_pl Lm_55 (pE Pm_54)) hD hS hA [] rfl
    have hgl := ADC.gl hX_c
    refine va_calli (va_runV (As := [.ref q_53]) (rest := []) ⟨hx, hb, hml, hown, hts⟩ (c_PL_addAR l dC dI cO Lm_55 Pm_54 lr q_53 sx_ed hX_x hX_k (by omega) hX_c hX_y H.size sx_mi) (cwV 1 hts g_P13_rowR_PL_addAR rfl rfl rfl (by decide +kernel) ⟨(Nat.le_of_ble_eq_true rfl), (Nat.le_of_ble_eq_true rfl)⟩) ⟨fun a U g mk q => by obtain ⟨q0, q1, qP, qK, qD, e0, e1, e2, e3, e4, e5, e6, e7⟩ := q; exact ⟨q0, q1, qP, va_K.moved (u := U) (U := U.calling g mk a) (Vm.Alike.refl U.vm) qK, qD, va_Nw.same rfl (u := U) (U := U.calling g mk a) rfl e0, va_Nw.same rfl (u := U) (U := U.calling g mk a) rfl e1, va_Nw.same rfl (u := U) (U := U.calling g mk a) rfl e2, va_Dc.moved (u := U) (U := U.calling g mk a) (Vm.Alike.refl U.vm) e3, va_Mi.moved (u := U) (U := U.calling g mk a) (Vm.Alike.refl U.vm) e4, va_AO.moved (u := U) (U := U.calling g mk a) (Vm.Alike.refl U.vm) e5, va_T.moved (u := U) (U := U.calling g mk a) (Vm.Alike.refl U.vm) e6, va_Z.moved (u := U) (U := U.calling g mk a) (Vm.Alike.refl U.vm) e7⟩, recv_30 hKc hPc hq_61.1 hq_61.2, fun U hU hW => ⟨rfl, by rw [hU], by rw [hU]; exact hPc, va_K.moved hW.alike hKc, hDc.weaken (fun _ _ _ _ => trivial), va_Nw.warmC hW hp3, va_Nw.warmC hW hp4, va_Nw.warmC hW hp5, va_Dc.moved hW.alike hp6, va_Mi.moved hW.alike hp7, va_AO.moved hW.alike hp8, by rw [hU]; exact va_T.narrow (va_T.moved hW.alike (va_T.kept hp9 hS.2.1)) hFc, by rw [hU]; exact va_Z.narrow (va_Z.moved hW.alike (va_Z.kept hp10 hS.2.1)) hFc⟩⟩ rfl rfl hl.1 rfl (lv_room (Nat.le_of_ble_eq_true rfl)) dX13_row_25 ⟨(Nat.le_trans (show 1 + (Pm_54.gc lr) ≤ 2 by omega) (Nat.le_of_ble_eq_true rfl)), (Nat.le_trans (show 7 + (Pm_54.gs lr) ≤ 100007 by omega) (Nat.le_of_ble_eq_true rfl))⟩) hS (fun q _ h => hFc q h) hFc (fun r_71 z_72 t H1 locs ht hvm hw hB hz1 hk1 hS => ?_)
    obtain ⟨Ln_73, Pn_74, hxt_74, hP1, hK1, hD1⟩ := hB
    rw [ht] at hP1
    have hK1 := va_K.moved hvm.symm hK1
    obtain ⟨hP, hD⟩ := va_joinP (X := [(hc, .inr (12, [v13_0, .ref lr, v13_2, .int (zI (z13_rowN)), v13_4, .ref la, v13_6]))]) (cx := []) (wr := [(hc, .inr (12, [v13_0, .ref lr, v13_2, .int (zI (z13_rowN)), v13_4, .ref la, v13_6]))]) (rx := []) (pl := va_pl Lm_55 (pE Pm_54)) (pl1 := va_pl Ln_73 (pE Pn_74)) hP hD [] [0] rfl rfl (by decide) (by decide) hk1 hFc hP1 hD1
    have hK := (hK.sub (tys' := [(cI, .int), (cZ, .boolean)]) [0, 1] rfl).app hK1
    generalize H1 = H at hP hS ⊢
    have hP : va_P (dC, dI) vwQ ([(hc, .inr (12, [v13_0, .ref lr, v13_2, .int (zI (z13_rowN)), v13_4, .ref la, v13_6]))] ++ va_pl Ln_73 (pE Pn_74)) H := hP
    have hD : va_D A ([(hc, .inr (12, [v13_0, .ref lr, v13_2, .int (zI (z13_rowN)), v13_4, .ref la, v13_6]))] ++ va_pl Ln_73 (pE Pn_74)) := hD
    have hK : va_K (dC, dI) vwQ [(cI, .int), (cZ, .boolean), (cO, .object "java/lang/Object")] s := hK
    refine W.widen (k := (1 + (Pm_54.gc lr))) (n := (7 + (Pm_54.gs lr))) (by omega) (by omega) ?_
    obtain ⟨rfl, hzz_72⟩ := hw
    have hu_75 := hxt_74
    have hfx := hu_75.2.2.2.2.2.2.2
    have han := hu_75.2.2.2.1
    have hke_76 : KEG [lr] Lm_55 Pm_54 Ln_73 Pn_74 := hu_75.1.kegR hak_58 hq_61.1 hq_61.2 hfx (Or.inr (by simp))
    have hak_77 : GLR Ln_73 Pn_74 cO cI cZ sx_ed := hak_58.add hu_75.1 hq_61.1 hq_61.2 hfx hek_65 hm_67 hk_68 hu_75.2.1 (by omega) hu_75.2.2.1 hu_75.2.2.2.1.1 (by have q9 := hak_58.adc40 hlk_70; omega) hu_75.2.2.2.2.1 hu_75.2.2.2.2.2.1 hu_75.2.2.2.2.2.2.1 (fun _ => hE_69)
    have hgr9 := (gro_cap (P := Pm_54) (P' := Pn_74) (x := lr) (hak_58.adcl hlk_70) hu_75.1.1.2.2.2.2.2.2.2.2 hu_75.2.2.2.1.1 hu_75.2.2.2.1.2.2.1 hu_75.2.2.2.1.2.2.2 hu_75.2.2.2.1.2.1).1
    clear han
    have hq_78 : la ∈ Ln_73 ∧ Pn_74.kd la = 30 := hke_76.mem hq_60.1 hq_60.2 (by decide)
    have hq_79 : lr ∈ Ln_73 ∧ Pn_74.kd lr = 30 := hke_76.mem hq_61.1 hq_61.2 (by decide)
    have hq_80 : q_53 ∈ Ln_73 ∧ Pn_74.kd q_53 = 17 := hke_76.mem hm_67 hk_68 (by decide)
    have hE_81 : Pn_74.ek q_53 ≠ 1 := (by rw [hke_76.ek hm_67 hk_68 (by decide)]; exact hE_69)
    have hA_82 : KEG [lr] L P Ln_73 Pn_74 := hA_62.trans hke_76
    have hza := hu_75.2.1
    have hek_83 : Pn_74.ek la = 12 := (by rw [hke_76.ek hq_60.1 hq_60.2 (by decide)]; exact hek_63)
    have how_84 : Pn_74.ow la = la := ((hke_76.1 la hq_60.1 (by rw [hq_60.2]; decide)).2.2.2.1 hq_60.2 how_64).1
    have hcz := (((hke_76.1 la hq_60.1 (by rw [hq_60.2]; decide)).2.2.2.1 hq_60.2 how_64).2 (fun q9 => by have h9 := hek_63; rw [List.mem_singleton.mp q9] at h9; omega)).1
    have hek_85 : Pn_74.ek lr = 17 := (by rw [hke_76.ek hq_61.1 hq_61.2 (by decide)]; exact hek_65)
    have how_86 : Pn_74.ow lr = lr := ((hke_76.1 lr hq_61.1 (by rw [hq_61.2]; decide)).2.2.2.1 hq_61.2 how_66).1
    clear hfx
    have hlr9 : Pn_74.el lr (Pm_54.lz lr) = q_53 := hu_75.1.elast hu_75.2.2.2.2.2.1
    refine lv_pop hx hb dX13_row_28 rfl ?_
    refine lv_aload_n hx hb dX13_row_29 rfl (lv_at hl 0 rfl) ?_
    refine va_get (D := (dC, dI)) (ci := 12) (v := .ref lr) (C := RX13) (T := TX13) (N := 7) hx hb hts mem_P13_rowR_0 hown hK hP 0 rfl rfl 1 (by decide) (ow (k := 1) rfl) (fun _ h9 => h9) rfl dX13_row_30 ?_
    refine lv_aload_n hx hb dX13_row_33 rfl (lv_at hl 0 rfl) ?_
    refine va_get (D := (dC, dI)) (ci := 12) (v := .int (zI (z13_rowN))) (C := RX13) (T := TX13) (N := 7) hx hb hts mem_P13_rowR_0 hown hK hP 0 rfl rfl 3 (by decide) (ow (k := 0) rfl) (fun _ h9 => h9) rfl dX13_row_34 ?_
    have hlk_87 := (show LOK Ln_73 Pn_74 cO 17 lr from (by have q9 := (hak_77.gla lr hq_79.1 hq_79.2).1; rw [hek_85] at q9; exact q9))
    obtain ⟨x, ex⟩ : ∃ q9 : Nat, q9 = Pn_74.el lr (z13_rowN) := ⟨_, rfl⟩
    have hX_x := hlk_87.1
    have hX_k := hlk_87.2.1
    have hq9 := hlk_87.row (i := z13_rowN) (by omega) (by omega)
    have hX_q : Pn_74.le lr ∈ Ln_73 ∧ Pn_74.kd (Pn_74.le lr) = 31 ∧ Pn_74.ac (Pn_74.le lr) = cO := ⟨hq9.1, hq9.2.1, hq9.2.2.1⟩
    have hq8 := hq9.2.2.2
    have hX_e0 : Pn_74.oa (Pn_74.le lr) (z13_rowN).toNat = some x := (by rw [ex]; exact (hlk_87.2.2.2.2 (z13_rowN) (by omega) (by omega)).1)
    have hxm : x ∈ Ln_73 := (by rw [ex]; exact (hlk_87.2.2.2.2 (z13_rowN) (by omega) (by omega)).2.1)
    have hxk := (hlk_87.2.2.2.2 (z13_rowN) (by omega) (by omega)).2.2
    rw [← ex] at hxk
    have hPc := hP.part (X := [(hc, .inr (12, [v13_0, .ref lr, v13_2, .int (zI (z13_rowN)), v13_4, .ref la, v13_6]))]) (cx := []) (pl := va_pl Ln_73 (pE Pn_74)) [] rfl
    have hDc := hD.part (X := [(hc, .inr (12, [v13_0, .ref lr, v13_2, .int (zI (z13_rowN)), v13_4, .ref la, v13_6]))]) (cx := []) (pl := va_pl Ln_73 (pE Pn_74)) [] (by decide) rfl
    have hKc := hK.sub (tys' := [(cO, .object "java/lang/Object")]) [2] rfl
    have hFc := va_freeP (X := [(hc, .inr (12, [v13_0, .ref lr, v13_2, .int (zI (z13_rowN)), v13_4, .ref la, v13_6]))]) (cx := []) (pl := va_pl Ln_73 (pE Pn_74)) hD hS hA [] rfl
    refine va_callr (va_runV (As := [.int (zI (z13_rowN))]) (rest := []) ⟨hx, hb, hml, hown, hts⟩ (c_PL_get l dC dI cO Ln_73 Pn_74 lr z13_rowN x hX_x hX_k hX_q (by omega) hX_e0 H.size) (cwV 1 hts g_P13_rowR_PL_get rfl rfl rfl (by decide +kernel) ⟨(Nat.le_of_ble_eq_true rfl), (Nat.le_of_ble_eq_true rfl)⟩) ⟨fun a U g mk q => by obtain ⟨q0, q1, qP, qK, qD⟩ := q; exact ⟨q0, q1, qP, va_K.moved (u := U) (U := U.calling g mk a) (Vm.Alike.refl U.vm) qK, qD⟩, recv_30 hKc hPc hq_79.1 hq_79.2, fun U hU hW => ⟨rfl, by rw [hU], by rw [hU]; exact hPc, va_K.moved hW.alike hKc, hDc.weaken (fun _ _ _ _ => trivial)⟩⟩ rfl rfl hl.1 rfl (lv_room (Nat.le_of_ble_eq_true rfl)) dX13_row_37 ⟨(Nat.le_trans (show (1 + (Pm_54.gc lr)) + 0 ≤ 2 by omega) (Nat.le_of_ble_eq_true rfl)), (Nat.le_trans (show (7 + (Pm_54.gs lr)) + 0 ≤ 100007 by omega) (Nat.le_of_ble_eq_true rfl))⟩) hS (fun q _ h => hFc q h) hFc (fun u q_88 t H1 locs ht hvm hw hB hz1 hk1 hS => ?_)
    obtain ⟨hxt_88, hP1, hK1, hD1⟩ := hB
    rw [ht] at hP1
    have hK1 := va_K.moved hvm.symm hK1
    obtain ⟨hP, hD⟩ := va_joinP (X := [(hc, .inr (12, [v13_0, .ref lr, v13_2, .int (zI (z13_rowN)), v13_4, .ref la, v13_6]))]) (cx := []) (wr := [(hc, .inr (12, [v13_0, .ref lr, v13_2, .int (zI (z13_rowN)), v13_4, .ref la, v13_6]))]) (rx := []) (pl := va_pl Ln_73 (pE Pn_74)) (pl1 := va_pl Ln_73 (pE Pn_74)) hP hD [] [0] rfl rfl (by decide) (by decide) hk1 hFc hP1 hD1
    have hK := (hK.sub (tys' := [(cI, .int), (cZ, .boolean)]) [0, 1] rfl).app hK1
    generalize H1 = H at hP hS ⊢
    have hP : va_P (dC, dI) vwQ ([(hc, .inr (12, [v13_0, .ref lr, v13_2, .int (zI (z13_rowN)), v13_4, .ref la, v13_6]))] ++ va_pl Ln_73 (pE Pn_74)) H := hP
    have hD : va_D A ([(hc, .inr (12, [v13_0, .ref lr, v13_2, .int (zI (z13_rowN)), v13_4, .ref la, v13_6]))] ++ va_pl Ln_73 (pE Pn_74)) := hD
    have hK : va_K (dC, dI) vwQ [(cI, .int), (cZ, .boolean), (cO, .object "java/lang/Object")] s := hK
    refine W.widen (k := (1 + (Pm_54.gc lr))) (n := (7 + (Pm_54.gs lr))) (by omega) (by omega) ?_
    rw [hxt_88]
    clear hX_e0
    obtain ⟨xr_89, h9⟩ : ∃ q9 : Nat, q9 = x := ⟨_, rfl⟩
    subst h9
    have hm_90 := hxm
    have hk_91 := hxk
    have hel9 := ex
    have hE_92 : Pn_74.ek xr_89 ≠ 1 := (by rw [ex]; exact (hak_77.gla lr hq_79.1 hq_79.2).2.2 hek_85 _ (by omega) (by omega))
    have hbq : xr_89 = q_53 := hel9.trans (by rw [show (z13_rowN : Int) = Pm_54.lz lr from (by omega)]; exact hlr9)
    have hxn9 : xr_89 ∉ L := (by rw [hbq]; exact hqn_56)
    refine va_castY (C := "SsaForgeModel$Row") (nm := "SsaForgeModel$Row") hx hb hown (ow (k := 9) rfl) hp0 (recv_17 hK hP hm_90 hk_91) dX13_row_40 ?_
    refine lv_astore_n (lv' := [(1, .ref xr_89), (0, .ref hc)]) hx hb dX13_row_43 rfl hl (by decide) rfl (fun ls hl => ?_)
    refine lv_aload_n hx hb dX13_row_44 rfl (lv_at hl 1 rfl) ?_
    refine lv_dup hx hb dX13_row_45 rfl ?_
    refine va_get (D := (dC, dI)) (ci := 12) (v := .int (zI (z13_rowN))) (C := RX13) (T := TX13) (N := 7) hx hb hts mem_P13_rowR_0 hown hK hP 0 rfl rfl 3 (by decide) (ow (k := 0) rfl) (fun _ h9 => h9) rfl dX13_row_46 ?_
    refine lv_iconst (v := 1) hx hb dX13_row_49 (by decide) ?_
    refine lv_iadd hx hb dX13_row_50 ?_
    refine lv_topi (fun z ez => ?_)
    obtain rfl : z = zI (z13_rowN + 1) := ez.trans (zI_add (z13_rowN) (1))
    refine va_put (D := (dC, dI)) (ci := 12) (v := .int (zI (z13_rowN + 1))) (ty := .int) (C := RX13) (T := TX13) (N := 7) hx hb hts mem_P13_rowR_0 tyX13 tyX13_ok nmX13 hown hK hP hD hS 0 rfl rfl 3 (by decide) (ow (k := 0) rfl) (fun _ h9 => h9) rfl (by decide +kernel) rfl rfl (by first | exact Nat.le_of_ble_eq_true rfl | exact Nat.le_trans (show (1 + (Pm_54.gc lr)) ≤ 2 from (by omega)) (Nat.le_of_ble_eq_true rfl) | exact Nat.le_trans (show (7 + (Pm_54.gs lr)) ≤ 100007 from (by omega)) (Nat.le_of_ble_eq_true rfl)) dX13_row_51 (fun H locs hP hD hS => ?_)
    have hP : va_P (dC, dI) vwQ ([(hc, .inr (12, [v13_0, .ref lr, v13_2, .int (zI (z13_rowN + 1)), v13_4, .ref la, v13_6]))] ++ va_pl Ln_73 (pE Pn_74)) H := hP
    have hD : va_D A ([(hc, .inr (12, [v13_0, .ref lr, v13_2, .int (zI (z13_rowN + 1)), v13_4, .ref la, v13_6]))] ++ va_pl Ln_73 (pE Pn_74)) := hD
    obtain ⟨z_93, ez_93⟩ : ∃ z9 : Int, z9 = z13_rowN + 1 := ⟨_, rfl⟩
    rw [← ez_93] at hP hD
    have hP : va_P (dC, dI) vwQ ([(hc, .inr (12, [v13_0, .ref lr, v13_2, .int (zI (z_93)), v13_4, .ref la, v13_6]))] ++ va_pl Ln_73 (pE Pn_74)) H := hP
    have hD : va_D A ([(hc, .inr (12, [v13_0, .ref lr, v13_2, .int (zI (z_93)), v13_4, .ref la, v13_6]))] ++ va_pl Ln_73 (pE Pn_74)) := hD
    refine lv_aload_n hx hb dX13_row_54 rfl (lv_at hl 0 rfl) ?_
    refine lv_iconst (v := 0) hx hb dX13_row_55 (by decide) ?_
    have ⟨hr1, hr2, hr3, hr4, hr5, hr6, hr7, hr8, hr9⟩ := hak_77.rokR hm_90 hk_91
    refine lv_topi (fun z ez => ?_)
    obtain rfl : z = zI (0) := ez
    obtain ⟨kp_94, gkp_94⟩ := va_pl_get (X := [(hc, .inr (12, [v13_0, .ref lr, v13_2, .int (zI (z_93)), v13_4, .ref la, v13_6]))]) (f := pE Pn_74) hm_90
    have hkp_94 := gkp_94
    rw [pE_row hk_91] at hkp_94
    have hD0 := hD
    refine va_put (D := (dC, dI)) (ci := 21) (v := .int (zI (0))) (ty := .boolean) (C := RX17) (T := TX17) (N := 7) hx hb hts mem_P13_rowR_3 tyX17 tyX17_ok nmX17 hown hK hP hD hS kp_94 hkp_94 rfl 6 (by decide) (ow (k := 10) rfl) (fun _ h9 => h9) rfl (by decide +kernel) (zI_bool (by omega) (by omega)) (zI_fitb (by omega) (by omega)) (by first | exact Nat.le_of_ble_eq_true rfl | exact Nat.le_trans (show (1 + (Pm_54.gc lr)) ≤ 2 from (by omega)) (Nat.le_of_ble_eq_true rfl) | exact Nat.le_trans (show (7 + (Pm_54.gs lr)) ≤ 100007 from (by omega)) (Nat.le_of_ble_eq_true rfl)) dX13_row_56 (fun H locs hP hD hS => ?_)
    obtain ⟨Pw_95, ePw_95⟩ : ∃ q9 : PO, q9 = Pn_74.rw9 6 xr_89 (0) := ⟨_, rfl⟩
    have eU : (([(hc, .inr (12, [v13_0, .ref lr, v13_2, .int (zI (z_93)), v13_4, .ref la, v13_6]))] : va_W) ++ va_pl Ln_73 (pE Pn_74)).set kp_94 (xr_89, rowE (Pn_74.ro xr_89) (Pn_74.rt xr_89) (Pn_74.ra xr_89) (Pn_74.rb xr_89) (Pn_74.rA xr_89) (Pn_74.rB xr_89) (0)) = ([(hc, .inr (12, [v13_0, .ref lr, v13_2, .int (zI (z_93)), v13_4, .ref la, v13_6]))] : va_W) ++ va_pl Ln_73 (pE Pw_95) := (by rw [va_pl_set hD0 hm_90 gkp_94, ePw_95]; exact congrArg (fun f9 => ([(hc, .inr (12, [v13_0, .ref lr, v13_2, .int (zI (z_93)), v13_4, .ref la, v13_6]))] : va_W) ++ va_pl Ln_73 f9) (put17_6 hk_91))
    have hP : va_P (dC, dI) vwQ ([(hc, .inr (12, [v13_0, .ref lr, v13_2, .int (zI (z_93)), v13_4, .ref la, v13_6]))] ++ va_pl Ln_73 (pE Pw_95)) H := (by rw [← eU]; exact hP)
    have hD : va_D A ([(hc, .inr (12, [v13_0, .ref lr, v13_2, .int (zI (z_93)), v13_4, .ref la, v13_6]))] ++ va_pl Ln_73 (pE Pw_95)) := (by rw [← eU]; exact hD)
    clear eU hD0 gkp_94 hkp_94
    have wPw_95 : RW1 xr_89 Pn_74 Pw_95 := (by rw [ePw_95]; exact RW1.put _ _ _ _)
    have hy_96 : Pw_95.kd la = 30 := (by rw [ePw_95]; exact hq_78.2)
    have hy_97 : Pw_95.kd lr = 30 := (by rw [ePw_95]; exact hq_79.2)
    have hy_98 : Pw_95.kd q_53 = 17 := (by rw [ePw_95]; exact hq_80.2)
    have hy_99 : Pw_95.kd xr_89 = 17 := (by rw [ePw_95]; exact hk_91)
    have : Pw_95.ro xr_89 = Pn_74.ro xr_89 := (by rw [ePw_95]; exact rw9_of _ (by decide))
    have : Pw_95.rt xr_89 = Pn_74.rt xr_89 := (by rw [ePw_95]; exact rw9_of _ (by decide))
    have : Pw_95.ra xr_89 = Pn_74.ra xr_89 := (by rw [ePw_95]; exact rw9_of _ (by decide))
    have : Pw_95.rb xr_89 = Pn_74.rb xr_89 := (by rw [ePw_95]; exact rw9_of _ (by decide))
    have : Pw_95.rA xr_89 = Pn_74.rA xr_89 := (by rw [ePw_95]; exact rw9_of _ (by decide))
    have : Pw_95.rB xr_89 = Pn_74.rB xr_89 := (by rw [ePw_95]; exact rw9_of _ (by decide))
    have : Pw_95.rg xr_89 = 0 := (by rw [ePw_95]; exact rw9_at _ _ _ _)
    have : Pw_95.ek xr_89 = Pn_74.ek xr_89 := (by rw [ePw_95]; rfl)
    refine lv_aload_n hx hb dX13_row_59 rfl (lv_at hl 0 rfl) ?_
    refine lv_iconst (v := 0) hx hb dX13_row_60 (by decide) ?_
    refine lv_topi (fun z ez => ?_)
    obtain rfl : z = zI (0) := ez
    obtain ⟨kp_100, gkp_100⟩ := va_pl_get (X := [(hc, .inr (12, [v13_0, .ref lr, v13_2, .int (zI (z_93)), v13_4, .ref la, v13_6]))]) (f := pE Pw_95) hm_90
    have hkp_100 := gkp_100
    rw [pE_row hy_99] at hkp_100
    have hD0 := hD
    refine va_put (D := (dC, dI)) (ci := 21) (v := .int (zI (0))) (ty := .boolean) (C := RX17) (T := TX17) (N := 7) hx hb hts mem_P13_rowR_3 tyX17 tyX17_ok nmX17 hown hK hP hD hS kp_100 hkp_100 rfl 4 (by decide) (ow (k := 11) rfl) (fun _ h9 => h9) rfl (by decide +kernel) (zI_bool (by omega) (by omega)) (zI_fitb (by omega) (by omega)) (by first | exact Nat.le_of_ble_eq_true rfl | exact Nat.le_trans (show (1 + (Pm_54.gc lr)) ≤ 2 from (by omega)) (Nat.le_of_ble_eq_true rfl) | exact Nat.le_trans (show (7 + (Pm_54.gs lr)) ≤ 100007 from (by omega)) (Nat.le_of_ble_eq_true rfl)) dX13_row_61 (fun H locs hP hD hS => ?_)
    obtain ⟨Pw_101, ePw_101⟩ : ∃ q9 : PO, q9 = Pw_95.rw9 4 xr_89 (0) := ⟨_, rfl⟩
    have eU : (([(hc, .inr (12, [v13_0, .ref lr, v13_2, .int (zI (z_93)), v13_4, .ref la, v13_6]))] : va_W) ++ va_pl Ln_73 (pE Pw_95)).set kp_100 (xr_89, rowE (Pw_95.ro xr_89) (Pw_95.rt xr_89) (Pw_95.ra xr_89) (Pw_95.rb xr_89) (0) (Pw_95.rB xr_89) (Pw_95.rg xr_89)) = ([(hc, .inr (12, [v13_0, .ref lr, v13_2, .int (zI (z_93)), v13_4, .ref la, v13_6]))] : va_W) ++ va_pl Ln_73 (pE Pw_101) := (by rw [va_pl_set hD0 hm_90 gkp_100, ePw_101]; exact congrArg (fun f9 => ([(hc, .inr (12, [v13_0, .ref lr, v13_2, .int (zI (z_93)), v13_4, .ref la, v13_6]))] : va_W) ++ va_pl Ln_73 f9) (put17_4 hy_99))
    have hP : va_P (dC, dI) vwQ ([(hc, .inr (12, [v13_0, .ref lr, v13_2, .int (zI (z_93)), v13_4, .ref la, v13_6]))] ++ va_pl Ln_73 (pE Pw_101)) H := (by rw [← eU]; exact hP)
    have hD : va_D A ([(hc, .inr (12, [v13_0, .ref lr, v13_2, .int (zI (z_93)), v13_4, .ref la, v13_6]))] ++ va_pl Ln_73 (pE Pw_101)) := (by rw [← eU]; exact hD)
    clear eU hD0 gkp_100 hkp_100
    have wPw_101 : RW1 xr_89 Pw_95 Pw_101 := (by rw [ePw_101]; exact RW1.put _ _ _ _)
    have hy_102 : Pw_101.kd la = 30 := (by rw [ePw_101]; exact hy_96)
    have hy_103 : Pw_101.kd lr = 30 := (by rw [ePw_101]; exact hy_97)
    have hy_104 : Pw_101.kd q_53 = 17 := (by rw [ePw_101]; exact hy_98)
    have hy_105 : Pw_101.kd xr_89 = 17 := (by rw [ePw_101]; exact hy_99)
    have : Pw_101.ro xr_89 = Pw_95.ro xr_89 := (by rw [ePw_101]; exact rw9_of _ (by decide))
    have : Pw_101.rt xr_89 = Pw_95.rt xr_89 := (by rw [ePw_101]; exact rw9_of _ (by decide))
    have : Pw_101.ra xr_89 = Pw_95.ra xr_89 := (by rw [ePw_101]; exact rw9_of _ (by decide))
    have : Pw_101.rb xr_89 = Pw_95.rb xr_89 := (by rw [ePw_101]; exact rw9_of _ (by decide))
    have : Pw_101.rA xr_89 = 0 := (by rw [ePw_101]; exact rw9_at _ _ _ _)
    have : Pw_101.rB xr_89 = Pw_95.rB xr_89 := (by rw [ePw_101]; exact rw9_of _ (by decide))
    have : Pw_101.rg xr_89 = Pw_95.rg xr_89 := (by rw [ePw_101]; exact rw9_of _ (by decide))
    have : Pw_101.ek xr_89 = Pw_95.ek xr_89 := (by rw [ePw_101]; rfl)
    refine lv_aload_n hx hb dX13_row_64 rfl (lv_at hl 0 rfl) ?_
    refine lv_iconst (v := 0) hx hb dX13_row_65 (by decide) ?_
    refine lv_topi (fun z ez => ?_)
    obtain rfl : z = zI (0) := ez
    obtain ⟨kp_106, gkp_106⟩ := va_pl_get (X := [(hc, .inr (12, [v13_0, .ref lr, v13_2, .int (zI (z_93)), v13_4, .ref la, v13_6]))]) (f := pE Pw_101) hm_90
    have hkp_106 := gkp_106
    rw [pE_row hy_105] at hkp_106
    have hD0 := hD
    refine va_put (D := (dC, dI)) (ci := 21) (v := .int (zI (0))) (ty := .boolean) (C := RX17) (T := TX17) (N := 7) hx hb hts mem_P13_rowR_3 tyX17 tyX17_ok nmX17 hown hK hP hD hS kp_106 hkp_106 rfl 5 (by decide) (ow (k := 12) rfl) (fun _ h9 => h9) rfl (by decide +kernel) (zI_bool (by omega) (by omega)) (zI_fitb (by omega) (by omega)) (by first | exact Nat.le_of_ble_eq_true rfl | exact Nat.le_trans (show (1 + (Pm_54.gc lr)) ≤ 2 from (by omega)) (Nat.le_of_ble_eq_true rfl) | exact Nat.le_trans (show (7 + (Pm_54.gs lr)) ≤ 100007 from (by omega)) (Nat.le_of_ble_eq_true rfl)) dX13_row_66 (fun H locs hP hD hS => ?_)
    obtain ⟨Pw_107, ePw_107⟩ : ∃ q9 : PO, q9 = Pw_101.rw9 5 xr_89 (0) := ⟨_, rfl⟩
    have eU : (([(hc, .inr (12, [v13_0, .ref lr, v13_2, .int (zI (z_93)), v13_4, .ref la, v13_6]))] : va_W) ++ va_pl Ln_73 (pE Pw_101)).set kp_106 (xr_89, rowE (Pw_101.ro xr_89) (Pw_101.rt xr_89) (Pw_101.ra xr_89) (Pw_101.rb xr_89) (Pw_101.rA xr_89) (0) (Pw_101.rg xr_89)) = ([(hc, .inr (12, [v13_0, .ref lr, v13_2, .int (zI (z_93)), v13_4, .ref la, v13_6]))] : va_W) ++ va_pl Ln_73 (pE Pw_107) := (by rw [va_pl_set hD0 hm_90 gkp_106, ePw_107]; exact congrArg (fun f9 => ([(hc, .inr (12, [v13_0, .ref lr, v13_2, .int (zI (z_93)), v13_4, .ref la, v13_6]))] : va_W) ++ va_pl Ln_73 f9) (put17_5 hy_105))
    have hP : va_P (dC, dI) vwQ ([(hc, .inr (12, [v13_0, .ref lr, v13_2, .int (zI (z_93)), v13_4, .ref la, v13_6]))] ++ va_pl Ln_73 (pE Pw_107)) H := (by rw [← eU]; exact hP)
    have hD : va_D A ([(hc, .inr (12, [v13_0, .ref lr, v13_2, .int (zI (z_93)), v13_4, .ref la, v13_6]))] ++ va_pl Ln_73 (pE Pw_107)) := (by rw [← eU]; exact hD)
    clear eU hD0 gkp_106 hkp_106
    have wPw_107 : RW1 xr_89 Pw_101 Pw_107 := (by rw [ePw_107]; exact RW1.put _ _ _ _)
    have hy_108 : Pw_107.kd la = 30 := (by rw [ePw_107]; exact hy_102)
    have hy_109 : Pw_107.kd lr = 30 := (by rw [ePw_107]; exact hy_103)
    have hy_110 : Pw_107.kd q_53 = 17 := (by rw [ePw_107]; exact hy_104)
    have hy_111 : Pw_107.kd xr_89 = 17 := (by rw [ePw_107]; exact hy_105)
    have : Pw_107.ro xr_89 = Pw_101.ro xr_89 := (by rw [ePw_107]; exact rw9_of _ (by decide))
    have : Pw_107.rt xr_89 = Pw_101.rt xr_89 := (by rw [ePw_107]; exact rw9_of _ (by decide))
    have : Pw_107.ra xr_89 = Pw_101.ra xr_89 := (by rw [ePw_107]; exact rw9_of _ (by decide))
    have : Pw_107.rb xr_89 = Pw_101.rb xr_89 := (by rw [ePw_107]; exact rw9_of _ (by decide))
    have : Pw_107.rA xr_89 = Pw_101.rA xr_89 := (by rw [ePw_107]; exact rw9_of _ (by decide))
    have : Pw_107.rB xr_89 = 0 := (by rw [ePw_107]; exact rw9_at _ _ _ _)
    have : Pw_107.rg xr_89 = Pw_101.rg xr_89 := (by rw [ePw_107]; exact rw9_of _ (by decide))
    have : Pw_107.ek xr_89 = Pw_101.ek xr_89 := (by rw [ePw_107]; rfl)
    refine lv_aload_n hx hb dX13_row_69 rfl (lv_at hl 0 rfl) ?_
    refine lv_iconst (v := 0) hx hb dX13_row_70 (by decide) ?_
    refine lv_topi (fun z ez => ?_)
    obtain rfl : z = zI (0) := ez
    obtain ⟨kp_112, gkp_112⟩ := va_pl_get (X := [(hc, .inr (12, [v13_0, .ref lr, v13_2, .int (zI (z_93)), v13_4, .ref la, v13_6]))]) (f := pE Pw_107) hm_90
    have hkp_112 := gkp_112
    rw [pE_row hy_111] at hkp_112
    have hD0 := hD
    refine va_put (D := (dC, dI)) (ci := 21) (v := .int (zI (0))) (ty := .int) (C := RX17) (T := TX17) (N := 7) hx hb hts mem_P13_rowR_3 tyX17 tyX17_ok nmX17 hown hK hP hD hS kp_112 hkp_112 rfl 2 (by decide) (ow (k := 13) rfl) (fun _ h9 => h9) rfl (by decide +kernel) rfl rfl (by first | exact Nat.le_of_ble_eq_true rfl | exact Nat.le_trans (show (1 + (Pm_54.gc lr)) ≤ 2 from (by omega)) (Nat.le_of_ble_eq_true rfl) | exact Nat.le_trans (show (7 + (Pm_54.gs lr)) ≤ 100007 from (by omega)) (Nat.le_of_ble_eq_true rfl)) dX13_row_71 (fun H locs hP hD hS => ?_)
    obtain ⟨Pw_113, ePw_113⟩ : ∃ q9 : PO, q9 = Pw_107.rw9 2 xr_89 (0) := ⟨_, rfl⟩
    have eU : (([(hc, .inr (12, [v13_0, .ref lr, v13_2, .int (zI (z_93)), v13_4, .ref la, v13_6]))] : va_W) ++ va_pl Ln_73 (pE Pw_107)).set kp_112 (xr_89, rowE (Pw_107.ro xr_89) (Pw_107.rt xr_89) (0) (Pw_107.rb xr_89) (Pw_107.rA xr_89) (Pw_107.rB xr_89) (Pw_107.rg xr_89)) = ([(hc, .inr (12, [v13_0, .ref lr, v13_2, .int (zI (z_93)), v13_4, .ref la, v13_6]))] : va_W) ++ va_pl Ln_73 (pE Pw_113) := (by rw [va_pl_set hD0 hm_90 gkp_112, ePw_113]; exact congrArg (fun f9 => ([(hc, .inr (12, [v13_0, .ref lr, v13_2, .int (zI (z_93)), v13_4, .ref la, v13_6]))] : va_W) ++ va_pl Ln_73 f9) (put17_2 hy_111))
    have hP : va_P (dC, dI) vwQ ([(hc, .inr (12, [v13_0, .ref lr, v13_2, .int (zI (z_93)), v13_4, .ref la, v13_6]))] ++ va_pl Ln_73 (pE Pw_113)) H := (by rw [← eU]; exact hP)
    have hD : va_D A ([(hc, .inr (12, [v13_0, .ref lr, v13_2, .int (zI (z_93)), v13_4, .ref la, v13_6]))] ++ va_pl Ln_73 (pE Pw_113)) := (by rw [← eU]; exact hD)
    clear eU hD0 gkp_112 hkp_112
    have wPw_113 : RW1 xr_89 Pw_107 Pw_113 := (by rw [ePw_113]; exact RW1.put _ _ _ _)
    have hy_114 : Pw_113.kd la = 30 := (by rw [ePw_113]; exact hy_108)
    have hy_115 : Pw_113.kd lr = 30 := (by rw [ePw_113]; exact hy_109)
    have hy_116 : Pw_113.kd q_53 = 17 := (by rw [ePw_113]; exact hy_110)
    have hy_117 : Pw_113.kd xr_89 = 17 := (by rw [ePw_113]; exact hy_111)
    have : Pw_113.ro xr_89 = Pw_107.ro xr_89 := (by rw [ePw_113]; exact rw9_of _ (by decide))
    have : Pw_113.rt xr_89 = Pw_107.rt xr_89 := (by rw [ePw_113]; exact rw9_of _ (by decide))
    have : Pw_113.ra xr_89 = 0 := (by rw [ePw_113]; exact rw9_at _ _ _ _)
    have : Pw_113.rb xr_89 = Pw_107.rb xr_89 := (by rw [ePw_113]; exact rw9_of _ (by decide))
    have : Pw_113.rA xr_89 = Pw_107.rA xr_89 := (by rw [ePw_113]; exact rw9_of _ (by decide))
    have : Pw_113.rB xr_89 = Pw_107.rB xr_89 := (by rw [ePw_113]; exact rw9_of _ (by decide))
    have : Pw_113.rg xr_89 = Pw_107.rg xr_89 := (by rw [ePw_113]; exact rw9_of _ (by decide))
    have : Pw_113.ek xr_89 = Pw_107.ek xr_89 := (by rw [ePw_113]; rfl)
    refine lv_aload_n hx hb dX13_row_74 rfl (lv_at hl 0 rfl) ?_
    refine lv_iconst (v := 0) hx hb dX13_row_75 (by decide) ?_
    refine lv_topi (fun z ez => ?_)
    obtain rfl : z = zI (0) := ez
    obtain ⟨kp_118, gkp_118⟩ := va_pl_get (X := [(hc, .inr (12, [v13_0, .ref lr, v13_2, .int (zI (z_93)), v13_4, .ref la, v13_6]))]) (f := pE Pw_113) hm_90
    have hkp_118 := gkp_118
    rw [pE_row hy_117] at hkp_118
    have hD0 := hD
    refine va_put (D := (dC, dI)) (ci := 21) (v := .int (zI (0))) (ty := .int) (C := RX17) (T := TX17) (N := 7) hx hb hts mem_P13_rowR_3 tyX17 tyX17_ok nmX17 hown hK hP hD hS kp_118 hkp_118 rfl 3 (by decide) (ow (k := 14) rfl) (fun _ h9 => h9) rfl (by decide +kernel) rfl rfl (by first | exact Nat.le_of_ble_eq_true rfl | exact Nat.le_trans (show (1 + (Pm_54.gc lr)) ≤ 2 from (by omega)) (Nat.le_of_ble_eq_true rfl) | exact Nat.le_trans (show (7 + (Pm_54.gs lr)) ≤ 100007 from (by omega)) (Nat.le_of_ble_eq_true rfl)) dX13_row_76 (fun H locs hP hD hS => ?_)
    obtain ⟨Pw_119, ePw_119⟩ : ∃ q9 : PO, q9 = Pw_113.rw9 3 xr_89 (0) := ⟨_, rfl⟩
    have eU : (([(hc, .inr (12, [v13_0, .ref lr, v13_2, .int (zI (z_93)), v13_4, .ref la, v13_6]))] : va_W) ++ va_pl Ln_73 (pE Pw_113)).set kp_118 (xr_89, rowE (Pw_113.ro xr_89) (Pw_113.rt xr_89) (Pw_113.ra xr_89) (0) (Pw_113.rA xr_89) (Pw_113.rB xr_89) (Pw_113.rg xr_89)) = ([(hc, .inr (12, [v13_0, .ref lr, v13_2, .int (zI (z_93)), v13_4, .ref la, v13_6]))] : va_W) ++ va_pl Ln_73 (pE Pw_119) := (by rw [va_pl_set hD0 hm_90 gkp_118, ePw_119]; exact congrArg (fun f9 => ([(hc, .inr (12, [v13_0, .ref lr, v13_2, .int (zI (z_93)), v13_4, .ref la, v13_6]))] : va_W) ++ va_pl Ln_73 f9) (put17_3 hy_117))
    have hP : va_P (dC, dI) vwQ ([(hc, .inr (12, [v13_0, .ref lr, v13_2, .int (zI (z_93)), v13_4, .ref la, v13_6]))] ++ va_pl Ln_73 (pE Pw_119)) H := (by rw [← eU]; exact hP)
    have hD : va_D A ([(hc, .inr (12, [v13_0, .ref lr, v13_2, .int (zI (z_93)), v13_4, .ref la, v13_6]))] ++ va_pl Ln_73 (pE Pw_119)) := (by rw [← eU]; exact hD)
    clear eU hD0 gkp_118 hkp_118
    have wPw_119 : RW1 xr_89 Pw_113 Pw_119 := (by rw [ePw_119]; exact RW1.put _ _ _ _)
    have hy_120 : Pw_119.kd la = 30 := (by rw [ePw_119]; exact hy_114)
    have hy_121 : Pw_119.kd lr = 30 := (by rw [ePw_119]; exact hy_115)
    have hy_122 : Pw_119.kd q_53 = 17 := (by rw [ePw_119]; exact hy_116)
    have hy_123 : Pw_119.kd xr_89 = 17 := (by rw [ePw_119]; exact hy_117)
    have : Pw_119.ro xr_89 = Pw_113.ro xr_89 := (by rw [ePw_119]; exact rw9_of _ (by decide))
    have : Pw_119.rt xr_89 = Pw_113.rt xr_89 := (by rw [ePw_119]; exact rw9_of _ (by decide))
    have : Pw_119.ra xr_89 = Pw_113.ra xr_89 := (by rw [ePw_119]; exact rw9_of _ (by decide))
    have : Pw_119.rb xr_89 = 0 := (by rw [ePw_119]; exact rw9_at _ _ _ _)
    have : Pw_119.rA xr_89 = Pw_113.rA xr_89 := (by rw [ePw_119]; exact rw9_of _ (by decide))
    have : Pw_119.rB xr_89 = Pw_113.rB xr_89 := (by rw [ePw_119]; exact rw9_of _ (by decide))
    have : Pw_119.rg xr_89 = Pw_113.rg xr_89 := (by rw [ePw_119]; exact rw9_of _ (by decide))
    have : Pw_119.ek xr_89 = Pw_113.ek xr_89 := (by rw [ePw_119]; rfl)
    refine lv_aload_n hx hb dX13_row_79 rfl (lv_at hl 0 rfl) ?_
    refine lv_iconst (v := 0) hx hb dX13_row_80 (by decide) ?_
    refine lv_topi (fun z ez => ?_)
    obtain rfl : z = zI (0) := ez
    obtain ⟨kp_124, gkp_124⟩ := va_pl_get (X := [(hc, .inr (12, [v13_0, .ref lr, v13_2, .int (zI (z_93)), v13_4, .ref la, v13_6]))]) (f := pE Pw_119) hm_90
    have hkp_124 := gkp_124
    rw [pE_row hy_123] at hkp_124
    have hD0 := hD
    refine va_put (D := (dC, dI)) (ci := 21) (v := .int (zI (0))) (ty := .int) (C := RX17) (T := TX17) (N := 7) hx hb hts mem_P13_rowR_3 tyX17 tyX17_ok nmX17 hown hK hP hD hS kp_124 hkp_124 rfl 1 (by decide) (ow (k := 15) rfl) (fun _ h9 => h9) rfl (by decide +kernel) rfl rfl (by first | exact Nat.le_of_ble_eq_true rfl | exact Nat.le_trans (show (1 + (Pm_54.gc lr)) ≤ 2 from (by omega)) (Nat.le_of_ble_eq_true rfl) | exact Nat.le_trans (show (7 + (Pm_54.gs lr)) ≤ 100007 from (by omega)) (Nat.le_of_ble_eq_true rfl)) dX13_row_81 (fun H locs hP hD hS => ?_)
    obtain ⟨Pw_125, ePw_125⟩ : ∃ q9 : PO, q9 = Pw_119.rw9 1 xr_89 (0) := ⟨_, rfl⟩
    have eU : (([(hc, .inr (12, [v13_0, .ref lr, v13_2, .int (zI (z_93)), v13_4, .ref la, v13_6]))] : va_W) ++ va_pl Ln_73 (pE Pw_119)).set kp_124 (xr_89, rowE (Pw_119.ro xr_89) (0) (Pw_119.ra xr_89) (Pw_119.rb xr_89) (Pw_119.rA xr_89) (Pw_119.rB xr_89) (Pw_119.rg xr_89)) = ([(hc, .inr (12, [v13_0, .ref lr, v13_2, .int (zI (z_93)), v13_4, .ref la, v13_6]))] : va_W) ++ va_pl Ln_73 (pE Pw_125) := (by rw [va_pl_set hD0 hm_90 gkp_124, ePw_125]; exact congrArg (fun f9 => ([(hc, .inr (12, [v13_0, .ref lr, v13_2, .int (zI (z_93)), v13_4, .ref la, v13_6]))] : va_W) ++ va_pl Ln_73 f9) (put17_1 hy_123))
    have hP : va_P (dC, dI) vwQ ([(hc, .inr (12, [v13_0, .ref lr, v13_2, .int (zI (z_93)), v13_4, .ref la, v13_6]))] ++ va_pl Ln_73 (pE Pw_125)) H := (by rw [← eU]; exact hP)
    have hD : va_D A ([(hc, .inr (12, [v13_0, .ref lr, v13_2, .int (zI (z_93)), v13_4, .ref la, v13_6]))] ++ va_pl Ln_73 (pE Pw_125)) := (by rw [← eU]; exact hD)
    clear eU hD0 gkp_124 hkp_124
    have wPw_125 : RW1 xr_89 Pw_119 Pw_125 := (by rw [ePw_125]; exact RW1.put _ _ _ _)
    have hy_126 : Pw_125.kd la = 30 := (by rw [ePw_125]; exact hy_120)
    have hy_127 : Pw_125.kd lr = 30 := (by rw [ePw_125]; exact hy_121)
    have hy_128 : Pw_125.kd q_53 = 17 := (by rw [ePw_125]; exact hy_122)
    have hy_129 : Pw_125.kd xr_89 = 17 := (by rw [ePw_125]; exact hy_123)
    have : Pw_125.ro xr_89 = Pw_119.ro xr_89 := (by rw [ePw_125]; exact rw9_of _ (by decide))
    have : Pw_125.rt xr_89 = 0 := (by rw [ePw_125]; exact rw9_at _ _ _ _)
    have : Pw_125.ra xr_89 = Pw_119.ra xr_89 := (by rw [ePw_125]; exact rw9_of _ (by decide))
    have : Pw_125.rb xr_89 = Pw_119.rb xr_89 := (by rw [ePw_125]; exact rw9_of _ (by decide))
    have : Pw_125.rA xr_89 = Pw_119.rA xr_89 := (by rw [ePw_125]; exact rw9_of _ (by decide))
    have : Pw_125.rB xr_89 = Pw_119.rB xr_89 := (by rw [ePw_125]; exact rw9_of _ (by decide))
    have : Pw_125.rg xr_89 = Pw_119.rg xr_89 := (by rw [ePw_125]; exact rw9_of _ (by decide))
    have : Pw_125.ek xr_89 = Pw_119.ek xr_89 := (by rw [ePw_125]; rfl)
    have hW_130 : RW1 xr_89 Pn_74 Pw_125 := wPw_95.trans (wPw_101.trans (wPw_107.trans (wPw_113.trans (wPw_119.trans (wPw_125)))))
    have hrw_133 : RWD Pn_74 Pw_125 := hW_130.rwd (Or.inl hk_91)
    have hak_132 : GLR Ln_73 Pw_125 cO cI cZ sx_ed := hak_77.row hW_130 hk_91 (ROKR.of (by omega) (by omega) (by omega) (by omega) (by omega) (by omega) (by omega) (rUA9R (by have q9 := rUsA_spec (Pn_74.ro xr_89) (Pn_74.rA xr_89); omega)) (rUB9R (by have q9 := rUsB_spec (Pn_74.ro xr_89) (Pn_74.rB xr_89); omega))) (fun e9 => by have q9 := hak_77.op21 hm_90 hk_91 e9; omega)
    have hke_131 : KEG [lr] Ln_73 Pn_74 Ln_73 Pw_125 := hrw_133.kegR _ hq_78.2
    have hq_134 : la ∈ Ln_73 ∧ Pw_125.kd la = 30 := hke_131.mem hq_78.1 hq_78.2 (by decide)
    have hq_135 : lr ∈ Ln_73 ∧ Pw_125.kd lr = 30 := hke_131.mem hq_79.1 hq_79.2 (by decide)
    have hq_136 : q_53 ∈ Ln_73 ∧ Pw_125.kd q_53 = 17 := hke_131.mem hq_80.1 hq_80.2 (by decide)
    have hq_137 : xr_89 ∈ Ln_73 ∧ Pw_125.kd xr_89 = 17 := hke_131.mem hm_90 hk_91 (by decide)
    have hE_138 : Pw_125.ek q_53 ≠ 1 := (by rw [hke_131.ek hq_80.1 hq_80.2 (by decide)]; exact hE_81)
    have hE_139 : Pw_125.ek xr_89 ≠ 1 := (by rw [hke_131.ek hm_90 hk_91 (by decide)]; exact hE_92)
    have hA_140 : KEG [lr] L P Ln_73 Pw_125 := hA_82.trans hke_131
    have : Pw_125.lz la = Pn_74.lz la := hrw_133.lz hq_78.2
    have : Pw_125.lz lr = Pn_74.lz lr := hrw_133.lz hq_79.2
    have : Pw_125.cap la = Pn_74.cap la := hW_130.cap la
    have : Pw_125.cap lr = Pn_74.cap lr := hW_130.cap lr
    have hek_141 : Pw_125.ek la = 12 := (by rw [hke_131.ek hq_78.1 hq_78.2 (by decide)]; exact hek_83)
    have how_142 : Pw_125.ow la = la := ((hke_131.1 la hq_78.1 (by rw [hq_78.2]; decide)).2.2.2.1 hq_78.2 how_84).1
    have hcz := (((hke_131.1 la hq_78.1 (by rw [hq_78.2]; decide)).2.2.2.1 hq_78.2 how_84).2 (fun q9 => by have h9 := hek_83; rw [List.mem_singleton.mp q9] at h9; omega)).1
    have hek_143 : Pw_125.ek lr = 17 := (by rw [hke_131.ek hq_79.1 hq_79.2 (by decide)]; exact hek_85)
    have how_144 : Pw_125.ow lr = lr := ((hke_131.1 lr hq_79.1 (by rw [hq_79.2]; decide)).2.2.2.1 hq_79.2 how_86).1
    refine lv_aload_n hx hb dX13_row_84 rfl (lv_at hl 0 rfl) ?_
    subst hQ
    have hK := hK.sub (tys' := [(cO, .object "java/lang/Object"), (cI, .int), (cZ, .boolean)]) [2, 0, 1] rfl
    refine W_knowS (fun hrm9 => ?_)
    refine W.widen (k := 2) (n := 100007) (by omega) (by omega) ?_
    exact W.aret (v := .ref xr_89) hx hb hr (Or.inl ⟨_, rfl⟩) (Or.inr ⟨_, rfl⟩) (fun t ht hW => ⟨⟨(), xr_89, rfl, trivial, z_93, Ln_73, Pw_125, (1 + (Pm_54.gc lr)), (7 + (Pm_54.gs lr)), ⟨⟨(by rw [ht, ← hp1]; exact hrm9), (by omega)⟩, ⟨(by omega), ⟨hA_140, hak_132, ⟨⟨hq_137.1, hq_137.2, hE_139⟩, ⟨by omega, (show _ ∨ _ from by omega)⟩, ⟨by omega, by omega⟩, ((hex_57.chg.wk (fun z _ q9 => q9.elim)).trans (hu_75.1.chgo hak_58.owa hq_61.1 hq_61.2 hu_75.2.2.2.2.2.2.2) (fun z m q9 => by rcases q9 with q9 | q9; exact Or.inr (Or.inl q9); exact Or.inr (Or.inr ⟨((hex_57 z m).2.2.1 0).symm.trans q9.1, ((hex_57 z m).2.2.1 9).symm.trans q9.2⟩)) |>.trans (hW_130.chg _) (fun z m q9 => Or.inl q9)), (fun y m k n => by rw [hW_130.cap, hu_75.1.capO hak_58.owa hq_61.1 hq_61.2 hu_75.2.2.2.2.2.2.2 (hex_57 y m).1 (by show Pm_54.2.1 0 y = 30; rw [(hex_57 y m).2.2.1 0]; exact k) n, hex_57.cap hX_g.owa m k]), (fun m9 => absurd m9 hxn9)⟩, ⟨(by rw [hW_130.el]; exact hel9), (fun i i0 i1 => by rw [hW_130.el, hu_75.1.elx hu_75.2.2.2.2.2.2.1 i0 (by omega)]; exact hex_57.el hX_g.owa hX_lr.1 hX_lr.2.1 i0 i1), (Or.inr ⟨by omega, by omega, hxn9⟩)⟩, by omega⟩⟩⟩, by rw [ht]; exact hP, va_K.moved hW.alike hK, hD⟩, hS.F ht⟩) hS.2.2 dX13_row_85
