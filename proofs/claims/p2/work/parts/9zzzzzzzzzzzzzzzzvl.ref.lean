def o_P13_rowQ : List Cond := [.fieldLink RX13 25 "SsaForgeModel$Code" "rowN" "I", .fieldLink RX13 16 "SsaForgeModel$Code" "rows" "Ljava/util/ArrayList;", .methodLink RX13 38 yJx4a65c_size_8abf5, .instanceMethod yJx4a65c_size_8abf5, .selects RJx4a65c yJx4a65c_size_8abf5 yJx4a65c_size_8abf5, .initialized RJx4a65c, .methodLink RX13 49 yJx4a65c_get_915e3, .instanceMethod yJx4a65c_get_915e3, .selects RJx4a65c yJx4a65c_get_915e3 yJx4a65c_get_915e3, .classLink RX13 55 "SsaForgeModel$Row", .fieldLink RX13 58 "SsaForgeModel$Row" "gone" "Z", .fieldLink RX13 62 "SsaForgeModel$Row" "regA" "Z", .fieldLink RX13 65 "SsaForgeModel$Row" "regB" "Z", .fieldLink RX13 68 "SsaForgeModel$Row" "a" "I", .fieldLink RX13 71 "SsaForgeModel$Row" "b" "I", .fieldLink RX13 74 "SsaForgeModel$Row" "t" "I", .classLink RX13 55 RX17, .instantiable RX17 7, .initialized RX17, .instanceMethod yX17_init, .methodLink RX13 45 yJx4a65c_add_9ea2d, .instanceMethod yJx4a65c_add_9ea2d, .selects RJx4a65c yJx4a65c_add_9ea2d yJx4a65c_add_9ea2d]
def v_P13_rowQ : List Cond := .code yX13_row cX13_row 2 (some (.object "SsaForgeModel$Row")) :: (o_P13_rowQ ++ (wsX130 ++ (v_PL_size ++ (v_PL_get ++ (wsX170 ++ (v_X17_init ++ (v_PL_addAX ++ [])))))))
theorem mow_P13_rowQ : ∀ w ∈ o_P13_rowQ, w ∈ v_P13_rowQ := fun _ h => List.mem_cons_of_mem _ (List.mem_append_left _ h)
theorem mem_P13_rowQ_0 : ∀ w ∈ wsX130, w ∈ v_P13_rowQ := fun _ h => List.mem_cons_of_mem _ (List.mem_append_right _ (List.mem_append_left _ h))
theorem mem_P13_rowQ_1 : ∀ w ∈ v_PL_size, w ∈ v_P13_rowQ := fun _ h => List.mem_cons_of_mem _ (List.mem_append_right _ (List.mem_append_right _ (List.mem_append_left _ h)))
theorem mem_P13_rowQ_2 : ∀ w ∈ v_PL_get, w ∈ v_P13_rowQ := fun _ h => List.mem_cons_of_mem _ (List.mem_append_right _ (List.mem_append_right _ (List.mem_append_right _ (List.mem_append_left _ h))))
theorem mem_P13_rowQ_3 : ∀ w ∈ wsX170, w ∈ v_P13_rowQ := fun _ h => List.mem_cons_of_mem _ (List.mem_append_right _ (List.mem_append_right _ (List.mem_append_right _ (List.mem_append_right _ (List.mem_append_left _ h)))))
theorem mem_P13_rowQ_4 : ∀ w ∈ v_X17_init, w ∈ v_P13_rowQ := fun _ h => List.mem_cons_of_mem _ (List.mem_append_right _ (List.mem_append_right _ (List.mem_append_right _ (List.mem_append_right _ (List.mem_append_right _ (List.mem_append_left _ h))))))
theorem mem_P13_rowQ_5 : ∀ w ∈ v_PL_addAX, w ∈ v_P13_rowQ := fun _ h => List.mem_cons_of_mem _ (List.mem_append_right _ (List.mem_append_right _ (List.mem_append_right _ (List.mem_append_right _ (List.mem_append_right _ (List.mem_append_right _ (List.mem_append_left _ h)))))))
set_option maxRecDepth 20000 in
theorem gw_P13_rowQ : v_P13_rowQ.all goodWord = true := by decide +kernel
set_option maxRecDepth 20000 in
theorem g_P13_rowQ_PL_size : GoodIn v_P13_rowQ (wsV RX13 38 RJx4a65c yJx4a65c_size_8abf5 v_PL_size) := goodIn_app (goodIn_sub (fun w h => mow_P13_rowQ w (by revert w h; decide +kernel)) (by decide +kernel)) (goodIn_sub mem_P13_rowQ_1 gw_PL_size)
set_option maxRecDepth 20000 in
theorem g_P13_rowQ_PL_get : GoodIn v_P13_rowQ (wsV RX13 49 RJx4a65c yJx4a65c_get_915e3 v_PL_get) := goodIn_app (goodIn_sub (fun w h => mow_P13_rowQ w (by revert w h; decide +kernel)) (by decide +kernel)) (goodIn_sub mem_P13_rowQ_2 gw_PL_get)
set_option maxRecDepth 20000 in
theorem g_P13_rowQ_PL_addAX : GoodIn v_P13_rowQ (wsV RX13 45 RJx4a65c yJx4a65c_add_9ea2d v_PL_addAX) := goodIn_app (goodIn_sub (fun w h => mow_P13_rowQ w (by revert w h; decide +kernel)) (by decide +kernel)) (goodIn_sub mem_P13_rowQ_5 gw_PL_addAX)
set_option maxHeartbeats 4000000 in
set_option maxRecDepth 100000 in
theorem c_P13_rowQ (l : Launch) (dC : Nat → ClassId) (dI : Nat → Nat → Nat) (cI : ClassId) (cZ : ClassId) (hc : Nat) (v13_0 : Value) (v13_2 : Value) (z13_rowN : Int) (v13_4 : Value) (v13_6 : Value) (la : Nat) (lr : Nat) (cO : ClassId) (L : List Nat) (P : PO) (sx_ed : Nat) (hNz13_rowN : 0 ≤ z13_rowN ∧ z13_rowN ≤ 19000) (hX_g : GLR L P cO cI cZ sx_ed) (hX_la : la ∈ L ∧ P.kd la = 30 ∧ P.ek la = 12 ∧ P.ow la = la) (hX_lr : lr ∈ L ∧ P.kd lr = 30 ∧ P.ek lr = 17 ∧ P.ow lr = lr) (hNr : z13_rowN ≤ P.lz lr ∧ P.lz lr ≤ 4164 ∧ 0 ≤ z13_rowN) (hX_V : LVA L P) (sz : Nat) (HU : Heap) (sx_mi : Nat) : Met l yX13_row v_P13_rowQ ({ frames := 7, cells := 2, slots := 6253, locals := 191 }) (va_Pc [.ref hc] (fun U => U.heap.size = sz ∧ va_P (dC, dI) vwQ ([(hc, .inr (12, [v13_0, .ref lr, v13_2, .int (zI (z13_rowN)), v13_4, .ref la, v13_6]))] ++ va_pl L (pE P)) U.heap ∧ va_K (dC, dI) vwQ [(cO, .object "java/lang/Object"), (cI, .int), (cZ, .boolean)] U ∧ va_D (fun _ => True) ([(hc, .inr (12, [v13_0, .ref lr, v13_2, .int (zI (z13_rowN)), v13_4, .ref la, v13_6]))] ++ va_pl L (pE P)) ∧ va_Nw (.castable "SsaForgeModel$Row" "SsaForgeModel$Row") U ∧ U.heap = HU ∧ va_Nw (.methodLinkNest RX13 57 yX17_init "SsaForgeModel") U ∧ va_Nw (.castable "SsaForgeModel$Row" "java/lang/Object") U ∧ va_Nw (.castable "SsaForgeModel$Phi" "java/lang/Object") U ∧ va_Nw (.castable "SsaForgeModel$Block" "java/lang/Object") U ∧ va_Dc U ∧ va_Mi "[Ljava/lang/Object;" sx_mi U ∧ va_AO "java/lang/Object" U ∧ va_T (.object "java/lang/Object") sx_ed 0 (fun _ => .null) (va_A ([(hc, .inr (12, [v13_0, .ref lr, v13_2, .int (zI (z13_rowN)), v13_4, .ref la, v13_6]))] ++ va_pl L (pE P)) sz) U U.heap ∧ va_Z "java/util/ArrayList" "DEFAULTCAPACITY_EMPTY_ELEMENTDATA" "[Ljava/lang/Object;" (.ref sx_ed) (va_A ([(hc, .inr (12, [v13_0, .ref lr, v13_2, .int (zI (z13_rowN)), v13_4, .ref la, v13_6]))] ++ va_pl L (pE P)) sz) U U.heap)) (va_Qr (fun _ : Unit => True) (fun (_ : Unit) (rq : Nat) (t : State) => ∃ (z0_9 : Int) (Ln_9 : List Nat) (Pn_9 : PO) (kc_9 : Nat) (ks_9 : Nat), ((RM HU t.heap kc_9 ks_9 ∧ ((ks_9 : Int) ≤ PSI wSL Ln_9 Pn_9 - PSI wSL L P ∧ 40 * (kc_9 : Int) ≤ PSI wCE Ln_9 Pn_9 - PSI wCE L P)) ∧ ((0 ≤ z0_9 ∧ z0_9 ≤ 19001) ∧ (KEG [lr] L P Ln_9 Pn_9 ∧ GLR Ln_9 Pn_9 cO cI cZ sx_ed ∧ CRH lr rq (z13_rowN) L P Ln_9 Pn_9 ∧ (rq = Pn_9.el lr (z13_rowN) ∧ (∀ i : Int, 0 ≤ i → i < P.lz lr → Pn_9.el lr i = P.el lr i) ∧ (Pn_9.lz lr = P.lz lr ∨ (Pn_9.lz lr = P.lz lr + 1 ∧ z13_rowN = P.lz lr ∧ rq ∉ L))) ∧ (z0_9 = z13_rowN + 1) ∧ LVA Ln_9 Pn_9 ∧ (Pn_9.rt rq = 0 ∧ Pn_9.ra rq = 0 ∧ Pn_9.rg rq = 0) ∧ (PSI wSL Ln_9 Pn_9 = PSI wSL L P + 7 * (Pn_9.lz lr - P.lz lr) + (LVS (Pn_9.cap lr) - LVS (P.cap lr)) ∧ PSI wCE Ln_9 Pn_9 = PSI wCE L P + 40 * (Pn_9.lz lr - P.lz lr) + 4 * (LVS (Pn_9.cap lr) - LVS (P.cap lr))) ∧ NWO rq L P Ln_9 Pn_9))) ∧ va_P (dC, dI) vwQ ([(hc, .inr (12, [v13_0, .ref lr, v13_2, .int (zI (z0_9)), v13_4, .ref la, v13_6]))] ++ va_pl Ln_9 (pE Pn_9)) t.heap ∧ va_K (dC, dI) vwQ [(cO, .object "java/lang/Object"), (cI, .int), (cZ, .boolean)] t ∧ va_D (va_A ([(hc, .inr (12, [v13_0, .ref lr, v13_2, .int (zI (z13_rowN)), v13_4, .ref la, v13_6]))] ++ va_pl L (pE P)) sz) ([(hc, .inr (12, [v13_0, .ref lr, v13_2, .int (zI (z0_9)), v13_4, .ref la, v13_6]))] ++ va_pl Ln_9 (pE Pn_9))) (va_A ([(hc, .inr (12, [v13_0, .ref lr, v13_2, .int (zI (z13_rowN)), v13_4, .ref la, v13_6]))] ++ va_pl L (pE P)) sz)) 2 6253 (va_A ([(hc, .inr (12, [v13_0, .ref lr, v13_2, .int (zI (z13_rowN)), v13_4, .ref la, v13_6]))] ++ va_pl L (pE P)) sz) := by
  refine Met.ofW (cc := cX13_row) (maxL := 2) (ret := (some (.object "SsaForgeModel$Row"))) (by decide) rfl ?_
  intro p e s m args below meth c s₁ B hml hv
  obtain ⟨rfl, hsz, hP, hK, hD0, hp0, hp1, hp2, hp3, hp4, hp5, hp6, hp7, hp8, hp9, hp10⟩ := hv
  have hx := B.exec
  have hb := B.bytes
  have hr := B.returns
  have hts := atoms_spec (ws := v_P13_rowQ) B.pre
  have hown : s.vm.findClass RX13 = some m.cls := findClass_of_methodNamed B.named
  have hlocks := B.notSynchronized
  have ow : ∀ {k : Nat} {w : Cond}, o_P13_rowQ[k]? = some w → w.before ([.ref hc] : List Value).toArray s = true := fun h => hts _ (mow_P13_rowQ _ (List.mem_of_getElem? h))
  subst hsz
  have hD := hD0.self (sz := s.heap.size)
  generalize hAe : va_A ([(hc, .inr (12, [v13_0, .ref lr, v13_2, .int (zI (z13_rowN)), v13_4, .ref la, v13_6]))] ++ va_pl L (pE P)) s.heap.size = A at hD hp8 hp9 hp10 ⊢
  have hA : ∀ q : Nat, s.heap.size ≤ q → A q := fun q h => by rw [← hAe]; exact Or.inr h
  have hS : va_S A s.heap s.heap [] := va_S.rf
  have hP : va_P (dC, dI) vwQ ([(hc, .inr (12, [v13_0, .ref lr, v13_2, .int (zI (z13_rowN)), v13_4, .ref la, v13_6]))] ++ va_pl L (pE P)) s.heap := hP
  have hl := lv_entry ([.ref hc]) (n := 2) (Nat.le_of_ble_eq_true rfl)
  rw [lg_entry_eq]
  generalize (lg_sl ([.ref hc]) ++ List.replicate (2 - (lg_sl ([.ref hc])).length) Slot.unset).toArray = ls at hl ⊢
  have hl : lv_has ls 2 [(0, .ref hc)] := hl
  obtain ⟨H, hH⟩ : ∃ H, H = s.heap := ⟨_, rfl⟩
  rw [← hH] at hP
  have hS : va_S A s.heap H [] := by rw [hH]; exact hS
  rw [← hH]
  refine zW_cap (fun Q hQ => ?_)
  have hX_g9 := hX_g
  have hC_la := hX_la
  have hC_lr := hX_lr
  refine lv_aload_n hx hb dX13_row_0 rfl (lv_at hl 0 rfl) ?_
  refine va_get (D := (dC, dI)) (ci := 12) (v := .int (zI (z13_rowN))) (C := RX13) (T := TX13) (N := 7) hx hb hts mem_P13_rowQ_0 hown hK hP 0 rfl rfl 3 (by decide) (ow (k := 0) rfl) (fun _ h9 => h9) rfl dX13_row_1 ?_
  refine lv_aload_n hx hb dX13_row_4 rfl (lv_at hl 0 rfl) ?_
  refine va_get (D := (dC, dI)) (ci := 12) (v := .ref lr) (C := RX13) (T := TX13) (N := 7) hx hb hts mem_P13_rowQ_0 hown hK hP 0 rfl rfl 1 (by decide) (ow (k := 1) rfl) (fun _ h9 => h9) rfl dX13_row_5 ?_
  have hlk_1 := (show LOK L P cO 17 lr from (by have q9 := (hX_g9.gla lr hC_lr.1 hC_lr.2.1).1; rw [hC_lr.2.2.1] at q9; exact q9))
  have hX_x := hlk_1.1
  have hX_k := hlk_1.2.1
  have hlz9 := hlk_1.2.2.1
  have hPc := hP.part (X := [(hc, .inr (12, [v13_0, .ref lr, v13_2, .int (zI (z13_rowN)), v13_4, .ref la, v13_6]))]) (cx := []) (pl := va_pl L (pE P)) [] rfl
  have hDc := hD.part (X := [(hc, .inr (12, [v13_0, .ref lr, v13_2, .int (zI (z13_rowN)), v13_4, .ref la, v13_6]))]) (cx := []) (pl := va_pl L (pE P)) [] (by decide) rfl
  have hKc := hK.sub (tys' := [(cO, .object "java/lang/Object")]) [0] rfl
  have hFc := va_freeP (X := [(hc, .inr (12, [v13_0, .ref lr, v13_2, .int (zI (z13_rowN)), v13_4, .ref la, v13_6]))]) (cx := []) (pl := va_pl L (pE P)) hD hS hA [] rfl
  refine va_calli (va_runV (As := []) (rest := [.int (zI (z13_rowN))]) ⟨hx, hb, hml, hown, hts⟩ (c_PL_size l dC dI cO L P lr hX_x hX_k (by omega) H.size) (cwV 0 hts g_P13_rowQ_PL_size rfl rfl rfl (by decide +kernel) ⟨(Nat.le_of_ble_eq_true rfl), (Nat.le_of_ble_eq_true rfl)⟩) ⟨fun a U g mk q => by obtain ⟨q0, q1, qP, qK, qD⟩ := q; exact ⟨q0, q1, qP, va_K.moved (u := U) (U := U.calling g mk a) (Vm.Alike.refl U.vm) qK, qD⟩, recv_30 hKc hPc hC_lr.1 hC_lr.2.1, fun U hU hW => ⟨rfl, by rw [hU], by rw [hU]; exact hPc, va_K.moved hW.alike hKc, hDc.weaken (fun _ _ _ _ => trivial)⟩⟩ rfl rfl hl.1 rfl (lv_room (Nat.le_of_ble_eq_true rfl)) dX13_row_8 ⟨(Nat.le_of_ble_eq_true rfl), (Nat.le_of_ble_eq_true rfl)⟩) hS (fun q _ h => hFc q h) hFc (fun r_2 u t H1 locs ht hvm hw hB hz1 hk1 hS => ?_)
  obtain ⟨hP1, hK1, hD1⟩ := hB
  rw [ht] at hP1
  have hK1 := va_K.moved hvm.symm hK1
  obtain ⟨hP, hD⟩ := va_joinP (X := [(hc, .inr (12, [v13_0, .ref lr, v13_2, .int (zI (z13_rowN)), v13_4, .ref la, v13_6]))]) (cx := []) (wr := [(hc, .inr (12, [v13_0, .ref lr, v13_2, .int (zI (z13_rowN)), v13_4, .ref la, v13_6]))]) (rx := []) (pl := va_pl L (pE P)) (pl1 := va_pl L (pE P)) hP hD [] [0] rfl rfl (by decide) (by decide) hk1 hFc hP1 hD1
  have hK := (hK.sub (tys' := [(cI, .int), (cZ, .boolean)]) [1, 2] rfl).app hK1
  generalize H1 = H at hP hS ⊢
  have hP : va_P (dC, dI) vwQ ([(hc, .inr (12, [v13_0, .ref lr, v13_2, .int (zI (z13_rowN)), v13_4, .ref la, v13_6]))] ++ va_pl L (pE P)) H := hP
  have hD : va_D A ([(hc, .inr (12, [v13_0, .ref lr, v13_2, .int (zI (z13_rowN)), v13_4, .ref la, v13_6]))] ++ va_pl L (pE P)) := hD
  have hK : va_K (dC, dI) vwQ [(cI, .int), (cZ, .boolean), (cO, .object "java/lang/Object")] s := hK
  refine W.widen (k := 0) (n := 0) (Nat.le_of_ble_eq_true rfl) (Nat.le_of_ble_eq_true rfl) ?_
  obtain rfl : r_2 = (zI (P.lz lr)) := hw
  refine lv_icmp_ne (tgt := 29) hx hb dX13_row_11 (by decide) (fun b11 => ?_) (fun b11 => ?_)
  · have yb11 : ¬ (z13_rowN : Int) = (P.lz lr : Int) := fun q => b11 ((zI_eq (a := z13_rowN) (b := P.lz lr) (by omega) (by omega) (by omega) (by omega)).mpr q)
    refine lv_aload_n hx hb dX13_row_29 rfl (lv_at hl 0 rfl) ?_
    refine va_get (D := (dC, dI)) (ci := 12) (v := .ref lr) (C := RX13) (T := TX13) (N := 7) hx hb hts mem_P13_rowQ_0 hown hK hP 0 rfl rfl 1 (by decide) (ow (k := 1) rfl) (fun _ h9 => h9) rfl dX13_row_30 ?_
    refine lv_aload_n hx hb dX13_row_33 rfl (lv_at hl 0 rfl) ?_
    refine va_get (D := (dC, dI)) (ci := 12) (v := .int (zI (z13_rowN))) (C := RX13) (T := TX13) (N := 7) hx hb hts mem_P13_rowQ_0 hown hK hP 0 rfl rfl 3 (by decide) (ow (k := 0) rfl) (fun _ h9 => h9) rfl dX13_row_34 ?_
    have hlk_3 := (show LOK L P cO 17 lr from (by have q9 := (hX_g9.gla lr hC_lr.1 hC_lr.2.1).1; rw [hC_lr.2.2.1] at q9; exact q9))
    obtain ⟨x, ex⟩ : ∃ q9 : Nat, q9 = P.el lr (z13_rowN) := ⟨_, rfl⟩
    have hX_x := hlk_3.1
    have hX_k := hlk_3.2.1
    have hq9 := hlk_3.row (i := z13_rowN) (by omega) (by omega)
    have hX_q : P.le lr ∈ L ∧ P.kd (P.le lr) = 31 ∧ P.ac (P.le lr) = cO := ⟨hq9.1, hq9.2.1, hq9.2.2.1⟩
    have hq8 := hq9.2.2.2
    have hX_e0 : P.oa (P.le lr) (z13_rowN).toNat = some x := (by rw [ex]; exact (hlk_3.2.2.2.2 (z13_rowN) (by omega) (by omega)).1)
    have hxm : x ∈ L := (by rw [ex]; exact (hlk_3.2.2.2.2 (z13_rowN) (by omega) (by omega)).2.1)
    have hxk := (hlk_3.2.2.2.2 (z13_rowN) (by omega) (by omega)).2.2
    rw [← ex] at hxk
    have hPc := hP.part (X := [(hc, .inr (12, [v13_0, .ref lr, v13_2, .int (zI (z13_rowN)), v13_4, .ref la, v13_6]))]) (cx := []) (pl := va_pl L (pE P)) [] rfl
    have hDc := hD.part (X := [(hc, .inr (12, [v13_0, .ref lr, v13_2, .int (zI (z13_rowN)), v13_4, .ref la, v13_6]))]) (cx := []) (pl := va_pl L (pE P)) [] (by decide) rfl
    have hKc := hK.sub (tys' := [(cO, .object "java/lang/Object")]) [2] rfl
    have hFc := va_freeP (X := [(hc, .inr (12, [v13_0, .ref lr, v13_2, .int (zI (z13_rowN)), v13_4, .ref la, v13_6]))]) (cx := []) (pl := va_pl L (pE P)) hD hS hA [] rfl
    refine va_callr (va_runV (As := [.int (zI (z13_rowN))]) (rest := []) ⟨hx, hb, hml, hown, hts⟩ (c_PL_get l dC dI cO L P lr z13_rowN x hX_x hX_k hX_q (by omega) hX_e0 H.size) (cwV 1 hts g_P13_rowQ_PL_get rfl rfl rfl (by decide +kernel) ⟨(Nat.le_of_ble_eq_true rfl), (Nat.le_of_ble_eq_true rfl)⟩) ⟨fun a U g mk q => by obtain ⟨q0, q1, qP, qK, qD⟩ := q; exact ⟨q0, q1, qP, va_K.moved (u := U) (U := U.calling g mk a) (Vm.Alike.refl U.vm) qK, qD⟩, recv_30 hKc hPc hC_lr.1 hC_lr.2.1, fun U hU hW => ⟨rfl, by rw [hU], by rw [hU]; exact hPc, va_K.moved hW.alike hKc, hDc.weaken (fun _ _ _ _ => trivial)⟩⟩ rfl rfl hl.1 rfl (lv_room (Nat.le_of_ble_eq_true rfl)) dX13_row_37 ⟨(Nat.le_of_ble_eq_true rfl), (Nat.le_of_ble_eq_true rfl)⟩) hS (fun q _ h => hFc q h) hFc (fun u q_4 t H1 locs ht hvm hw hB hz1 hk1 hS => ?_)
    obtain ⟨hxt_4, hP1, hK1, hD1⟩ := hB
    rw [ht] at hP1
    have hK1 := va_K.moved hvm.symm hK1
    obtain ⟨hP, hD⟩ := va_joinP (X := [(hc, .inr (12, [v13_0, .ref lr, v13_2, .int (zI (z13_rowN)), v13_4, .ref la, v13_6]))]) (cx := []) (wr := [(hc, .inr (12, [v13_0, .ref lr, v13_2, .int (zI (z13_rowN)), v13_4, .ref la, v13_6]))]) (rx := []) (pl := va_pl L (pE P)) (pl1 := va_pl L (pE P)) hP hD [] [0] rfl rfl (by decide) (by decide) hk1 hFc hP1 hD1
    have hK := (hK.sub (tys' := [(cI, .int), (cZ, .boolean)]) [0, 1] rfl).app hK1
    generalize H1 = H at hP hS ⊢
    have hP : va_P (dC, dI) vwQ ([(hc, .inr (12, [v13_0, .ref lr, v13_2, .int (zI (z13_rowN)), v13_4, .ref la, v13_6]))] ++ va_pl L (pE P)) H := hP
    have hD : va_D A ([(hc, .inr (12, [v13_0, .ref lr, v13_2, .int (zI (z13_rowN)), v13_4, .ref la, v13_6]))] ++ va_pl L (pE P)) := hD
    have hK : va_K (dC, dI) vwQ [(cI, .int), (cZ, .boolean), (cO, .object "java/lang/Object")] s := hK
    refine W.widen (k := 0) (n := 0) (Nat.le_of_ble_eq_true rfl) (Nat.le_of_ble_eq_true rfl) ?_
    rw [hxt_4]
    clear hX_e0
    obtain ⟨xr_5, h9⟩ : ∃ q9 : Nat, q9 = x := ⟨_, rfl⟩
    subst h9
    have hm_6 := hxm
    have hk_7 := hxk
    have hel9 := ex
    have hE_8 : P.ek xr_5 ≠ 1 := (by rw [ex]; exact (hX_g9.gla lr hC_lr.1 hC_lr.2.1).2.2 hC_lr.2.2.1 _ (by omega) (by omega))
    refine va_castY (C := "SsaForgeModel$Row") (nm := "SsaForgeModel$Row") hx hb hown (ow (k := 9) rfl) hp0 (recv_17 hK hP hm_6 hk_7) dX13_row_40 ?_
    refine lv_astore_n (lv' := [(1, .ref xr_5), (0, .ref hc)]) hx hb dX13_row_43 rfl hl (by decide) rfl (fun ls hl => ?_)
    refine lv_aload_n hx hb dX13_row_44 rfl (lv_at hl 1 rfl) ?_
    refine lv_dup hx hb dX13_row_45 rfl ?_
    refine va_get (D := (dC, dI)) (ci := 12) (v := .int (zI (z13_rowN))) (C := RX13) (T := TX13) (N := 7) hx hb hts mem_P13_rowQ_0 hown hK hP 0 rfl rfl 3 (by decide) (ow (k := 0) rfl) (fun _ h9 => h9) rfl dX13_row_46 ?_
    refine lv_iconst (v := 1) hx hb dX13_row_49 (by decide) ?_
    refine lv_iadd hx hb dX13_row_50 ?_
    refine lv_topi (fun z ez => ?_)
    obtain rfl : z = zI (z13_rowN + 1) := ez.trans (zI_add (z13_rowN) (1))
    refine va_put (D := (dC, dI)) (ci := 12) (v := .int (zI (z13_rowN + 1))) (ty := .int) (C := RX13) (T := TX13) (N := 7) hx hb hts mem_P13_rowQ_0 tyX13 tyX13_ok nmX13 hown hK hP hD hS 0 rfl rfl 3 (by decide) (ow (k := 0) rfl) (fun _ h9 => h9) rfl (by decide +kernel) rfl rfl (Nat.le_of_ble_eq_true rfl) dX13_row_51 (fun H locs hP hD hS => ?_)
    have hP : va_P (dC, dI) vwQ ([(hc, .inr (12, [v13_0, .ref lr, v13_2, .int (zI (z13_rowN + 1)), v13_4, .ref la, v13_6]))] ++ va_pl L (pE P)) H := hP
    have hD : va_D A ([(hc, .inr (12, [v13_0, .ref lr, v13_2, .int (zI (z13_rowN + 1)), v13_4, .ref la, v13_6]))] ++ va_pl L (pE P)) := hD
    obtain ⟨z_9, ez_9⟩ : ∃ z9 : Int, z9 = z13_rowN + 1 := ⟨_, rfl⟩
    rw [← ez_9] at hP hD
    have hP : va_P (dC, dI) vwQ ([(hc, .inr (12, [v13_0, .ref lr, v13_2, .int (zI (z_9)), v13_4, .ref la, v13_6]))] ++ va_pl L (pE P)) H := hP
    have hD : va_D A ([(hc, .inr (12, [v13_0, .ref lr, v13_2, .int (zI (z_9)), v13_4, .ref la, v13_6]))] ++ va_pl L (pE P)) := hD
    refine lv_aload_n hx hb dX13_row_54 rfl (lv_at hl 0 rfl) ?_
    refine lv_iconst (v := 0) hx hb dX13_row_55 (by decide) ?_
    have ⟨hr1, hr2, hr3, hr4, hr5, hr6, hr7, hr8, hr9⟩ := hX_g9.rokR hm_6 hk_7
    refine lv_topi (fun z ez => ?_)
    obtain rfl : z = zI (0) := ez
    obtain ⟨kp_10, gkp_10⟩ := va_pl_get (X := [(hc, .inr (12, [v13_0, .ref lr, v13_2, .int (zI (z_9)), v13_4, .ref la, v13_6]))]) (f := pE P) hm_6
    have hkp_10 := gkp_10
    rw [pE_row hk_7] at hkp_10
    have hD0 := hD
    refine va_put (D := (dC, dI)) (ci := 21) (v := .int (zI (0))) (ty := .boolean) (C := RX17) (T := TX17) (N := 7) hx hb hts mem_P13_rowQ_3 tyX17 tyX17_ok nmX17 hown hK hP hD hS kp_10 hkp_10 rfl 6 (by decide) (ow (k := 10) rfl) (fun _ h9 => h9) rfl (by decide +kernel) (zI_bool (by omega) (by omega)) (zI_fitb (by omega) (by omega)) (Nat.le_of_ble_eq_true rfl) dX13_row_56 (fun H locs hP hD hS => ?_)
    obtain ⟨Pw_11, ePw_11⟩ : ∃ q9 : PO, q9 = P.rw9 6 xr_5 (0) := ⟨_, rfl⟩
    have eU : (([(hc, .inr (12, [v13_0, .ref lr, v13_2, .int (zI (z_9)), v13_4, .ref la, v13_6]))] : va_W) ++ va_pl L (pE P)).set kp_10 (xr_5, rowE (P.ro xr_5) (P.rt xr_5) (P.ra xr_5) (P.rb xr_5) (P.rA xr_5) (P.rB xr_5) (0)) = ([(hc, .inr (12, [v13_0, .ref lr, v13_2, .int (zI (z_9)), v13_4, .ref la, v13_6]))] : va_W) ++ va_pl L (pE Pw_11) := (by rw [va_pl_set hD0 hm_6 gkp_10, ePw_11]; exact congrArg (fun f9 => ([(hc, .inr (12, [v13_0, .ref lr, v13_2, .int (zI (z_9)), v13_4, .ref la, v13_6]))] : va_W) ++ va_pl L f9) (put17_6 hk_7))
    have hP : va_P (dC, dI) vwQ ([(hc, .inr (12, [v13_0, .ref lr, v13_2, .int (zI (z_9)), v13_4, .ref la, v13_6]))] ++ va_pl L (pE Pw_11)) H := (by rw [← eU]; exact hP)
    have hD : va_D A ([(hc, .inr (12, [v13_0, .ref lr, v13_2, .int (zI (z_9)), v13_4, .ref la, v13_6]))] ++ va_pl L (pE Pw_11)) := (by rw [← eU]; exact hD)
    clear eU hD0 gkp_10 hkp_10
    have wPw_11 : RW1 xr_5 P Pw_11 := (by rw [ePw_11]; exact RW1.put _ _ _ _)
    have hy_12 : Pw_11.kd la = 30 := (by rw [ePw_11]; exact hC_la.2.1)
    have hy_13 : Pw_11.kd lr = 30 := (by rw [ePw_11]; exact hC_lr.2.1)
    have hy_14 : Pw_11.kd xr_5 = 17 := (by rw [ePw_11]; exact hk_7)
    have : Pw_11.ro xr_5 = P.ro xr_5 := (by rw [ePw_11]; exact rw9_of _ (by decide))
    have : Pw_11.rt xr_5 = P.rt xr_5 := (by rw [ePw_11]; exact rw9_of _ (by decide))
    have : Pw_11.ra xr_5 = P.ra xr_5 := (by rw [ePw_11]; exact rw9_of _ (by decide))
    have : Pw_11.rb xr_5 = P.rb xr_5 := (by rw [ePw_11]; exact rw9_of _ (by decide))
    have : Pw_11.rA xr_5 = P.rA xr_5 := (by rw [ePw_11]; exact rw9_of _ (by decide))
    have : Pw_11.rB xr_5 = P.rB xr_5 := (by rw [ePw_11]; exact rw9_of _ (by decide))
    have : Pw_11.rg xr_5 = 0 := (by rw [ePw_11]; exact rw9_at _ _ _ _)
    have : Pw_11.ek xr_5 = P.ek xr_5 := (by rw [ePw_11]; rfl)
    refine lv_aload_n hx hb dX13_row_59 rfl (lv_at hl 0 rfl) ?_
    refine lv_iconst (v := 0) hx hb dX13_row_60 (by decide) ?_
    refine lv_topi (fun z ez => ?_)
    obtain rfl : z = zI (0) := ez
    obtain ⟨kp_15, gkp_15⟩ := va_pl_get (X := [(hc, .inr (12, [v13_0, .ref lr, v13_2, .int (zI (z_9)), v13_4, .ref la, v13_6]))]) (f := pE Pw_11) hm_6
    have hkp_15 := gkp_15
    rw [pE_row hy_14] at hkp_15
    have hD0 := hD
    refine va_put (D := (dC, dI)) (ci := 21) (v := .int (zI (0))) (ty := .boolean) (C := RX17) (T := TX17) (N := 7) hx hb hts mem_P13_rowQ_3 tyX17 tyX17_ok nmX17 hown hK hP hD hS kp_15 hkp_15 rfl 4 (by decide) (ow (k := 11) rfl) (fun _ h9 => h9) rfl (by decide +kernel) (zI_bool (by omega) (by omega)) (zI_fitb (by omega) (by omega)) (Nat.le_of_ble_eq_true rfl) dX13_row_61 (fun H locs hP hD hS => ?_)
    obtain ⟨Pw_16, ePw_16⟩ : ∃ q9 : PO, q9 = Pw_11.rw9 4 xr_5 (0) := ⟨_, rfl⟩
    have eU : (([(hc, .inr (12, [v13_0, .ref lr, v13_2, .int (zI (z_9)), v13_4, .ref la, v13_6]))] : va_W) ++ va_pl L (pE Pw_11)).set kp_15 (xr_5, rowE (Pw_11.ro xr_5) (Pw_11.rt xr_5) (Pw_11.ra xr_5) (Pw_11.rb xr_5) (0) (Pw_11.rB xr_5) (Pw_11.rg xr_5)) = ([(hc, .inr (12, [v13_0, .ref lr, v13_2, .int (zI (z_9)), v13_4, .ref la, v13_6]))] : va_W) ++ va_pl L (pE Pw_16) := (by rw [va_pl_set hD0 hm_6 gkp_15, ePw_16]; exact congrArg (fun f9 => ([(hc, .inr (12, [v13_0, .ref lr, v13_2, .int (zI (z_9)), v13_4, .ref la, v13_6]))] : va_W) ++ va_pl L f9) (put17_4 hy_14))
    have hP : va_P (dC, dI) vwQ ([(hc, .inr (12, [v13_0, .ref lr, v13_2, .int (zI (z_9)), v13_4, .ref la, v13_6]))] ++ va_pl L (pE Pw_16)) H := (by rw [← eU]; exact hP)
    have hD : va_D A ([(hc, .inr (12, [v13_0, .ref lr, v13_2, .int (zI (z_9)), v13_4, .ref la, v13_6]))] ++ va_pl L (pE Pw_16)) := (by rw [← eU]; exact hD)
    clear eU hD0 gkp_15 hkp_15
    have wPw_16 : RW1 xr_5 Pw_11 Pw_16 := (by rw [ePw_16]; exact RW1.put _ _ _ _)
    have hy_17 : Pw_16.kd la = 30 := (by rw [ePw_16]; exact hy_12)
    have hy_18 : Pw_16.kd lr = 30 := (by rw [ePw_16]; exact hy_13)
    have hy_19 : Pw_16.kd xr_5 = 17 := (by rw [ePw_16]; exact hy_14)
    have : Pw_16.ro xr_5 = Pw_11.ro xr_5 := (by rw [ePw_16]; exact rw9_of _ (by decide))
    have : Pw_16.rt xr_5 = Pw_11.rt xr_5 := (by rw [ePw_16]; exact rw9_of _ (by decide))
    have : Pw_16.ra xr_5 = Pw_11.ra xr_5 := (by rw [ePw_16]; exact rw9_of _ (by decide))
    have : Pw_16.rb xr_5 = Pw_11.rb xr_5 := (by rw [ePw_16]; exact rw9_of _ (by decide))
    have : Pw_16.rA xr_5 = 0 := (by rw [ePw_16]; exact rw9_at _ _ _ _)
    have : Pw_16.rB xr_5 = Pw_11.rB xr_5 := (by rw [ePw_16]; exact rw9_of _ (by decide))
    have : Pw_16.rg xr_5 = Pw_11.rg xr_5 := (by rw [ePw_16]; exact rw9_of _ (by decide))
    have : Pw_16.ek xr_5 = Pw_11.ek xr_5 := (by rw [ePw_16]; rfl)
    refine lv_aload_n hx hb dX13_row_64 rfl (lv_at hl 0 rfl) ?_
    refine lv_iconst (v := 0) hx hb dX13_row_65 (by decide) ?_
    refine lv_topi (fun z ez => ?_)
    obtain rfl : z = zI (0) := ez
    obtain ⟨kp_20, gkp_20⟩ := va_pl_get (X := [(hc, .inr (12, [v13_0, .ref lr, v13_2, .int (zI (z_9)), v13_4, .ref la, v13_6]))]) (f := pE Pw_16) hm_6
    have hkp_20 := gkp_20
    rw [pE_row hy_19] at hkp_20
    have hD0 := hD
    refine va_put (D := (dC, dI)) (ci := 21) (v := .int (zI (0))) (ty := .boolean) (C := RX17) (T := TX17) (N := 7) hx hb hts mem_P13_rowQ_3 tyX17 tyX17_ok nmX17 hown hK hP hD hS kp_20 hkp_20 rfl 5 (by decide) (ow (k := 12) rfl) (fun _ h9 => h9) rfl (by decide +kernel) (zI_bool (by omega) (by omega)) (zI_fitb (by omega) (by omega)) (Nat.le_of_ble_eq_true rfl) dX13_row_66 (fun H locs hP hD hS => ?_)
    obtain ⟨Pw_21, ePw_21⟩ : ∃ q9 : PO, q9 = Pw_16.rw9 5 xr_5 (0) := ⟨_, rfl⟩
    have eU : (([(hc, .inr (12, [v13_0, .ref lr, v13_2, .int (zI (z_9)), v13_4, .ref la, v13_6]))] : va_W) ++ va_pl L (pE Pw_16)).set kp_20 (xr_5, rowE (Pw_16.ro xr_5) (Pw_16.rt xr_5) (Pw_16.ra xr_5) (Pw_16.rb xr_5) (Pw_16.rA xr_5) (0) (Pw_16.rg xr_5)) = ([(hc, .inr (12, [v13_0, .ref lr, v13_2, .int (zI (z_9)), v13_4, .ref la, v13_6]))] : va_W) ++ va_pl L (pE Pw_21) := (by rw [va_pl_set hD0 hm_6 gkp_20, ePw_21]; exact congrArg (fun f9 => ([(hc, .inr (12, [v13_0, .ref lr, v13_2, .int (zI (z_9)), v13_4, .ref la, v13_6]))] : va_W) ++ va_pl L f9) (put17_5 hy_19))
    have hP : va_P (dC, dI) vwQ ([(hc, .inr (12, [v13_0, .ref lr, v13_2, .int (zI (z_9)), v13_4, .ref la, v13_6]))] ++ va_pl L (pE Pw_21)) H := (by rw [← eU]; exact hP)
    have hD : va_D A ([(hc, .inr (12, [v13_0, .ref lr, v13_2, .int (zI (z_9)), v13_4, .ref la, v13_6]))] ++ va_pl L (pE Pw_21)) := (by rw [← eU]; exact hD)
    clear eU hD0 gkp_20 hkp_20
    have wPw_21 : RW1 xr_5 Pw_16 Pw_21 := (by rw [ePw_21]; exact RW1.put _ _ _ _)
    have hy_22 : Pw_21.kd la = 30 := (by rw [ePw_21]; exact hy_17)
    have hy_23 : Pw_21.kd lr = 30 := (by rw [ePw_21]; exact hy_18)
    have hy_24 : Pw_21.kd xr_5 = 17 := (by rw [ePw_21]; exact hy_19)
    have : Pw_21.ro xr_5 = Pw_16.ro xr_5 := (by rw [ePw_21]; exact rw9_of _ (by decide))
    have : Pw_21.rt xr_5 = Pw_16.rt xr_5 := (by rw [ePw_21]; exact rw9_of _ (by decide))
    have : Pw_21.ra xr_5 = Pw_16.ra xr_5 := (by rw [ePw_21]; exact rw9_of _ (by decide))
    have : Pw_21.rb xr_5 = Pw_16.rb xr_5 := (by rw [ePw_21]; exact rw9_of _ (by decide))
    have : Pw_21.rA xr_5 = Pw_16.rA xr_5 := (by rw [ePw_21]; exact rw9_of _ (by decide))
    have : Pw_21.rB xr_5 = 0 := (by rw [ePw_21]; exact rw9_at _ _ _ _)
    have : Pw_21.rg xr_5 = Pw_16.rg xr_5 := (by rw [ePw_21]; exact rw9_of _ (by decide))
    have : Pw_21.ek xr_5 = Pw_16.ek xr_5 := (by rw [ePw_21]; rfl)
    refine lv_aload_n hx hb dX13_row_69 rfl (lv_at hl 0 rfl) ?_
    refine lv_iconst (v := 0) hx hb dX13_row_70 (by decide) ?_
    refine lv_topi (fun z ez => ?_)
    obtain rfl : z = zI (0) := ez
    obtain ⟨kp_25, gkp_25⟩ := va_pl_get (X := [(hc, .inr (12, [v13_0, .ref lr, v13_2, .int (zI (z_9)), v13_4, .ref la, v13_6]))]) (f := pE Pw_21) hm_6
    have hkp_25 := gkp_25
    rw [pE_row hy_24] at hkp_25
    have hD0 := hD
    refine va_put (D := (dC, dI)) (ci := 21) (v := .int (zI (0))) (ty := .int) (C := RX17) (T := TX17) (N := 7) hx hb hts mem_P13_rowQ_3 tyX17 tyX17_ok nmX17 hown hK hP hD hS kp_25 hkp_25 rfl 2 (by decide) (ow (k := 13) rfl) (fun _ h9 => h9) rfl (by decide +kernel) rfl rfl (Nat.le_of_ble_eq_true rfl) dX13_row_71 (fun H locs hP hD hS => ?_)
    obtain ⟨Pw_26, ePw_26⟩ : ∃ q9 : PO, q9 = Pw_21.rw9 2 xr_5 (0) := ⟨_, rfl⟩
    have eU : (([(hc, .inr (12, [v13_0, .ref lr, v13_2, .int (zI (z_9)), v13_4, .ref la, v13_6]))] : va_W) ++ va_pl L (pE Pw_21)).set kp_25 (xr_5, rowE (Pw_21.ro xr_5) (Pw_21.rt xr_5) (0) (Pw_21.rb xr_5) (Pw_21.rA xr_5) (Pw_21.rB xr_5) (Pw_21.rg xr_5)) = ([(hc, .inr (12, [v13_0, .ref lr, v13_2, .int (zI (z_9)), v13_4, .ref la, v13_6]))] : va_W) ++ va_pl L (pE Pw_26) := (by rw [va_pl_set hD0 hm_6 gkp_25, ePw_26]; exact congrArg (fun f9 => ([(hc, .inr (12, [v13_0, .ref lr, v13_2, .int (zI (z_9)), v13_4, .ref la, v13_6]))] : va_W) ++ va_pl L f9) (put17_2 hy_24))
    have hP : va_P (dC, dI) vwQ ([(hc, .inr (12, [v13_0, .ref lr, v13_2, .int (zI (z_9)), v13_4, .ref la, v13_6]))] ++ va_pl L (pE Pw_26)) H := (by rw [← eU]; exact hP)
    have hD : va_D A ([(hc, .inr (12, [v13_0, .ref lr, v13_2, .int (zI (z_9)), v13_4, .ref la, v13_6]))] ++ va_pl L (pE Pw_26)) := (by rw [← eU]; exact hD)
    clear eU hD0 gkp_25 hkp_25
    have wPw_26 : RW1 xr_5 Pw_21 Pw_26 := (by rw [ePw_26]; exact RW1.put _ _ _ _)
    have hy_27 : Pw_26.kd la = 30 := (by rw [ePw_26]; exact hy_22)
    have hy_28 : Pw_26.kd lr = 30 := (by rw [ePw_26]; exact hy_23)
    have hy_29 : Pw_26.kd xr_5 = 17 := (by rw [ePw_26]; exact hy_24)
    have : Pw_26.ro xr_5 = Pw_21.ro xr_5 := (by rw [ePw_26]; exact rw9_of _ (by decide))
    have : Pw_26.rt xr_5 = Pw_21.rt xr_5 := (by rw [ePw_26]; exact rw9_of _ (by decide))
    have : Pw_26.ra xr_5 = 0 := (by rw [ePw_26]; exact rw9_at _ _ _ _)
    have : Pw_26.rb xr_5 = Pw_21.rb xr_5 := (by rw [ePw_26]; exact rw9_of _ (by decide))
    have : Pw_26.rA xr_5 = Pw_21.rA xr_5 := (by rw [ePw_26]; exact rw9_of _ (by decide))
    have : Pw_26.rB xr_5 = Pw_21.rB xr_5 := (by rw [ePw_26]; exact rw9_of _ (by decide))
    have : Pw_26.rg xr_5 = Pw_21.rg xr_5 := (by rw [ePw_26]; exact rw9_of _ (by decide))
    have : Pw_26.ek xr_5 = Pw_21.ek xr_5 := (by rw [ePw_26]; rfl)
    refine lv_aload_n hx hb dX13_row_74 rfl (lv_at hl 0 rfl) ?_
    refine lv_iconst (v := 0) hx hb dX13_row_75 (by decide) ?_
    refine lv_topi (fun z ez => ?_)
    obtain rfl : z = zI (0) := ez
    obtain ⟨kp_30, gkp_30⟩ := va_pl_get (X := [(hc, .inr (12, [v13_0, .ref lr, v13_2, .int (zI (z_9)), v13_4, .ref la, v13_6]))]) (f := pE Pw_26) hm_6
    have hkp_30 := gkp_30
    rw [pE_row hy_29] at hkp_30
    have hD0 := hD
    refine va_put (D := (dC, dI)) (ci := 21) (v := .int (zI (0))) (ty := .int) (C := RX17) (T := TX17) (N := 7) hx hb hts mem_P13_rowQ_3 tyX17 tyX17_ok nmX17 hown hK hP hD hS kp_30 hkp_30 rfl 3 (by decide) (ow (k := 14) rfl) (fun _ h9 => h9) rfl (by decide +kernel) rfl rfl (Nat.le_of_ble_eq_true rfl) dX13_row_76 (fun H locs hP hD hS => ?_)
    obtain ⟨Pw_31, ePw_31⟩ : ∃ q9 : PO, q9 = Pw_26.rw9 3 xr_5 (0) := ⟨_, rfl⟩
    have eU : (([(hc, .inr (12, [v13_0, .ref lr, v13_2, .int (zI (z_9)), v13_4, .ref la, v13_6]))] : va_W) ++ va_pl L (pE Pw_26)).set kp_30 (xr_5, rowE (Pw_26.ro xr_5) (Pw_26.rt xr_5) (Pw_26.ra xr_5) (0) (Pw_26.rA xr_5) (Pw_26.rB xr_5) (Pw_26.rg xr_5)) = ([(hc, .inr (12, [v13_0, .ref lr, v13_2, .int (zI (z_9)), v13_4, .ref la, v13_6]))] : va_W) ++ va_pl L (pE Pw_31) := (by rw [va_pl_set hD0 hm_6 gkp_30, ePw_31]; exact congrArg (fun f9 => ([(hc, .inr (12, [v13_0, .ref lr, v13_2, .int (zI (z_9)), v13_4, .ref la, v13_6]))] : va_W) ++ va_pl L f9) (put17_3 hy_29))
    have hP : va_P (dC, dI) vwQ ([(hc, .inr (12, [v13_0, .ref lr, v13_2, .int (zI (z_9)), v13_4, .ref la, v13_6]))] ++ va_pl L (pE Pw_31)) H := (by rw [← eU]; exact hP)
    have hD : va_D A ([(hc, .inr (12, [v13_0, .ref lr, v13_2, .int (zI (z_9)), v13_4, .ref la, v13_6]))] ++ va_pl L (pE Pw_31)) := (by rw [← eU]; exact hD)
    clear eU hD0 gkp_30 hkp_30
    have wPw_31 : RW1 xr_5 Pw_26 Pw_31 := (by rw [ePw_31]; exact RW1.put _ _ _ _)
    have hy_32 : Pw_31.kd la = 30 := (by rw [ePw_31]; exact hy_27)
    have hy_33 : Pw_31.kd lr = 30 := (by rw [ePw_31]; exact hy_28)
    have hy_34 : Pw_31.kd xr_5 = 17 := (by rw [ePw_31]; exact hy_29)
    have : Pw_31.ro xr_5 = Pw_26.ro xr_5 := (by rw [ePw_31]; exact rw9_of _ (by decide))
    have : Pw_31.rt xr_5 = Pw_26.rt xr_5 := (by rw [ePw_31]; exact rw9_of _ (by decide))
    have : Pw_31.ra xr_5 = Pw_26.ra xr_5 := (by rw [ePw_31]; exact rw9_of _ (by decide))
    have : Pw_31.rb xr_5 = 0 := (by rw [ePw_31]; exact rw9_at _ _ _ _)
    have : Pw_31.rA xr_5 = Pw_26.rA xr_5 := (by rw [ePw_31]; exact rw9_of _ (by decide))
    have : Pw_31.rB xr_5 = Pw_26.rB xr_5 := (by rw [ePw_31]; exact rw9_of _ (by decide))
    have : Pw_31.rg xr_5 = Pw_26.rg xr_5 := (by rw [ePw_31]; exact rw9_of _ (by decide))
    have : Pw_31.ek xr_5 = Pw_26.ek xr_5 := (by rw [ePw_31]; rfl)
    refine lv_aload_n hx hb dX13_row_79 rfl (lv_at hl 0 rfl) ?_
    refine lv_iconst (v := 0) hx hb dX13_row_80 (by decide) ?_
    refine lv_topi (fun z ez => ?_)
    obtain rfl : z = zI (0) := ez
    obtain ⟨kp_35, gkp_35⟩ := va_pl_get (X := [(hc, .inr (12, [v13_0, .ref lr, v13_2, .int (zI (z_9)), v13_4, .ref la, v13_6]))]) (f := pE Pw_31) hm_6
    have hkp_35 := gkp_35
    rw [pE_row hy_34] at hkp_35
    have hD0 := hD
    refine va_put (D := (dC, dI)) (ci := 21) (v := .int (zI (0))) (ty := .int) (C := RX17) (T := TX17) (N := 7) hx hb hts mem_P13_rowQ_3 tyX17 tyX17_ok nmX17 hown hK hP hD hS kp_35 hkp_35 rfl 1 (by decide) (ow (k := 15) rfl) (fun _ h9 => h9) rfl (by decide +kernel) rfl rfl (Nat.le_of_ble_eq_true rfl) dX13_row_81 (fun H locs hP hD hS => ?_)
    obtain ⟨Pw_36, ePw_36⟩ : ∃ q9 : PO, q9 = Pw_31.rw9 1 xr_5 (0) := ⟨_, rfl⟩
    have eU : (([(hc, .inr (12, [v13_0, .ref lr, v13_2, .int (zI (z_9)), v13_4, .ref la, v13_6]))] : va_W) ++ va_pl L (pE Pw_31)).set kp_35 (xr_5, rowE (Pw_31.ro xr_5) (0) (Pw_31.ra xr_5) (Pw_31.rb xr_5) (Pw_31.rA xr_5) (Pw_31.rB xr_5) (Pw_31.rg xr_5)) = ([(hc, .inr (12, [v13_0, .ref lr, v13_2, .int (zI (z_9)), v13_4, .ref la, v13_6]))] : va_W) ++ va_pl L (pE Pw_36) := (by rw [va_pl_set hD0 hm_6 gkp_35, ePw_36]; exact congrArg (fun f9 => ([(hc, .inr (12, [v13_0, .ref lr, v13_2, .int (zI (z_9)), v13_4, .ref la, v13_6]))] : va_W) ++ va_pl L f9) (put17_1 hy_34))
    have hP : va_P (dC, dI) vwQ ([(hc, .inr (12, [v13_0, .ref lr, v13_2, .int (zI (z_9)), v13_4, .ref la, v13_6]))] ++ va_pl L (pE Pw_36)) H := (by rw [← eU]; exact hP)
    have hD : va_D A ([(hc, .inr (12, [v13_0, .ref lr, v13_2, .int (zI (z_9)), v13_4, .ref la, v13_6]))] ++ va_pl L (pE Pw_36)) := (by rw [← eU]; exact hD)
    clear eU hD0 gkp_35 hkp_35
    have wPw_36 : RW1 xr_5 Pw_31 Pw_36 := (by rw [ePw_36]; exact RW1.put _ _ _ _)
    have hy_37 : Pw_36.kd la = 30 := (by rw [ePw_36]; exact hy_32)
    have hy_38 : Pw_36.kd lr = 30 := (by rw [ePw_36]; exact hy_33)
    have hy_39 : Pw_36.kd xr_5 = 17 := (by rw [ePw_36]; exact hy_34)
    have : Pw_36.ro xr_5 = Pw_31.ro xr_5 := (by rw [ePw_36]; exact rw9_of _ (by decide))
    have : Pw_36.rt xr_5 = 0 := (by rw [ePw_36]; exact rw9_at _ _ _ _)
    have : Pw_36.ra xr_5 = Pw_31.ra xr_5 := (by rw [ePw_36]; exact rw9_of _ (by decide))
    have : Pw_36.rb xr_5 = Pw_31.rb xr_5 := (by rw [ePw_36]; exact rw9_of _ (by decide))
    have : Pw_36.rA xr_5 = Pw_31.rA xr_5 := (by rw [ePw_36]; exact rw9_of _ (by decide))
    have : Pw_36.rB xr_5 = Pw_31.rB xr_5 := (by rw [ePw_36]; exact rw9_of _ (by decide))
    have : Pw_36.rg xr_5 = Pw_31.rg xr_5 := (by rw [ePw_36]; exact rw9_of _ (by decide))
    have : Pw_36.ek xr_5 = Pw_31.ek xr_5 := (by rw [ePw_36]; rfl)
    have hW_40 : RW1 xr_5 P Pw_36 := wPw_11.trans (wPw_16.trans (wPw_21.trans (wPw_26.trans (wPw_31.trans (wPw_36)))))
    have hrw_43 : RWD P Pw_36 := hW_40.rwd (Or.inl hk_7)
    have hak_42 : GLR L Pw_36 cO cI cZ sx_ed := hX_g9.row hW_40 hk_7 (ROKR.of (by omega) (by omega) (by omega) (by omega) (by omega) (by omega) (by omega) (rUA9R (by have q9 := rUsA_spec (P.ro xr_5) (P.rA xr_5); omega)) (rUB9R (by have q9 := rUsB_spec (P.ro xr_5) (P.rB xr_5); omega))) (fun e9 => by have q9 := hX_g9.op21 hm_6 hk_7 e9; omega)
    have hke_41 : KEG [lr] L P L Pw_36 := hrw_43.kegR _ hC_la.2.1
    have hps := PSI.same (w := wSL) (L := L) (congrArg Prod.fst hW_40.1)
    have hpc := PSI.same (w := wCE) (L := L) (congrArg Prod.fst hW_40.1)
    have hlv_44 : LVA L Pw_36 := LVA.same hX_V (congrArg Prod.fst hW_40.1)
    have hq_45 : la ∈ L ∧ Pw_36.kd la = 30 := hke_41.mem hC_la.1 hC_la.2.1 (by decide)
    have hq_46 : lr ∈ L ∧ Pw_36.kd lr = 30 := hke_41.mem hC_lr.1 hC_lr.2.1 (by decide)
    have hq_47 : xr_5 ∈ L ∧ Pw_36.kd xr_5 = 17 := hke_41.mem hm_6 hk_7 (by decide)
    have hE_48 : Pw_36.ek xr_5 ≠ 1 := (by rw [hke_41.ek hm_6 hk_7 (by decide)]; exact hE_8)
    have hA_49 : KEG [lr] L P L Pw_36 := (KEG.refl [lr] L P).trans hke_41
    have : Pw_36.lz la = P.lz la := hrw_43.lz hC_la.2.1
    have : Pw_36.lz lr = P.lz lr := hrw_43.lz hC_lr.2.1
    have : Pw_36.cap la = P.cap la := hW_40.cap la
    have : LVS (Pw_36.cap la) = LVS (P.cap la) := congrArg LVS (hW_40.cap la)
    have : Pw_36.cap lr = P.cap lr := hW_40.cap lr
    have : LVS (Pw_36.cap lr) = LVS (P.cap lr) := congrArg LVS (hW_40.cap lr)
    have hek_50 : Pw_36.ek la = 12 := (by rw [hke_41.ek hC_la.1 hC_la.2.1 (by decide)]; exact hC_la.2.2.1)
    have how_51 : Pw_36.ow la = la := ((hke_41.1 la hC_la.1 (by rw [hC_la.2.1]; decide)).2.2.2.1 hC_la.2.1 hC_la.2.2.2).1
    have hcz := (((hke_41.1 la hC_la.1 (by rw [hC_la.2.1]; decide)).2.2.2.1 hC_la.2.1 hC_la.2.2.2).2 (fun q9 => by have h9 := hC_la.2.2.1; rw [List.mem_singleton.mp q9] at h9; omega)).1
    have hek_52 : Pw_36.ek lr = 17 := (by rw [hke_41.ek hC_lr.1 hC_lr.2.1 (by decide)]; exact hC_lr.2.2.1)
    have how_53 : Pw_36.ow lr = lr := ((hke_41.1 lr hC_lr.1 (by rw [hC_lr.2.1]; decide)).2.2.2.1 hC_lr.2.1 hC_lr.2.2.2).1
    refine lv_aload_n hx hb dX13_row_84 rfl (lv_at hl 0 rfl) ?_
    subst hQ
    have hK := hK.sub (tys' := [(cO, .object "java/lang/Object"), (cI, .int), (cZ, .boolean)]) [2, 0, 1] rfl
    refine W_knowS (fun hrm9 => ?_)
    refine W.widen (k := 2) (n := 6253) (Nat.le_of_ble_eq_true rfl) (Nat.le_of_ble_eq_true rfl) ?_
    exact W.aret (v := .ref xr_5) hx hb hr (Or.inl ⟨_, rfl⟩) (Or.inr ⟨_, rfl⟩) (fun t ht hW => ⟨⟨(), xr_5, rfl, trivial, z_9, L, Pw_36, 0, 0, ⟨⟨(by rw [ht, ← hp1]; exact hrm9), (by omega)⟩, ⟨(by omega), ⟨hA_49, hak_42, ⟨⟨hq_47.1, hq_47.2, hE_48⟩, ⟨by omega, (show _ ∨ _ from by omega)⟩, ⟨by omega, by omega⟩, ((hW_40.chg _).wk (fun z m q9 => Or.inl q9)), (fun y _ _ _ => hW_40.cap y), (fun _ => ⟨hk_7, hE_8⟩)⟩, ⟨(by rw [hW_40.el]; exact hel9), (fun i i0 i1 => hW_40.el _ _), (Or.inl (by omega))⟩, by omega, hlv_44, ⟨by omega, by omega, by omega⟩, ⟨(by rw [hW_40.cap lr]; omega), (by rw [hW_40.cap lr]; omega)⟩, NWO.rw hW_40.1⟩⟩⟩, by rw [ht]; exact hP, va_K.moved hW.alike hK, hD⟩, hS.F ht⟩) hS.2.2 dX13_row_85
  · have yb11 : (z13_rowN : Int) = (P.lz lr : Int) := (zI_eq (a := z13_rowN) (b := P.lz lr) (by omega) (by omega) (by omega) (by omega)).mp b11
    refine lv_aload_n hx hb dX13_row_14 rfl (lv_at hl 0 rfl) ?_
    refine va_get (D := (dC, dI)) (ci := 12) (v := .ref lr) (C := RX13) (T := TX13) (N := 7) hx hb hts mem_P13_rowQ_0 hown hK hP 0 rfl rfl 1 (by decide) (ow (k := 1) rfl) (fun _ h9 => h9) rfl dX13_row_15 ?_
    refine va_new (ci := 21) (fs := [.int 0, .int 0, .int 0, .int 0, .int 0, .int 0, .int 0]) (C := RX17) (T := TX17) (N := 7) hx hb hts mem_P13_rowQ_3 tyX17 tyX17_ok hown (ow (k := 16) rfl) (ow (k := 17) rfl) (ow (k := 18) rfl) hK hP hD hS hA rfl (df_X17) (Nat.le_of_ble_eq_true rfl) (Nat.le_of_ble_eq_true rfl) dX13_row_18 (fun q_54 H hP hD hS => ?_)
    have hP := pl_Pp (pl_new (X := [(hc, .inr (12, [v13_0, .ref lr, v13_2, .int (zI (z13_rowN)), v13_4, .ref la, v13_6]))]) (pl := va_pl L (pE P))) hP
    have hD := pl_Dp (pl_new (X := [(hc, .inr (12, [v13_0, .ref lr, v13_2, .int (zI (z13_rowN)), v13_4, .ref la, v13_6]))]) (pl := va_pl L (pE P))) hD
    have hP : va_P (dC, dI) vwQ ([(hc, .inr (12, [v13_0, .ref lr, v13_2, .int (zI (z13_rowN)), v13_4, .ref la, v13_6])), (q_54, .inr (21, [.int 0, .int 0, .int 0, .int 0, .int 0, .int 0, .int 0]))] ++ va_pl L (pE P)) H := hP
    have hD : va_D A ([(hc, .inr (12, [v13_0, .ref lr, v13_2, .int (zI (z13_rowN)), v13_4, .ref la, v13_6])), (q_54, .inr (21, [.int 0, .int 0, .int 0, .int 0, .int 0, .int 0, .int 0]))] ++ va_pl L (pE P)) := hD
    refine W.widen (k := 1) (n := 7) (Nat.le_of_ble_eq_true rfl) (Nat.le_of_ble_eq_true rfl) ?_
    refine lv_dup hx hb dX13_row_21 rfl ?_
    have hPc := hP.sub (ws' := [(q_54, .inr (21, [.int 0, .int 0, .int 0, .int 0, .int 0, .int 0, .int 0]))]) [1] rfl
    have hDc := hD.sub (ws' := [(q_54, .inr (21, [.int 0, .int 0, .int 0, .int 0, .int 0, .int 0, .int 0]))]) [1] (by decide) rfl
    have hKc := hK.sub (tys' := []) [] rfl
    have hFc := va_free (wc := [(q_54, .inr (21, [.int 0, .int 0, .int 0, .int 0, .int 0, .int 0, .int 0]))]) hD hS hA [1] rfl
    refine va_callv (va_runIN (As := []) (rest := [.ref q_54, .ref lr]) ⟨hx, hb, hml, hown, hts⟩ (c_X17_init l dC dI q_54 (.int 0) (.int 0) (.int 0) (.int 0) (.int 0) (.int 0) (.int 0) H.size) ⟨va_cnB 0 hts (goodIn_sub mem_P13_rowQ_4 gw_X17_init) rfl rfl rfl hp2 (ow (k := 18) rfl) (by decide +kernel) ⟨(Nat.le_of_ble_eq_true rfl), (Nat.le_of_ble_eq_true rfl)⟩, rfl, (ow (k := 19) rfl)⟩ ⟨fun a U g mk q => by obtain ⟨q0, q1, qP, qK, qD⟩ := q; exact ⟨q0, q1, qP, va_K.moved (u := U) (U := U.calling g mk a) (Vm.Alike.refl U.vm) qK, qD⟩, fun U hU hW => ⟨rfl, by rw [hU], by rw [hU]; exact hPc, va_K.moved hW.alike hKc, hDc.weaken (fun _ _ _ _ => trivial)⟩⟩ rfl rfl hl.1 rfl (lv_room (Nat.le_of_ble_eq_true rfl)) dX13_row_22 ⟨(Nat.le_of_ble_eq_true rfl), (Nat.le_of_ble_eq_true rfl)⟩) hS (fun q _ h => hFc q h) hFc (fun  u t H1 locs ht hvm hw hB hz1 hk1 hS => ?_)
    obtain ⟨hP1, hK1, hD1⟩ := hB
    rw [ht] at hP1
    have hK1 := va_K.moved hvm.symm hK1
    obtain ⟨hP, hD⟩ := va_joinQ (X := [(hc, .inr (12, [v13_0, .ref lr, v13_2, .int (zI (z13_rowN)), v13_4, .ref la, v13_6])), (q_54, .inr (21, [.int 0, .int 0, .int 0, .int 0, .int 0, .int 0, .int 0]))]) (cx := [(q_54, .inr (21, [.int 0, .int 0, .int 0, .int 0, .int 0, .int 0, .int 0]))]) (wr := [(hc, .inr (12, [v13_0, .ref lr, v13_2, .int (zI (z13_rowN)), v13_4, .ref la, v13_6]))]) (w1 := [(q_54, .inr (21, [.int 0, .int 0, .int 0, .int 0, .int 0, .int 0, .int 0]))]) (pl := va_pl L (pE P)) hP hD [1] [0] rfl rfl (by decide) (by decide) hk1 hFc hP1 hD1
    have hK := (hK.sub (tys' := [(cI, .int), (cZ, .boolean), (cO, .object "java/lang/Object")]) [0, 1, 2] rfl).app hK1
    generalize H1 = H at hP hS ⊢
    have hP : va_P (dC, dI) vwQ ([(hc, .inr (12, [v13_0, .ref lr, v13_2, .int (zI (z13_rowN)), v13_4, .ref la, v13_6])), (q_54, .inr (21, [.int 0, .int 0, .int 0, .int 0, .int 0, .int 0, .int 0]))] ++ va_pl L (pE P)) H := hP
    have hD : va_D A ([(hc, .inr (12, [v13_0, .ref lr, v13_2, .int (zI (z13_rowN)), v13_4, .ref la, v13_6])), (q_54, .inr (21, [.int 0, .int 0, .int 0, .int 0, .int 0, .int 0, .int 0]))] ++ va_pl L (pE P)) := hD
    have hK : va_K (dC, dI) vwQ [(cI, .int), (cZ, .boolean), (cO, .object "java/lang/Object")] s := hK
    refine W.widen (k := 1) (n := 7) (Nat.le_of_ble_eq_true rfl) (Nat.le_of_ble_eq_true rfl) ?_
    have hqn_57 : q_54 ∉ L := pl_notin (X := [(hc, .inr (12, [v13_0, .ref lr, v13_2, .int (zI (z13_rowN)), v13_4, .ref la, v13_6]))]) hD
    obtain ⟨Pm_55, ePm_55⟩ : ∃ Q9 : PO, Q9 = P.mrow q_54 0 := ⟨_, rfl⟩
    obtain ⟨Lm_56, eLm_56⟩ : ∃ l9 : List Nat, l9 = q_54 :: L := ⟨_, rfl⟩
    obtain ⟨hP, hD⟩ := pool_new (X := [(hc, .inr (12, [v13_0, .ref lr, v13_2, .int (zI (z13_rowN)), v13_4, .ref la, v13_6]))]) (P' := Pm_55) (by rw [ePm_55]; exact pE_mrow P q_54 0) hP hD
    rw [← eLm_56] at hP hD
    have hex_58 : EXT9 L P Lm_56 Pm_55 := (by rw [eLm_56, ePm_55]; exact EXT9.one hqn_57)
    have hm9 := mrow_at P q_54 0
    rw [← ePm_55] at hm9
    have hak_59 : GLR Lm_56 Pm_55 cO cI cZ sx_ed := (by rw [eLm_56] at hex_58 ⊢; exact hX_g9.new1R hex_58 (by rw [ePm_55]; exact mrow_newR _ _ _ _ _ _ _ _))
    have hke_60 : KEG [lr] L P Lm_56 Pm_55 := hex_58.kegR hX_g9
    have hP : va_P (dC, dI) vwQ ([(hc, .inr (12, [v13_0, .ref lr, v13_2, .int (zI (z13_rowN)), v13_4, .ref la, v13_6]))] ++ va_pl Lm_56 (pE Pm_55)) H := hP
    have hD : va_D A ([(hc, .inr (12, [v13_0, .ref lr, v13_2, .int (zI (z13_rowN)), v13_4, .ref la, v13_6]))] ++ va_pl Lm_56 (pE Pm_55)) := hD
    have hq_61 : la ∈ Lm_56 ∧ Pm_55.kd la = 30 := hke_60.mem hC_la.1 hC_la.2.1 (by decide)
    have hq_62 : lr ∈ Lm_56 ∧ Pm_55.kd lr = 30 := hke_60.mem hC_lr.1 hC_lr.2.1 (by decide)
    have hA_63 : KEG [lr] L P Lm_56 Pm_55 := (KEG.refl [lr] L P).trans hke_60
    have : Pm_55.lz la = P.lz la := (hex_58 la hC_la.1).2.1 0
    have : Pm_55.lz lr = P.lz lr := (hex_58 lr hC_lr.1).2.1 0
    have : Pm_55.cap la = P.cap la := hex_58.cap hX_g9.owa hC_la.1 hC_la.2.1
    have : LVS (Pm_55.cap la) = LVS (P.cap la) := congrArg LVS (hex_58.cap hX_g9.owa hC_la.1 hC_la.2.1)
    have : Pm_55.cap lr = P.cap lr := hex_58.cap hX_g9.owa hC_lr.1 hC_lr.2.1
    have : LVS (Pm_55.cap lr) = LVS (P.cap lr) := congrArg LVS (hex_58.cap hX_g9.owa hC_lr.1 hC_lr.2.1)
    have hek_64 : Pm_55.ek la = 12 := (by rw [hke_60.ek hC_la.1 hC_la.2.1 (by decide)]; exact hC_la.2.2.1)
    have how_65 : Pm_55.ow la = la := ((hke_60.1 la hC_la.1 (by rw [hC_la.2.1]; decide)).2.2.2.1 hC_la.2.1 hC_la.2.2.2).1
    have hcz := (((hke_60.1 la hC_la.1 (by rw [hC_la.2.1]; decide)).2.2.2.1 hC_la.2.1 hC_la.2.2.2).2 (fun q9 => by have h9 := hC_la.2.2.1; rw [List.mem_singleton.mp q9] at h9; omega)).1
    have hek_66 : Pm_55.ek lr = 17 := (by rw [hke_60.ek hC_lr.1 hC_lr.2.1 (by decide)]; exact hC_lr.2.2.1)
    have how_67 : Pm_55.ow lr = lr := ((hke_60.1 lr hC_lr.1 (by rw [hC_lr.2.1]; decide)).2.2.2.1 hC_lr.2.1 hC_lr.2.2.2).1
    have hm_68 : q_54 ∈ Lm_56 := (by rw [eLm_56]; exact List.mem_cons_self)
    have hk_69 := hm9.1
    have hE_70 : Pm_55.ek q_54 ≠ 1 := (by rw [hm9.2.1]; decide)
    have hnd_71 : Lm_56.Nodup := pl_nd hD
    have hpn_73 : PSI wSL Lm_56 Pm_55 = PSI wSL L P + 7 ∧ PSI wCE Lm_56 Pm_55 = PSI wCE L P + 40 := (by rw [eLm_56] at hex_58 hnd_71 ⊢; exact PSI.nrowR hnd_71 hX_g9 hex_58 hm9.1)
    have hps := hpn_73.1
    have hpc := hpn_73.2
    have hlv_72 : LVA Lm_56 Pm_55 := LVA.extR hX_V hX_g9 hex_58 (fun z m n9 k => by rw [eLm_56] at m; rcases List.mem_cons.mp m with q9 | q9; rw [q9, hm9.1] at k; omega; exact absurd q9 n9)
    have hlk_74 := (show LOK Lm_56 Pm_55 cO 17 lr from (by have q9 := (hak_59.gla lr hq_62.1 hq_62.2).1; rw [hek_66] at q9; exact q9))
    have hX_x := hlk_74.1
    have hX_k := hlk_74.2.1
    have hlz9 := hlk_74.2.2.1
    have hX_c := hak_59.adc hlk_74
    have hX_y : q_54 ∈ Lm_56 ∧ OBK (Pm_55.kd q_54) := ⟨hm_68, (by rw [hk_69]; unfold OBK; decide)⟩
    have hvv_75 := hlv_72 lr hlk_74.1 hlk_74.2.1
    have hX_v := hvv_75.1
    have hnd_76 : Lm_56.Nodup := pl_nd hD
    have had_77 := hX_c
    have hPc := hP.part (X := [(hc, .inr (12, [v13_0, .ref lr, v13_2, .int (zI (z13_rowN)), v13_4, .ref la, v13_6]))]) (cx := []) (pl := va_pl Lm_56 (pE Pm_55)) [] rfl
    have hDc := hD.part (X := [(hc, .inr (12, [v13_0, .ref lr, v13_2, .int (zI (z13_rowN)), v13_4, .ref la, v13_6]))]) (cx := []) (pl := va_pl Lm_56 (pE Pm_55)) [] (by decide) rfl
    have hKc := hK.sub (tys' := [(cO, .object "java/lang/Object")]) [2] rfl
    have hFc := va_freeP (X := [(hc, .inr (12, [v13_0, .ref lr, v13_2, .int (zI (z13_rowN)), v13_4, .ref la, v13_6]))]) (cx := []) (pl := va_pl Lm_56 (pE Pm_55)) hD hS hA [] rfl
    have hgl := ADC.gl6 hX_c (by omega)
    refine va_calli (va_runV (As := [.ref q_54]) (rest := []) ⟨hx, hb, hml, hown, hts⟩ (c_PL_addAX l dC dI cO Lm_56 Pm_55 lr q_54 sx_ed hX_x hX_k (by omega) hX_c hX_y hX_v H.size sx_mi) (cwV 1 hts g_P13_rowQ_PL_addAX rfl rfl rfl (by decide +kernel) ⟨(Nat.le_of_ble_eq_true rfl), (Nat.le_of_ble_eq_true rfl)⟩) ⟨fun a U g mk q => by obtain ⟨q0, q1, qP, qK, qD, e0, e1, e2, e3, e4, e5, e6, e7⟩ := q; exact ⟨q0, q1, qP, va_K.moved (u := U) (U := U.calling g mk a) (Vm.Alike.refl U.vm) qK, qD, va_Nw.same rfl (u := U) (U := U.calling g mk a) rfl e0, va_Nw.same rfl (u := U) (U := U.calling g mk a) rfl e1, va_Nw.same rfl (u := U) (U := U.calling g mk a) rfl e2, va_Dc.moved (u := U) (U := U.calling g mk a) (Vm.Alike.refl U.vm) e3, va_Mi.moved (u := U) (U := U.calling g mk a) (Vm.Alike.refl U.vm) e4, va_AO.moved (u := U) (U := U.calling g mk a) (Vm.Alike.refl U.vm) e5, va_T.moved (u := U) (U := U.calling g mk a) (Vm.Alike.refl U.vm) e6, va_Z.moved (u := U) (U := U.calling g mk a) (Vm.Alike.refl U.vm) e7⟩, recv_30 hKc hPc hq_62.1 hq_62.2, fun U hU hW => ⟨rfl, by rw [hU], by rw [hU]; exact hPc, va_K.moved hW.alike hKc, hDc.weaken (fun _ _ _ _ => trivial), va_Nw.warmC hW hp3, va_Nw.warmC hW hp4, va_Nw.warmC hW hp5, va_Dc.moved hW.alike hp6, va_Mi.moved hW.alike hp7, va_AO.moved hW.alike hp8, by rw [hU]; exact va_T.narrow (va_T.moved hW.alike (va_T.kept hp9 hS.2.1)) hFc, by rw [hU]; exact va_Z.narrow (va_Z.moved hW.alike (va_Z.kept hp10 hS.2.1)) hFc⟩⟩ rfl rfl hl.1 rfl (lv_room (Nat.le_of_ble_eq_true rfl)) dX13_row_25 ⟨(Nat.le_trans (show 1 + (Pm_55.gc lr) ≤ 2 by omega) (Nat.le_of_ble_eq_true rfl)), (Nat.le_trans (show 7 + (Pm_55.gx lr) ≤ 6253 by omega) (Nat.le_of_ble_eq_true rfl))⟩) hS (fun q _ h => hFc q h) hFc (fun r_78 z_79 t H1 locs ht hvm hw hB hz1 hk1 hS => ?_)
    obtain ⟨Ln_80, Pn_81, hxt_81, hP1, hK1, hD1⟩ := hB
    rw [ht] at hP1
    have hK1 := va_K.moved hvm.symm hK1
    obtain ⟨hP, hD⟩ := va_joinP (X := [(hc, .inr (12, [v13_0, .ref lr, v13_2, .int (zI (z13_rowN)), v13_4, .ref la, v13_6]))]) (cx := []) (wr := [(hc, .inr (12, [v13_0, .ref lr, v13_2, .int (zI (z13_rowN)), v13_4, .ref la, v13_6]))]) (rx := []) (pl := va_pl Lm_56 (pE Pm_55)) (pl1 := va_pl Ln_80 (pE Pn_81)) hP hD [] [0] rfl rfl (by decide) (by decide) hk1 hFc hP1 hD1
    have hK := (hK.sub (tys' := [(cI, .int), (cZ, .boolean)]) [0, 1] rfl).app hK1
    generalize H1 = H at hP hS ⊢
    have hP : va_P (dC, dI) vwQ ([(hc, .inr (12, [v13_0, .ref lr, v13_2, .int (zI (z13_rowN)), v13_4, .ref la, v13_6]))] ++ va_pl Ln_80 (pE Pn_81)) H := hP
    have hD : va_D A ([(hc, .inr (12, [v13_0, .ref lr, v13_2, .int (zI (z13_rowN)), v13_4, .ref la, v13_6]))] ++ va_pl Ln_80 (pE Pn_81)) := hD
    have hK : va_K (dC, dI) vwQ [(cI, .int), (cZ, .boolean), (cO, .object "java/lang/Object")] s := hK
    refine W.widen (k := (1 + (Pm_55.gc lr))) (n := (7 + (Pm_55.gx lr))) (by omega) (by omega) ?_
    obtain ⟨rfl, hzz_79⟩ := hw
    have hu_82 := hxt_81
    have hfx := hu_82.2.2.2.2.2.2.2
    have han := hu_82.2.2.2.1
    have hke_83 : KEG [lr] Lm_56 Pm_55 Ln_80 Pn_81 := hu_82.1.kegR hak_59 hq_62.1 hq_62.2 hfx (Or.inr (by simp))
    have hak_84 : GLR Ln_80 Pn_81 cO cI cZ sx_ed := hak_59.add hu_82.1 hq_62.1 hq_62.2 hfx hek_66 hm_68 hk_69 hu_82.2.1 (by omega) hu_82.2.2.1 hu_82.2.2.2.1.1 (by have q9 := hak_59.adc40 hlk_74; omega) hu_82.2.2.2.2.1 hu_82.2.2.2.2.2.1 hu_82.2.2.2.2.2.2.1 (fun _ => hE_70)
    clear han
    have hq_85 : la ∈ Ln_80 ∧ Pn_81.kd la = 30 := hke_83.mem hq_61.1 hq_61.2 (by decide)
    have hq_86 : lr ∈ Ln_80 ∧ Pn_81.kd lr = 30 := hke_83.mem hq_62.1 hq_62.2 (by decide)
    have hq_87 : q_54 ∈ Ln_80 ∧ Pn_81.kd q_54 = 17 := hke_83.mem hm_68 hk_69 (by decide)
    have hE_88 : Pn_81.ek q_54 ≠ 1 := (by rw [hke_83.ek hm_68 hk_69 (by decide)]; exact hE_70)
    have hA_89 : KEG [lr] L P Ln_80 Pn_81 := hA_63.trans hke_83
    have hza := hu_82.2.1
    have hek_90 : Pn_81.ek la = 12 := (by rw [hke_83.ek hq_61.1 hq_61.2 (by decide)]; exact hek_64)
    have how_91 : Pn_81.ow la = la := ((hke_83.1 la hq_61.1 (by rw [hq_61.2]; decide)).2.2.2.1 hq_61.2 how_65).1
    have hcz := (((hke_83.1 la hq_61.1 (by rw [hq_61.2]; decide)).2.2.2.1 hq_61.2 how_65).2 (fun q9 => by have h9 := hek_64; rw [List.mem_singleton.mp q9] at h9; omega)).1
    have hek_92 : Pn_81.ek lr = 17 := (by rw [hke_83.ek hq_62.1 hq_62.2 (by decide)]; exact hek_66)
    have how_93 : Pn_81.ow lr = lr := ((hke_83.1 lr hq_62.1 (by rw [hq_62.2]; decide)).2.2.2.1 hq_62.2 how_67).1
    clear hfx
    have hlr9 : Pn_81.el lr (Pm_55.lz lr) = q_54 := hu_82.1.elast hu_82.2.2.2.2.2.1
    have hfx := hu_82.2.2.2.2.2.2.2
    have hnd_94 : Ln_80.Nodup := pl_nd hD
    have hpp_95 := PSI.putR hnd_76 hnd_94 hak_59.glfR hu_82.1 hlk_74.1 hlk_74.2.1 hfx hvv_75.1 (by omega) hu_82.2.2.2.1.2.2.1 hu_82.2.2.2.1.2.2.2 had_77 hvv_75.2
    have hps := hpp_95.1
    have hpc := hpp_95.2.1
    have hpg := PSI.glsR hnd_76 hnd_94 hak_59.glfR hu_82.1 hlk_74.1 hlk_74.2.1 hfx
    have hlv_96 : LVA Ln_80 Pn_81 := LVA.gl1R hlv_72 hak_59.glfR hu_82.1 hlk_74.1 hlk_74.2.1 hfx hpp_95.2.2
    refine lv_pop hx hb dX13_row_28 rfl ?_
    refine lv_aload_n hx hb dX13_row_29 rfl (lv_at hl 0 rfl) ?_
    refine va_get (D := (dC, dI)) (ci := 12) (v := .ref lr) (C := RX13) (T := TX13) (N := 7) hx hb hts mem_P13_rowQ_0 hown hK hP 0 rfl rfl 1 (by decide) (ow (k := 1) rfl) (fun _ h9 => h9) rfl dX13_row_30 ?_
    refine lv_aload_n hx hb dX13_row_33 rfl (lv_at hl 0 rfl) ?_
    refine va_get (D := (dC, dI)) (ci := 12) (v := .int (zI (z13_rowN))) (C := RX13) (T := TX13) (N := 7) hx hb hts mem_P13_rowQ_0 hown hK hP 0 rfl rfl 3 (by decide) (ow (k := 0) rfl) (fun _ h9 => h9) rfl dX13_row_34 ?_
    have hlk_97 := (show LOK Ln_80 Pn_81 cO 17 lr from (by have q9 := (hak_84.gla lr hq_86.1 hq_86.2).1; rw [hek_92] at q9; exact q9))
    obtain ⟨x, ex⟩ : ∃ q9 : Nat, q9 = Pn_81.el lr (z13_rowN) := ⟨_, rfl⟩
    have hX_x := hlk_97.1
    have hX_k := hlk_97.2.1
    have hq9 := hlk_97.row (i := z13_rowN) (by omega) (by omega)
    have hX_q : Pn_81.le lr ∈ Ln_80 ∧ Pn_81.kd (Pn_81.le lr) = 31 ∧ Pn_81.ac (Pn_81.le lr) = cO := ⟨hq9.1, hq9.2.1, hq9.2.2.1⟩
    have hq8 := hq9.2.2.2
    have hX_e0 : Pn_81.oa (Pn_81.le lr) (z13_rowN).toNat = some x := (by rw [ex]; exact (hlk_97.2.2.2.2 (z13_rowN) (by omega) (by omega)).1)
    have hxm : x ∈ Ln_80 := (by rw [ex]; exact (hlk_97.2.2.2.2 (z13_rowN) (by omega) (by omega)).2.1)
    have hxk := (hlk_97.2.2.2.2 (z13_rowN) (by omega) (by omega)).2.2
    rw [← ex] at hxk
    have hPc := hP.part (X := [(hc, .inr (12, [v13_0, .ref lr, v13_2, .int (zI (z13_rowN)), v13_4, .ref la, v13_6]))]) (cx := []) (pl := va_pl Ln_80 (pE Pn_81)) [] rfl
    have hDc := hD.part (X := [(hc, .inr (12, [v13_0, .ref lr, v13_2, .int (zI (z13_rowN)), v13_4, .ref la, v13_6]))]) (cx := []) (pl := va_pl Ln_80 (pE Pn_81)) [] (by decide) rfl
    have hKc := hK.sub (tys' := [(cO, .object "java/lang/Object")]) [2] rfl
    have hFc := va_freeP (X := [(hc, .inr (12, [v13_0, .ref lr, v13_2, .int (zI (z13_rowN)), v13_4, .ref la, v13_6]))]) (cx := []) (pl := va_pl Ln_80 (pE Pn_81)) hD hS hA [] rfl
    refine va_callr (va_runV (As := [.int (zI (z13_rowN))]) (rest := []) ⟨hx, hb, hml, hown, hts⟩ (c_PL_get l dC dI cO Ln_80 Pn_81 lr z13_rowN x hX_x hX_k hX_q (by omega) hX_e0 H.size) (cwV 1 hts g_P13_rowQ_PL_get rfl rfl rfl (by decide +kernel) ⟨(Nat.le_of_ble_eq_true rfl), (Nat.le_of_ble_eq_true rfl)⟩) ⟨fun a U g mk q => by obtain ⟨q0, q1, qP, qK, qD⟩ := q; exact ⟨q0, q1, qP, va_K.moved (u := U) (U := U.calling g mk a) (Vm.Alike.refl U.vm) qK, qD⟩, recv_30 hKc hPc hq_86.1 hq_86.2, fun U hU hW => ⟨rfl, by rw [hU], by rw [hU]; exact hPc, va_K.moved hW.alike hKc, hDc.weaken (fun _ _ _ _ => trivial)⟩⟩ rfl rfl hl.1 rfl (lv_room (Nat.le_of_ble_eq_true rfl)) dX13_row_37 ⟨(Nat.le_trans (show (1 + (Pm_55.gc lr)) + 0 ≤ 2 by omega) (Nat.le_of_ble_eq_true rfl)), (Nat.le_trans (show (7 + (Pm_55.gx lr)) + 0 ≤ 6253 by omega) (Nat.le_of_ble_eq_true rfl))⟩) hS (fun q _ h => hFc q h) hFc (fun u q_98 t H1 locs ht hvm hw hB hz1 hk1 hS => ?_)
    obtain ⟨hxt_98, hP1, hK1, hD1⟩ := hB
    rw [ht] at hP1
    have hK1 := va_K.moved hvm.symm hK1
    obtain ⟨hP, hD⟩ := va_joinP (X := [(hc, .inr (12, [v13_0, .ref lr, v13_2, .int (zI (z13_rowN)), v13_4, .ref la, v13_6]))]) (cx := []) (wr := [(hc, .inr (12, [v13_0, .ref lr, v13_2, .int (zI (z13_rowN)), v13_4, .ref la, v13_6]))]) (rx := []) (pl := va_pl Ln_80 (pE Pn_81)) (pl1 := va_pl Ln_80 (pE Pn_81)) hP hD [] [0] rfl rfl (by decide) (by decide) hk1 hFc hP1 hD1
    have hK := (hK.sub (tys' := [(cI, .int), (cZ, .boolean)]) [0, 1] rfl).app hK1
    generalize H1 = H at hP hS ⊢
    have hP : va_P (dC, dI) vwQ ([(hc, .inr (12, [v13_0, .ref lr, v13_2, .int (zI (z13_rowN)), v13_4, .ref la, v13_6]))] ++ va_pl Ln_80 (pE Pn_81)) H := hP
    have hD : va_D A ([(hc, .inr (12, [v13_0, .ref lr, v13_2, .int (zI (z13_rowN)), v13_4, .ref la, v13_6]))] ++ va_pl Ln_80 (pE Pn_81)) := hD
    have hK : va_K (dC, dI) vwQ [(cI, .int), (cZ, .boolean), (cO, .object "java/lang/Object")] s := hK
    refine W.widen (k := (1 + (Pm_55.gc lr))) (n := (7 + (Pm_55.gx lr))) (by omega) (by omega) ?_
    rw [hxt_98]
    clear hX_e0
    obtain ⟨xr_99, h9⟩ : ∃ q9 : Nat, q9 = x := ⟨_, rfl⟩
    subst h9
    have hm_100 := hxm
    have hk_101 := hxk
    have hel9 := ex
    have hE_102 : Pn_81.ek xr_99 ≠ 1 := (by rw [ex]; exact (hak_84.gla lr hq_86.1 hq_86.2).2.2 hek_92 _ (by omega) (by omega))
    have hbq : xr_99 = q_54 := hel9.trans (by rw [show (z13_rowN : Int) = Pm_55.lz lr from (by omega)]; exact hlr9)
    have hxn9 : xr_99 ∉ L := (by rw [hbq]; exact hqn_57)
    refine va_castY (C := "SsaForgeModel$Row") (nm := "SsaForgeModel$Row") hx hb hown (ow (k := 9) rfl) hp0 (recv_17 hK hP hm_100 hk_101) dX13_row_40 ?_
    refine lv_astore_n (lv' := [(1, .ref xr_99), (0, .ref hc)]) hx hb dX13_row_43 rfl hl (by decide) rfl (fun ls hl => ?_)
    refine lv_aload_n hx hb dX13_row_44 rfl (lv_at hl 1 rfl) ?_
    refine lv_dup hx hb dX13_row_45 rfl ?_
    refine va_get (D := (dC, dI)) (ci := 12) (v := .int (zI (z13_rowN))) (C := RX13) (T := TX13) (N := 7) hx hb hts mem_P13_rowQ_0 hown hK hP 0 rfl rfl 3 (by decide) (ow (k := 0) rfl) (fun _ h9 => h9) rfl dX13_row_46 ?_
    refine lv_iconst (v := 1) hx hb dX13_row_49 (by decide) ?_
    refine lv_iadd hx hb dX13_row_50 ?_
    refine lv_topi (fun z ez => ?_)
    obtain rfl : z = zI (z13_rowN + 1) := ez.trans (zI_add (z13_rowN) (1))
    refine va_put (D := (dC, dI)) (ci := 12) (v := .int (zI (z13_rowN + 1))) (ty := .int) (C := RX13) (T := TX13) (N := 7) hx hb hts mem_P13_rowQ_0 tyX13 tyX13_ok nmX13 hown hK hP hD hS 0 rfl rfl 3 (by decide) (ow (k := 0) rfl) (fun _ h9 => h9) rfl (by decide +kernel) rfl rfl (by first | exact Nat.le_of_ble_eq_true rfl | exact Nat.le_trans (show (1 + (Pm_55.gc lr)) ≤ 2 from (by omega)) (Nat.le_of_ble_eq_true rfl) | exact Nat.le_trans (show (7 + (Pm_55.gx lr)) ≤ 6253 from (by omega)) (Nat.le_of_ble_eq_true rfl)) dX13_row_51 (fun H locs hP hD hS => ?_)
    have hP : va_P (dC, dI) vwQ ([(hc, .inr (12, [v13_0, .ref lr, v13_2, .int (zI (z13_rowN + 1)), v13_4, .ref la, v13_6]))] ++ va_pl Ln_80 (pE Pn_81)) H := hP
    have hD : va_D A ([(hc, .inr (12, [v13_0, .ref lr, v13_2, .int (zI (z13_rowN + 1)), v13_4, .ref la, v13_6]))] ++ va_pl Ln_80 (pE Pn_81)) := hD
    obtain ⟨z_103, ez_103⟩ : ∃ z9 : Int, z9 = z13_rowN + 1 := ⟨_, rfl⟩
    rw [← ez_103] at hP hD
    have hP : va_P (dC, dI) vwQ ([(hc, .inr (12, [v13_0, .ref lr, v13_2, .int (zI (z_103)), v13_4, .ref la, v13_6]))] ++ va_pl Ln_80 (pE Pn_81)) H := hP
    have hD : va_D A ([(hc, .inr (12, [v13_0, .ref lr, v13_2, .int (zI (z_103)), v13_4, .ref la, v13_6]))] ++ va_pl Ln_80 (pE Pn_81)) := hD
    refine lv_aload_n hx hb dX13_row_54 rfl (lv_at hl 0 rfl) ?_
    refine lv_iconst (v := 0) hx hb dX13_row_55 (by decide) ?_
    have ⟨hr1, hr2, hr3, hr4, hr5, hr6, hr7, hr8, hr9⟩ := hak_84.rokR hm_100 hk_101
    refine lv_topi (fun z ez => ?_)
    obtain rfl : z = zI (0) := ez
    obtain ⟨kp_104, gkp_104⟩ := va_pl_get (X := [(hc, .inr (12, [v13_0, .ref lr, v13_2, .int (zI (z_103)), v13_4, .ref la, v13_6]))]) (f := pE Pn_81) hm_100
    have hkp_104 := gkp_104
    rw [pE_row hk_101] at hkp_104
    have hD0 := hD
    refine va_put (D := (dC, dI)) (ci := 21) (v := .int (zI (0))) (ty := .boolean) (C := RX17) (T := TX17) (N := 7) hx hb hts mem_P13_rowQ_3 tyX17 tyX17_ok nmX17 hown hK hP hD hS kp_104 hkp_104 rfl 6 (by decide) (ow (k := 10) rfl) (fun _ h9 => h9) rfl (by decide +kernel) (zI_bool (by omega) (by omega)) (zI_fitb (by omega) (by omega)) (by first | exact Nat.le_of_ble_eq_true rfl | exact Nat.le_trans (show (1 + (Pm_55.gc lr)) ≤ 2 from (by omega)) (Nat.le_of_ble_eq_true rfl) | exact Nat.le_trans (show (7 + (Pm_55.gx lr)) ≤ 6253 from (by omega)) (Nat.le_of_ble_eq_true rfl)) dX13_row_56 (fun H locs hP hD hS => ?_)
    obtain ⟨Pw_105, ePw_105⟩ : ∃ q9 : PO, q9 = Pn_81.rw9 6 xr_99 (0) := ⟨_, rfl⟩
    have eU : (([(hc, .inr (12, [v13_0, .ref lr, v13_2, .int (zI (z_103)), v13_4, .ref la, v13_6]))] : va_W) ++ va_pl Ln_80 (pE Pn_81)).set kp_104 (xr_99, rowE (Pn_81.ro xr_99) (Pn_81.rt xr_99) (Pn_81.ra xr_99) (Pn_81.rb xr_99) (Pn_81.rA xr_99) (Pn_81.rB xr_99) (0)) = ([(hc, .inr (12, [v13_0, .ref lr, v13_2, .int (zI (z_103)), v13_4, .ref la, v13_6]))] : va_W) ++ va_pl Ln_80 (pE Pw_105) := (by rw [va_pl_set hD0 hm_100 gkp_104, ePw_105]; exact congrArg (fun f9 => ([(hc, .inr (12, [v13_0, .ref lr, v13_2, .int (zI (z_103)), v13_4, .ref la, v13_6]))] : va_W) ++ va_pl Ln_80 f9) (put17_6 hk_101))
    have hP : va_P (dC, dI) vwQ ([(hc, .inr (12, [v13_0, .ref lr, v13_2, .int (zI (z_103)), v13_4, .ref la, v13_6]))] ++ va_pl Ln_80 (pE Pw_105)) H := (by rw [← eU]; exact hP)
    have hD : va_D A ([(hc, .inr (12, [v13_0, .ref lr, v13_2, .int (zI (z_103)), v13_4, .ref la, v13_6]))] ++ va_pl Ln_80 (pE Pw_105)) := (by rw [← eU]; exact hD)
    clear eU hD0 gkp_104 hkp_104
    have wPw_105 : RW1 xr_99 Pn_81 Pw_105 := (by rw [ePw_105]; exact RW1.put _ _ _ _)
    have hy_106 : Pw_105.kd la = 30 := (by rw [ePw_105]; exact hq_85.2)
    have hy_107 : Pw_105.kd lr = 30 := (by rw [ePw_105]; exact hq_86.2)
    have hy_108 : Pw_105.kd q_54 = 17 := (by rw [ePw_105]; exact hq_87.2)
    have hy_109 : Pw_105.kd xr_99 = 17 := (by rw [ePw_105]; exact hk_101)
    have : Pw_105.ro xr_99 = Pn_81.ro xr_99 := (by rw [ePw_105]; exact rw9_of _ (by decide))
    have : Pw_105.rt xr_99 = Pn_81.rt xr_99 := (by rw [ePw_105]; exact rw9_of _ (by decide))
    have : Pw_105.ra xr_99 = Pn_81.ra xr_99 := (by rw [ePw_105]; exact rw9_of _ (by decide))
    have : Pw_105.rb xr_99 = Pn_81.rb xr_99 := (by rw [ePw_105]; exact rw9_of _ (by decide))
    have : Pw_105.rA xr_99 = Pn_81.rA xr_99 := (by rw [ePw_105]; exact rw9_of _ (by decide))
    have : Pw_105.rB xr_99 = Pn_81.rB xr_99 := (by rw [ePw_105]; exact rw9_of _ (by decide))
    have : Pw_105.rg xr_99 = 0 := (by rw [ePw_105]; exact rw9_at _ _ _ _)
    have : Pw_105.ek xr_99 = Pn_81.ek xr_99 := (by rw [ePw_105]; rfl)
    refine lv_aload_n hx hb dX13_row_59 rfl (lv_at hl 0 rfl) ?_
    refine lv_iconst (v := 0) hx hb dX13_row_60 (by decide) ?_
    refine lv_topi (fun z ez => ?_)
    obtain rfl : z = zI (0) := ez
    obtain ⟨kp_110, gkp_110⟩ := va_pl_get (X := [(hc, .inr (12, [v13_0, .ref lr, v13_2, .int (zI (z_103)), v13_4, .ref la, v13_6]))]) (f := pE Pw_105) hm_100
    have hkp_110 := gkp_110
    rw [pE_row hy_109] at hkp_110
    have hD0 := hD
    refine va_put (D := (dC, dI)) (ci := 21) (v := .int (zI (0))) (ty := .boolean) (C := RX17) (T := TX17) (N := 7) hx hb hts mem_P13_rowQ_3 tyX17 tyX17_ok nmX17 hown hK hP hD hS kp_110 hkp_110 rfl 4 (by decide) (ow (k := 11) rfl) (fun _ h9 => h9) rfl (by decide +kernel) (zI_bool (by omega) (by omega)) (zI_fitb (by omega) (by omega)) (by first | exact Nat.le_of_ble_eq_true rfl | exact Nat.le_trans (show (1 + (Pm_55.gc lr)) ≤ 2 from (by omega)) (Nat.le_of_ble_eq_true rfl) | exact Nat.le_trans (show (7 + (Pm_55.gx lr)) ≤ 6253 from (by omega)) (Nat.le_of_ble_eq_true rfl)) dX13_row_61 (fun H locs hP hD hS => ?_)
    obtain ⟨Pw_111, ePw_111⟩ : ∃ q9 : PO, q9 = Pw_105.rw9 4 xr_99 (0) := ⟨_, rfl⟩
    have eU : (([(hc, .inr (12, [v13_0, .ref lr, v13_2, .int (zI (z_103)), v13_4, .ref la, v13_6]))] : va_W) ++ va_pl Ln_80 (pE Pw_105)).set kp_110 (xr_99, rowE (Pw_105.ro xr_99) (Pw_105.rt xr_99) (Pw_105.ra xr_99) (Pw_105.rb xr_99) (0) (Pw_105.rB xr_99) (Pw_105.rg xr_99)) = ([(hc, .inr (12, [v13_0, .ref lr, v13_2, .int (zI (z_103)), v13_4, .ref la, v13_6]))] : va_W) ++ va_pl Ln_80 (pE Pw_111) := (by rw [va_pl_set hD0 hm_100 gkp_110, ePw_111]; exact congrArg (fun f9 => ([(hc, .inr (12, [v13_0, .ref lr, v13_2, .int (zI (z_103)), v13_4, .ref la, v13_6]))] : va_W) ++ va_pl Ln_80 f9) (put17_4 hy_109))
    have hP : va_P (dC, dI) vwQ ([(hc, .inr (12, [v13_0, .ref lr, v13_2, .int (zI (z_103)), v13_4, .ref la, v13_6]))] ++ va_pl Ln_80 (pE Pw_111)) H := (by rw [← eU]; exact hP)
    have hD : va_D A ([(hc, .inr (12, [v13_0, .ref lr, v13_2, .int (zI (z_103)), v13_4, .ref la, v13_6]))] ++ va_pl Ln_80 (pE Pw_111)) := (by rw [← eU]; exact hD)
    clear eU hD0 gkp_110 hkp_110
    have wPw_111 : RW1 xr_99 Pw_105 Pw_111 := (by rw [ePw_111]; exact RW1.put _ _ _ _)
    have hy_112 : Pw_111.kd la = 30 := (by rw [ePw_111]; exact hy_106)
    have hy_113 : Pw_111.kd lr = 30 := (by rw [ePw_111]; exact hy_107)
    have hy_114 : Pw_111.kd q_54 = 17 := (by rw [ePw_111]; exact hy_108)
    have hy_115 : Pw_111.kd xr_99 = 17 := (by rw [ePw_111]; exact hy_109)
    have : Pw_111.ro xr_99 = Pw_105.ro xr_99 := (by rw [ePw_111]; exact rw9_of _ (by decide))
    have : Pw_111.rt xr_99 = Pw_105.rt xr_99 := (by rw [ePw_111]; exact rw9_of _ (by decide))
    have : Pw_111.ra xr_99 = Pw_105.ra xr_99 := (by rw [ePw_111]; exact rw9_of _ (by decide))
    have : Pw_111.rb xr_99 = Pw_105.rb xr_99 := (by rw [ePw_111]; exact rw9_of _ (by decide))
    have : Pw_111.rA xr_99 = 0 := (by rw [ePw_111]; exact rw9_at _ _ _ _)
    have : Pw_111.rB xr_99 = Pw_105.rB xr_99 := (by rw [ePw_111]; exact rw9_of _ (by decide))
    have : Pw_111.rg xr_99 = Pw_105.rg xr_99 := (by rw [ePw_111]; exact rw9_of _ (by decide))
    have : Pw_111.ek xr_99 = Pw_105.ek xr_99 := (by rw [ePw_111]; rfl)
    refine lv_aload_n hx hb dX13_row_64 rfl (lv_at hl 0 rfl) ?_
    refine lv_iconst (v := 0) hx hb dX13_row_65 (by decide) ?_
    refine lv_topi (fun z ez => ?_)
    obtain rfl : z = zI (0) := ez
    obtain ⟨kp_116, gkp_116⟩ := va_pl_get (X := [(hc, .inr (12, [v13_0, .ref lr, v13_2, .int (zI (z_103)), v13_4, .ref la, v13_6]))]) (f := pE Pw_111) hm_100
    have hkp_116 := gkp_116
    rw [pE_row hy_115] at hkp_116
    have hD0 := hD
    refine va_put (D := (dC, dI)) (ci := 21) (v := .int (zI (0))) (ty := .boolean) (C := RX17) (T := TX17) (N := 7) hx hb hts mem_P13_rowQ_3 tyX17 tyX17_ok nmX17 hown hK hP hD hS kp_116 hkp_116 rfl 5 (by decide) (ow (k := 12) rfl) (fun _ h9 => h9) rfl (by decide +kernel) (zI_bool (by omega) (by omega)) (zI_fitb (by omega) (by omega)) (by first | exact Nat.le_of_ble_eq_true rfl | exact Nat.le_trans (show (1 + (Pm_55.gc lr)) ≤ 2 from (by omega)) (Nat.le_of_ble_eq_true rfl) | exact Nat.le_trans (show (7 + (Pm_55.gx lr)) ≤ 6253 from (by omega)) (Nat.le_of_ble_eq_true rfl)) dX13_row_66 (fun H locs hP hD hS => ?_)
    obtain ⟨Pw_117, ePw_117⟩ : ∃ q9 : PO, q9 = Pw_111.rw9 5 xr_99 (0) := ⟨_, rfl⟩
    have eU : (([(hc, .inr (12, [v13_0, .ref lr, v13_2, .int (zI (z_103)), v13_4, .ref la, v13_6]))] : va_W) ++ va_pl Ln_80 (pE Pw_111)).set kp_116 (xr_99, rowE (Pw_111.ro xr_99) (Pw_111.rt xr_99) (Pw_111.ra xr_99) (Pw_111.rb xr_99) (Pw_111.rA xr_99) (0) (Pw_111.rg xr_99)) = ([(hc, .inr (12, [v13_0, .ref lr, v13_2, .int (zI (z_103)), v13_4, .ref la, v13_6]))] : va_W) ++ va_pl Ln_80 (pE Pw_117) := (by rw [va_pl_set hD0 hm_100 gkp_116, ePw_117]; exact congrArg (fun f9 => ([(hc, .inr (12, [v13_0, .ref lr, v13_2, .int (zI (z_103)), v13_4, .ref la, v13_6]))] : va_W) ++ va_pl Ln_80 f9) (put17_5 hy_115))
    have hP : va_P (dC, dI) vwQ ([(hc, .inr (12, [v13_0, .ref lr, v13_2, .int (zI (z_103)), v13_4, .ref la, v13_6]))] ++ va_pl Ln_80 (pE Pw_117)) H := (by rw [← eU]; exact hP)
    have hD : va_D A ([(hc, .inr (12, [v13_0, .ref lr, v13_2, .int (zI (z_103)), v13_4, .ref la, v13_6]))] ++ va_pl Ln_80 (pE Pw_117)) := (by rw [← eU]; exact hD)
    clear eU hD0 gkp_116 hkp_116
    have wPw_117 : RW1 xr_99 Pw_111 Pw_117 := (by rw [ePw_117]; exact RW1.put _ _ _ _)
    have hy_118 : Pw_117.kd la = 30 := (by rw [ePw_117]; exact hy_112)
    have hy_119 : Pw_117.kd lr = 30 := (by rw [ePw_117]; exact hy_113)
    have hy_120 : Pw_117.kd q_54 = 17 := (by rw [ePw_117]; exact hy_114)
    have hy_121 : Pw_117.kd xr_99 = 17 := (by rw [ePw_117]; exact hy_115)
    have : Pw_117.ro xr_99 = Pw_111.ro xr_99 := (by rw [ePw_117]; exact rw9_of _ (by decide))
    have : Pw_117.rt xr_99 = Pw_111.rt xr_99 := (by rw [ePw_117]; exact rw9_of _ (by decide))
    have : Pw_117.ra xr_99 = Pw_111.ra xr_99 := (by rw [ePw_117]; exact rw9_of _ (by decide))
    have : Pw_117.rb xr_99 = Pw_111.rb xr_99 := (by rw [ePw_117]; exact rw9_of _ (by decide))
    have : Pw_117.rA xr_99 = Pw_111.rA xr_99 := (by rw [ePw_117]; exact rw9_of _ (by decide))
    have : Pw_117.rB xr_99 = 0 := (by rw [ePw_117]; exact rw9_at _ _ _ _)
    have : Pw_117.rg xr_99 = Pw_111.rg xr_99 := (by rw [ePw_117]; exact rw9_of _ (by decide))
    have : Pw_117.ek xr_99 = Pw_111.ek xr_99 := (by rw [ePw_117]; rfl)
    refine lv_aload_n hx hb dX13_row_69 rfl (lv_at hl 0 rfl) ?_
    refine lv_iconst (v := 0) hx hb dX13_row_70 (by decide) ?_
    refine lv_topi (fun z ez => ?_)
    obtain rfl : z = zI (0) := ez
    obtain ⟨kp_122, gkp_122⟩ := va_pl_get (X := [(hc, .inr (12, [v13_0, .ref lr, v13_2, .int (zI (z_103)), v13_4, .ref la, v13_6]))]) (f := pE Pw_117) hm_100
    have hkp_122 := gkp_122
    rw [pE_row hy_121] at hkp_122
    have hD0 := hD
    refine va_put (D := (dC, dI)) (ci := 21) (v := .int (zI (0))) (ty := .int) (C := RX17) (T := TX17) (N := 7) hx hb hts mem_P13_rowQ_3 tyX17 tyX17_ok nmX17 hown hK hP hD hS kp_122 hkp_122 rfl 2 (by decide) (ow (k := 13) rfl) (fun _ h9 => h9) rfl (by decide +kernel) rfl rfl (by first | exact Nat.le_of_ble_eq_true rfl | exact Nat.le_trans (show (1 + (Pm_55.gc lr)) ≤ 2 from (by omega)) (Nat.le_of_ble_eq_true rfl) | exact Nat.le_trans (show (7 + (Pm_55.gx lr)) ≤ 6253 from (by omega)) (Nat.le_of_ble_eq_true rfl)) dX13_row_71 (fun H locs hP hD hS => ?_)
    obtain ⟨Pw_123, ePw_123⟩ : ∃ q9 : PO, q9 = Pw_117.rw9 2 xr_99 (0) := ⟨_, rfl⟩
    have eU : (([(hc, .inr (12, [v13_0, .ref lr, v13_2, .int (zI (z_103)), v13_4, .ref la, v13_6]))] : va_W) ++ va_pl Ln_80 (pE Pw_117)).set kp_122 (xr_99, rowE (Pw_117.ro xr_99) (Pw_117.rt xr_99) (0) (Pw_117.rb xr_99) (Pw_117.rA xr_99) (Pw_117.rB xr_99) (Pw_117.rg xr_99)) = ([(hc, .inr (12, [v13_0, .ref lr, v13_2, .int (zI (z_103)), v13_4, .ref la, v13_6]))] : va_W) ++ va_pl Ln_80 (pE Pw_123) := (by rw [va_pl_set hD0 hm_100 gkp_122, ePw_123]; exact congrArg (fun f9 => ([(hc, .inr (12, [v13_0, .ref lr, v13_2, .int (zI (z_103)), v13_4, .ref la, v13_6]))] : va_W) ++ va_pl Ln_80 f9) (put17_2 hy_121))
    have hP : va_P (dC, dI) vwQ ([(hc, .inr (12, [v13_0, .ref lr, v13_2, .int (zI (z_103)), v13_4, .ref la, v13_6]))] ++ va_pl Ln_80 (pE Pw_123)) H := (by rw [← eU]; exact hP)
    have hD : va_D A ([(hc, .inr (12, [v13_0, .ref lr, v13_2, .int (zI (z_103)), v13_4, .ref la, v13_6]))] ++ va_pl Ln_80 (pE Pw_123)) := (by rw [← eU]; exact hD)
    clear eU hD0 gkp_122 hkp_122
    have wPw_123 : RW1 xr_99 Pw_117 Pw_123 := (by rw [ePw_123]; exact RW1.put _ _ _ _)
    have hy_124 : Pw_123.kd la = 30 := (by rw [ePw_123]; exact hy_118)
    have hy_125 : Pw_123.kd lr = 30 := (by rw [ePw_123]; exact hy_119)
    have hy_126 : Pw_123.kd q_54 = 17 := (by rw [ePw_123]; exact hy_120)
    have hy_127 : Pw_123.kd xr_99 = 17 := (by rw [ePw_123]; exact hy_121)
    have : Pw_123.ro xr_99 = Pw_117.ro xr_99 := (by rw [ePw_123]; exact rw9_of _ (by decide))
    have : Pw_123.rt xr_99 = Pw_117.rt xr_99 := (by rw [ePw_123]; exact rw9_of _ (by decide))
    have : Pw_123.ra xr_99 = 0 := (by rw [ePw_123]; exact rw9_at _ _ _ _)
    have : Pw_123.rb xr_99 = Pw_117.rb xr_99 := (by rw [ePw_123]; exact rw9_of _ (by decide))
    have : Pw_123.rA xr_99 = Pw_117.rA xr_99 := (by rw [ePw_123]; exact rw9_of _ (by decide))
    have : Pw_123.rB xr_99 = Pw_117.rB xr_99 := (by rw [ePw_123]; exact rw9_of _ (by decide))
    have : Pw_123.rg xr_99 = Pw_117.rg xr_99 := (by rw [ePw_123]; exact rw9_of _ (by decide))
    have : Pw_123.ek xr_99 = Pw_117.ek xr_99 := (by rw [ePw_123]; rfl)
    refine lv_aload_n hx hb dX13_row_74 rfl (lv_at hl 0 rfl) ?_
    refine lv_iconst (v := 0) hx hb dX13_row_75 (by decide) ?_
    refine lv_topi (fun z ez => ?_)
    obtain rfl : z = zI (0) := ez
    obtain ⟨kp_128, gkp_128⟩ := va_pl_get (X := [(hc, .inr (12, [v13_0, .ref lr, v13_2, .int (zI (z_103)), v13_4, .ref la, v13_6]))]) (f := pE Pw_123) hm_100
    have hkp_128 := gkp_128
    rw [pE_row hy_127] at hkp_128
    have hD0 := hD
    refine va_put (D := (dC, dI)) (ci := 21) (v := .int (zI (0))) (ty := .int) (C := RX17) (T := TX17) (N := 7) hx hb hts mem_P13_rowQ_3 tyX17 tyX17_ok nmX17 hown hK hP hD hS kp_128 hkp_128 rfl 3 (by decide) (ow (k := 14) rfl) (fun _ h9 => h9) rfl (by decide +kernel) rfl rfl (by first | exact Nat.le_of_ble_eq_true rfl | exact Nat.le_trans (show (1 + (Pm_55.gc lr)) ≤ 2 from (by omega)) (Nat.le_of_ble_eq_true rfl) | exact Nat.le_trans (show (7 + (Pm_55.gx lr)) ≤ 6253 from (by omega)) (Nat.le_of_ble_eq_true rfl)) dX13_row_76 (fun H locs hP hD hS => ?_)
    obtain ⟨Pw_129, ePw_129⟩ : ∃ q9 : PO, q9 = Pw_123.rw9 3 xr_99 (0) := ⟨_, rfl⟩
    have eU : (([(hc, .inr (12, [v13_0, .ref lr, v13_2, .int (zI (z_103)), v13_4, .ref la, v13_6]))] : va_W) ++ va_pl Ln_80 (pE Pw_123)).set kp_128 (xr_99, rowE (Pw_123.ro xr_99) (Pw_123.rt xr_99) (Pw_123.ra xr_99) (0) (Pw_123.rA xr_99) (Pw_123.rB xr_99) (Pw_123.rg xr_99)) = ([(hc, .inr (12, [v13_0, .ref lr, v13_2, .int (zI (z_103)), v13_4, .ref la, v13_6]))] : va_W) ++ va_pl Ln_80 (pE Pw_129) := (by rw [va_pl_set hD0 hm_100 gkp_128, ePw_129]; exact congrArg (fun f9 => ([(hc, .inr (12, [v13_0, .ref lr, v13_2, .int (zI (z_103)), v13_4, .ref la, v13_6]))] : va_W) ++ va_pl Ln_80 f9) (put17_3 hy_127))
    have hP : va_P (dC, dI) vwQ ([(hc, .inr (12, [v13_0, .ref lr, v13_2, .int (zI (z_103)), v13_4, .ref la, v13_6]))] ++ va_pl Ln_80 (pE Pw_129)) H := (by rw [← eU]; exact hP)
    have hD : va_D A ([(hc, .inr (12, [v13_0, .ref lr, v13_2, .int (zI (z_103)), v13_4, .ref la, v13_6]))] ++ va_pl Ln_80 (pE Pw_129)) := (by rw [← eU]; exact hD)
    clear eU hD0 gkp_128 hkp_128
    have wPw_129 : RW1 xr_99 Pw_123 Pw_129 := (by rw [ePw_129]; exact RW1.put _ _ _ _)
    have hy_130 : Pw_129.kd la = 30 := (by rw [ePw_129]; exact hy_124)
    have hy_131 : Pw_129.kd lr = 30 := (by rw [ePw_129]; exact hy_125)
    have hy_132 : Pw_129.kd q_54 = 17 := (by rw [ePw_129]; exact hy_126)
    have hy_133 : Pw_129.kd xr_99 = 17 := (by rw [ePw_129]; exact hy_127)
    have : Pw_129.ro xr_99 = Pw_123.ro xr_99 := (by rw [ePw_129]; exact rw9_of _ (by decide))
    have : Pw_129.rt xr_99 = Pw_123.rt xr_99 := (by rw [ePw_129]; exact rw9_of _ (by decide))
    have : Pw_129.ra xr_99 = Pw_123.ra xr_99 := (by rw [ePw_129]; exact rw9_of _ (by decide))
    have : Pw_129.rb xr_99 = 0 := (by rw [ePw_129]; exact rw9_at _ _ _ _)
    have : Pw_129.rA xr_99 = Pw_123.rA xr_99 := (by rw [ePw_129]; exact rw9_of _ (by decide))
    have : Pw_129.rB xr_99 = Pw_123.rB xr_99 := (by rw [ePw_129]; exact rw9_of _ (by decide))
    have : Pw_129.rg xr_99 = Pw_123.rg xr_99 := (by rw [ePw_129]; exact rw9_of _ (by decide))
    have : Pw_129.ek xr_99 = Pw_123.ek xr_99 := (by rw [ePw_129]; rfl)
    refine lv_aload_n hx hb dX13_row_79 rfl (lv_at hl 0 rfl) ?_
    refine lv_iconst (v := 0) hx hb dX13_row_80 (by decide) ?_
    refine lv_topi (fun z ez => ?_)
    obtain rfl : z = zI (0) := ez
    obtain ⟨kp_134, gkp_134⟩ := va_pl_get (X := [(hc, .inr (12, [v13_0, .ref lr, v13_2, .int (zI (z_103)), v13_4, .ref la, v13_6]))]) (f := pE Pw_129) hm_100
    have hkp_134 := gkp_134
    rw [pE_row hy_133] at hkp_134
    have hD0 := hD
    refine va_put (D := (dC, dI)) (ci := 21) (v := .int (zI (0))) (ty := .int) (C := RX17) (T := TX17) (N := 7) hx hb hts mem_P13_rowQ_3 tyX17 tyX17_ok nmX17 hown hK hP hD hS kp_134 hkp_134 rfl 1 (by decide) (ow (k := 15) rfl) (fun _ h9 => h9) rfl (by decide +kernel) rfl rfl (by first | exact Nat.le_of_ble_eq_true rfl | exact Nat.le_trans (show (1 + (Pm_55.gc lr)) ≤ 2 from (by omega)) (Nat.le_of_ble_eq_true rfl) | exact Nat.le_trans (show (7 + (Pm_55.gx lr)) ≤ 6253 from (by omega)) (Nat.le_of_ble_eq_true rfl)) dX13_row_81 (fun H locs hP hD hS => ?_)
    obtain ⟨Pw_135, ePw_135⟩ : ∃ q9 : PO, q9 = Pw_129.rw9 1 xr_99 (0) := ⟨_, rfl⟩
    have eU : (([(hc, .inr (12, [v13_0, .ref lr, v13_2, .int (zI (z_103)), v13_4, .ref la, v13_6]))] : va_W) ++ va_pl Ln_80 (pE Pw_129)).set kp_134 (xr_99, rowE (Pw_129.ro xr_99) (0) (Pw_129.ra xr_99) (Pw_129.rb xr_99) (Pw_129.rA xr_99) (Pw_129.rB xr_99) (Pw_129.rg xr_99)) = ([(hc, .inr (12, [v13_0, .ref lr, v13_2, .int (zI (z_103)), v13_4, .ref la, v13_6]))] : va_W) ++ va_pl Ln_80 (pE Pw_135) := (by rw [va_pl_set hD0 hm_100 gkp_134, ePw_135]; exact congrArg (fun f9 => ([(hc, .inr (12, [v13_0, .ref lr, v13_2, .int (zI (z_103)), v13_4, .ref la, v13_6]))] : va_W) ++ va_pl Ln_80 f9) (put17_1 hy_133))
    have hP : va_P (dC, dI) vwQ ([(hc, .inr (12, [v13_0, .ref lr, v13_2, .int (zI (z_103)), v13_4, .ref la, v13_6]))] ++ va_pl Ln_80 (pE Pw_135)) H := (by rw [← eU]; exact hP)
    have hD : va_D A ([(hc, .inr (12, [v13_0, .ref lr, v13_2, .int (zI (z_103)), v13_4, .ref la, v13_6]))] ++ va_pl Ln_80 (pE Pw_135)) := (by rw [← eU]; exact hD)
    clear eU hD0 gkp_134 hkp_134
    have wPw_135 : RW1 xr_99 Pw_129 Pw_135 := (by rw [ePw_135]; exact RW1.put _ _ _ _)
    have hy_136 : Pw_135.kd la = 30 := (by rw [ePw_135]; exact hy_130)
    have hy_137 : Pw_135.kd lr = 30 := (by rw [ePw_135]; exact hy_131)
    have hy_138 : Pw_135.kd q_54 = 17 := (by rw [ePw_135]; exact hy_132)
    have hy_139 : Pw_135.kd xr_99 = 17 := (by rw [ePw_135]; exact hy_133)
    have : Pw_135.ro xr_99 = Pw_129.ro xr_99 := (by rw [ePw_135]; exact rw9_of _ (by decide))
    have : Pw_135.rt xr_99 = 0 := (by rw [ePw_135]; exact rw9_at _ _ _ _)
    have : Pw_135.ra xr_99 = Pw_129.ra xr_99 := (by rw [ePw_135]; exact rw9_of _ (by decide))
    have : Pw_135.rb xr_99 = Pw_129.rb xr_99 := (by rw [ePw_135]; exact rw9_of _ (by decide))
    have : Pw_135.rA xr_99 = Pw_129.rA xr_99 := (by rw [ePw_135]; exact rw9_of _ (by decide))
    have : Pw_135.rB xr_99 = Pw_129.rB xr_99 := (by rw [ePw_135]; exact rw9_of _ (by decide))
    have : Pw_135.rg xr_99 = Pw_129.rg xr_99 := (by rw [ePw_135]; exact rw9_of _ (by decide))
    have : Pw_135.ek xr_99 = Pw_129.ek xr_99 := (by rw [ePw_135]; rfl)
    have hW_140 : RW1 xr_99 Pn_81 Pw_135 := wPw_105.trans (wPw_111.trans (wPw_117.trans (wPw_123.trans (wPw_129.trans (wPw_135)))))
    have hrw_143 : RWD Pn_81 Pw_135 := hW_140.rwd (Or.inl hk_101)
    have hak_142 : GLR Ln_80 Pw_135 cO cI cZ sx_ed := hak_84.row hW_140 hk_101 (ROKR.of (by omega) (by omega) (by omega) (by omega) (by omega) (by omega) (by omega) (rUA9R (by have q9 := rUsA_spec (Pn_81.ro xr_99) (Pn_81.rA xr_99); omega)) (rUB9R (by have q9 := rUsB_spec (Pn_81.ro xr_99) (Pn_81.rB xr_99); omega))) (fun e9 => by have q9 := hak_84.op21 hm_100 hk_101 e9; omega)
    have hke_141 : KEG [lr] Ln_80 Pn_81 Ln_80 Pw_135 := hrw_143.kegR _ hq_85.2
    have hps := PSI.same (w := wSL) (L := Ln_80) (congrArg Prod.fst hW_140.1)
    have hpc := PSI.same (w := wCE) (L := Ln_80) (congrArg Prod.fst hW_140.1)
    have hlv_144 : LVA Ln_80 Pw_135 := LVA.same hlv_96 (congrArg Prod.fst hW_140.1)
    have hq_145 : la ∈ Ln_80 ∧ Pw_135.kd la = 30 := hke_141.mem hq_85.1 hq_85.2 (by decide)
    have hq_146 : lr ∈ Ln_80 ∧ Pw_135.kd lr = 30 := hke_141.mem hq_86.1 hq_86.2 (by decide)
    have hq_147 : q_54 ∈ Ln_80 ∧ Pw_135.kd q_54 = 17 := hke_141.mem hq_87.1 hq_87.2 (by decide)
    have hq_148 : xr_99 ∈ Ln_80 ∧ Pw_135.kd xr_99 = 17 := hke_141.mem hm_100 hk_101 (by decide)
    have hE_149 : Pw_135.ek q_54 ≠ 1 := (by rw [hke_141.ek hq_87.1 hq_87.2 (by decide)]; exact hE_88)
    have hE_150 : Pw_135.ek xr_99 ≠ 1 := (by rw [hke_141.ek hm_100 hk_101 (by decide)]; exact hE_102)
    have hA_151 : KEG [lr] L P Ln_80 Pw_135 := hA_89.trans hke_141
    have : Pw_135.lz la = Pn_81.lz la := hrw_143.lz hq_85.2
    have : Pw_135.lz lr = Pn_81.lz lr := hrw_143.lz hq_86.2
    have : Pw_135.cap la = Pn_81.cap la := hW_140.cap la
    have : LVS (Pw_135.cap la) = LVS (Pn_81.cap la) := congrArg LVS (hW_140.cap la)
    have : Pw_135.cap lr = Pn_81.cap lr := hW_140.cap lr
    have : LVS (Pw_135.cap lr) = LVS (Pn_81.cap lr) := congrArg LVS (hW_140.cap lr)
    have hek_152 : Pw_135.ek la = 12 := (by rw [hke_141.ek hq_85.1 hq_85.2 (by decide)]; exact hek_90)
    have how_153 : Pw_135.ow la = la := ((hke_141.1 la hq_85.1 (by rw [hq_85.2]; decide)).2.2.2.1 hq_85.2 how_91).1
    have hcz := (((hke_141.1 la hq_85.1 (by rw [hq_85.2]; decide)).2.2.2.1 hq_85.2 how_91).2 (fun q9 => by have h9 := hek_90; rw [List.mem_singleton.mp q9] at h9; omega)).1
    have hek_154 : Pw_135.ek lr = 17 := (by rw [hke_141.ek hq_86.1 hq_86.2 (by decide)]; exact hek_92)
    have how_155 : Pw_135.ow lr = lr := ((hke_141.1 lr hq_86.1 (by rw [hq_86.2]; decide)).2.2.2.1 hq_86.2 how_93).1
    refine lv_aload_n hx hb dX13_row_84 rfl (lv_at hl 0 rfl) ?_
    subst hQ
    have hK := hK.sub (tys' := [(cO, .object "java/lang/Object"), (cI, .int), (cZ, .boolean)]) [2, 0, 1] rfl
    refine W_knowS (fun hrm9 => ?_)
    refine W.widen (k := 2) (n := 6253) (by omega) (by omega) ?_
    exact W.aret (v := .ref xr_99) hx hb hr (Or.inl ⟨_, rfl⟩) (Or.inr ⟨_, rfl⟩) (fun t ht hW => ⟨⟨(), xr_99, rfl, trivial, z_103, Ln_80, Pw_135, (1 + (Pm_55.gc lr)), (7 + (Pm_55.gx lr)), ⟨⟨(by rw [ht, ← hp1]; exact hrm9), (by omega)⟩, ⟨(by omega), ⟨hA_151, hak_142, ⟨⟨hq_148.1, hq_148.2, hE_150⟩, ⟨by omega, (show _ ∨ _ from by omega)⟩, ⟨by omega, by omega⟩, ((hex_58.chg.wk (fun z _ q9 => q9.elim)).trans (hu_82.1.chgo hak_59.owa hq_62.1 hq_62.2 hu_82.2.2.2.2.2.2.2) (fun z m q9 => by rcases q9 with q9 | q9; exact Or.inr (Or.inl q9); exact Or.inr (Or.inr ⟨((hex_58 z m).2.2.1 0).symm.trans q9.1, ((hex_58 z m).2.2.1 9).symm.trans q9.2⟩)) |>.trans (hW_140.chg _) (fun z m q9 => Or.inl q9)), (fun y m k n => by rw [hW_140.cap, hu_82.1.capO hak_59.owa hq_62.1 hq_62.2 hu_82.2.2.2.2.2.2.2 (hex_58 y m).1 (by show Pm_55.2.1 0 y = 30; rw [(hex_58 y m).2.2.1 0]; exact k) n, hex_58.cap hX_g.owa m k]), (fun m9 => absurd m9 hxn9)⟩, ⟨(by rw [hW_140.el]; exact hel9), (fun i i0 i1 => by rw [hW_140.el, hu_82.1.elx hu_82.2.2.2.2.2.2.1 i0 (by omega)]; exact hex_58.el hX_g.owa hX_lr.1 hX_lr.2.1 i0 i1), (Or.inr ⟨by omega, by omega, hxn9⟩)⟩, by omega, hlv_144, ⟨by omega, by omega, by omega⟩, ⟨(by rw [hW_140.cap lr]; omega), (by rw [hW_140.cap lr]; omega)⟩, NWO.rw2 (NWO.gl (NWO.ext hex_58 (fun z m n9 => Or.inl (by rw [eLm_56] at m; rcases List.mem_cons.mp m with q9 | q9; exact q9.trans hbq.symm; exact absurd q9 n9))) (fun z m => (hex_58 z m).1) hak_59.owa hu_82.1 hq_62.1 hq_62.2 hu_82.2.2.2.2.2.2.2) hW_140.1⟩⟩⟩, by rw [ht]; exact hP, va_K.moved hW.alike hK, hD⟩, hS.F ht⟩) hS.2.2 dX13_row_85
