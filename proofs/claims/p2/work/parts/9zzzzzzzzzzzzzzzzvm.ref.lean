def o_P13_phiQ : List Cond := [.fieldLink RX13 29 "SsaForgeModel$Code" "phiN" "I", .fieldLink RX13 19 "SsaForgeModel$Code" "phis" "Ljava/util/ArrayList;", .methodLink RX13 38 yJx4a65c_size_8abf5, .instanceMethod yJx4a65c_size_8abf5, .selects RJx4a65c yJx4a65c_size_8abf5 yJx4a65c_size_8abf5, .initialized RJx4a65c, .methodLink RX13 49 yJx4a65c_get_915e3, .instanceMethod yJx4a65c_get_915e3, .selects RJx4a65c yJx4a65c_get_915e3 yJx4a65c_get_915e3, .classLink RX13 77 "SsaForgeModel$Phi", .methodLink RX13 80 yX15_begin, .instanceMethod yX15_begin, .selects RX15 yX15_begin yX15_begin, .initialized RX15, .classLink RX13 77 RX15, .instantiable RX15 6, .instanceMethod yX15_init, .methodLink RX13 45 yJx4a65c_add_9ea2d, .instanceMethod yJx4a65c_add_9ea2d, .selects RJx4a65c yJx4a65c_add_9ea2d yJx4a65c_add_9ea2d]
def v_P13_phiQ : List Cond := .code yX13_phi cX13_phi 3 (some (.object "SsaForgeModel$Phi")) :: (o_P13_phiQ ++ (wsX130 ++ (v_PL_size ++ (v_PL_get ++ (v_PP_beginS ++ (wsX150 ++ (v_X15_init ++ (v_PL_addAX ++ []))))))))
theorem mow_P13_phiQ : ∀ w ∈ o_P13_phiQ, w ∈ v_P13_phiQ := fun _ h => List.mem_cons_of_mem _ (List.mem_append_left _ h)
theorem mem_P13_phiQ_0 : ∀ w ∈ wsX130, w ∈ v_P13_phiQ := fun _ h => List.mem_cons_of_mem _ (List.mem_append_right _ (List.mem_append_left _ h))
theorem mem_P13_phiQ_1 : ∀ w ∈ v_PL_size, w ∈ v_P13_phiQ := fun _ h => List.mem_cons_of_mem _ (List.mem_append_right _ (List.mem_append_right _ (List.mem_append_left _ h)))
theorem mem_P13_phiQ_2 : ∀ w ∈ v_PL_get, w ∈ v_P13_phiQ := fun _ h => List.mem_cons_of_mem _ (List.mem_append_right _ (List.mem_append_right _ (List.mem_append_right _ (List.mem_append_left _ h))))
theorem mem_P13_phiQ_3 : ∀ w ∈ v_PP_beginS, w ∈ v_P13_phiQ := fun _ h => List.mem_cons_of_mem _ (List.mem_append_right _ (List.mem_append_right _ (List.mem_append_right _ (List.mem_append_right _ (List.mem_append_left _ h)))))
theorem mem_P13_phiQ_4 : ∀ w ∈ wsX150, w ∈ v_P13_phiQ := fun _ h => List.mem_cons_of_mem _ (List.mem_append_right _ (List.mem_append_right _ (List.mem_append_right _ (List.mem_append_right _ (List.mem_append_right _ (List.mem_append_left _ h))))))
theorem mem_P13_phiQ_5 : ∀ w ∈ v_X15_init, w ∈ v_P13_phiQ := fun _ h => List.mem_cons_of_mem _ (List.mem_append_right _ (List.mem_append_right _ (List.mem_append_right _ (List.mem_append_right _ (List.mem_append_right _ (List.mem_append_right _ (List.mem_append_left _ h)))))))
theorem mem_P13_phiQ_6 : ∀ w ∈ v_PL_addAX, w ∈ v_P13_phiQ := fun _ h => List.mem_cons_of_mem _ (List.mem_append_right _ (List.mem_append_right _ (List.mem_append_right _ (List.mem_append_right _ (List.mem_append_right _ (List.mem_append_right _ (List.mem_append_right _ (List.mem_append_left _ h))))))))
set_option maxRecDepth 20000 in
theorem gw_P13_phiQ : v_P13_phiQ.all goodWord = true := by decide +kernel
set_option maxRecDepth 20000 in
theorem g_P13_phiQ_PL_size : GoodIn v_P13_phiQ (wsV RX13 38 RJx4a65c yJx4a65c_size_8abf5 v_PL_size) := goodIn_app (goodIn_sub (fun w h => mow_P13_phiQ w (by revert w h; decide +kernel)) (by decide +kernel)) (goodIn_sub mem_P13_phiQ_1 gw_PL_size)
set_option maxRecDepth 20000 in
theorem g_P13_phiQ_PL_get : GoodIn v_P13_phiQ (wsV RX13 49 RJx4a65c yJx4a65c_get_915e3 v_PL_get) := goodIn_app (goodIn_sub (fun w h => mow_P13_phiQ w (by revert w h; decide +kernel)) (by decide +kernel)) (goodIn_sub mem_P13_phiQ_2 gw_PL_get)
set_option maxRecDepth 20000 in
theorem g_P13_phiQ_PP_beginS : GoodIn v_P13_phiQ (wsV RX13 80 RX15 yX15_begin v_PP_beginS) := goodIn_app (goodIn_sub (fun w h => mow_P13_phiQ w (by revert w h; decide +kernel)) (by decide +kernel)) (goodIn_sub mem_P13_phiQ_3 gw_PP_beginS)
set_option maxRecDepth 20000 in
theorem g_P13_phiQ_PL_addAX : GoodIn v_P13_phiQ (wsV RX13 45 RJx4a65c yJx4a65c_add_9ea2d v_PL_addAX) := goodIn_app (goodIn_sub (fun w h => mow_P13_phiQ w (by revert w h; decide +kernel)) (by decide +kernel)) (goodIn_sub mem_P13_phiQ_6 gw_PL_addAX)
set_option maxHeartbeats 4000000 in
set_option maxRecDepth 100000 in
theorem c_P13_phiQ (l : Launch) (dC : Nat → ClassId) (dI : Nat → Nat → Nat) (cI : ClassId) (cZ : ClassId) (hc : Nat) (v13_0 : Value) (v13_1 : Value) (v13_3 : Value) (z13_phiN : Int) (v13_6 : Value) (la : Nat) (lp : Nat) (cO : ClassId) (L : List Nat) (P : PO) (sx_ed : Nat) (t0 : Int) (hNz13_phiN : 0 ≤ z13_phiN ∧ z13_phiN ≤ 19000) (hX_g : GLR L P cO cI cZ sx_ed) (hX_la : la ∈ L ∧ P.kd la = 30 ∧ P.ek la = 12 ∧ P.ow la = la) (hX_lp : lp ∈ L ∧ P.kd lp = 30 ∧ P.ek lp = 15 ∧ P.ow lp = lp) (hNr : z13_phiN ≤ P.lz lp ∧ P.lz lp ≤ 4164 ∧ 0 ≤ z13_phiN ∧ 0 ≤ t0 ∧ t0 ≤ 1001) (hX_V : LVA L P) (sz : Nat) (HU : Heap) (sx_mi : Nat) : Met l yX13_phi v_P13_phiQ ({ frames := 7, cells := 5, slots := 6264, locals := 191 }) (va_Pc [.ref hc, .int (zI (t0))] (fun U => U.heap.size = sz ∧ va_P (dC, dI) vwQ ([(hc, .inr (12, [v13_0, v13_1, .ref lp, v13_3, .int (zI (z13_phiN)), .ref la, v13_6]))] ++ va_pl L (pE P)) U.heap ∧ va_K (dC, dI) vwQ [(cO, .object "java/lang/Object"), (cI, .int), (cZ, .boolean)] U ∧ va_D (fun _ => True) ([(hc, .inr (12, [v13_0, v13_1, .ref lp, v13_3, .int (zI (z13_phiN)), .ref la, v13_6]))] ++ va_pl L (pE P)) ∧ va_Nw (.castable "SsaForgeModel$Phi" "SsaForgeModel$Phi") U ∧ U.heap = HU ∧ va_Nw (.methodLinkNest RX13 79 yX15_init "SsaForgeModel") U ∧ va_Nw (.castable "SsaForgeModel$Row" "java/lang/Object") U ∧ va_Nw (.castable "SsaForgeModel$Phi" "java/lang/Object") U ∧ va_Nw (.castable "SsaForgeModel$Block" "java/lang/Object") U ∧ va_Dc U ∧ va_Mi "[Ljava/lang/Object;" sx_mi U ∧ va_AO "java/lang/Object" U ∧ va_T (.object "java/lang/Object") sx_ed 0 (fun _ => .null) (va_A ([(hc, .inr (12, [v13_0, v13_1, .ref lp, v13_3, .int (zI (z13_phiN)), .ref la, v13_6]))] ++ va_pl L (pE P)) sz) U U.heap ∧ va_Z "java/util/ArrayList" "DEFAULTCAPACITY_EMPTY_ELEMENTDATA" "[Ljava/lang/Object;" (.ref sx_ed) (va_A ([(hc, .inr (12, [v13_0, v13_1, .ref lp, v13_3, .int (zI (z13_phiN)), .ref la, v13_6]))] ++ va_pl L (pE P)) sz) U U.heap)) (va_Qr (fun _ : Unit => True) (fun (_ : Unit) (rq : Nat) (t : State) => ∃ (z0_9 : Int) (Ln_9 : List Nat) (Pn_9 : PO) (kc_9 : Nat) (ks_9 : Nat), ((RM HU t.heap kc_9 ks_9 ∧ ((ks_9 : Int) ≤ PSI wSL Ln_9 Pn_9 - PSI wSL L P ∧ 40 * (kc_9 : Int) ≤ PSI wCE Ln_9 Pn_9 - PSI wCE L P)) ∧ ((0 ≤ z0_9 ∧ z0_9 ≤ 19001) ∧ (KEG [lp] L P Ln_9 Pn_9 ∧ GLR Ln_9 Pn_9 cO cI cZ sx_ed ∧ CPQ lp rq (z13_phiN) t0 L P Ln_9 Pn_9 ∧ (z0_9 = z13_phiN + 1) ∧ LVA Ln_9 Pn_9 ∧ (PSI wSL Ln_9 Pn_9 = PSI wSL L P + 18 * (Pn_9.lz lp - P.lz lp) + (LVS (Pn_9.cap lp) - LVS (P.cap lp)) ∧ PSI wCE Ln_9 Pn_9 = PSI wCE L P + 160 * (Pn_9.lz lp - P.lz lp) + 4 * (LVS (Pn_9.cap lp) - LVS (P.cap lp))) ∧ NWP rq lp L P Ln_9 Pn_9))) ∧ va_P (dC, dI) vwQ ([(hc, .inr (12, [v13_0, v13_1, .ref lp, v13_3, .int (zI (z0_9)), .ref la, v13_6]))] ++ va_pl Ln_9 (pE Pn_9)) t.heap ∧ va_K (dC, dI) vwQ [(cO, .object "java/lang/Object"), (cI, .int), (cZ, .boolean)] t ∧ va_D (va_A ([(hc, .inr (12, [v13_0, v13_1, .ref lp, v13_3, .int (zI (z13_phiN)), .ref la, v13_6]))] ++ va_pl L (pE P)) sz) ([(hc, .inr (12, [v13_0, v13_1, .ref lp, v13_3, .int (zI (z0_9)), .ref la, v13_6]))] ++ va_pl Ln_9 (pE Pn_9))) (va_A ([(hc, .inr (12, [v13_0, v13_1, .ref lp, v13_3, .int (zI (z13_phiN)), .ref la, v13_6]))] ++ va_pl L (pE P)) sz)) 5 6264 (va_A ([(hc, .inr (12, [v13_0, v13_1, .ref lp, v13_3, .int (zI (z13_phiN)), .ref la, v13_6]))] ++ va_pl L (pE P)) sz) := by
  refine Met.ofW (cc := cX13_phi) (maxL := 3) (ret := (some (.object "SsaForgeModel$Phi"))) (by decide) rfl ?_
  intro p e s m args below meth c s₁ B hml hv
  obtain ⟨rfl, hsz, hP, hK, hD0, hp0, hp1, hp2, hp3, hp4, hp5, hp6, hp7, hp8, hp9, hp10⟩ := hv
  have hx := B.exec
  have hb := B.bytes
  have hr := B.returns
  have hts := atoms_spec (ws := v_P13_phiQ) B.pre
  have hown : s.vm.findClass RX13 = some m.cls := findClass_of_methodNamed B.named
  have hlocks := B.notSynchronized
  have ow : ∀ {k : Nat} {w : Cond}, o_P13_phiQ[k]? = some w → w.before ([.ref hc, .int (zI (t0))] : List Value).toArray s = true := fun h => hts _ (mow_P13_phiQ _ (List.mem_of_getElem? h))
  subst hsz
  have hD := hD0.self (sz := s.heap.size)
  generalize hAe : va_A ([(hc, .inr (12, [v13_0, v13_1, .ref lp, v13_3, .int (zI (z13_phiN)), .ref la, v13_6]))] ++ va_pl L (pE P)) s.heap.size = A at hD hp8 hp9 hp10 ⊢
  have hA : ∀ q : Nat, s.heap.size ≤ q → A q := fun q h => by rw [← hAe]; exact Or.inr h
  have hS : va_S A s.heap s.heap [] := va_S.rf
  have hP : va_P (dC, dI) vwQ ([(hc, .inr (12, [v13_0, v13_1, .ref lp, v13_3, .int (zI (z13_phiN)), .ref la, v13_6]))] ++ va_pl L (pE P)) s.heap := hP
  have hl := lv_entry ([.ref hc, .int (zI (t0))]) (n := 3) (Nat.le_of_ble_eq_true rfl)
  rw [lg_entry_eq]
  generalize (lg_sl ([.ref hc, .int (zI (t0))]) ++ List.replicate (3 - (lg_sl ([.ref hc, .int (zI (t0))])).length) Slot.unset).toArray = ls at hl ⊢
  have hl : lv_has ls 3 [(0, .ref hc), (1, .int (zI (t0)))] := hl
  obtain ⟨H, hH⟩ : ∃ H, H = s.heap := ⟨_, rfl⟩
  rw [← hH] at hP
  have hS : va_S A s.heap H [] := by rw [hH]; exact hS
  rw [← hH]
  refine zW_cap (fun Q hQ => ?_)
  have hX_g9 := hX_g
  have hC_la := hX_la
  have hC_lp := hX_lp
  refine lv_aload_n hx hb dX13_phi_0 rfl (lv_at hl 0 rfl) ?_
  refine va_get (D := (dC, dI)) (ci := 12) (v := .int (zI (z13_phiN))) (C := RX13) (T := TX13) (N := 7) hx hb hts mem_P13_phiQ_0 hown hK hP 0 rfl rfl 4 (by decide) (ow (k := 0) rfl) (fun _ h9 => h9) rfl dX13_phi_1 ?_
  refine lv_aload_n hx hb dX13_phi_4 rfl (lv_at hl 0 rfl) ?_
  refine va_get (D := (dC, dI)) (ci := 12) (v := .ref lp) (C := RX13) (T := TX13) (N := 7) hx hb hts mem_P13_phiQ_0 hown hK hP 0 rfl rfl 2 (by decide) (ow (k := 1) rfl) (fun _ h9 => h9) rfl dX13_phi_5 ?_
  have hlk_1 := (show LOK L P cO 15 lp from (by have q9 := (hX_g9.gla lp hC_lp.1 hC_lp.2.1).1; rw [hC_lp.2.2.1] at q9; exact q9))
  have hX_x := hlk_1.1
  have hX_k := hlk_1.2.1
  have hlz9 := hlk_1.2.2.1
  have hPc := hP.part (X := [(hc, .inr (12, [v13_0, v13_1, .ref lp, v13_3, .int (zI (z13_phiN)), .ref la, v13_6]))]) (cx := []) (pl := va_pl L (pE P)) [] rfl
  have hDc := hD.part (X := [(hc, .inr (12, [v13_0, v13_1, .ref lp, v13_3, .int (zI (z13_phiN)), .ref la, v13_6]))]) (cx := []) (pl := va_pl L (pE P)) [] (by decide) rfl
  have hKc := hK.sub (tys' := [(cO, .object "java/lang/Object")]) [0] rfl
  have hFc := va_freeP (X := [(hc, .inr (12, [v13_0, v13_1, .ref lp, v13_3, .int (zI (z13_phiN)), .ref la, v13_6]))]) (cx := []) (pl := va_pl L (pE P)) hD hS hA [] rfl
  refine va_calli (va_runV (As := []) (rest := [.int (zI (z13_phiN))]) ⟨hx, hb, hml, hown, hts⟩ (c_PL_size l dC dI cO L P lp hX_x hX_k (by omega) H.size) (cwV 0 hts g_P13_phiQ_PL_size rfl rfl rfl (by decide +kernel) ⟨(Nat.le_of_ble_eq_true rfl), (Nat.le_of_ble_eq_true rfl)⟩) ⟨fun a U g mk q => by obtain ⟨q0, q1, qP, qK, qD⟩ := q; exact ⟨q0, q1, qP, va_K.moved (u := U) (U := U.calling g mk a) (Vm.Alike.refl U.vm) qK, qD⟩, recv_30 hKc hPc hC_lp.1 hC_lp.2.1, fun U hU hW => ⟨rfl, by rw [hU], by rw [hU]; exact hPc, va_K.moved hW.alike hKc, hDc.weaken (fun _ _ _ _ => trivial)⟩⟩ rfl rfl hl.1 rfl (lv_room (Nat.le_of_ble_eq_true rfl)) dX13_phi_8 ⟨(Nat.le_of_ble_eq_true rfl), (Nat.le_of_ble_eq_true rfl)⟩) hS (fun q _ h => hFc q h) hFc (fun r_2 u t H1 locs ht hvm hw hB hz1 hk1 hS => ?_)
  obtain ⟨hP1, hK1, hD1⟩ := hB
  rw [ht] at hP1
  have hK1 := va_K.moved hvm.symm hK1
  obtain ⟨hP, hD⟩ := va_joinP (X := [(hc, .inr (12, [v13_0, v13_1, .ref lp, v13_3, .int (zI (z13_phiN)), .ref la, v13_6]))]) (cx := []) (wr := [(hc, .inr (12, [v13_0, v13_1, .ref lp, v13_3, .int (zI (z13_phiN)), .ref la, v13_6]))]) (rx := []) (pl := va_pl L (pE P)) (pl1 := va_pl L (pE P)) hP hD [] [0] rfl rfl (by decide) (by decide) hk1 hFc hP1 hD1
  have hK := (hK.sub (tys' := [(cI, .int), (cZ, .boolean)]) [1, 2] rfl).app hK1
  generalize H1 = H at hP hS ⊢
  have hP : va_P (dC, dI) vwQ ([(hc, .inr (12, [v13_0, v13_1, .ref lp, v13_3, .int (zI (z13_phiN)), .ref la, v13_6]))] ++ va_pl L (pE P)) H := hP
  have hD : va_D A ([(hc, .inr (12, [v13_0, v13_1, .ref lp, v13_3, .int (zI (z13_phiN)), .ref la, v13_6]))] ++ va_pl L (pE P)) := hD
  have hK : va_K (dC, dI) vwQ [(cI, .int), (cZ, .boolean), (cO, .object "java/lang/Object")] s := hK
  refine W.widen (k := 0) (n := 0) (Nat.le_of_ble_eq_true rfl) (Nat.le_of_ble_eq_true rfl) ?_
  obtain rfl : r_2 = (zI (P.lz lp)) := hw
  refine lv_icmp_ne (tgt := 29) hx hb dX13_phi_11 (by decide) (fun b11 => ?_) (fun b11 => ?_)
  · have yb11 : ¬ (z13_phiN : Int) = (P.lz lp : Int) := fun q => b11 ((zI_eq (a := z13_phiN) (b := P.lz lp) (by omega) (by omega) (by omega) (by omega)).mpr q)
    refine lv_aload_n hx hb dX13_phi_29 rfl (lv_at hl 0 rfl) ?_
    refine va_get (D := (dC, dI)) (ci := 12) (v := .ref lp) (C := RX13) (T := TX13) (N := 7) hx hb hts mem_P13_phiQ_0 hown hK hP 0 rfl rfl 2 (by decide) (ow (k := 1) rfl) (fun _ h9 => h9) rfl dX13_phi_30 ?_
    refine lv_aload_n hx hb dX13_phi_33 rfl (lv_at hl 0 rfl) ?_
    refine va_get (D := (dC, dI)) (ci := 12) (v := .int (zI (z13_phiN))) (C := RX13) (T := TX13) (N := 7) hx hb hts mem_P13_phiQ_0 hown hK hP 0 rfl rfl 4 (by decide) (ow (k := 0) rfl) (fun _ h9 => h9) rfl dX13_phi_34 ?_
    have hlk_3 := (show LOK L P cO 15 lp from (by have q9 := (hX_g9.gla lp hC_lp.1 hC_lp.2.1).1; rw [hC_lp.2.2.1] at q9; exact q9))
    obtain ⟨x, ex⟩ : ∃ q9 : Nat, q9 = P.el lp (z13_phiN) := ⟨_, rfl⟩
    have hX_x := hlk_3.1
    have hX_k := hlk_3.2.1
    have hq9 := hlk_3.row (i := z13_phiN) (by omega) (by omega)
    have hX_q : P.le lp ∈ L ∧ P.kd (P.le lp) = 31 ∧ P.ac (P.le lp) = cO := ⟨hq9.1, hq9.2.1, hq9.2.2.1⟩
    have hq8 := hq9.2.2.2
    have hX_e0 : P.oa (P.le lp) (z13_phiN).toNat = some x := (by rw [ex]; exact (hlk_3.2.2.2.2 (z13_phiN) (by omega) (by omega)).1)
    have hxm : x ∈ L := (by rw [ex]; exact (hlk_3.2.2.2.2 (z13_phiN) (by omega) (by omega)).2.1)
    have hxk := (hlk_3.2.2.2.2 (z13_phiN) (by omega) (by omega)).2.2
    rw [← ex] at hxk
    have hPc := hP.part (X := [(hc, .inr (12, [v13_0, v13_1, .ref lp, v13_3, .int (zI (z13_phiN)), .ref la, v13_6]))]) (cx := []) (pl := va_pl L (pE P)) [] rfl
    have hDc := hD.part (X := [(hc, .inr (12, [v13_0, v13_1, .ref lp, v13_3, .int (zI (z13_phiN)), .ref la, v13_6]))]) (cx := []) (pl := va_pl L (pE P)) [] (by decide) rfl
    have hKc := hK.sub (tys' := [(cO, .object "java/lang/Object")]) [2] rfl
    have hFc := va_freeP (X := [(hc, .inr (12, [v13_0, v13_1, .ref lp, v13_3, .int (zI (z13_phiN)), .ref la, v13_6]))]) (cx := []) (pl := va_pl L (pE P)) hD hS hA [] rfl
    refine va_callr (va_runV (As := [.int (zI (z13_phiN))]) (rest := []) ⟨hx, hb, hml, hown, hts⟩ (c_PL_get l dC dI cO L P lp z13_phiN x hX_x hX_k hX_q (by omega) hX_e0 H.size) (cwV 1 hts g_P13_phiQ_PL_get rfl rfl rfl (by decide +kernel) ⟨(Nat.le_of_ble_eq_true rfl), (Nat.le_of_ble_eq_true rfl)⟩) ⟨fun a U g mk q => by obtain ⟨q0, q1, qP, qK, qD⟩ := q; exact ⟨q0, q1, qP, va_K.moved (u := U) (U := U.calling g mk a) (Vm.Alike.refl U.vm) qK, qD⟩, recv_30 hKc hPc hC_lp.1 hC_lp.2.1, fun U hU hW => ⟨rfl, by rw [hU], by rw [hU]; exact hPc, va_K.moved hW.alike hKc, hDc.weaken (fun _ _ _ _ => trivial)⟩⟩ rfl rfl hl.1 rfl (lv_room (Nat.le_of_ble_eq_true rfl)) dX13_phi_37 ⟨(Nat.le_of_ble_eq_true rfl), (Nat.le_of_ble_eq_true rfl)⟩) hS (fun q _ h => hFc q h) hFc (fun u q_4 t H1 locs ht hvm hw hB hz1 hk1 hS => ?_)
    obtain ⟨hxt_4, hP1, hK1, hD1⟩ := hB
    rw [ht] at hP1
    have hK1 := va_K.moved hvm.symm hK1
    obtain ⟨hP, hD⟩ := va_joinP (X := [(hc, .inr (12, [v13_0, v13_1, .ref lp, v13_3, .int (zI (z13_phiN)), .ref la, v13_6]))]) (cx := []) (wr := [(hc, .inr (12, [v13_0, v13_1, .ref lp, v13_3, .int (zI (z13_phiN)), .ref la, v13_6]))]) (rx := []) (pl := va_pl L (pE P)) (pl1 := va_pl L (pE P)) hP hD [] [0] rfl rfl (by decide) (by decide) hk1 hFc hP1 hD1
    have hK := (hK.sub (tys' := [(cI, .int), (cZ, .boolean)]) [0, 1] rfl).app hK1
    generalize H1 = H at hP hS ⊢
    have hP : va_P (dC, dI) vwQ ([(hc, .inr (12, [v13_0, v13_1, .ref lp, v13_3, .int (zI (z13_phiN)), .ref la, v13_6]))] ++ va_pl L (pE P)) H := hP
    have hD : va_D A ([(hc, .inr (12, [v13_0, v13_1, .ref lp, v13_3, .int (zI (z13_phiN)), .ref la, v13_6]))] ++ va_pl L (pE P)) := hD
    have hK : va_K (dC, dI) vwQ [(cI, .int), (cZ, .boolean), (cO, .object "java/lang/Object")] s := hK
    refine W.widen (k := 0) (n := 0) (Nat.le_of_ble_eq_true rfl) (Nat.le_of_ble_eq_true rfl) ?_
    rw [hxt_4]
    clear hX_e0
    obtain ⟨xp_5, h9⟩ : ∃ q9 : Nat, q9 = x := ⟨_, rfl⟩
    subst h9
    have hm_6 := hxm
    have hk_7 := hxk
    have hel9 := ex
    refine va_castY (C := "SsaForgeModel$Phi") (nm := "SsaForgeModel$Phi") hx hb hown (ow (k := 9) rfl) hp0 (recv_15 hK hP hm_6 hk_7) dX13_phi_40 ?_
    refine lv_astore_n (lv' := [(2, .ref xp_5), (0, .ref hc), (1, .int (zI (t0)))]) hx hb dX13_phi_43 rfl hl (by decide) rfl (fun ls hl => ?_)
    refine lv_aload_n hx hb dX13_phi_44 rfl (lv_at hl 1 rfl) ?_
    refine lv_dup hx hb dX13_phi_45 rfl ?_
    refine va_get (D := (dC, dI)) (ci := 12) (v := .int (zI (z13_phiN))) (C := RX13) (T := TX13) (N := 7) hx hb hts mem_P13_phiQ_0 hown hK hP 0 rfl rfl 4 (by decide) (ow (k := 0) rfl) (fun _ h9 => h9) rfl dX13_phi_46 ?_
    refine lv_iconst (v := 1) hx hb dX13_phi_49 (by decide) ?_
    refine lv_iadd hx hb dX13_phi_50 ?_
    refine lv_topi (fun z ez => ?_)
    obtain rfl : z = zI (z13_phiN + 1) := ez.trans (zI_add (z13_phiN) (1))
    refine va_put (D := (dC, dI)) (ci := 12) (v := .int (zI (z13_phiN + 1))) (ty := .int) (C := RX13) (T := TX13) (N := 7) hx hb hts mem_P13_phiQ_0 tyX13 tyX13_ok nmX13 hown hK hP hD hS 0 rfl rfl 4 (by decide) (ow (k := 0) rfl) (fun _ h9 => h9) rfl (by decide +kernel) rfl rfl (Nat.le_of_ble_eq_true rfl) dX13_phi_51 (fun H locs hP hD hS => ?_)
    have hP : va_P (dC, dI) vwQ ([(hc, .inr (12, [v13_0, v13_1, .ref lp, v13_3, .int (zI (z13_phiN + 1)), .ref la, v13_6]))] ++ va_pl L (pE P)) H := hP
    have hD : va_D A ([(hc, .inr (12, [v13_0, v13_1, .ref lp, v13_3, .int (zI (z13_phiN + 1)), .ref la, v13_6]))] ++ va_pl L (pE P)) := hD
    obtain ⟨z_9, ez_9⟩ : ∃ z9 : Int, z9 = z13_phiN + 1 := ⟨_, rfl⟩
    rw [← ez_9] at hP hD
    have hP : va_P (dC, dI) vwQ ([(hc, .inr (12, [v13_0, v13_1, .ref lp, v13_3, .int (zI (z_9)), .ref la, v13_6]))] ++ va_pl L (pE P)) H := hP
    have hD : va_D A ([(hc, .inr (12, [v13_0, v13_1, .ref lp, v13_3, .int (zI (z_9)), .ref la, v13_6]))] ++ va_pl L (pE P)) := hD
    refine lv_aload_n hx hb dX13_phi_54 rfl (lv_at hl 0 rfl) ?_
    refine lv_iload_n hx hb dX13_phi_55 rfl (lv_at hl 2 rfl) ?_
    have hX_p := hX_g9.pikR hm_6 hk_7
    have hp9 := hX_g9.pikR hm_6 hk_7
    have hpn := hp9.2.2.2.2.1
    have hpt := hp9.2.2.2.2.2.1
    clear hp9
    have hPc := hP.part (X := [(hc, .inr (12, [v13_0, v13_1, .ref lp, v13_3, .int (zI (z_9)), .ref la, v13_6]))]) (cx := []) (pl := va_pl L (pE P)) [] rfl
    have hDc := hD.part (X := [(hc, .inr (12, [v13_0, v13_1, .ref lp, v13_3, .int (zI (z_9)), .ref la, v13_6]))]) (cx := []) (pl := va_pl L (pE P)) [] (by decide) rfl
    have hKc := hK.sub (tys' := [(cO, .object "java/lang/Object"), (cI, .int), (cZ, .boolean)]) [2, 0, 1] rfl
    have hFc := va_freeP (X := [(hc, .inr (12, [v13_0, v13_1, .ref lp, v13_3, .int (zI (z_9)), .ref la, v13_6]))]) (cx := []) (pl := va_pl L (pE P)) hD hS hA [] rfl
    refine va_callv (va_runV (As := [.int (zI (t0))]) (rest := []) ⟨hx, hb, hml, hown, hts⟩ (c_PP_beginS l dC dI cO cI cZ L P xp_5 t0 hX_p (by omega) H.size) (cwV 1 hts g_P13_phiQ_PP_beginS rfl rfl rfl (by decide +kernel) ⟨(Nat.le_of_ble_eq_true rfl), (Nat.le_of_ble_eq_true rfl)⟩) ⟨fun a U g mk q => by obtain ⟨q0, q1, qP, qK, qD⟩ := q; exact ⟨q0, q1, qP, va_K.moved (u := U) (U := U.calling g mk a) (Vm.Alike.refl U.vm) qK, qD⟩, recv_15 hKc hPc hm_6 hk_7, fun U hU hW => ⟨rfl, by rw [hU], by rw [hU]; exact hPc, va_K.moved hW.alike hKc, hDc.weaken (fun _ _ _ _ => trivial)⟩⟩ rfl rfl hl.1 rfl (lv_room (Nat.le_of_ble_eq_true rfl)) dX13_phi_56 ⟨(Nat.le_of_ble_eq_true rfl), (Nat.le_of_ble_eq_true rfl)⟩) hS (fun q _ h => hFc q h) hFc (fun  u t H1 locs ht hvm hw hB hz1 hk1 hS => ?_)
    obtain ⟨Pn_10, hxt_10, hP1, hK1, hD1⟩ := hB
    rw [ht] at hP1
    have hK1 := va_K.moved hvm.symm hK1
    obtain ⟨hP, hD⟩ := va_joinP (X := [(hc, .inr (12, [v13_0, v13_1, .ref lp, v13_3, .int (zI (z_9)), .ref la, v13_6]))]) (cx := []) (wr := [(hc, .inr (12, [v13_0, v13_1, .ref lp, v13_3, .int (zI (z_9)), .ref la, v13_6]))]) (rx := []) (pl := va_pl L (pE P)) (pl1 := va_pl L (pE Pn_10)) hP hD [] [0] rfl rfl (by decide) (by decide) hk1 hFc hP1 hD1
    have hK := (hK.sub (tys' := []) [] rfl).app hK1
    generalize H1 = H at hP hS ⊢
    have hP : va_P (dC, dI) vwQ ([(hc, .inr (12, [v13_0, v13_1, .ref lp, v13_3, .int (zI (z_9)), .ref la, v13_6]))] ++ va_pl L (pE Pn_10)) H := hP
    have hD : va_D A ([(hc, .inr (12, [v13_0, v13_1, .ref lp, v13_3, .int (zI (z_9)), .ref la, v13_6]))] ++ va_pl L (pE Pn_10)) := hD
    have hK : va_K (dC, dI) vwQ [(cO, .object "java/lang/Object"), (cI, .int), (cZ, .boolean)] s := hK
    refine W.widen (k := 0) (n := 0) (Nat.le_of_ble_eq_true rfl) (Nat.le_of_ble_eq_true rfl) ?_
    have hu_11 := hxt_10
    have hrw_12 : RWD P Pn_10 := hu_11.1.rwd hk_7
    have hke_13 : KEG [lp] L P L Pn_10 := hrw_12.kegR _ hC_la.2.1
    have hak_14 : GLR L Pn_10 cO cI cZ sx_ed := hX_g9.phi hu_11.1 hk_7 hu_11.2.1
    have hps := PSI.same (w := wSL) (L := L) hrw_12.1.1
    have hpc := PSI.same (w := wCE) (L := L) hrw_12.1.1
    have hlv_15 : LVA L Pn_10 := LVA.same hX_V hrw_12.1.1
    have hq_16 : la ∈ L ∧ Pn_10.kd la = 30 := hke_13.mem hC_la.1 hC_la.2.1 (by decide)
    have hq_17 : lp ∈ L ∧ Pn_10.kd lp = 30 := hke_13.mem hC_lp.1 hC_lp.2.1 (by decide)
    have hq_18 : xp_5 ∈ L ∧ Pn_10.kd xp_5 = 15 := hke_13.mem hm_6 hk_7 (by decide)
    have hA_19 : KEG [lp] L P L Pn_10 := (KEG.refl [lp] L P).trans hke_13
    have : Pn_10.lz la = P.lz la := hrw_12.lz hC_la.2.1
    have : Pn_10.lz lp = P.lz lp := hrw_12.lz hC_lp.2.1
    have hpn9 := hu_11.2.2.1
    have : Pn_10.cap la = P.cap la := hrw_12.cap la
    have : LVS (Pn_10.cap la) = LVS (P.cap la) := congrArg LVS (hrw_12.cap la)
    have : Pn_10.cap lp = P.cap lp := hrw_12.cap lp
    have : LVS (Pn_10.cap lp) = LVS (P.cap lp) := congrArg LVS (hrw_12.cap lp)
    have hek_20 : Pn_10.ek la = 12 := (by rw [hke_13.ek hC_la.1 hC_la.2.1 (by decide)]; exact hC_la.2.2.1)
    have how_21 : Pn_10.ow la = la := ((hke_13.1 la hC_la.1 (by rw [hC_la.2.1]; decide)).2.2.2.1 hC_la.2.1 hC_la.2.2.2).1
    have hcz := (((hke_13.1 la hC_la.1 (by rw [hC_la.2.1]; decide)).2.2.2.1 hC_la.2.1 hC_la.2.2.2).2 (fun q9 => by have h9 := hC_la.2.2.1; rw [List.mem_singleton.mp q9] at h9; omega)).1
    have hek_22 : Pn_10.ek lp = 15 := (by rw [hke_13.ek hC_lp.1 hC_lp.2.1 (by decide)]; exact hC_lp.2.2.1)
    have how_23 : Pn_10.ow lp = lp := ((hke_13.1 lp hC_lp.1 (by rw [hC_lp.2.1]; decide)).2.2.2.1 hC_lp.2.1 hC_lp.2.2.2).1
    refine lv_aload_n hx hb dX13_phi_59 rfl (lv_at hl 0 rfl) ?_
    subst hQ
    refine W_knowS (fun hrm9 => ?_)
    refine W.widen (k := 5) (n := 6264) (Nat.le_of_ble_eq_true rfl) (Nat.le_of_ble_eq_true rfl) ?_
    exact W.aret (v := .ref xp_5) hx hb hr (Or.inl ⟨_, rfl⟩) (Or.inr ⟨_, rfl⟩) (fun t ht hW => ⟨⟨(), xp_5, rfl, trivial, z_9, L, Pn_10, 0, 0, ⟨⟨(by rw [ht, ← hp1]; exact hrm9), (by omega)⟩, ⟨(by omega), ⟨hA_19, hak_14, ⟨⟨hq_18.1, hq_18.2, (by rw [hrw_12.el]; exact hel9)⟩, ⟨by omega, (Or.inl (by omega))⟩, ⟨hu_11.2.2.1, hu_11.2.2.2.1, hu_11.2.2.2.2.1⟩, (fun i i0 i1 => hrw_12.el _ _), ((hu_11.2.2.2.2.2.2.chg _).wk (fun z m q9 => Or.inl q9))⟩, by omega, hlv_15, ⟨(by rw [hu_11.2.2.2.2.2.2.cap lp]; omega), (by rw [hu_11.2.2.2.2.2.2.cap lp]; omega)⟩, NWP.rw hu_11.2.2.2.2.2.2.1 hq_18.1⟩⟩⟩, by rw [ht]; exact hP, va_K.moved hW.alike hK, hD⟩, hS.F ht⟩) hS.2.2 dX13_phi_60
  · have yb11 : (z13_phiN : Int) = (P.lz lp : Int) := (zI_eq (a := z13_phiN) (b := P.lz lp) (by omega) (by omega) (by omega) (by omega)).mp b11
    refine lv_aload_n hx hb dX13_phi_14 rfl (lv_at hl 0 rfl) ?_
    refine va_get (D := (dC, dI)) (ci := 12) (v := .ref lp) (C := RX13) (T := TX13) (N := 7) hx hb hts mem_P13_phiQ_0 hown hK hP 0 rfl rfl 2 (by decide) (ow (k := 1) rfl) (fun _ h9 => h9) rfl dX13_phi_15 ?_
    refine va_new (ci := 20) (fs := [.int 0, .int 0, .null, .null, .null, .int 0]) (C := RX15) (T := TX15) (N := 6) hx hb hts mem_P13_phiQ_4 tyX15 tyX15_ok hown (ow (k := 14) rfl) (ow (k := 15) rfl) (ow (k := 13) rfl) hK hP hD hS hA rfl (df_X15) (Nat.le_of_ble_eq_true rfl) (Nat.le_of_ble_eq_true rfl) dX13_phi_18 (fun q_24 H hP hD hS => ?_)
    have hP := pl_Pp (pl_new (X := [(hc, .inr (12, [v13_0, v13_1, .ref lp, v13_3, .int (zI (z13_phiN)), .ref la, v13_6]))]) (pl := va_pl L (pE P))) hP
    have hD := pl_Dp (pl_new (X := [(hc, .inr (12, [v13_0, v13_1, .ref lp, v13_3, .int (zI (z13_phiN)), .ref la, v13_6]))]) (pl := va_pl L (pE P))) hD
    have hP : va_P (dC, dI) vwQ ([(hc, .inr (12, [v13_0, v13_1, .ref lp, v13_3, .int (zI (z13_phiN)), .ref la, v13_6])), (q_24, .inr (20, [.int 0, .int 0, .null, .null, .null, .int 0]))] ++ va_pl L (pE P)) H := hP
    have hD : va_D A ([(hc, .inr (12, [v13_0, v13_1, .ref lp, v13_3, .int (zI (z13_phiN)), .ref la, v13_6])), (q_24, .inr (20, [.int 0, .int 0, .null, .null, .null, .int 0]))] ++ va_pl L (pE P)) := hD
    refine W.widen (k := 1) (n := 6) (Nat.le_of_ble_eq_true rfl) (Nat.le_of_ble_eq_true rfl) ?_
    refine lv_dup hx hb dX13_phi_21 rfl ?_
    have hnd_25 : L.Nodup := pl_nd hD
    have hPc := hP.part (X := [(hc, .inr (12, [v13_0, v13_1, .ref lp, v13_3, .int (zI (z13_phiN)), .ref la, v13_6])), (q_24, .inr (20, [.int 0, .int 0, .null, .null, .null, .int 0]))]) (cx := [(q_24, .inr (20, [.int 0, .int 0, .null, .null, .null, .int 0]))]) (pl := va_pl L (pE P)) [1] rfl
    have hDc := hD.part (X := [(hc, .inr (12, [v13_0, v13_1, .ref lp, v13_3, .int (zI (z13_phiN)), .ref la, v13_6])), (q_24, .inr (20, [.int 0, .int 0, .null, .null, .null, .int 0]))]) (cx := [(q_24, .inr (20, [.int 0, .int 0, .null, .null, .null, .int 0]))]) (pl := va_pl L (pE P)) [1] (by decide) rfl
    have hKc := hK.sub (tys' := [(cO, .object "java/lang/Object"), (cI, .int), (cZ, .boolean)]) [2, 0, 1] rfl
    have hFc := va_freeP (X := [(hc, .inr (12, [v13_0, v13_1, .ref lp, v13_3, .int (zI (z13_phiN)), .ref la, v13_6])), (q_24, .inr (20, [.int 0, .int 0, .null, .null, .null, .int 0]))]) (cx := [(q_24, .inr (20, [.int 0, .int 0, .null, .null, .null, .int 0]))]) (pl := va_pl L (pE P)) hD hS hA [1] rfl
    refine va_callv (va_runIN (As := []) (rest := [.ref q_24, .ref lp]) ⟨hx, hb, hml, hown, hts⟩ (c_X15_init l dC dI cI cZ q_24 (.int 0) (.int 0) .null .null .null (.int 0) cO L P H.size) ⟨va_cnB 0 hts (goodIn_sub mem_P13_phiQ_5 gw_X15_init) rfl rfl rfl hp2 (ow (k := 13) rfl) (by decide +kernel) ⟨(Nat.le_of_ble_eq_true rfl), (Nat.le_of_ble_eq_true rfl)⟩, rfl, (ow (k := 16) rfl)⟩ ⟨fun a U g mk q => by obtain ⟨q0, q1, qP, qK, qD⟩ := q; exact ⟨q0, q1, qP, va_K.moved (u := U) (U := U.calling g mk a) (Vm.Alike.refl U.vm) qK, qD⟩, fun U hU hW => ⟨rfl, by rw [hU], by rw [hU]; exact hPc, va_K.moved hW.alike hKc, hDc.weaken (fun _ _ _ _ => trivial)⟩⟩ rfl rfl hl.1 rfl (lv_room (Nat.le_of_ble_eq_true rfl)) dX13_phi_22 ⟨(Nat.le_of_ble_eq_true rfl), (Nat.le_of_ble_eq_true rfl)⟩) hS (fun q _ h => hFc q h) hFc (fun  u t H1 locs ht hvm hw hB hz1 hk1 hS => ?_)
    obtain ⟨q0_26, q1_27, q2_28, Ln_29, Pn_30, hxt_30, hP1, hK1, hD1⟩ := hB
    rw [ht] at hP1
    have hK1 := va_K.moved hvm.symm hK1
    obtain ⟨hP, hD⟩ := va_joinP (X := [(hc, .inr (12, [v13_0, v13_1, .ref lp, v13_3, .int (zI (z13_phiN)), .ref la, v13_6])), (q_24, .inr (20, [.int 0, .int 0, .null, .null, .null, .int 0]))]) (cx := [(q_24, .inr (20, [.int 0, .int 0, .null, .null, .null, .int 0]))]) (wr := [(hc, .inr (12, [v13_0, v13_1, .ref lp, v13_3, .int (zI (z13_phiN)), .ref la, v13_6]))]) (rx := [(q_24, .inr (20, [.int 0, .int 0, .ref q0_26, .ref q1_27, .ref q2_28, .int 0]))]) (pl := va_pl L (pE P)) (pl1 := va_pl Ln_29 (pE Pn_30)) hP hD [1] [0] rfl rfl (by decide) (by decide) hk1 hFc hP1 hD1
    have hK := (hK.sub (tys' := []) [] rfl).app hK1
    generalize H1 = H at hP hS ⊢
    have hP : va_P (dC, dI) vwQ ([(hc, .inr (12, [v13_0, v13_1, .ref lp, v13_3, .int (zI (z13_phiN)), .ref la, v13_6])), (q_24, .inr (20, [.int 0, .int 0, .ref q0_26, .ref q1_27, .ref q2_28, .int 0]))] ++ va_pl Ln_29 (pE Pn_30)) H := hP
    have hD : va_D A ([(hc, .inr (12, [v13_0, v13_1, .ref lp, v13_3, .int (zI (z13_phiN)), .ref la, v13_6])), (q_24, .inr (20, [.int 0, .int 0, .ref q0_26, .ref q1_27, .ref q2_28, .int 0]))] ++ va_pl Ln_29 (pE Pn_30)) := hD
    have hK : va_K (dC, dI) vwQ [(cO, .object "java/lang/Object"), (cI, .int), (cZ, .boolean)] s := hK
    refine W.widen (k := 4) (n := 18) (Nat.le_of_ble_eq_true rfl) (Nat.le_of_ble_eq_true rfl) ?_
    have hu_31 := hxt_30
    have hak_33 : GLR Ln_29 Pn_30 cO cI cZ sx_ed := hX_g9.ext hu_31.1 hu_31.2.1.newR
    have hke_32 : KEG [lp] L P Ln_29 Pn_30 := hu_31.1.kegR hX_g9
    have hq_34 : la ∈ Ln_29 ∧ Pn_30.kd la = 30 := hke_32.mem hC_la.1 hC_la.2.1 (by decide)
    have hq_35 : lp ∈ Ln_29 ∧ Pn_30.kd lp = 30 := hke_32.mem hC_lp.1 hC_lp.2.1 (by decide)
    have hA_36 : KEG [lp] L P Ln_29 Pn_30 := (KEG.refl [lp] L P).trans hke_32
    have : Pn_30.lz la = P.lz la := (hu_31.1 la hC_la.1).2.1 0
    have : Pn_30.lz lp = P.lz lp := (hu_31.1 lp hC_lp.1).2.1 0
    have : Pn_30.cap la = P.cap la := hu_31.1.cap hX_g9.owa hC_la.1 hC_la.2.1
    have : LVS (Pn_30.cap la) = LVS (P.cap la) := congrArg LVS (hu_31.1.cap hX_g9.owa hC_la.1 hC_la.2.1)
    have : Pn_30.cap lp = P.cap lp := hu_31.1.cap hX_g9.owa hC_lp.1 hC_lp.2.1
    have : LVS (Pn_30.cap lp) = LVS (P.cap lp) := congrArg LVS (hu_31.1.cap hX_g9.owa hC_lp.1 hC_lp.2.1)
    have hek_37 : Pn_30.ek la = 12 := (by rw [hke_32.ek hC_la.1 hC_la.2.1 (by decide)]; exact hC_la.2.2.1)
    have how_38 : Pn_30.ow la = la := ((hke_32.1 la hC_la.1 (by rw [hC_la.2.1]; decide)).2.2.2.1 hC_la.2.1 hC_la.2.2.2).1
    have hcz := (((hke_32.1 la hC_la.1 (by rw [hC_la.2.1]; decide)).2.2.2.1 hC_la.2.1 hC_la.2.2.2).2 (fun q9 => by have h9 := hC_la.2.2.1; rw [List.mem_singleton.mp q9] at h9; omega)).1
    have hek_39 : Pn_30.ek lp = 15 := (by rw [hke_32.ek hC_lp.1 hC_lp.2.1 (by decide)]; exact hC_lp.2.2.1)
    have how_40 : Pn_30.ow lp = lp := ((hke_32.1 lp hC_lp.1 (by rw [hC_lp.2.1]; decide)).2.2.2.1 hC_lp.2.1 hC_lp.2.2.2).1
    have hnd_41 : Ln_29.Nodup := pl_nd hD
    have hps := PSI.numR (w := wSL) hnd_25 hnd_41 hX_g9 hu_31.1 hu_31.2.1
    have hpc := PSI.numR (w := wCE) hnd_25 hnd_41 hX_g9 hu_31.1 hu_31.2.1
    have hlv_42 : LVA Ln_29 Pn_30 := LVA.numR hX_V hX_g9 hu_31.1 hu_31.2.1
    have hqn_45 : q_24 ∉ Ln_29 := pl_notin (X := [(hc, .inr (12, [v13_0, v13_1, .ref lp, v13_3, .int (zI (z13_phiN)), .ref la, v13_6]))]) hD
    obtain ⟨Pm_43, ePm_43⟩ : ∃ Q9 : PO, Q9 = Pn_30.mphi q_24 q0_26 q1_27 q2_28 := ⟨_, rfl⟩
    obtain ⟨Lm_44, eLm_44⟩ : ∃ l9 : List Nat, l9 = q_24 :: Ln_29 := ⟨_, rfl⟩
    obtain ⟨hP, hD⟩ := pool_new (X := [(hc, .inr (12, [v13_0, v13_1, .ref lp, v13_3, .int (zI (z13_phiN)), .ref la, v13_6]))]) (P' := Pm_43) (by rw [ePm_43]; exact pE_mphi Pn_30 q_24 q0_26 q1_27 q2_28) hP hD
    rw [← eLm_44] at hP hD
    have hex_46 : EXT9 Ln_29 Pn_30 Lm_44 Pm_43 := (by rw [eLm_44, ePm_43]; exact EXT9.one hqn_45)
    have hm9 := mphi_at Pn_30 q_24 q0_26 q1_27 q2_28
    rw [← ePm_43] at hm9
    have hak_47 : GLR Lm_44 Pm_43 cO cI cZ sx_ed := (by rw [eLm_44] at hex_46 ⊢; exact hak_33.new1R hex_46 (by rw [ePm_43]; exact mphi_newR hqn_45 hu_31.2.2.1 hu_31.2.2.2.1 hu_31.2.2.2.2))
    have hke_48 : KEG [lp] Ln_29 Pn_30 Lm_44 Pm_43 := hex_46.kegR hak_33
    have hP : va_P (dC, dI) vwQ ([(hc, .inr (12, [v13_0, v13_1, .ref lp, v13_3, .int (zI (z13_phiN)), .ref la, v13_6]))] ++ va_pl Lm_44 (pE Pm_43)) H := hP
    have hD : va_D A ([(hc, .inr (12, [v13_0, v13_1, .ref lp, v13_3, .int (zI (z13_phiN)), .ref la, v13_6]))] ++ va_pl Lm_44 (pE Pm_43)) := hD
    have hq_49 : la ∈ Lm_44 ∧ Pm_43.kd la = 30 := hke_48.mem hq_34.1 hq_34.2 (by decide)
    have hq_50 : lp ∈ Lm_44 ∧ Pm_43.kd lp = 30 := hke_48.mem hq_35.1 hq_35.2 (by decide)
    have hA_51 : KEG [lp] L P Lm_44 Pm_43 := hA_36.trans hke_48
    have : Pm_43.lz la = Pn_30.lz la := (hex_46 la hq_34.1).2.1 0
    have : Pm_43.lz lp = Pn_30.lz lp := (hex_46 lp hq_35.1).2.1 0
    have : Pm_43.cap la = Pn_30.cap la := hex_46.cap hak_33.owa hq_34.1 hq_34.2
    have : LVS (Pm_43.cap la) = LVS (Pn_30.cap la) := congrArg LVS (hex_46.cap hak_33.owa hq_34.1 hq_34.2)
    have : Pm_43.cap lp = Pn_30.cap lp := hex_46.cap hak_33.owa hq_35.1 hq_35.2
    have : LVS (Pm_43.cap lp) = LVS (Pn_30.cap lp) := congrArg LVS (hex_46.cap hak_33.owa hq_35.1 hq_35.2)
    have hek_52 : Pm_43.ek la = 12 := (by rw [hke_48.ek hq_34.1 hq_34.2 (by decide)]; exact hek_37)
    have how_53 : Pm_43.ow la = la := ((hke_48.1 la hq_34.1 (by rw [hq_34.2]; decide)).2.2.2.1 hq_34.2 how_38).1
    have hcz := (((hke_48.1 la hq_34.1 (by rw [hq_34.2]; decide)).2.2.2.1 hq_34.2 how_38).2 (fun q9 => by have h9 := hek_37; rw [List.mem_singleton.mp q9] at h9; omega)).1
    have hek_54 : Pm_43.ek lp = 15 := (by rw [hke_48.ek hq_35.1 hq_35.2 (by decide)]; exact hek_39)
    have how_55 : Pm_43.ow lp = lp := ((hke_48.1 lp hq_35.1 (by rw [hq_35.2]; decide)).2.2.2.1 hq_35.2 how_40).1
    have hex_56 := hu_31.1.trans hex_46
    have hm_57 : q_24 ∈ Lm_44 := (by rw [eLm_44]; exact List.mem_cons_self)
    have hk_58 := hm9.1
    have hpb_59 : ∀ n9 : Int, PRB Pm_43 q_24 n9 := (fun _ i i0 i1 => by rw [hm9.2.2.2.2.1] at i1; omega)
    have hpn_61 : PSI wSL Lm_44 Pm_43 = PSI wSL Ln_29 Pn_30 + 18 ∧ PSI wCE Lm_44 Pm_43 = PSI wCE Ln_29 Pn_30 + 160 := (by rw [eLm_44] at hex_46 ⊢; exact PSI.nphiR hak_33 hex_46 hm9.1 (by rw [hm9.2.1]; exact ((hex_46 q0_26 hu_31.2.2.1.1).2.2.1 1).trans hu_31.2.2.1.2.2.2.2))
    have hps := hpn_61.1
    have hpc := hpn_61.2
    have hlv_60 : LVA Lm_44 Pm_43 := LVA.extR hlv_42 hak_33 hex_46 (fun z m n9 k => by rw [eLm_44] at m; rcases List.mem_cons.mp m with q9 | q9; rw [q9, hm9.1] at k; omega; exact absurd q9 n9)
    have hlk_62 := (show LOK Lm_44 Pm_43 cO 15 lp from (by have q9 := (hak_47.gla lp hq_50.1 hq_50.2).1; rw [hek_54] at q9; exact q9))
    have hX_x := hlk_62.1
    have hX_k := hlk_62.2.1
    have hlz9 := hlk_62.2.2.1
    have hX_c := hak_47.adc hlk_62
    have hX_y : q_24 ∈ Lm_44 ∧ OBK (Pm_43.kd q_24) := ⟨hm_57, (by rw [hk_58]; unfold OBK; decide)⟩
    have hvv_63 := hlv_60 lp hlk_62.1 hlk_62.2.1
    have hX_v := hvv_63.1
    have hnd_64 : Lm_44.Nodup := pl_nd hD
    have had_65 := hX_c
    have hPc := hP.part (X := [(hc, .inr (12, [v13_0, v13_1, .ref lp, v13_3, .int (zI (z13_phiN)), .ref la, v13_6]))]) (cx := []) (pl := va_pl Lm_44 (pE Pm_43)) [] rfl
    have hDc := hD.part (X := [(hc, .inr (12, [v13_0, v13_1, .ref lp, v13_3, .int (zI (z13_phiN)), .ref la, v13_6]))]) (cx := []) (pl := va_pl Lm_44 (pE Pm_43)) [] (by decide) rfl
    have hKc := hK.sub (tys' := [(cO, .object "java/lang/Object")]) [0] rfl
    have hFc := va_freeP (X := [(hc, .inr (12, [v13_0, v13_1, .ref lp, v13_3, .int (zI (z13_phiN)), .ref la, v13_6]))]) (cx := []) (pl := va_pl Lm_44 (pE Pm_43)) hD hS hA [] rfl
    have hgl := ADC.gl6 hX_c (by omega)
    refine va_calli (va_runV (As := [.ref q_24]) (rest := []) ⟨hx, hb, hml, hown, hts⟩ (c_PL_addAX l dC dI cO Lm_44 Pm_43 lp q_24 sx_ed hX_x hX_k (by omega) hX_c hX_y hX_v H.size sx_mi) (cwV 1 hts g_P13_phiQ_PL_addAX rfl rfl rfl (by decide +kernel) ⟨(Nat.le_of_ble_eq_true rfl), (Nat.le_of_ble_eq_true rfl)⟩) ⟨fun a U g mk q => by obtain ⟨q0, q1, qP, qK, qD, e0, e1, e2, e3, e4, e5, e6, e7⟩ := q; exact ⟨q0, q1, qP, va_K.moved (u := U) (U := U.calling g mk a) (Vm.Alike.refl U.vm) qK, qD, va_Nw.same rfl (u := U) (U := U.calling g mk a) rfl e0, va_Nw.same rfl (u := U) (U := U.calling g mk a) rfl e1, va_Nw.same rfl (u := U) (U := U.calling g mk a) rfl e2, va_Dc.moved (u := U) (U := U.calling g mk a) (Vm.Alike.refl U.vm) e3, va_Mi.moved (u := U) (U := U.calling g mk a) (Vm.Alike.refl U.vm) e4, va_AO.moved (u := U) (U := U.calling g mk a) (Vm.Alike.refl U.vm) e5, va_T.moved (u := U) (U := U.calling g mk a) (Vm.Alike.refl U.vm) e6, va_Z.moved (u := U) (U := U.calling g mk a) (Vm.Alike.refl U.vm) e7⟩, recv_30 hKc hPc hq_50.1 hq_50.2, fun U hU hW => ⟨rfl, by rw [hU], by rw [hU]; exact hPc, va_K.moved hW.alike hKc, hDc.weaken (fun _ _ _ _ => trivial), va_Nw.warmC hW hp3, va_Nw.warmC hW hp4, va_Nw.warmC hW hp5, va_Dc.moved hW.alike hp6, va_Mi.moved hW.alike hp7, va_AO.moved hW.alike hp8, by rw [hU]; exact va_T.narrow (va_T.moved hW.alike (va_T.kept hp9 hS.2.1)) hFc, by rw [hU]; exact va_Z.narrow (va_Z.moved hW.alike (va_Z.kept hp10 hS.2.1)) hFc⟩⟩ rfl rfl hl.1 rfl (lv_room (Nat.le_of_ble_eq_true rfl)) dX13_phi_25 ⟨(Nat.le_trans (show 4 + (Pm_43.gc lp) ≤ 5 by omega) (Nat.le_of_ble_eq_true rfl)), (Nat.le_trans (show 18 + (Pm_43.gx lp) ≤ 6264 by omega) (Nat.le_of_ble_eq_true rfl))⟩) hS (fun q _ h => hFc q h) hFc (fun r_66 z_67 t H1 locs ht hvm hw hB hz1 hk1 hS => ?_)
    obtain ⟨Ln_68, Pn_69, hxt_69, hP1, hK1, hD1⟩ := hB
    rw [ht] at hP1
    have hK1 := va_K.moved hvm.symm hK1
    obtain ⟨hP, hD⟩ := va_joinP (X := [(hc, .inr (12, [v13_0, v13_1, .ref lp, v13_3, .int (zI (z13_phiN)), .ref la, v13_6]))]) (cx := []) (wr := [(hc, .inr (12, [v13_0, v13_1, .ref lp, v13_3, .int (zI (z13_phiN)), .ref la, v13_6]))]) (rx := []) (pl := va_pl Lm_44 (pE Pm_43)) (pl1 := va_pl Ln_68 (pE Pn_69)) hP hD [] [0] rfl rfl (by decide) (by decide) hk1 hFc hP1 hD1
    have hK := (hK.sub (tys' := [(cI, .int), (cZ, .boolean)]) [1, 2] rfl).app hK1
    generalize H1 = H at hP hS ⊢
    have hP : va_P (dC, dI) vwQ ([(hc, .inr (12, [v13_0, v13_1, .ref lp, v13_3, .int (zI (z13_phiN)), .ref la, v13_6]))] ++ va_pl Ln_68 (pE Pn_69)) H := hP
    have hD : va_D A ([(hc, .inr (12, [v13_0, v13_1, .ref lp, v13_3, .int (zI (z13_phiN)), .ref la, v13_6]))] ++ va_pl Ln_68 (pE Pn_69)) := hD
    have hK : va_K (dC, dI) vwQ [(cI, .int), (cZ, .boolean), (cO, .object "java/lang/Object")] s := hK
    refine W.widen (k := (4 + (Pm_43.gc lp))) (n := (18 + (Pm_43.gx lp))) (by omega) (by omega) ?_
    obtain ⟨rfl, hzz_67⟩ := hw
    have hu_70 := hxt_69
    have hfx := hu_70.2.2.2.2.2.2.2
    have han := hu_70.2.2.2.1
    have hke_71 : KEG [lp] Lm_44 Pm_43 Ln_68 Pn_69 := hu_70.1.kegR hak_47 hq_50.1 hq_50.2 hfx (Or.inr (by simp))
    have hak_72 : GLR Ln_68 Pn_69 cO cI cZ sx_ed := hak_47.add hu_70.1 hq_50.1 hq_50.2 hfx hek_54 hm_57 hk_58 hu_70.2.1 (by omega) hu_70.2.2.1 hu_70.2.2.2.1.1 (by have q9 := hak_47.adc40 hlk_62; omega) hu_70.2.2.2.2.1 hu_70.2.2.2.2.2.1 hu_70.2.2.2.2.2.2.1 (fun q9 => absurd q9 (by decide))
    clear han
    have hq_73 : la ∈ Ln_68 ∧ Pn_69.kd la = 30 := hke_71.mem hq_49.1 hq_49.2 (by decide)
    have hq_74 : lp ∈ Ln_68 ∧ Pn_69.kd lp = 30 := hke_71.mem hq_50.1 hq_50.2 (by decide)
    have hq_75 : q_24 ∈ Ln_68 ∧ Pn_69.kd q_24 = 15 := hke_71.mem hm_57 hk_58 (by decide)
    have hA_76 : KEG [lp] L P Ln_68 Pn_69 := hA_51.trans hke_71
    have hza := hu_70.2.1
    have hek_77 : Pn_69.ek la = 12 := (by rw [hke_71.ek hq_49.1 hq_49.2 (by decide)]; exact hek_52)
    have how_78 : Pn_69.ow la = la := ((hke_71.1 la hq_49.1 (by rw [hq_49.2]; decide)).2.2.2.1 hq_49.2 how_53).1
    have hcz := (((hke_71.1 la hq_49.1 (by rw [hq_49.2]; decide)).2.2.2.1 hq_49.2 how_53).2 (fun q9 => by have h9 := hek_52; rw [List.mem_singleton.mp q9] at h9; omega)).1
    have hek_79 : Pn_69.ek lp = 15 := (by rw [hke_71.ek hq_50.1 hq_50.2 (by decide)]; exact hek_54)
    have how_80 : Pn_69.ow lp = lp := ((hke_71.1 lp hq_50.1 (by rw [hq_50.2]; decide)).2.2.2.1 hq_50.2 how_55).1
    clear hfx
    have hlr9 : Pn_69.el lp (Pm_43.lz lp) = q_24 := hu_70.1.elast hu_70.2.2.2.2.2.1
    have hfx := hu_70.2.2.2.2.2.2.2
    have hnd_81 : Ln_68.Nodup := pl_nd hD
    have hpp_82 := PSI.putR hnd_64 hnd_81 hak_47.glfR hu_70.1 hlk_62.1 hlk_62.2.1 hfx hvv_63.1 (by omega) hu_70.2.2.2.1.2.2.1 hu_70.2.2.2.1.2.2.2 had_65 hvv_63.2
    have hps := hpp_82.1
    have hpc := hpp_82.2.1
    have hpg := PSI.glsR hnd_64 hnd_81 hak_47.glfR hu_70.1 hlk_62.1 hlk_62.2.1 hfx
    have hlv_83 : LVA Ln_68 Pn_69 := LVA.gl1R hlv_60 hak_47.glfR hu_70.1 hlk_62.1 hlk_62.2.1 hfx hpp_82.2.2
    refine lv_pop hx hb dX13_phi_28 rfl ?_
    refine lv_aload_n hx hb dX13_phi_29 rfl (lv_at hl 0 rfl) ?_
    refine va_get (D := (dC, dI)) (ci := 12) (v := .ref lp) (C := RX13) (T := TX13) (N := 7) hx hb hts mem_P13_phiQ_0 hown hK hP 0 rfl rfl 2 (by decide) (ow (k := 1) rfl) (fun _ h9 => h9) rfl dX13_phi_30 ?_
    refine lv_aload_n hx hb dX13_phi_33 rfl (lv_at hl 0 rfl) ?_
    refine va_get (D := (dC, dI)) (ci := 12) (v := .int (zI (z13_phiN))) (C := RX13) (T := TX13) (N := 7) hx hb hts mem_P13_phiQ_0 hown hK hP 0 rfl rfl 4 (by decide) (ow (k := 0) rfl) (fun _ h9 => h9) rfl dX13_phi_34 ?_
    have hlk_84 := (show LOK Ln_68 Pn_69 cO 15 lp from (by have q9 := (hak_72.gla lp hq_74.1 hq_74.2).1; rw [hek_79] at q9; exact q9))
    obtain ⟨x, ex⟩ : ∃ q9 : Nat, q9 = Pn_69.el lp (z13_phiN) := ⟨_, rfl⟩
    have hX_x := hlk_84.1
    have hX_k := hlk_84.2.1
    have hq9 := hlk_84.row (i := z13_phiN) (by omega) (by omega)
    have hX_q : Pn_69.le lp ∈ Ln_68 ∧ Pn_69.kd (Pn_69.le lp) = 31 ∧ Pn_69.ac (Pn_69.le lp) = cO := ⟨hq9.1, hq9.2.1, hq9.2.2.1⟩
    have hq8 := hq9.2.2.2
    have hX_e0 : Pn_69.oa (Pn_69.le lp) (z13_phiN).toNat = some x := (by rw [ex]; exact (hlk_84.2.2.2.2 (z13_phiN) (by omega) (by omega)).1)
    have hxm : x ∈ Ln_68 := (by rw [ex]; exact (hlk_84.2.2.2.2 (z13_phiN) (by omega) (by omega)).2.1)
    have hxk := (hlk_84.2.2.2.2 (z13_phiN) (by omega) (by omega)).2.2
    rw [← ex] at hxk
    have hPc := hP.part (X := [(hc, .inr (12, [v13_0, v13_1, .ref lp, v13_3, .int (zI (z13_phiN)), .ref la, v13_6]))]) (cx := []) (pl := va_pl Ln_68 (pE Pn_69)) [] rfl
    have hDc := hD.part (X := [(hc, .inr (12, [v13_0, v13_1, .ref lp, v13_3, .int (zI (z13_phiN)), .ref la, v13_6]))]) (cx := []) (pl := va_pl Ln_68 (pE Pn_69)) [] (by decide) rfl
    have hKc := hK.sub (tys' := [(cO, .object "java/lang/Object")]) [2] rfl
    have hFc := va_freeP (X := [(hc, .inr (12, [v13_0, v13_1, .ref lp, v13_3, .int (zI (z13_phiN)), .ref la, v13_6]))]) (cx := []) (pl := va_pl Ln_68 (pE Pn_69)) hD hS hA [] rfl
    refine va_callr (va_runV (As := [.int (zI (z13_phiN))]) (rest := []) ⟨hx, hb, hml, hown, hts⟩ (c_PL_get l dC dI cO Ln_68 Pn_69 lp z13_phiN x hX_x hX_k hX_q (by omega) hX_e0 H.size) (cwV 1 hts g_P13_phiQ_PL_get rfl rfl rfl (by decide +kernel) ⟨(Nat.le_of_ble_eq_true rfl), (Nat.le_of_ble_eq_true rfl)⟩) ⟨fun a U g mk q => by obtain ⟨q0, q1, qP, qK, qD⟩ := q; exact ⟨q0, q1, qP, va_K.moved (u := U) (U := U.calling g mk a) (Vm.Alike.refl U.vm) qK, qD⟩, recv_30 hKc hPc hq_74.1 hq_74.2, fun U hU hW => ⟨rfl, by rw [hU], by rw [hU]; exact hPc, va_K.moved hW.alike hKc, hDc.weaken (fun _ _ _ _ => trivial)⟩⟩ rfl rfl hl.1 rfl (lv_room (Nat.le_of_ble_eq_true rfl)) dX13_phi_37 ⟨(Nat.le_trans (show (4 + (Pm_43.gc lp)) + 0 ≤ 5 by omega) (Nat.le_of_ble_eq_true rfl)), (Nat.le_trans (show (18 + (Pm_43.gx lp)) + 0 ≤ 6264 by omega) (Nat.le_of_ble_eq_true rfl))⟩) hS (fun q _ h => hFc q h) hFc (fun u q_85 t H1 locs ht hvm hw hB hz1 hk1 hS => ?_)
    obtain ⟨hxt_85, hP1, hK1, hD1⟩ := hB
    rw [ht] at hP1
    have hK1 := va_K.moved hvm.symm hK1
    obtain ⟨hP, hD⟩ := va_joinP (X := [(hc, .inr (12, [v13_0, v13_1, .ref lp, v13_3, .int (zI (z13_phiN)), .ref la, v13_6]))]) (cx := []) (wr := [(hc, .inr (12, [v13_0, v13_1, .ref lp, v13_3, .int (zI (z13_phiN)), .ref la, v13_6]))]) (rx := []) (pl := va_pl Ln_68 (pE Pn_69)) (pl1 := va_pl Ln_68 (pE Pn_69)) hP hD [] [0] rfl rfl (by decide) (by decide) hk1 hFc hP1 hD1
    have hK := (hK.sub (tys' := [(cI, .int), (cZ, .boolean)]) [0, 1] rfl).app hK1
    generalize H1 = H at hP hS ⊢
    have hP : va_P (dC, dI) vwQ ([(hc, .inr (12, [v13_0, v13_1, .ref lp, v13_3, .int (zI (z13_phiN)), .ref la, v13_6]))] ++ va_pl Ln_68 (pE Pn_69)) H := hP
    have hD : va_D A ([(hc, .inr (12, [v13_0, v13_1, .ref lp, v13_3, .int (zI (z13_phiN)), .ref la, v13_6]))] ++ va_pl Ln_68 (pE Pn_69)) := hD
    have hK : va_K (dC, dI) vwQ [(cI, .int), (cZ, .boolean), (cO, .object "java/lang/Object")] s := hK
    refine W.widen (k := (4 + (Pm_43.gc lp))) (n := (18 + (Pm_43.gx lp))) (by omega) (by omega) ?_
    rw [hxt_85]
    clear hX_e0
    obtain ⟨xp_86, h9⟩ : ∃ q9 : Nat, q9 = x := ⟨_, rfl⟩
    subst h9
    have hm_87 := hxm
    have hk_88 := hxk
    have hel9 := ex
    have hbq : xp_86 = q_24 := hel9.trans (by rw [show (z13_phiN : Int) = Pm_43.lz lp from (by omega)]; exact hlr9)
    have hxn9 : xp_86 ∉ L := (fun m9 => hqn_45 (by rw [← hbq]; exact (hu_31.1 xp_86 m9).1))
    refine va_castY (C := "SsaForgeModel$Phi") (nm := "SsaForgeModel$Phi") hx hb hown (ow (k := 9) rfl) hp0 (recv_15 hK hP hm_87 hk_88) dX13_phi_40 ?_
    refine lv_astore_n (lv' := [(2, .ref xp_86), (0, .ref hc), (1, .int (zI (t0)))]) hx hb dX13_phi_43 rfl hl (by decide) rfl (fun ls hl => ?_)
    refine lv_aload_n hx hb dX13_phi_44 rfl (lv_at hl 1 rfl) ?_
    refine lv_dup hx hb dX13_phi_45 rfl ?_
    refine va_get (D := (dC, dI)) (ci := 12) (v := .int (zI (z13_phiN))) (C := RX13) (T := TX13) (N := 7) hx hb hts mem_P13_phiQ_0 hown hK hP 0 rfl rfl 4 (by decide) (ow (k := 0) rfl) (fun _ h9 => h9) rfl dX13_phi_46 ?_
    refine lv_iconst (v := 1) hx hb dX13_phi_49 (by decide) ?_
    refine lv_iadd hx hb dX13_phi_50 ?_
    refine lv_topi (fun z ez => ?_)
    obtain rfl : z = zI (z13_phiN + 1) := ez.trans (zI_add (z13_phiN) (1))
    refine va_put (D := (dC, dI)) (ci := 12) (v := .int (zI (z13_phiN + 1))) (ty := .int) (C := RX13) (T := TX13) (N := 7) hx hb hts mem_P13_phiQ_0 tyX13 tyX13_ok nmX13 hown hK hP hD hS 0 rfl rfl 4 (by decide) (ow (k := 0) rfl) (fun _ h9 => h9) rfl (by decide +kernel) rfl rfl (by first | exact Nat.le_of_ble_eq_true rfl | exact Nat.le_trans (show (4 + (Pm_43.gc lp)) ≤ 5 from (by omega)) (Nat.le_of_ble_eq_true rfl) | exact Nat.le_trans (show (18 + (Pm_43.gx lp)) ≤ 6264 from (by omega)) (Nat.le_of_ble_eq_true rfl)) dX13_phi_51 (fun H locs hP hD hS => ?_)
    have hP : va_P (dC, dI) vwQ ([(hc, .inr (12, [v13_0, v13_1, .ref lp, v13_3, .int (zI (z13_phiN + 1)), .ref la, v13_6]))] ++ va_pl Ln_68 (pE Pn_69)) H := hP
    have hD : va_D A ([(hc, .inr (12, [v13_0, v13_1, .ref lp, v13_3, .int (zI (z13_phiN + 1)), .ref la, v13_6]))] ++ va_pl Ln_68 (pE Pn_69)) := hD
    obtain ⟨z_90, ez_90⟩ : ∃ z9 : Int, z9 = z13_phiN + 1 := ⟨_, rfl⟩
    rw [← ez_90] at hP hD
    have hP : va_P (dC, dI) vwQ ([(hc, .inr (12, [v13_0, v13_1, .ref lp, v13_3, .int (zI (z_90)), .ref la, v13_6]))] ++ va_pl Ln_68 (pE Pn_69)) H := hP
    have hD : va_D A ([(hc, .inr (12, [v13_0, v13_1, .ref lp, v13_3, .int (zI (z_90)), .ref la, v13_6]))] ++ va_pl Ln_68 (pE Pn_69)) := hD
    refine lv_aload_n hx hb dX13_phi_54 rfl (lv_at hl 0 rfl) ?_
    refine lv_iload_n hx hb dX13_phi_55 rfl (lv_at hl 2 rfl) ?_
    have hX_p := hak_72.pikR hm_87 hk_88
    have hp9 := hak_72.pikR hm_87 hk_88
    have hpn := hp9.2.2.2.2.1
    have hpt := hp9.2.2.2.2.2.1
    clear hp9
    have hPc := hP.part (X := [(hc, .inr (12, [v13_0, v13_1, .ref lp, v13_3, .int (zI (z_90)), .ref la, v13_6]))]) (cx := []) (pl := va_pl Ln_68 (pE Pn_69)) [] rfl
    have hDc := hD.part (X := [(hc, .inr (12, [v13_0, v13_1, .ref lp, v13_3, .int (zI (z_90)), .ref la, v13_6]))]) (cx := []) (pl := va_pl Ln_68 (pE Pn_69)) [] (by decide) rfl
    have hKc := hK.sub (tys' := [(cO, .object "java/lang/Object"), (cI, .int), (cZ, .boolean)]) [2, 0, 1] rfl
    have hFc := va_freeP (X := [(hc, .inr (12, [v13_0, v13_1, .ref lp, v13_3, .int (zI (z_90)), .ref la, v13_6]))]) (cx := []) (pl := va_pl Ln_68 (pE Pn_69)) hD hS hA [] rfl
    refine va_callv (va_runV (As := [.int (zI (t0))]) (rest := []) ⟨hx, hb, hml, hown, hts⟩ (c_PP_beginS l dC dI cO cI cZ Ln_68 Pn_69 xp_86 t0 hX_p (by omega) H.size) (cwV 1 hts g_P13_phiQ_PP_beginS rfl rfl rfl (by decide +kernel) ⟨(Nat.le_of_ble_eq_true rfl), (Nat.le_of_ble_eq_true rfl)⟩) ⟨fun a U g mk q => by obtain ⟨q0, q1, qP, qK, qD⟩ := q; exact ⟨q0, q1, qP, va_K.moved (u := U) (U := U.calling g mk a) (Vm.Alike.refl U.vm) qK, qD⟩, recv_15 hKc hPc hm_87 hk_88, fun U hU hW => ⟨rfl, by rw [hU], by rw [hU]; exact hPc, va_K.moved hW.alike hKc, hDc.weaken (fun _ _ _ _ => trivial)⟩⟩ rfl rfl hl.1 rfl (lv_room (Nat.le_of_ble_eq_true rfl)) dX13_phi_56 ⟨(Nat.le_trans (show (4 + (Pm_43.gc lp)) + 0 ≤ 5 by omega) (Nat.le_of_ble_eq_true rfl)), (Nat.le_trans (show (18 + (Pm_43.gx lp)) + 0 ≤ 6264 by omega) (Nat.le_of_ble_eq_true rfl))⟩) hS (fun q _ h => hFc q h) hFc (fun  u t H1 locs ht hvm hw hB hz1 hk1 hS => ?_)
    obtain ⟨Pn_91, hxt_91, hP1, hK1, hD1⟩ := hB
    rw [ht] at hP1
    have hK1 := va_K.moved hvm.symm hK1
    obtain ⟨hP, hD⟩ := va_joinP (X := [(hc, .inr (12, [v13_0, v13_1, .ref lp, v13_3, .int (zI (z_90)), .ref la, v13_6]))]) (cx := []) (wr := [(hc, .inr (12, [v13_0, v13_1, .ref lp, v13_3, .int (zI (z_90)), .ref la, v13_6]))]) (rx := []) (pl := va_pl Ln_68 (pE Pn_69)) (pl1 := va_pl Ln_68 (pE Pn_91)) hP hD [] [0] rfl rfl (by decide) (by decide) hk1 hFc hP1 hD1
    have hK := (hK.sub (tys' := []) [] rfl).app hK1
    generalize H1 = H at hP hS ⊢
    have hP : va_P (dC, dI) vwQ ([(hc, .inr (12, [v13_0, v13_1, .ref lp, v13_3, .int (zI (z_90)), .ref la, v13_6]))] ++ va_pl Ln_68 (pE Pn_91)) H := hP
    have hD : va_D A ([(hc, .inr (12, [v13_0, v13_1, .ref lp, v13_3, .int (zI (z_90)), .ref la, v13_6]))] ++ va_pl Ln_68 (pE Pn_91)) := hD
    have hK : va_K (dC, dI) vwQ [(cO, .object "java/lang/Object"), (cI, .int), (cZ, .boolean)] s := hK
    refine W.widen (k := (4 + (Pm_43.gc lp))) (n := (18 + (Pm_43.gx lp))) (by omega) (by omega) ?_
    have hu_92 := hxt_91
    have hrw_93 : RWD Pn_69 Pn_91 := hu_92.1.rwd hk_88
    have hke_94 : KEG [lp] Ln_68 Pn_69 Ln_68 Pn_91 := hrw_93.kegR _ hq_73.2
    have hak_95 : GLR Ln_68 Pn_91 cO cI cZ sx_ed := hak_72.phi hu_92.1 hk_88 hu_92.2.1
    have hps := PSI.same (w := wSL) (L := Ln_68) hrw_93.1.1
    have hpc := PSI.same (w := wCE) (L := Ln_68) hrw_93.1.1
    have hlv_96 : LVA Ln_68 Pn_91 := LVA.same hlv_83 hrw_93.1.1
    have hq_97 : la ∈ Ln_68 ∧ Pn_91.kd la = 30 := hke_94.mem hq_73.1 hq_73.2 (by decide)
    have hq_98 : lp ∈ Ln_68 ∧ Pn_91.kd lp = 30 := hke_94.mem hq_74.1 hq_74.2 (by decide)
    have hq_99 : q_24 ∈ Ln_68 ∧ Pn_91.kd q_24 = 15 := hke_94.mem hq_75.1 hq_75.2 (by decide)
    have hq_100 : xp_86 ∈ Ln_68 ∧ Pn_91.kd xp_86 = 15 := hke_94.mem hm_87 hk_88 (by decide)
    have hA_101 : KEG [lp] L P Ln_68 Pn_91 := hA_76.trans hke_94
    have : Pn_91.lz la = Pn_69.lz la := hrw_93.lz hq_73.2
    have : Pn_91.lz lp = Pn_69.lz lp := hrw_93.lz hq_74.2
    have hpn9 := hu_92.2.2.1
    have : Pn_91.cap la = Pn_69.cap la := hrw_93.cap la
    have : LVS (Pn_91.cap la) = LVS (Pn_69.cap la) := congrArg LVS (hrw_93.cap la)
    have : Pn_91.cap lp = Pn_69.cap lp := hrw_93.cap lp
    have : LVS (Pn_91.cap lp) = LVS (Pn_69.cap lp) := congrArg LVS (hrw_93.cap lp)
    have hek_102 : Pn_91.ek la = 12 := (by rw [hke_94.ek hq_73.1 hq_73.2 (by decide)]; exact hek_77)
    have how_103 : Pn_91.ow la = la := ((hke_94.1 la hq_73.1 (by rw [hq_73.2]; decide)).2.2.2.1 hq_73.2 how_78).1
    have hcz := (((hke_94.1 la hq_73.1 (by rw [hq_73.2]; decide)).2.2.2.1 hq_73.2 how_78).2 (fun q9 => by have h9 := hek_77; rw [List.mem_singleton.mp q9] at h9; omega)).1
    have hek_104 : Pn_91.ek lp = 15 := (by rw [hke_94.ek hq_74.1 hq_74.2 (by decide)]; exact hek_79)
    have how_105 : Pn_91.ow lp = lp := ((hke_94.1 lp hq_74.1 (by rw [hq_74.2]; decide)).2.2.2.1 hq_74.2 how_80).1
    refine lv_aload_n hx hb dX13_phi_59 rfl (lv_at hl 0 rfl) ?_
    subst hQ
    refine W_knowS (fun hrm9 => ?_)
    refine W.widen (k := 5) (n := 6264) (by omega) (by omega) ?_
    exact W.aret (v := .ref xp_86) hx hb hr (Or.inl ⟨_, rfl⟩) (Or.inr ⟨_, rfl⟩) (fun t ht hW => ⟨⟨(), xp_86, rfl, trivial, z_90, Ln_68, Pn_91, (4 + (Pm_43.gc lp)), (18 + (Pm_43.gx lp)), ⟨⟨(by rw [ht, ← hp1]; exact hrm9), (by omega)⟩, ⟨(by omega), ⟨hA_101, hak_95, ⟨⟨hq_100.1, hq_100.2, (by rw [hrw_93.el]; exact hel9)⟩, ⟨by omega, (Or.inr ⟨by omega, by omega, hxn9⟩)⟩, ⟨hu_92.2.2.1, hu_92.2.2.2.1, hu_92.2.2.2.2.1⟩, (fun i i0 i1 => by rw [hrw_93.el, hu_70.1.elx hu_70.2.2.2.2.2.2.1 i0 (by omega)]; exact hex_56.el hX_g.owa hX_lp.1 hX_lp.2.1 i0 i1), ((hex_56.chg.wk (fun z _ q9 => q9.elim)).trans (hu_70.1.chgo hak_47.owa hq_50.1 hq_50.2 hu_70.2.2.2.2.2.2.2) (fun z m q9 => by rcases q9 with q9 | q9; exact Or.inr (Or.inl q9); exact Or.inr (Or.inr ⟨((hex_56 z m).2.2.1 0).symm.trans q9.1, ((hex_56 z m).2.2.1 9).symm.trans q9.2⟩)) |>.trans (hu_92.2.2.2.2.2.2.chg _) (fun z m q9 => Or.inl q9))⟩, by omega, hlv_96, ⟨(by rw [hu_92.2.2.2.2.2.2.cap lp]; omega), (by rw [hu_92.2.2.2.2.2.2.cap lp]; omega)⟩, ⟨NWO.rw2 (NWO.gl (NWO.ext hex_56 (fun z m n9 => by rw [eLm_44] at m; rcases List.mem_cons.mp m with q9 | q9; exact Or.inl (q9.trans hbq.symm); exact Or.inr (by have c9 := hu_31.2.1 z q9 n9; have d9 : PO.kd _ z = PO.kd _ z := (hex_46 z q9).2.2.1 0; omega))) (fun z m => (hex_56 z m).1) hak_47.owa hu_70.1 hq_50.1 hq_50.2 hu_70.2.2.2.2.2.2.2) hu_92.2.2.2.2.2.2.1, (fun m9 => absurd m9 hxn9), (fun _ => by rw [hbq]; exact NWP.an4 hak_47 hu_70.1 hq_50.1 hq_50.2 hu_70.2.2.2.2.2.2.2 hm_57 hm9.1 (by rw [hm9.2.1]; exact ((hex_46 q0_26 hu_31.2.2.1.1).2.2.1 1).trans hu_31.2.2.1.2.2.2.2) hu_92.2.2.2.2.2.2.1), (LGW.of hu_70.1 hu_70.2.2.2.1.2.2.1 hu_70.2.2.2.1.2.2.2).to (by omega) (by omega) (hu_92.2.2.2.2.2.2.cap lp)⟩⟩⟩⟩, by rw [ht]; exact hP, va_K.moved hW.alike hK, hD⟩, hS.F ht⟩) hS.2.2 dX13_phi_60
