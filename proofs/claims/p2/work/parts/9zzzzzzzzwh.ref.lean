def o_P13_phiG : List Cond := [.fieldLink RX13 29 "SsaForgeModel$Code" "phiN" "I", .fieldLink RX13 19 "SsaForgeModel$Code" "phis" "Ljava/util/ArrayList;", .methodLink RX13 38 yJx4a65c_size_8abf5, .instanceMethod yJx4a65c_size_8abf5, .selects RJx4a65c yJx4a65c_size_8abf5 yJx4a65c_size_8abf5, .initialized RJx4a65c, .methodLink RX13 49 yJx4a65c_get_915e3, .instanceMethod yJx4a65c_get_915e3, .selects RJx4a65c yJx4a65c_get_915e3 yJx4a65c_get_915e3, .classLink RX13 77 "SsaForgeModel$Phi", .methodLink RX13 80 yX15_begin, .instanceMethod yX15_begin, .selects RX15 yX15_begin yX15_begin, .initialized RX15, .classLink RX13 77 RX15, .instantiable RX15 6, .instanceMethod yX15_init, .methodLink RX13 45 yJx4a65c_add_9ea2d, .instanceMethod yJx4a65c_add_9ea2d, .selects RJx4a65c yJx4a65c_add_9ea2d yJx4a65c_add_9ea2d]
def v_P13_phiG : List Cond := .code yX13_phi cX13_phi 3 (some (.object "SsaForgeModel$Phi")) :: (o_P13_phiG ++ (wsX130 ++ (v_PL_size ++ (v_PL_get ++ (v_PP_begin ++ (wsX150 ++ (v_X15_init ++ (v_PL_addAR ++ []))))))))
theorem mow_P13_phiG : ∀ w ∈ o_P13_phiG, w ∈ v_P13_phiG := fun _ h => List.mem_cons_of_mem _ (List.mem_append_left _ h)
theorem mem_P13_phiG_0 : ∀ w ∈ wsX130, w ∈ v_P13_phiG := fun _ h => List.mem_cons_of_mem _ (List.mem_append_right _ (List.mem_append_left _ h))
theorem mem_P13_phiG_1 : ∀ w ∈ v_PL_size, w ∈ v_P13_phiG := fun _ h => List.mem_cons_of_mem _ (List.mem_append_right _ (List.mem_append_right _ (List.mem_append_left _ h)))
theorem mem_P13_phiG_2 : ∀ w ∈ v_PL_get, w ∈ v_P13_phiG := fun _ h => List.mem_cons_of_mem _ (List.mem_append_right _ (List.mem_append_right _ (List.mem_append_right _ (List.mem_append_left _ h))))
theorem mem_P13_phiG_3 : ∀ w ∈ v_PP_begin, w ∈ v_P13_phiG := fun _ h => List.mem_cons_of_mem _ (List.mem_append_right _ (List.mem_append_right _ (List.mem_append_right _ (List.mem_append_right _ (List.mem_append_left _ h)))))
theorem mem_P13_phiG_4 : ∀ w ∈ wsX150, w ∈ v_P13_phiG := fun _ h => List.mem_cons_of_mem _ (List.mem_append_right _ (List.mem_append_right _ (List.mem_append_right _ (List.mem_append_right _ (List.mem_append_right _ (List.mem_append_left _ h))))))
theorem mem_P13_phiG_5 : ∀ w ∈ v_X15_init, w ∈ v_P13_phiG := fun _ h => List.mem_cons_of_mem _ (List.mem_append_right _ (List.mem_append_right _ (List.mem_append_right _ (List.mem_append_right _ (List.mem_append_right _ (List.mem_append_right _ (List.mem_append_left _ h)))))))
theorem mem_P13_phiG_6 : ∀ w ∈ v_PL_addAR, w ∈ v_P13_phiG := fun _ h => List.mem_cons_of_mem _ (List.mem_append_right _ (List.mem_append_right _ (List.mem_append_right _ (List.mem_append_right _ (List.mem_append_right _ (List.mem_append_right _ (List.mem_append_right _ (List.mem_append_left _ h))))))))
set_option maxRecDepth 20000 in
theorem gw_P13_phiG : v_P13_phiG.all goodWord = true := by decide +kernel
set_option maxRecDepth 20000 in
theorem g_P13_phiG_PL_size : GoodIn v_P13_phiG (wsV RX13 38 RJx4a65c yJx4a65c_size_8abf5 v_PL_size) := goodIn_app (goodIn_sub (fun w h => mow_P13_phiG w (by revert w h; decide +kernel)) (by decide +kernel)) (goodIn_sub mem_P13_phiG_1 gw_PL_size)
set_option maxRecDepth 20000 in
theorem g_P13_phiG_PL_get : GoodIn v_P13_phiG (wsV RX13 49 RJx4a65c yJx4a65c_get_915e3 v_PL_get) := goodIn_app (goodIn_sub (fun w h => mow_P13_phiG w (by revert w h; decide +kernel)) (by decide +kernel)) (goodIn_sub mem_P13_phiG_2 gw_PL_get)
set_option maxRecDepth 20000 in
theorem g_P13_phiG_PP_begin : GoodIn v_P13_phiG (wsV RX13 80 RX15 yX15_begin v_PP_begin) := goodIn_app (goodIn_sub (fun w h => mow_P13_phiG w (by revert w h; decide +kernel)) (by decide +kernel)) (goodIn_sub mem_P13_phiG_3 gw_PP_begin)
set_option maxRecDepth 20000 in
theorem g_P13_phiG_PL_addAR : GoodIn v_P13_phiG (wsV RX13 45 RJx4a65c yJx4a65c_add_9ea2d v_PL_addAR) := goodIn_app (goodIn_sub (fun w h => mow_P13_phiG w (by revert w h; decide +kernel)) (by decide +kernel)) (goodIn_sub mem_P13_phiG_6 gw_PL_addAR)
set_option maxHeartbeats 4000000 in
set_option maxRecDepth 100000 in
theorem c_P13_phiG (l : Launch) (dC : Nat → ClassId) (dI : Nat → Nat → Nat) (cI : ClassId) (cZ : ClassId) (hc : Nat) (v13_0 : Value) (v13_1 : Value) (v13_3 : Value) (z13_phiN : Int) (v13_6 : Value) (la : Nat) (lp : Nat) (cO : ClassId) (L : List Nat) (P : PO) (sx_ed : Nat) (t0 : Int) (hNz13_phiN : 0 ≤ z13_phiN ∧ z13_phiN ≤ 19000) (hX_g : GLF L P cO cI cZ sx_ed) (hX_la : la ∈ L ∧ P.kd la = 30 ∧ P.ek la = 12 ∧ P.ow la = la) (hX_lp : lp ∈ L ∧ P.kd lp = 30 ∧ P.ek lp = 15 ∧ P.ow lp = lp) (hNr : z13_phiN ≤ P.lz lp ∧ P.lz lp ≤ 19000 ∧ 0 ≤ z13_phiN ∧ 0 ≤ t0 ∧ t0 ≤ 1001) (sz : Nat) (HU : Heap) (sx_mi : Nat) : Met l yX13_phi v_P13_phiG ({ frames := 7, cells := 5, slots := 100018, locals := 191 }) (va_Pc [.ref hc, .int (zI (t0))] (fun U => U.heap.size = sz ∧ va_P (dC, dI) vwQ ([(hc, .inr (12, [v13_0, v13_1, .ref lp, v13_3, .int (zI (z13_phiN)), .ref la, v13_6]))] ++ va_pl L (pE P)) U.heap ∧ va_K (dC, dI) vwQ [(cO, .object "java/lang/Object"), (cI, .int), (cZ, .boolean)] U ∧ va_D (fun _ => True) ([(hc, .inr (12, [v13_0, v13_1, .ref lp, v13_3, .int (zI (z13_phiN)), .ref la, v13_6]))] ++ va_pl L (pE P)) ∧ va_Nw (.castable "SsaForgeModel$Phi" "SsaForgeModel$Phi") U ∧ U.heap = HU ∧ va_Nw (.methodLinkNest RX13 79 yX15_init "SsaForgeModel") U ∧ va_Nw (.castable "SsaForgeModel$Row" "java/lang/Object") U ∧ va_Nw (.castable "SsaForgeModel$Phi" "java/lang/Object") U ∧ va_Nw (.castable "SsaForgeModel$Block" "java/lang/Object") U ∧ va_Dc U ∧ va_Mi "[Ljava/lang/Object;" sx_mi U ∧ va_AO "java/lang/Object" U ∧ va_T (.object "java/lang/Object") sx_ed 0 (fun _ => .null) (va_A ([(hc, .inr (12, [v13_0, v13_1, .ref lp, v13_3, .int (zI (z13_phiN)), .ref la, v13_6]))] ++ va_pl L (pE P)) sz) U U.heap ∧ va_Z "java/util/ArrayList" "DEFAULTCAPACITY_EMPTY_ELEMENTDATA" "[Ljava/lang/Object;" (.ref sx_ed) (va_A ([(hc, .inr (12, [v13_0, v13_1, .ref lp, v13_3, .int (zI (z13_phiN)), .ref la, v13_6]))] ++ va_pl L (pE P)) sz) U U.heap)) (va_Qr (fun _ : Unit => True) (fun (_ : Unit) (rq : Nat) (t : State) => ∃ (z0_9 : Int) (Ln_9 : List Nat) (Pn_9 : PO) (kc_9 : Nat) (ks_9 : Nat), ((RM HU t.heap kc_9 ks_9 ∧ ((ks_9 : Int) ≤ 18 * (Pn_9.lz lp - P.lz lp) + 5 * (Pn_9.cap lp - P.cap lp) ∧ (kc_9 : Int) ≤ 4 * (Pn_9.lz lp - P.lz lp) + (Pn_9.cap lp - P.cap lp) ∧ (ks_9 : Int) ≤ 100018 ∧ (kc_9 : Int) ≤ 5)) ∧ ((0 ≤ z0_9 ∧ z0_9 ≤ 19001) ∧ (KEG [lp] L P Ln_9 Pn_9 ∧ GLF Ln_9 Pn_9 cO cI cZ sx_ed ∧ CP9 lp rq (z13_phiN) t0 L P Ln_9 Pn_9 ∧ (z0_9 = z13_phiN + 1)))) ∧ va_P (dC, dI) vwQ ([(hc, .inr (12, [v13_0, v13_1, .ref lp, v13_3, .int (zI (z0_9)), .ref la, v13_6]))] ++ va_pl Ln_9 (pE Pn_9)) t.heap ∧ va_K (dC, dI) vwQ [(cO, .object "java/lang/Object"), (cI, .int), (cZ, .boolean)] t ∧ va_D (va_A ([(hc, .inr (12, [v13_0, v13_1, .ref lp, v13_3, .int (zI (z13_phiN)), .ref la, v13_6]))] ++ va_pl L (pE P)) sz) ([(hc, .inr (12, [v13_0, v13_1, .ref lp, v13_3, .int (zI (z0_9)), .ref la, v13_6]))] ++ va_pl Ln_9 (pE Pn_9))) (va_A ([(hc, .inr (12, [v13_0, v13_1, .ref lp, v13_3, .int (zI (z13_phiN)), .ref la, v13_6]))] ++ va_pl L (pE P)) sz)) 5 100018 (va_A ([(hc, .inr (12, [v13_0, v13_1, .ref lp, v13_3, .int (zI (z13_phiN)), .ref la, v13_6]))] ++ va_pl L (pE P)) sz) := by
  refine Met.ofW (cc := cX13_phi) (maxL := 3) (ret := (some (.object "SsaForgeModel$Phi"))) (by decide) rfl ?_
  intro p e s m args below meth c s₁ B hml hv
  obtain ⟨rfl, hsz, hP, hK, hD0, hp0, hp1, hp2, hp3, hp4, hp5, hp6, hp7, hp8, hp9, hp10⟩ := hv
  have hx := B.exec
  have hb := B.bytes
  have hr := B.returns
  have hts := atoms_spec (ws := v_P13_phiG) B.pre
  have hown : s.vm.findClass RX13 = some m.cls := findClass_of_methodNamed B.named
  have hlocks := B.notSynchronized
  have ow : ∀ {k : Nat} {w : Cond}, o_P13_phiG[k]? = some w → w.before ([.ref hc, .int (zI (t0))] : List Value).toArray s = true := fun h => hts _ (mow_P13_phiG _ (List.mem_of_getElem? h))
  subst hsz
  have hD := hD0.self (sz := s.heap.size)
  generalize hAe : va_A ([(hc, .inr (12, [v13_0, v13_1, .ref lp, v13_3, .int (zI (z13_phiN)), .ref la, v13_6]))] ++ va_pl L (pE P)) s.heap.size = A at hD hp8 hp9 hp10 ⊢
  have hA : ∀ q : Nat, s.heap.size ≤ q → A q := fun q h => by rw [← hAe]; exact Or.inr h
  have hS : va_S A s.heap s.heap [] := va_S.rf
  have hP : va_P (dC, dI) vwQ ([(hc, .inr (12, [v13_0, v13_1, .ref lp, v13_3, .int (zI (z13_phiN)), .ref la, v13_6]))] ++ va_pl L (pE P)) s.heap := hP
  have hl := lv_entry ([.ref hc, .int (zI (t0))]) (n := 3) (Nat.le_of_ble_eq_true rfl)
  rw [lg_entry_eq]
  generalize (lg_sl ([.ref hc, .int (zI (t0))]) ++ List.replicate (3 - (lg_sl ([.ref hc, .int (zI (t0))])).length) Slot.unset).toArray = ls at hl ⊢
  have hl : lv_has ls 3 [(0, .ref hc), (1, .int (zI (t0)))] := hl
  obtain ⟨H, hH⟩ : ∃ H, H = s.heap := ⟨_, rfl⟩
  rw [← hH] at hP
  have hS : va_S A s.heap H [] := by rw [hH]; exact hS
  rw [← hH]
  refine zW_cap (fun Q hQ => ?_)
  have hX_g9 := hX_g
  have hC_la := hX_la
  have hC_lp := hX_lp
  refine lv_aload_n hx hb dX13_phi_0 rfl (lv_at hl 0 rfl) ?_
  refine va_get (D := (dC, dI)) (ci := 12) (v := .int (zI (z13_phiN))) (C := RX13) (T := TX13) (N := 7) hx hb hts mem_P13_phiG_0 hown hK hP 0 rfl rfl 4 (by decide) (ow (k := 0) rfl) (fun _ h9 => h9) rfl dX13_phi_1 ?_
  refine lv_aload_n hx hb dX13_phi_4 rfl (lv_at hl 0 rfl) ?_
  refine va_get (D := (dC, dI)) (ci := 12) (v := .ref lp) (C := RX13) (T := TX13) (N := 7) hx hb hts mem_P13_phiG_0 hown hK hP 0 rfl rfl 2 (by decide) (ow (k := 1) rfl) (fun _ h9 => h9) rfl dX13_phi_5 ?_
  have hlk_1 := (show LOK L P cO 15 lp from (by have q9 := (hX_g9.gla lp hC_lp.1 hC_lp.2.1).1; rw [hC_lp.2.2.1] at q9; exact q9))
  have hX_x := hlk_1.1
  have hX_k := hlk_1.2.1
  have hlz9 := hlk_1.2.2.1
  have hPc := hP.part (X := [(hc, .inr (12, [v13_0, v13_1, .ref lp, v13_3, .int (zI (z13_phiN)), .ref la, v13_6]))]) (cx := []) (pl := va_pl L (pE P)) [] rfl
  have hDc := hD.part (X := [(hc, .inr (12, [v13_0, v13_1, .ref lp, v13_3, .int (zI (z13_phiN)), .ref la, v13_6]))]) (cx := []) (pl := va_pl L (pE P)) [] (by decide) rfl
  have hKc := hK.sub (tys' := [(cO, .object "java/lang/Object")]) [0] rfl
  have hFc := va_freeP (X := [(hc, .inr (12, [v13_0, v13_1, .ref lp, v13_3, .int (zI (z13_phiN)), .ref la, v13_6]))]) (cx := []) (pl := va_pl L (pE P)) hD hS hA [] rfl
  refine va_calli (va_runV (As := []) (rest := [.int (zI (z13_phiN))]) ⟨hx, hb, hml, hown, hts⟩ (c_PL_size l dC dI cO L P lp hX_x hX_k (by omega) H.size) (cwV 0 hts g_P13_phiG_PL_size rfl rfl rfl (by decide +kernel) ⟨(Nat.le_of_ble_eq_true rfl), (Nat.le_of_ble_eq_true rfl)⟩) ⟨fun a U g mk q => by obtain ⟨q0, q1, qP, qK, qD⟩ := q; exact ⟨q0, q1, qP, va_K.moved (u := U) (U := U.calling g mk a) (Vm.Alike.refl U.vm) qK, qD⟩, recv_30 hKc hPc hC_lp.1 hC_lp.2.1, fun U hU hW => ⟨rfl, by rw [hU], by rw [hU]; exact hPc, va_K.moved hW.alike hKc, hDc.weaken (fun _ _ _ _ => trivial)⟩⟩ rfl rfl hl.1 rfl (lv_room (Nat.le_of_ble_eq_true rfl)) dX13_phi_8 ⟨(Nat.le_of_ble_eq_true rfl), (Nat.le_of_ble_eq_true rfl)⟩) hS (fun q _ h => hFc q h) hFc (fun r_2 u t H1 locs ht hvm hw hB hz1 hk1 hS => ?_)
  obtain ⟨hP1, hK1, hD1⟩ := hB
  rw [ht] at hP1
  have hK1 := va_K.moved hvm.symm hK1
  obtain ⟨hP, hD⟩ := va_joinP (X := [(hc, .inr (12, [v13_0, v13_1, .ref lp, v13_3, .int (zI (z13_phiN)), .ref la, v13_6]))]) (cx := []) (wr := [(hc, .inr (12, [v13_0, v13_1, .ref lp, v13_3, .int (zI (z13_phiN)), .ref la, v13_6]))]) (rx := []) (pl := va_pl L (pE P)) (pl1 := va_pl L (pE P)) hP hD [] [0] rfl rfl (by decide) (by decide) hk1 hFc hP1 hD1
  have hK := (hK.sub (tys' := [(cI, .int), (cZ, .boolean)]) [1, 2] rfl).app hK1
  generalize H1 = H at hP hS ⊢
  have hP : va_P (dC, dI) vwQ ([(hc, .inr (12, [v13_0, v13_1, .ref lp, v13_3, .int (zI (z13_phiN)), .ref la, v13_6]))] ++ va_pl L (pE P)) H := hP
  have hD : va_D A ([(hc, .inr (12, [v13_0, v13_1, .ref lp, v13_3, .int (zI (z13_phiN)), .ref la, v13_6]))] ++ va_pl L (pE P)) := hD
  have hK : va_K (dC, dI) vwQ [(cI, .int), (cZ, .boolean), (cO, .object "java/lang/Object")] s := hK
  refine W.widen (k := 0) (n := 0) (Nat.le_of_ble_eq_true rfl) (Nat.le_of_ble_eq_true rfl) ?_
  obtain rfl : r_2 = (zI (P.lz lp)) := hw
  refine lv_icmp_ne (tgt := 29) hx hb dX13_phi_11 (by decide) (fun b11 => ?_) (fun b11 => ?_)
  · have yb11 : ¬ (z13_phiN : Int) = (P.lz lp : Int) := fun q => b11 ((zI_eq (a := z13_phiN) (b := P.lz lp) (by omega) (by omega) (by omega) (by omega)).mpr q)
    refine lv_aload_n hx hb dX13_phi_29 rfl (lv_at hl 0 rfl) ?_
    refine va_get (D := (dC, dI)) (ci := 12) (v := .ref lp) (C := RX13) (T := TX13) (N := 7) hx hb hts mem_P13_phiG_0 hown hK hP 0 rfl rfl 2 (by decide) (ow (k := 1) rfl) (fun _ h9 => h9) rfl dX13_phi_30 ?_
    refine lv_aload_n hx hb dX13_phi_33 rfl (lv_at hl 0 rfl) ?_
    refine va_get (D := (dC, dI)) (ci := 12) (v := .int (zI (z13_phiN))) (C := RX13) (T := TX13) (N := 7) hx hb hts mem_P13_phiG_0 hown hK hP 0 rfl rfl 4 (by decide) (ow (k := 0) rfl) (fun _ h9 => h9) rfl dX13_phi_34 ?_
    have hlk_3 := (show LOK L P cO 15 lp from (by have q9 := (hX_g9.gla lp hC_lp.1 hC_lp.2.1).1; rw [hC_lp.2.2.1] at q9; exact q9))
    obtain ⟨x, ex⟩ : ∃ q9 : Nat, q9 = P.el lp (z13_phiN) := ⟨_, rfl⟩
    have hX_x := hlk_3.1
    have hX_k := hlk_3.2.1
    have hq9 := hlk_3.row (i := z13_phiN) (by omega) (by omega)
    have hX_q : P.le lp ∈ L ∧ P.kd (P.le lp) = 31 ∧ P.ac (P.le lp) = cO := ⟨hq9.1, hq9.2.1, hq9.2.2.1⟩
    have hq8 := hq9.2.2.2
    have hX_e0 : P.oa (P.le lp) (z13_phiN).toNat = some x := (by rw [ex]; exact (hlk_3.2.2.2.2 (z13_phiN) (by omega) (by omega)).1)
    have hxm : x ∈ L := (by rw [ex]; exact (hlk_3.2.2.2.2 (z13_phiN) (by omega) (by omega)).2.1)
    have hxk := (hlk_3.2.2.2.2 (z13_phiN) (by omega) (by omega)).2.2
    rw [← ex] at hxk
    have hPc := hP.part (X := [(hc, .inr (12, [v13_0, v13_1, .ref lp, v13_3, .int (zI (z13_phiN)), .ref la, v13_6]))]) (cx := []) (pl := va_pl L (pE P)) [] rfl
    have hDc := hD.part (X := [(hc, .inr (12, [v13_0, v13_1, .ref lp, v13_3, .int (zI (z13_phiN)), .ref la, v13_6]))]) (cx := []) (pl := va_pl L (pE P)) [] (by decide) rfl
    have hKc := hK.sub (tys' := [(cO, .object "java/lang/Object")]) [2] rfl
    have hFc := va_freeP (X := [(hc, .inr (12, [v13_0, v13_1, .ref lp, v13_3, .int (zI (z13_phiN)), .ref la, v13_6]))]) (cx := []) (pl := va_pl L (pE P)) hD hS hA [] rfl
    refine va_callr (va_runV (As := [.int (zI (z13_phiN))]) (rest := []) ⟨hx, hb, hml, hown, hts⟩ (c_PL_get l dC dI cO L P lp z13_phiN x hX_x hX_k hX_q (by omega) hX_e0 H.size) (cwV 1 hts g_P13_phiG_PL_get rfl rfl rfl (by decide +kernel) ⟨(Nat.le_of_ble_eq_true rfl), (Nat.le_of_ble_eq_true rfl)⟩) ⟨fun a U g mk q => by obtain ⟨q0, q1, qP, qK, qD⟩ := q; exact ⟨q0, q1, qP, va_K.moved (u := U) (U := U.calling g mk a) (Vm.Alike.refl U.vm) qK, qD⟩, recv_30 hKc hPc hC_lp.1 hC_lp.2.1, fun U hU hW => ⟨rfl, by rw [hU], by rw [hU]; exact hPc, va_K.moved hW.alike hKc, hDc.weaken (fun _ _ _ _ => trivial)⟩⟩ rfl rfl hl.1 rfl (lv_room (Nat.le_of_ble_eq_true rfl)) dX13_phi_37 ⟨(Nat.le_of_ble_eq_true rfl), (Nat.le_of_ble_eq_true rfl)⟩) hS (fun q _ h => hFc q h) hFc (fun u q_4 t H1 locs ht hvm hw hB hz1 hk1 hS => ?_)
    obtain ⟨hxt_4, hP1, hK1, hD1⟩ := hB
    rw [ht] at hP1
    have hK1 := va_K.moved hvm.symm hK1
    obtain ⟨hP, hD⟩ := va_joinP (X := [(hc, .inr (12, [v13_0, v13_1, .ref lp, v13_3, .int (zI (z13_phiN)), .ref la, v13_6]))]) (cx := []) (wr := [(hc, .inr (12, [v13_0, v13_1, .ref lp, v13_3, .int (zI (z13_phiN)), .ref la, v13_6]))]) (rx := []) (pl := va_pl L (pE P)) (pl1 := va_pl L (pE P)) hP hD [] [0] rfl rfl (by decide) (by decide) hk1 hFc hP1 hD1
    have hK := (hK.sub (tys' := [(cI, .int), (cZ, .boolean)]) [0, 1] rfl).app hK1
    generalize H1 = H at hP hS ⊢
    have hP : va_P (dC, dI) vwQ ([(hc, .inr (12, [v13_0, v13_1, .ref lp, v13_3, .int (zI (z13_phiN)), .ref la, v13_6]))] ++ va_pl L (pE P)) H := hP
    have hD : va_D A ([(hc, .inr (12, [v13_0, v13_1, .ref lp, v13_3, .int (zI (z13_phiN)), .ref la, v13_6]))] ++ va_pl L (pE P)) := hD
    have hK : va_K (dC, dI) vwQ [(cI, .int), (cZ, .boolean), (cO, .object "java/lang/Object")] s := hK
    refine W.widen (k := 0) (n := 0) (Nat.le_of_ble_eq_true rfl) (Nat.le_of_ble_eq_true rfl) ?_
    rw [hxt_4]
    clear hX_e0
    obtain ⟨xp_5, h9⟩ : ∃ q9 : Nat, q9 = x := ⟨_, rfl⟩
    subst h9
    have hm_6 := hxm
    have hk_7 := hxk
    have hel9 := ex
    refine va_castY (C := "SsaForgeModel$Phi") (nm := "SsaForgeModel$Phi") hx hb hown (ow (k := 9) rfl) hp0 (recv_15 hK hP hm_6 hk_7) dX13_phi_40 ?_
    refine lv_astore_n (lv' := [(2, .ref xp_5), (0, .ref hc), (1, .int (zI (t0)))]) hx hb dX13_phi_43 rfl hl (by decide) rfl (fun ls hl => ?_)
    refine lv_aload_n hx hb dX13_phi_44 rfl (lv_at hl 1 rfl) ?_
    refine lv_dup hx hb dX13_phi_45 rfl ?_
    refine va_get (D := (dC, dI)) (ci := 12) (v := .int (zI (z13_phiN))) (C := RX13) (T := TX13) (N := 7) hx hb hts mem_P13_phiG_0 hown hK hP 0 rfl rfl 4 (by decide) (ow (k := 0) rfl) (fun _ h9 => h9) rfl dX13_phi_46 ?_
    refine lv_iconst (v := 1) hx hb dX13_phi_49 (by decide) ?_
    refine lv_iadd hx hb dX13_phi_50 ?_
    refine lv_topi (fun z ez => ?_)
    obtain rfl : z = zI (z13_phiN + 1) := ez.trans (zI_add (z13_phiN) (1))
    refine va_put (D := (dC, dI)) (ci := 12) (v := .int (zI (z13_phiN + 1))) (ty := .int) (C := RX13) (T := TX13) (N := 7) hx hb hts mem_P13_phiG_0 tyX13 tyX13_ok nmX13 hown hK hP hD hS 0 rfl rfl 4 (by decide) (ow (k := 0) rfl) (fun _ h9 => h9) rfl (by decide +kernel) rfl rfl (Nat.le_of_ble_eq_true rfl) dX13_phi_51 (fun H locs hP hD hS => ?_)
    have hP : va_P (dC, dI) vwQ ([(hc, .inr (12, [v13_0, v13_1, .ref lp, v13_3, .int (zI (z13_phiN + 1)), .ref la, v13_6]))] ++ va_pl L (pE P)) H := hP
    have hD : va_D A ([(hc, .inr (12, [v13_0, v13_1, .ref lp, v13_3, .int (zI (z13_phiN + 1)), .ref la, v13_6]))] ++ va_pl L (pE P)) := hD
    obtain ⟨z_9, ez_9⟩ : ∃ z9 : Int, z9 = z13_phiN + 1 := ⟨_, rfl⟩
    rw [← ez_9] at hP hD
    have hP : va_P (dC, dI) vwQ ([(hc, .inr (12, [v13_0, v13_1, .ref lp, v13_3, .int (zI (z_9)), .ref la, v13_6]))] ++ va_pl L (pE P)) H := hP
    have hD : va_D A ([(hc, .inr (12, [v13_0, v13_1, .ref lp, v13_3, .int (zI (z_9)), .ref la, v13_6]))] ++ va_pl L (pE P)) := hD
    refine lv_aload_n hx hb dX13_phi_54 rfl (lv_at hl 0 rfl) ?_
    refine lv_iload_n hx hb dX13_phi_55 rfl (lv_at hl 2 rfl) ?_
    have hX_p := hX_g9.pik hm_6 hk_7
    have hp9 := hX_g9.pik hm_6 hk_7
    have hpn := hp9.2.2.2.2.1
    have hpt := hp9.2.2.2.2.2.1
    clear hp9
    have hPc := hP.part (X := [(hc, .inr (12, [v13_0, v13_1, .ref lp, v13_3, .int (zI (z_9)), .ref la, v13_6]))]) (cx := []) (pl := va_pl L (pE P)) [] rfl
    have hDc := hD.part (X := [(hc, .inr (12, [v13_0, v13_1, .ref lp, v13_3, .int (zI (z_9)), .ref la, v13_6]))]) (cx := []) (pl := va_pl L (pE P)) [] (by decide) rfl
    have hKc := hK.sub (tys' := [(cO, .object "java/lang/Object"), (cI, .int), (cZ, .boolean)]) [2, 0, 1] rfl
    have hFc := va_freeP (X := [(hc, .inr (12, [v13_0, v13_1, .ref lp, v13_3, .int (zI (z_9)), .ref la, v13_6]))]) (cx := []) (pl := va_pl L (pE P)) hD hS hA [] rfl
    refine va_callv (va_runV (As := [.int (zI (t0))]) (rest := []) ⟨hx, hb, hml, hown, hts⟩ (c_PP_begin l dC dI cO cI cZ L P xp_5 t0 hX_p (by omega) H.size) (cwV 1 hts g_P13_phiG_PP_begin rfl rfl rfl (by decide +kernel) ⟨(Nat.le_of_ble_eq_true rfl), (Nat.le_of_ble_eq_true rfl)⟩) ⟨fun a U g mk q => by obtain ⟨q0, q1, qP, qK, qD⟩ := q; exact ⟨q0, q1, qP, va_K.moved (u := U) (U := U.calling g mk a) (Vm.Alike.refl U.vm) qK, qD⟩, recv_15 hKc hPc hm_6 hk_7, fun U hU hW => ⟨rfl, by rw [hU], by rw [hU]; exact hPc, va_K.moved hW.alike hKc, hDc.weaken (fun _ _ _ _ => trivial)⟩⟩ rfl rfl hl.1 rfl (lv_room (Nat.le_of_ble_eq_true rfl)) dX13_phi_56 ⟨(Nat.le_of_ble_eq_true rfl), (Nat.le_of_ble_eq_true rfl)⟩) hS (fun q _ h => hFc q h) hFc (fun  u t H1 locs ht hvm hw hB hz1 hk1 hS => ?_)
    obtain ⟨Pn_10, hxt_10, hP1, hK1, hD1⟩ := hB
    rw [ht] at hP1
    have hK1 := va_K.moved hvm.symm hK1
    obtain ⟨hP, hD⟩ := va_joinP (X := [(hc, .inr (12, [v13_0, v13_1, .ref lp, v13_3, .int (zI (z_9)), .ref la, v13_6]))]) (cx := []) (wr := [(hc, .inr (12, [v13_0, v13_1, .ref lp, v13_3, .int (zI (z_9)), .ref la, v13_6]))]) (rx := []) (pl := va_pl L (pE P)) (pl1 := va_pl L (pE Pn_10)) hP hD [] [0] rfl rfl (by decide) (by decide) hk1 hFc hP1 hD1
    have hK := (hK.sub (tys' := []) [] rfl).app hK1
    generalize H1 = H at hP hS ⊢
    have hP : va_P (dC, dI) vwQ ([(hc, .inr (12, [v13_0, v13_1, .ref lp, v13_3, .int (zI (z_9)), .ref la, v13_6]))] ++ va_pl L (pE Pn_10)) H := hP
    have hD : va_D A ([(hc, .inr (12, [v13_0, v13_1, .ref lp, v13_3, .int (zI (z_9)), .ref la, v13_6]))] ++ va_pl L (pE Pn_10)) := hD
    have hK : va_K (dC, dI) vwQ [(cO, .object "java/lang/Object"), (cI, .int), (cZ, .boolean)] s := hK
    refine W.widen (k := 0) (n := 0) (Nat.le_of_ble_eq_true rfl) (Nat.le_of_ble_eq_true rfl) ?_
    have hu_11 := hxt_10
    have hrw_12 : RWD P Pn_10 := hu_11.1.rwd hk_7
    have hke_13 : KEG [lp] L P L Pn_10 := hrw_12.keg _ hC_la.2.1
    have hak_14 : GLF L Pn_10 cO cI cZ sx_ed := hX_g9.phi hu_11.1 hk_7 hu_11.2.1
    have hq_15 : la ∈ L ∧ Pn_10.kd la = 30 := hke_13.mem hC_la.1 hC_la.2.1 (by decide)
    have hq_16 : lp ∈ L ∧ Pn_10.kd lp = 30 := hke_13.mem hC_lp.1 hC_lp.2.1 (by decide)
    have hq_17 : xp_5 ∈ L ∧ Pn_10.kd xp_5 = 15 := hke_13.mem hm_6 hk_7 (by decide)
    have hA_18 : KEG [lp] L P L Pn_10 := (KEG.refl [lp] L P).trans hke_13
    have : Pn_10.lz la = P.lz la := hrw_12.lz hC_la.2.1
    have : Pn_10.lz lp = P.lz lp := hrw_12.lz hC_lp.2.1
    have hpn9 := hu_11.2.2.1
    have : Pn_10.cap la = P.cap la := hrw_12.cap la
    have : Pn_10.cap lp = P.cap lp := hrw_12.cap lp
    have hek_19 : Pn_10.ek la = 12 := (by rw [hke_13.ek hC_la.1 hC_la.2.1 (by decide)]; exact hC_la.2.2.1)
    have how_20 : Pn_10.ow la = la := ((hke_13.1 la hC_la.1 (by rw [hC_la.2.1]; decide)).2.2.2.1 hC_la.2.1 hC_la.2.2.2).1
    have hcz := (((hke_13.1 la hC_la.1 (by rw [hC_la.2.1]; decide)).2.2.2.1 hC_la.2.1 hC_la.2.2.2).2 (fun q9 => by have h9 := hC_la.2.2.1; rw [List.mem_singleton.mp q9] at h9; omega)).1
    have hek_21 : Pn_10.ek lp = 15 := (by rw [hke_13.ek hC_lp.1 hC_lp.2.1 (by decide)]; exact hC_lp.2.2.1)
    have how_22 : Pn_10.ow lp = lp := ((hke_13.1 lp hC_lp.1 (by rw [hC_lp.2.1]; decide)).2.2.2.1 hC_lp.2.1 hC_lp.2.2.2).1
    refine lv_aload_n hx hb dX13_phi_59 rfl (lv_at hl 0 rfl) ?_
    subst hQ
    refine W_knowS (fun hrm9 => ?_)
    refine W.widen (k := 5) (n := 100018) (Nat.le_of_ble_eq_true rfl) (Nat.le_of_ble_eq_true rfl) ?_
    exact W.aret (v := .ref xp_5) hx hb hr (Or.inl ⟨_, rfl⟩) (Or.inr ⟨_, rfl⟩) (fun t ht hW => ⟨⟨(), xp_5, rfl, trivial, z_9, L, Pn_10, 0, 0, ⟨⟨(by rw [ht, ← hp1]; exact hrm9), (by omega)⟩, ⟨(by omega), ⟨hA_18, hak_14, ⟨⟨hq_17.1, hq_17.2, (by rw [hrw_12.el]; exact hel9)⟩, ⟨by omega, by omega⟩, ⟨hu_11.2.2.1, hu_11.2.2.2.1, hu_11.2.2.2.2.1⟩, (fun i i0 i1 => hrw_12.el _ _), ((hu_11.1.chg _).wk (fun z m q9 => by rcases q9 with q9 | q9; exact Or.inl q9; exact Or.inr (Or.inr (Or.inr q9))))⟩, by omega⟩⟩⟩, by rw [ht]; exact hP, va_K.moved hW.alike hK, hD⟩, hS.F ht⟩) hS.2.2 dX13_phi_60
  · have yb11 : (z13_phiN : Int) = (P.lz lp : Int) := (zI_eq (a := z13_phiN) (b := P.lz lp) (by omega) (by omega) (by omega) (by omega)).mp b11
    refine lv_aload_n hx hb dX13_phi_14 rfl (lv_at hl 0 rfl) ?_
    refine va_get (D := (dC, dI)) (ci := 12) (v := .ref lp) (C := RX13) (T := TX13) (N := 7) hx hb hts mem_P13_phiG_0 hown hK hP 0 rfl rfl 2 (by decide) (ow (k := 1) rfl) (fun _ h9 => h9) rfl dX13_phi_15 ?_
    refine va_new (ci := 20) (fs := [.int 0, .int 0, .null, .null, .null, .int 0]) (C := RX15) (T := TX15) (N := 6) hx hb hts mem_P13_phiG_4 tyX15 tyX15_ok hown (ow (k := 14) rfl) (ow (k := 15) rfl) (ow (k := 13) rfl) hK hP hD hS hA rfl (df_X15) (Nat.le_of_ble_eq_true rfl) (Nat.le_of_ble_eq_true rfl) dX13_phi_18 (fun q_23 H hP hD hS => ?_)
    have hP := pl_Pp (pl_new (X := [(hc, .inr (12, [v13_0, v13_1, .ref lp, v13_3, .int (zI (z13_phiN)), .ref la, v13_6]))]) (pl := va_pl L (pE P))) hP
    have hD := pl_Dp (pl_new (X := [(hc, .inr (12, [v13_0, v13_1, .ref lp, v13_3, .int (zI (z13_phiN)), .ref la, v13_6]))]) (pl := va_pl L (pE P))) hD
    have hP : va_P (dC, dI) vwQ ([(hc, .inr (12, [v13_0, v13_1, .ref lp, v13_3, .int (zI (z13_phiN)), .ref la, v13_6])), (q_23, .inr (20, [.int 0, .int 0, .null, .null, .null, .int 0]))] ++ va_pl L (pE P)) H := hP
    have hD : va_D A ([(hc, .inr (12, [v13_0, v13_1, .ref lp, v13_3, .int (zI (z13_phiN)), .ref la, v13_6])), (q_23, .inr (20, [.int 0, .int 0, .null, .null, .null, .int 0]))] ++ va_pl L (pE P)) := hD
    refine W.widen (k := 1) (n := 6) (Nat.le_of_ble_eq_true rfl) (Nat.le_of_ble_eq_true rfl) ?_
    refine lv_dup hx hb dX13_phi_21 rfl ?_
    have hPc := hP.part (X := [(hc, .inr (12, [v13_0, v13_1, .ref lp, v13_3, .int (zI (z13_phiN)), .ref la, v13_6])), (q_23, .inr (20, [.int 0, .int 0, .null, .null, .null, .int 0]))]) (cx := [(q_23, .inr (20, [.int 0, .int 0, .null, .null, .null, .int 0]))]) (pl := va_pl L (pE P)) [1] rfl
    have hDc := hD.part (X := [(hc, .inr (12, [v13_0, v13_1, .ref lp, v13_3, .int (zI (z13_phiN)), .ref la, v13_6])), (q_23, .inr (20, [.int 0, .int 0, .null, .null, .null, .int 0]))]) (cx := [(q_23, .inr (20, [.int 0, .int 0, .null, .null, .null, .int 0]))]) (pl := va_pl L (pE P)) [1] (by decide) rfl
    have hKc := hK.sub (tys' := [(cO, .object "java/lang/Object"), (cI, .int), (cZ, .boolean)]) [2, 0, 1] rfl
    have hFc := va_freeP (X := [(hc, .inr (12, [v13_0, v13_1, .ref lp, v13_3, .int (zI (z13_phiN)), .ref la, v13_6])), (q_23, .inr (20, [.int 0, .int 0, .null, .null, .null, .int 0]))]) (cx := [(q_23, .inr (20, [.int 0, .int 0, .null, .null, .null, .int 0]))]) (pl := va_pl L (pE P)) hD hS hA [1] rfl
    refine va_callv (va_runIN (As := []) (rest := [.ref q_23, .ref lp]) ⟨hx, hb, hml, hown, hts⟩ (c_X15_init l dC dI cI cZ q_23 (.int 0) (.int 0) .null .null .null (.int 0) cO L P H.size) ⟨va_cnB 0 hts (goodIn_sub mem_P13_phiG_5 gw_X15_init) rfl rfl rfl hp2 (ow (k := 13) rfl) (by decide +kernel) ⟨(Nat.le_of_ble_eq_true rfl), (Nat.le_of_ble_eq_true rfl)⟩, rfl, (ow (k := 16) rfl)⟩ ⟨fun a U g mk q => by obtain ⟨q0, q1, qP, qK, qD⟩ := q; exact ⟨q0, q1, qP, va_K.moved (u := U) (U := U.calling g mk a) (Vm.Alike.refl U.vm) qK, qD⟩, fun U hU hW => ⟨rfl, by rw [hU], by rw [hU]; exact hPc, va_K.moved hW.alike hKc, hDc.weaken (fun _ _ _ _ => trivial)⟩⟩ rfl rfl hl.1 rfl (lv_room (Nat.le_of_ble_eq_true rfl)) dX13_phi_22 ⟨(Nat.le_of_ble_eq_true rfl), (Nat.le_of_ble_eq_true rfl)⟩) hS (fun q _ h => hFc q h) hFc (fun  u t H1 locs ht hvm hw hB hz1 hk1 hS => ?_)
    obtain ⟨q0_24, q1_25, q2_26, Ln_27, Pn_28, hxt_28, hP1, hK1, hD1⟩ := hB
    rw [ht] at hP1
    have hK1 := va_K.moved hvm.symm hK1
    obtain ⟨hP, hD⟩ := va_joinP (X := [(hc, .inr (12, [v13_0, v13_1, .ref lp, v13_3, .int (zI (z13_phiN)), .ref la, v13_6])), (q_23, .inr (20, [.int 0, .int 0, .null, .null, .null, .int 0]))]) (cx := [(q_23, .inr (20, [.int 0, .int 0, .null, .null, .null, .int 0]))]) (wr := [(hc, .inr (12, [v13_0, v13_1, .ref lp, v13_3, .int (zI (z13_phiN)), .ref la, v13_6]))]) (rx := [(q_23, .inr (20, [.int 0, .int 0, .ref q0_24, .ref q1_25, .ref q2_26, .int 0]))]) (pl := va_pl L (pE P)) (pl1 := va_pl Ln_27 (pE Pn_28)) hP hD [1] [0] rfl rfl (by decide) (by decide) hk1 hFc hP1 hD1
    have hK := (hK.sub (tys' := []) [] rfl).app hK1
    generalize H1 = H at hP hS ⊢
    have hP : va_P (dC, dI) vwQ ([(hc, .inr (12, [v13_0, v13_1, .ref lp, v13_3, .int (zI (z13_phiN)), .ref la, v13_6])), (q_23, .inr (20, [.int 0, .int 0, .ref q0_24, .ref q1_25, .ref q2_26, .int 0]))] ++ va_pl Ln_27 (pE Pn_28)) H := hP
    have hD : va_D A ([(hc, .inr (12, [v13_0, v13_1, .ref lp, v13_3, .int (zI (z13_phiN)), .ref la, v13_6])), (q_23, .inr (20, [.int 0, .int 0, .ref q0_24, .ref q1_25, .ref q2_26, .int 0]))] ++ va_pl Ln_27 (pE Pn_28)) := hD
    have hK : va_K (dC, dI) vwQ [(cO, .object "java/lang/Object"), (cI, .int), (cZ, .boolean)] s := hK
    refine W.widen (k := 4) (n := 18) (Nat.le_of_ble_eq_true rfl) (Nat.le_of_ble_eq_true rfl) ?_
    have hu_29 := hxt_28
    have hak_31 : GLF Ln_27 Pn_28 cO cI cZ sx_ed := hX_g9.ext hu_29.1 hu_29.2.1.new
    have hke_30 : KEG [lp] L P Ln_27 Pn_28 := hu_29.1.keg hX_g9
    have hq_32 : la ∈ Ln_27 ∧ Pn_28.kd la = 30 := hke_30.mem hC_la.1 hC_la.2.1 (by decide)
    have hq_33 : lp ∈ Ln_27 ∧ Pn_28.kd lp = 30 := hke_30.mem hC_lp.1 hC_lp.2.1 (by decide)
    have hA_34 : KEG [lp] L P Ln_27 Pn_28 := (KEG.refl [lp] L P).trans hke_30
    have : Pn_28.lz la = P.lz la := (hu_29.1 la hC_la.1).2.1 0
    have : Pn_28.lz lp = P.lz lp := (hu_29.1 lp hC_lp.1).2.1 0
    have : Pn_28.cap la = P.cap la := hu_29.1.cap hX_g9.owa hC_la.1 hC_la.2.1
    have : Pn_28.cap lp = P.cap lp := hu_29.1.cap hX_g9.owa hC_lp.1 hC_lp.2.1
    have hek_35 : Pn_28.ek la = 12 := (by rw [hke_30.ek hC_la.1 hC_la.2.1 (by decide)]; exact hC_la.2.2.1)
    have how_36 : Pn_28.ow la = la := ((hke_30.1 la hC_la.1 (by rw [hC_la.2.1]; decide)).2.2.2.1 hC_la.2.1 hC_la.2.2.2).1
    have hcz := (((hke_30.1 la hC_la.1 (by rw [hC_la.2.1]; decide)).2.2.2.1 hC_la.2.1 hC_la.2.2.2).2 (fun q9 => by have h9 := hC_la.2.2.1; rw [List.mem_singleton.mp q9] at h9; omega)).1
    have hek_37 : Pn_28.ek lp = 15 := (by rw [hke_30.ek hC_lp.1 hC_lp.2.1 (by decide)]; exact hC_lp.2.2.1)
    have how_38 : Pn_28.ow lp = lp := ((hke_30.1 lp hC_lp.1 (by rw [hC_lp.2.1]; decide)).2.2.2.1 hC_lp.2.1 hC_lp.2.2.2).1
    have hqn_41 : q_23 ∉ Ln_27 := pl_notin (X := [(hc, .inr (12, [v13_0, v13_1, .ref lp, v13_3, .int (zI (z13_phiN)), .ref la, v13_6]))]) hD
    obtain ⟨Pm_39, ePm_39⟩ : ∃ Q9 : PO, Q9 = Pn_28.mphi q_23 q0_24 q1_25 q2_26 := ⟨_, rfl⟩
    obtain ⟨Lm_40, eLm_40⟩ : ∃ l9 : List Nat, l9 = q_23 :: Ln_27 := ⟨_, rfl⟩
    obtain ⟨hP, hD⟩ := pool_new (X := [(hc, .inr (12, [v13_0, v13_1, .ref lp, v13_3, .int (zI (z13_phiN)), .ref la, v13_6]))]) (P' := Pm_39) (by rw [ePm_39]; exact pE_mphi Pn_28 q_23 q0_24 q1_25 q2_26) hP hD
    rw [← eLm_40] at hP hD
    have hex_42 : EXT9 Ln_27 Pn_28 Lm_40 Pm_39 := (by rw [eLm_40, ePm_39]; exact EXT9.one hqn_41)
    have hm9 := mphi_at Pn_28 q_23 q0_24 q1_25 q2_26
    rw [← ePm_39] at hm9
    have hak_43 : GLF Lm_40 Pm_39 cO cI cZ sx_ed := (by rw [eLm_40] at hex_42 ⊢; exact hak_31.new1 hex_42 (by rw [ePm_39]; exact mphi_new hqn_41 hu_29.2.2.1 hu_29.2.2.2.1 hu_29.2.2.2.2))
    have hke_44 : KEG [lp] Ln_27 Pn_28 Lm_40 Pm_39 := hex_42.keg hak_31
    have hP : va_P (dC, dI) vwQ ([(hc, .inr (12, [v13_0, v13_1, .ref lp, v13_3, .int (zI (z13_phiN)), .ref la, v13_6]))] ++ va_pl Lm_40 (pE Pm_39)) H := hP
    have hD : va_D A ([(hc, .inr (12, [v13_0, v13_1, .ref lp, v13_3, .int (zI (z13_phiN)), .ref la, v13_6]))] ++ va_pl Lm_40 (pE Pm_39)) := hD
    have hq_45 : la ∈ Lm_40 ∧ Pm_39.kd la = 30 := hke_44.mem hq_32.1 hq_32.2 (by decide)
    have hq_46 : lp ∈ Lm_40 ∧ Pm_39.kd lp = 30 := hke_44.mem hq_33.1 hq_33.2 (by decide)
    have hA_47 : KEG [lp] L P Lm_40 Pm_39 := hA_34.trans hke_44
    have : Pm_39.lz la = Pn_28.lz la := (hex_42 la hq_32.1).2.1 0
    have : Pm_39.lz lp = Pn_28.lz lp := (hex_42 lp hq_33.1).2.1 0
    have : Pm_39.cap la = Pn_28.cap la := hex_42.cap hak_31.owa hq_32.1 hq_32.2
    have : Pm_39.cap lp = Pn_28.cap lp := hex_42.cap hak_31.owa hq_33.1 hq_33.2
    have hek_48 : Pm_39.ek la = 12 := (by rw [hke_44.ek hq_32.1 hq_32.2 (by decide)]; exact hek_35)
    have how_49 : Pm_39.ow la = la := ((hke_44.1 la hq_32.1 (by rw [hq_32.2]; decide)).2.2.2.1 hq_32.2 how_36).1
    have hcz := (((hke_44.1 la hq_32.1 (by rw [hq_32.2]; decide)).2.2.2.1 hq_32.2 how_36).2 (fun q9 => by have h9 := hek_35; rw [List.mem_singleton.mp q9] at h9; omega)).1
    have hek_50 : Pm_39.ek lp = 15 := (by rw [hke_44.ek hq_33.1 hq_33.2 (by decide)]; exact hek_37)
    have how_51 : Pm_39.ow lp = lp := ((hke_44.1 lp hq_33.1 (by rw [hq_33.2]; decide)).2.2.2.1 hq_33.2 how_38).1
    have hex_52 := hu_29.1.trans hex_42
    have hm_53 : q_23 ∈ Lm_40 := (by rw [eLm_40]; exact List.mem_cons_self)
    have hk_54 := hm9.1
    have hpb_55 : ∀ n9 : Int, PRB Pm_39 q_23 n9 := (fun _ i i0 i1 => by rw [hm9.2.2.2.2.1] at i1; omega)
    have hlk_56 := (show LOK Lm_40 Pm_39 cO 15 lp from (by have q9 := (hak_43.gla lp hq_46.1 hq_46.2).1; rw [hek_50] at q9; exact q9))
    have hX_x := hlk_56.1
    have hX_k := hlk_56.2.1
    have hlz9 := hlk_56.2.2.1
    have hX_c := hak_43.adc hlk_56
    have hX_y : q_23 ∈ Lm_40 ∧ OBK (Pm_39.kd q_23) := ⟨hm_53, (by rw [hk_54]; unfold OBK; decide)⟩
    have hPc := hP.part (X := [(hc, .inr (12, [v13_0, v13_1, .ref lp, v13_3, .int (zI (z13_phiN)), .ref la, v13_6]))]) (cx := []) (pl := va_pl Lm_40 (pE Pm_39)) [] rfl
    have hDc := hD.part (X := [(hc, .inr (12, [v13_0, v13_1, .ref lp, v13_3, .int (zI (z13_phiN)), .ref la, v13_6]))]) (cx := []) (pl := va_pl Lm_40 (pE Pm_39)) [] (by decide) rfl
    have hKc := hK.sub (tys' := [(cO, .object "java/lang/Object")]) [0] rfl
    have hFc := va_freeP (X := [(hc, .inr (12, [v13_0, v13_1, .ref lp, v13_3, .int (zI (z13_phiN)), .ref la, v13_6]))]) (cx := []) (pl := va_pl Lm_40 (pE Pm_39)) hD hS hA [] rfl
    have hgl := ADC.gl hX_c
    refine va_calli (va_runV (As := [.ref q_23]) (rest := []) ⟨hx, hb, hml, hown, hts⟩ (c_PL_addAR l dC dI cO Lm_40 Pm_39 lp q_23 sx_ed hX_x hX_k (by omega) hX_c hX_y H.size sx_mi) (cwV 1 hts g_P13_phiG_PL_addAR rfl rfl rfl (by decide +kernel) ⟨(Nat.le_of_ble_eq_true rfl), (Nat.le_of_ble_eq_true rfl)⟩) ⟨fun a U g mk q => by obtain ⟨q0, q1, qP, qK, qD, e0, e1, e2, e3, e4, e5, e6, e7⟩ := q; exact ⟨q0, q1, qP, va_K.moved (u := U) (U := U.calling g mk a) (Vm.Alike.refl U.vm) qK, qD, va_Nw.same rfl (u := U) (U := U.calling g mk a) rfl e0, va_Nw.same rfl (u := U) (U := U.calling g mk a) rfl e1, va_Nw.same rfl (u := U) (U := U.calling g mk a) rfl e2, va_Dc.moved (u := U) (U := U.calling g mk a) (Vm.Alike.refl U.vm) e3, va_Mi.moved (u := U) (U := U.calling g mk a) (Vm.Alike.refl U.vm) e4, va_AO.moved (u := U) (U := U.calling g mk a) (Vm.Alike.refl U.vm) e5, va_T.moved (u := U) (U := U.calling g mk a) (Vm.Alike.refl U.vm) e6, va_Z.moved (u := U) (U := U.calling g mk a) (Vm.Alike.refl U.vm) e7⟩, recv_30 hKc hPc hq_46.1 hq_46.2, fun U hU hW => ⟨rfl, by rw [hU], by rw [hU]; exact hPc, va_K.moved hW.alike hKc, hDc.weaken (fun _ _ _ _ => trivial), va_Nw.warmC hW hp3, va_Nw.warmC hW hp4, va_Nw.warmC hW hp5, va_Dc.moved hW.alike hp6, va_Mi.moved hW.alike hp7, va_AO.moved hW.alike hp8, by rw [hU]; exact va_T.narrow (va_T.moved hW.alike (va_T.kept hp9 hS.2.1)) hFc, by rw [hU]; exact va_Z.narrow (va_Z.moved hW.alike (va_Z.kept hp10 hS.2.1)) hFc⟩⟩ rfl rfl hl.1 rfl (lv_room (Nat.le_of_ble_eq_true rfl)) dX13_phi_25 ⟨(Nat.le_trans (show 4 + (Pm_39.gc lp) ≤ 5 by omega) (Nat.le_of_ble_eq_true rfl)), (Nat.le_trans (show 18 + (Pm_39.gs lp) ≤ 100018 by omega) (Nat.le_of_ble_eq_true rfl))⟩) hS (fun q _ h => hFc q h) hFc (fun r_57 z_58 t H1 locs ht hvm hw hB hz1 hk1 hS => ?_)
    obtain ⟨Ln_59, Pn_60, hxt_60, hP1, hK1, hD1⟩ := hB
    rw [ht] at hP1
    have hK1 := va_K.moved hvm.symm hK1
    obtain ⟨hP, hD⟩ := va_joinP (X := [(hc, .inr (12, [v13_0, v13_1, .ref lp, v13_3, .int (zI (z13_phiN)), .ref la, v13_6]))]) (cx := []) (wr := [(hc, .inr (12, [v13_0, v13_1, .ref lp, v13_3, .int (zI (z13_phiN)), .ref la, v13_6]))]) (rx := []) (pl := va_pl Lm_40 (pE Pm_39)) (pl1 := va_pl Ln_59 (pE Pn_60)) hP hD [] [0] rfl rfl (by decide) (by decide) hk1 hFc hP1 hD1
    have hK := (hK.sub (tys' := [(cI, .int), (cZ, .boolean)]) [1, 2] rfl).app hK1
    generalize H1 = H at hP hS ⊢
    have hP : va_P (dC, dI) vwQ ([(hc, .inr (12, [v13_0, v13_1, .ref lp, v13_3, .int (zI (z13_phiN)), .ref la, v13_6]))] ++ va_pl Ln_59 (pE Pn_60)) H := hP
    have hD : va_D A ([(hc, .inr (12, [v13_0, v13_1, .ref lp, v13_3, .int (zI (z13_phiN)), .ref la, v13_6]))] ++ va_pl Ln_59 (pE Pn_60)) := hD
    have hK : va_K (dC, dI) vwQ [(cI, .int), (cZ, .boolean), (cO, .object "java/lang/Object")] s := hK
    refine W.widen (k := (4 + (Pm_39.gc lp))) (n := (18 + (Pm_39.gs lp))) (by omega) (by omega) ?_
    obtain ⟨rfl, hzz_58⟩ := hw
    have hu_61 := hxt_60
    have hfx := hu_61.2.2.2.2.2.2.2
    have han := hu_61.2.2.2.1
    have hke_62 : KEG [lp] Lm_40 Pm_39 Ln_59 Pn_60 := hu_61.1.keg hak_43 hq_46.1 hq_46.2 hfx (Or.inr (by simp))
    have hak_63 : GLF Ln_59 Pn_60 cO cI cZ sx_ed := hak_43.add hu_61.1 hq_46.1 hq_46.2 hfx hek_50 hm_53 hk_54 hu_61.2.1 (by omega) hu_61.2.2.1 hu_61.2.2.2.1.1 (by have q9 := hak_43.adc40 hlk_56; omega) hu_61.2.2.2.2.1 hu_61.2.2.2.2.2.1 hu_61.2.2.2.2.2.2.1 (fun q9 => absurd q9 (by decide))
    have hgr9 := (gro_cap (P := Pm_39) (P' := Pn_60) (x := lp) (hak_43.adcl hlk_56) hu_61.1.1.2.2.2.2.2.2.2.2 hu_61.2.2.2.1.1 hu_61.2.2.2.1.2.2.1 hu_61.2.2.2.1.2.2.2 hu_61.2.2.2.1.2.1).1
    clear han
    have hq_64 : la ∈ Ln_59 ∧ Pn_60.kd la = 30 := hke_62.mem hq_45.1 hq_45.2 (by decide)
    have hq_65 : lp ∈ Ln_59 ∧ Pn_60.kd lp = 30 := hke_62.mem hq_46.1 hq_46.2 (by decide)
    have hq_66 : q_23 ∈ Ln_59 ∧ Pn_60.kd q_23 = 15 := hke_62.mem hm_53 hk_54 (by decide)
    have hA_67 : KEG [lp] L P Ln_59 Pn_60 := hA_47.trans hke_62
    have hza := hu_61.2.1
    have hek_68 : Pn_60.ek la = 12 := (by rw [hke_62.ek hq_45.1 hq_45.2 (by decide)]; exact hek_48)
    have how_69 : Pn_60.ow la = la := ((hke_62.1 la hq_45.1 (by rw [hq_45.2]; decide)).2.2.2.1 hq_45.2 how_49).1
    have hcz := (((hke_62.1 la hq_45.1 (by rw [hq_45.2]; decide)).2.2.2.1 hq_45.2 how_49).2 (fun q9 => by have h9 := hek_48; rw [List.mem_singleton.mp q9] at h9; omega)).1
    have hek_70 : Pn_60.ek lp = 15 := (by rw [hke_62.ek hq_46.1 hq_46.2 (by decide)]; exact hek_50)
    have how_71 : Pn_60.ow lp = lp := ((hke_62.1 lp hq_46.1 (by rw [hq_46.2]; decide)).2.2.2.1 hq_46.2 how_51).1
    clear hfx
    refine lv_pop hx hb dX13_phi_28 rfl ?_
    refine lv_aload_n hx hb dX13_phi_29 rfl (lv_at hl 0 rfl) ?_
    refine va_get (D := (dC, dI)) (ci := 12) (v := .ref lp) (C := RX13) (T := TX13) (N := 7) hx hb hts mem_P13_phiG_0 hown hK hP 0 rfl rfl 2 (by decide) (ow (k := 1) rfl) (fun _ h9 => h9) rfl dX13_phi_30 ?_
    refine lv_aload_n hx hb dX13_phi_33 rfl (lv_at hl 0 rfl) ?_
    refine va_get (D := (dC, dI)) (ci := 12) (v := .int (zI (z13_phiN))) (C := RX13) (T := TX13) (N := 7) hx hb hts mem_P13_phiG_0 hown hK hP 0 rfl rfl 4 (by decide) (ow (k := 0) rfl) (fun _ h9 => h9) rfl dX13_phi_34 ?_
    have hlk_72 := (show LOK Ln_59 Pn_60 cO 15 lp from (by have q9 := (hak_63.gla lp hq_65.1 hq_65.2).1; rw [hek_70] at q9; exact q9))
    obtain ⟨x, ex⟩ : ∃ q9 : Nat, q9 = Pn_60.el lp (z13_phiN) := ⟨_, rfl⟩
    have hX_x := hlk_72.1
    have hX_k := hlk_72.2.1
    have hq9 := hlk_72.row (i := z13_phiN) (by omega) (by omega)
    have hX_q : Pn_60.le lp ∈ Ln_59 ∧ Pn_60.kd (Pn_60.le lp) = 31 ∧ Pn_60.ac (Pn_60.le lp) = cO := ⟨hq9.1, hq9.2.1, hq9.2.2.1⟩
    have hq8 := hq9.2.2.2
    have hX_e0 : Pn_60.oa (Pn_60.le lp) (z13_phiN).toNat = some x := (by rw [ex]; exact (hlk_72.2.2.2.2 (z13_phiN) (by omega) (by omega)).1)
    have hxm : x ∈ Ln_59 := (by rw [ex]; exact (hlk_72.2.2.2.2 (z13_phiN) (by omega) (by omega)).2.1)
    have hxk := (hlk_72.2.2.2.2 (z13_phiN) (by omega) (by omega)).2.2
    rw [← ex] at hxk
    have hPc := hP.part (X := [(hc, .inr (12, [v13_0, v13_1, .ref lp, v13_3, .int (zI (z13_phiN)), .ref la, v13_6]))]) (cx := []) (pl := va_pl Ln_59 (pE Pn_60)) [] rfl
    have hDc := hD.part (X := [(hc, .inr (12, [v13_0, v13_1, .ref lp, v13_3, .int (zI (z13_phiN)), .ref la, v13_6]))]) (cx := []) (pl := va_pl Ln_59 (pE Pn_60)) [] (by decide) rfl
    have hKc := hK.sub (tys' := [(cO, .object "java/lang/Object")]) [2] rfl
    have hFc := va_freeP (X := [(hc, .inr (12, [v13_0, v13_1, .ref lp, v13_3, .int (zI (z13_phiN)), .ref la, v13_6]))]) (cx := []) (pl := va_pl Ln_59 (pE Pn_60)) hD hS hA [] rfl
    refine va_callr (va_runV (As := [.int (zI (z13_phiN))]) (rest := []) ⟨hx, hb, hml, hown, hts⟩ (c_PL_get l dC dI cO Ln_59 Pn_60 lp z13_phiN x hX_x hX_k hX_q (by omega) hX_e0 H.size) (cwV 1 hts g_P13_phiG_PL_get rfl rfl rfl (by decide +kernel) ⟨(Nat.le_of_ble_eq_true rfl), (Nat.le_of_ble_eq_true rfl)⟩) ⟨fun a U g mk q => by obtain ⟨q0, q1, qP, qK, qD⟩ := q; exact ⟨q0, q1, qP, va_K.moved (u := U) (U := U.calling g mk a) (Vm.Alike.refl U.vm) qK, qD⟩, recv_30 hKc hPc hq_65.1 hq_65.2, fun U hU hW => ⟨rfl, by rw [hU], by rw [hU]; exact hPc, va_K.moved hW.alike hKc, hDc.weaken (fun _ _ _ _ => trivial)⟩⟩ rfl rfl hl.1 rfl (lv_room (Nat.le_of_ble_eq_true rfl)) dX13_phi_37 ⟨(Nat.le_trans (show (4 + (Pm_39.gc lp)) + 0 ≤ 5 by omega) (Nat.le_of_ble_eq_true rfl)), (Nat.le_trans (show (18 + (Pm_39.gs lp)) + 0 ≤ 100018 by omega) (Nat.le_of_ble_eq_true rfl))⟩) hS (fun q _ h => hFc q h) hFc (fun u q_73 t H1 locs ht hvm hw hB hz1 hk1 hS => ?_)
    obtain ⟨hxt_73, hP1, hK1, hD1⟩ := hB
    rw [ht] at hP1
    have hK1 := va_K.moved hvm.symm hK1
    obtain ⟨hP, hD⟩ := va_joinP (X := [(hc, .inr (12, [v13_0, v13_1, .ref lp, v13_3, .int (zI (z13_phiN)), .ref la, v13_6]))]) (cx := []) (wr := [(hc, .inr (12, [v13_0, v13_1, .ref lp, v13_3, .int (zI (z13_phiN)), .ref la, v13_6]))]) (rx := []) (pl := va_pl Ln_59 (pE Pn_60)) (pl1 := va_pl Ln_59 (pE Pn_60)) hP hD [] [0] rfl rfl (by decide) (by decide) hk1 hFc hP1 hD1
    have hK := (hK.sub (tys' := [(cI, .int), (cZ, .boolean)]) [0, 1] rfl).app hK1
    generalize H1 = H at hP hS ⊢
    have hP : va_P (dC, dI) vwQ ([(hc, .inr (12, [v13_0, v13_1, .ref lp, v13_3, .int (zI (z13_phiN)), .ref la, v13_6]))] ++ va_pl Ln_59 (pE Pn_60)) H := hP
    have hD : va_D A ([(hc, .inr (12, [v13_0, v13_1, .ref lp, v13_3, .int (zI (z13_phiN)), .ref la, v13_6]))] ++ va_pl Ln_59 (pE Pn_60)) := hD
    have hK : va_K (dC, dI) vwQ [(cI, .int), (cZ, .boolean), (cO, .object "java/lang/Object")] s := hK
    refine W.widen (k := (4 + (Pm_39.gc lp))) (n := (18 + (Pm_39.gs lp))) (by omega) (by omega) ?_
    rw [hxt_73]
    clear hX_e0
    obtain ⟨xp_74, h9⟩ : ∃ q9 : Nat, q9 = x := ⟨_, rfl⟩
    subst h9
    have hm_75 := hxm
    have hk_76 := hxk
    have hel9 := ex
    refine va_castY (C := "SsaForgeModel$Phi") (nm := "SsaForgeModel$Phi") hx hb hown (ow (k := 9) rfl) hp0 (recv_15 hK hP hm_75 hk_76) dX13_phi_40 ?_
    refine lv_astore_n (lv' := [(2, .ref xp_74), (0, .ref hc), (1, .int (zI (t0)))]) hx hb dX13_phi_43 rfl hl (by decide) rfl (fun ls hl => ?_)
    refine lv_aload_n hx hb dX13_phi_44 rfl (lv_at hl 1 rfl) ?_
    refine lv_dup hx hb dX13_phi_45 rfl ?_
    refine va_get (D := (dC, dI)) (ci := 12) (v := .int (zI (z13_phiN))) (C := RX13) (T := TX13) (N := 7) hx hb hts mem_P13_phiG_0 hown hK hP 0 rfl rfl 4 (by decide) (ow (k := 0) rfl) (fun _ h9 => h9) rfl dX13_phi_46 ?_
    refine lv_iconst (v := 1) hx hb dX13_phi_49 (by decide) ?_
    refine lv_iadd hx hb dX13_phi_50 ?_
    refine lv_topi (fun z ez => ?_)
    obtain rfl : z = zI (z13_phiN + 1) := ez.trans (zI_add (z13_phiN) (1))
    refine va_put (D := (dC, dI)) (ci := 12) (v := .int (zI (z13_phiN + 1))) (ty := .int) (C := RX13) (T := TX13) (N := 7) hx hb hts mem_P13_phiG_0 tyX13 tyX13_ok nmX13 hown hK hP hD hS 0 rfl rfl 4 (by decide) (ow (k := 0) rfl) (fun _ h9 => h9) rfl (by decide +kernel) rfl rfl (by first | exact Nat.le_of_ble_eq_true rfl | exact Nat.le_trans (show (4 + (Pm_39.gc lp)) ≤ 5 from (by omega)) (Nat.le_of_ble_eq_true rfl) | exact Nat.le_trans (show (18 + (Pm_39.gs lp)) ≤ 100018 from (by omega)) (Nat.le_of_ble_eq_true rfl)) dX13_phi_51 (fun H locs hP hD hS => ?_)
    have hP : va_P (dC, dI) vwQ ([(hc, .inr (12, [v13_0, v13_1, .ref lp, v13_3, .int (zI (z13_phiN + 1)), .ref la, v13_6]))] ++ va_pl Ln_59 (pE Pn_60)) H := hP
    have hD : va_D A ([(hc, .inr (12, [v13_0, v13_1, .ref lp, v13_3, .int (zI (z13_phiN + 1)), .ref la, v13_6]))] ++ va_pl Ln_59 (pE Pn_60)) := hD
    obtain ⟨z_78, ez_78⟩ : ∃ z9 : Int, z9 = z13_phiN + 1 := ⟨_, rfl⟩
    rw [← ez_78] at hP hD
    have hP : va_P (dC, dI) vwQ ([(hc, .inr (12, [v13_0, v13_1, .ref lp, v13_3, .int (zI (z_78)), .ref la, v13_6]))] ++ va_pl Ln_59 (pE Pn_60)) H := hP
    have hD : va_D A ([(hc, .inr (12, [v13_0, v13_1, .ref lp, v13_3, .int (zI (z_78)), .ref la, v13_6]))] ++ va_pl Ln_59 (pE Pn_60)) := hD
    refine lv_aload_n hx hb dX13_phi_54 rfl (lv_at hl 0 rfl) ?_
    refine lv_iload_n hx hb dX13_phi_55 rfl (lv_at hl 2 rfl) ?_
    have hX_p := hak_63.pik hm_75 hk_76
    have hp9 := hak_63.pik hm_75 hk_76
    have hpn := hp9.2.2.2.2.1
    have hpt := hp9.2.2.2.2.2.1
    clear hp9
    have hPc := hP.part (X := [(hc, .inr (12, [v13_0, v13_1, .ref lp, v13_3, .int (zI (z_78)), .ref la, v13_6]))]) (cx := []) (pl := va_pl Ln_59 (pE Pn_60)) [] rfl
    have hDc := hD.part (X := [(hc, .inr (12, [v13_0, v13_1, .ref lp, v13_3, .int (zI (z_78)), .ref la, v13_6]))]) (cx := []) (pl := va_pl Ln_59 (pE Pn_60)) [] (by decide) rfl
    have hKc := hK.sub (tys' := [(cO, .object "java/lang/Object"), (cI, .int), (cZ, .boolean)]) [2, 0, 1] rfl
    have hFc := va_freeP (X := [(hc, .inr (12, [v13_0, v13_1, .ref lp, v13_3, .int (zI (z_78)), .ref la, v13_6]))]) (cx := []) (pl := va_pl Ln_59 (pE Pn_60)) hD hS hA [] rfl
    refine va_callv (va_runV (As := [.int (zI (t0))]) (rest := []) ⟨hx, hb, hml, hown, hts⟩ (c_PP_begin l dC dI cO cI cZ Ln_59 Pn_60 xp_74 t0 hX_p (by omega) H.size) (cwV 1 hts g_P13_phiG_PP_begin rfl rfl rfl (by decide +kernel) ⟨(Nat.le_of_ble_eq_true rfl), (Nat.le_of_ble_eq_true rfl)⟩) ⟨fun a U g mk q => by obtain ⟨q0, q1, qP, qK, qD⟩ := q; exact ⟨q0, q1, qP, va_K.moved (u := U) (U := U.calling g mk a) (Vm.Alike.refl U.vm) qK, qD⟩, recv_15 hKc hPc hm_75 hk_76, fun U hU hW => ⟨rfl, by rw [hU], by rw [hU]; exact hPc, va_K.moved hW.alike hKc, hDc.weaken (fun _ _ _ _ => trivial)⟩⟩ rfl rfl hl.1 rfl (lv_room (Nat.le_of_ble_eq_true rfl)) dX13_phi_56 ⟨(Nat.le_trans (show (4 + (Pm_39.gc lp)) + 0 ≤ 5 by omega) (Nat.le_of_ble_eq_true rfl)), (Nat.le_trans (show (18 + (Pm_39.gs lp)) + 0 ≤ 100018 by omega) (Nat.le_of_ble_eq_true rfl))⟩) hS (fun q _ h => hFc q h) hFc (fun  u t H1 locs ht hvm hw hB hz1 hk1 hS => ?_)
    obtain ⟨Pn_79, hxt_79, hP1, hK1, hD1⟩ := hB
    rw [ht] at hP1
    have hK1 := va_K.moved hvm.symm hK1
    obtain ⟨hP, hD⟩ := va_joinP (X := [(hc, .inr (12, [v13_0, v13_1, .ref lp, v13_3, .int (zI (z_78)), .ref la, v13_6]))]) (cx := []) (wr := [(hc, .inr (12, [v13_0, v13_1, .ref lp, v13_3, .int (zI (z_78)), .ref la, v13_6]))]) (rx := []) (pl := va_pl Ln_59 (pE Pn_60)) (pl1 := va_pl Ln_59 (pE Pn_79)) hP hD [] [0] rfl rfl (by decide) (by decide) hk1 hFc hP1 hD1
    have hK := (hK.sub (tys' := []) [] rfl).app hK1
    generalize H1 = H at hP hS ⊢
    have hP : va_P (dC, dI) vwQ ([(hc, .inr (12, [v13_0, v13_1, .ref lp, v13_3, .int (zI (z_78)), .ref la, v13_6]))] ++ va_pl Ln_59 (pE Pn_79)) H := hP
    have hD : va_D A ([(hc, .inr (12, [v13_0, v13_1, .ref lp, v13_3, .int (zI (z_78)), .ref la, v13_6]))] ++ va_pl Ln_59 (pE Pn_79)) := hD
    have hK : va_K (dC, dI) vwQ [(cO, .object "java/lang/Object"), (cI, .int), (cZ, .boolean)] s := hK
    refine W.widen (k := (4 + (Pm_39.gc lp))) (n := (18 + (Pm_39.gs lp))) (by omega) (by omega) ?_
    have hu_80 := hxt_79
    have hrw_81 : RWD Pn_60 Pn_79 := hu_80.1.rwd hk_76
    have hke_82 : KEG [lp] Ln_59 Pn_60 Ln_59 Pn_79 := hrw_81.keg _ hq_64.2
    have hak_83 : GLF Ln_59 Pn_79 cO cI cZ sx_ed := hak_63.phi hu_80.1 hk_76 hu_80.2.1
    have hq_84 : la ∈ Ln_59 ∧ Pn_79.kd la = 30 := hke_82.mem hq_64.1 hq_64.2 (by decide)
    have hq_85 : lp ∈ Ln_59 ∧ Pn_79.kd lp = 30 := hke_82.mem hq_65.1 hq_65.2 (by decide)
    have hq_86 : q_23 ∈ Ln_59 ∧ Pn_79.kd q_23 = 15 := hke_82.mem hq_66.1 hq_66.2 (by decide)
    have hq_87 : xp_74 ∈ Ln_59 ∧ Pn_79.kd xp_74 = 15 := hke_82.mem hm_75 hk_76 (by decide)
    have hA_88 : KEG [lp] L P Ln_59 Pn_79 := hA_67.trans hke_82
    have : Pn_79.lz la = Pn_60.lz la := hrw_81.lz hq_64.2
    have : Pn_79.lz lp = Pn_60.lz lp := hrw_81.lz hq_65.2
    have hpn9 := hu_80.2.2.1
    have : Pn_79.cap la = Pn_60.cap la := hrw_81.cap la
    have : Pn_79.cap lp = Pn_60.cap lp := hrw_81.cap lp
    have hek_89 : Pn_79.ek la = 12 := (by rw [hke_82.ek hq_64.1 hq_64.2 (by decide)]; exact hek_68)
    have how_90 : Pn_79.ow la = la := ((hke_82.1 la hq_64.1 (by rw [hq_64.2]; decide)).2.2.2.1 hq_64.2 how_69).1
    have hcz := (((hke_82.1 la hq_64.1 (by rw [hq_64.2]; decide)).2.2.2.1 hq_64.2 how_69).2 (fun q9 => by have h9 := hek_68; rw [List.mem_singleton.mp q9] at h9; omega)).1
    have hek_91 : Pn_79.ek lp = 15 := (by rw [hke_82.ek hq_65.1 hq_65.2 (by decide)]; exact hek_70)
    have how_92 : Pn_79.ow lp = lp := ((hke_82.1 lp hq_65.1 (by rw [hq_65.2]; decide)).2.2.2.1 hq_65.2 how_71).1
    refine lv_aload_n hx hb dX13_phi_59 rfl (lv_at hl 0 rfl) ?_
    subst hQ
    refine W_knowS (fun hrm9 => ?_)
    refine W.widen (k := 5) (n := 100018) (by omega) (by omega) ?_
    exact W.aret (v := .ref xp_74) hx hb hr (Or.inl ⟨_, rfl⟩) (Or.inr ⟨_, rfl⟩) (fun t ht hW => ⟨⟨(), xp_74, rfl, trivial, z_78, Ln_59, Pn_79, (4 + (Pm_39.gc lp)), (18 + (Pm_39.gs lp)), ⟨⟨(by rw [ht, ← hp1]; exact hrm9), (by omega)⟩, ⟨(by omega), ⟨hA_88, hak_83, ⟨⟨hq_87.1, hq_87.2, (by rw [hrw_81.el]; exact hel9)⟩, ⟨by omega, by omega⟩, ⟨hu_80.2.2.1, hu_80.2.2.2.1, hu_80.2.2.2.2.1⟩, (fun i i0 i1 => by rw [hrw_81.el, hu_61.1.elx hu_61.2.2.2.2.2.2.1 i0 (by omega)]; exact hex_52.el hX_g.owa hX_lp.1 hX_lp.2.1 i0 i1), (chg_phi1 hex_52 hu_61.1 hu_80.1 hX_lp.1)⟩, by omega⟩⟩⟩, by rw [ht]; exact hP, va_K.moved hW.alike hK, hD⟩, hS.F ht⟩) hS.2.2 dX13_phi_60
