def o_P13_blockQ : List Cond := [.fieldLink RX13 35 "SsaForgeModel$Code" "made" "I", .fieldLink RX13 10 "SsaForgeModel$Code" "blocks" "Ljava/util/ArrayList;", .methodLink RX13 38 yJx4a65c_size_8abf5, .instanceMethod yJx4a65c_size_8abf5, .selects RJx4a65c yJx4a65c_size_8abf5 yJx4a65c_size_8abf5, .initialized RJx4a65c, .methodLink RX13 49 yJx4a65c_get_915e3, .instanceMethod yJx4a65c_get_915e3, .selects RJx4a65c yJx4a65c_get_915e3 yJx4a65c_get_915e3, .classLink RX13 42 "SsaForgeModel$Block", .fieldLink RX13 53 "SsaForgeModel$Block" "phis" "Ljava/util/ArrayList;", .methodLink RX13 32 yJx4a65c_clear_da8c8, .instanceMethod yJx4a65c_clear_da8c8, .selects RJx4a65c yJx4a65c_clear_da8c8 yJx4a65c_clear_da8c8, .fieldLink RX13 54 "SsaForgeModel$Block" "rows" "Ljava/util/ArrayList;", .fieldLink RX13 22 "SsaForgeModel$Code" "all" "Ljava/util/ArrayList;", .methodLink RX13 45 yJx4a65c_add_9ea2d, .instanceMethod yJx4a65c_add_9ea2d, .selects RJx4a65c yJx4a65c_add_9ea2d yJx4a65c_add_9ea2d, .classLink RX13 42 RX12, .instantiable RX12 5, .initialized RX12, .instanceMethod yX12_init]
def v_P13_blockQ : List Cond := .code yX13_block cX13_block 2 (some (.object "SsaForgeModel$Block")) :: (o_P13_blockQ ++ (wsX130 ++ (v_PL_size ++ (v_PL_get ++ (wsX120 ++ (v_PL_clearA ++ (v_PL_addAX ++ (v_X12_initQ ++ []))))))))
theorem mow_P13_blockQ : ∀ w ∈ o_P13_blockQ, w ∈ v_P13_blockQ := fun _ h => List.mem_cons_of_mem _ (List.mem_append_left _ h)
theorem mem_P13_blockQ_0 : ∀ w ∈ wsX130, w ∈ v_P13_blockQ := fun _ h => List.mem_cons_of_mem _ (List.mem_append_right _ (List.mem_append_left _ h))
theorem mem_P13_blockQ_1 : ∀ w ∈ v_PL_size, w ∈ v_P13_blockQ := fun _ h => List.mem_cons_of_mem _ (List.mem_append_right _ (List.mem_append_right _ (List.mem_append_left _ h)))
theorem mem_P13_blockQ_2 : ∀ w ∈ v_PL_get, w ∈ v_P13_blockQ := fun _ h => List.mem_cons_of_mem _ (List.mem_append_right _ (List.mem_append_right _ (List.mem_append_right _ (List.mem_append_left _ h))))
theorem mem_P13_blockQ_3 : ∀ w ∈ wsX120, w ∈ v_P13_blockQ := fun _ h => List.mem_cons_of_mem _ (List.mem_append_right _ (List.mem_append_right _ (List.mem_append_right _ (List.mem_append_right _ (List.mem_append_left _ h)))))
theorem mem_P13_blockQ_4 : ∀ w ∈ v_PL_clearA, w ∈ v_P13_blockQ := fun _ h => List.mem_cons_of_mem _ (List.mem_append_right _ (List.mem_append_right _ (List.mem_append_right _ (List.mem_append_right _ (List.mem_append_right _ (List.mem_append_left _ h))))))
theorem mem_P13_blockQ_5 : ∀ w ∈ v_PL_addAX, w ∈ v_P13_blockQ := fun _ h => List.mem_cons_of_mem _ (List.mem_append_right _ (List.mem_append_right _ (List.mem_append_right _ (List.mem_append_right _ (List.mem_append_right _ (List.mem_append_right _ (List.mem_append_left _ h)))))))
theorem mem_P13_blockQ_6 : ∀ w ∈ v_X12_initQ, w ∈ v_P13_blockQ := fun _ h => List.mem_cons_of_mem _ (List.mem_append_right _ (List.mem_append_right _ (List.mem_append_right _ (List.mem_append_right _ (List.mem_append_right _ (List.mem_append_right _ (List.mem_append_right _ (List.mem_append_left _ h))))))))
set_option maxRecDepth 20000 in
theorem gw_P13_blockQ : v_P13_blockQ.all goodWord = true := by decide +kernel
set_option maxRecDepth 20000 in
theorem g_P13_blockQ_PL_size : GoodIn v_P13_blockQ (wsV RX13 38 RJx4a65c yJx4a65c_size_8abf5 v_PL_size) := goodIn_app (goodIn_sub (fun w h => mow_P13_blockQ w (by revert w h; decide +kernel)) (by decide +kernel)) (goodIn_sub mem_P13_blockQ_1 gw_PL_size)
set_option maxRecDepth 20000 in
theorem g_P13_blockQ_PL_get : GoodIn v_P13_blockQ (wsV RX13 49 RJx4a65c yJx4a65c_get_915e3 v_PL_get) := goodIn_app (goodIn_sub (fun w h => mow_P13_blockQ w (by revert w h; decide +kernel)) (by decide +kernel)) (goodIn_sub mem_P13_blockQ_2 gw_PL_get)
set_option maxRecDepth 20000 in
theorem g_P13_blockQ_PL_clearA : GoodIn v_P13_blockQ (wsV RX13 32 RJx4a65c yJx4a65c_clear_da8c8 v_PL_clearA) := goodIn_app (goodIn_sub (fun w h => mow_P13_blockQ w (by revert w h; decide +kernel)) (by decide +kernel)) (goodIn_sub mem_P13_blockQ_4 gw_PL_clearA)
set_option maxRecDepth 20000 in
theorem g_P13_blockQ_PL_addAX : GoodIn v_P13_blockQ (wsV RX13 45 RJx4a65c yJx4a65c_add_9ea2d v_PL_addAX) := goodIn_app (goodIn_sub (fun w h => mow_P13_blockQ w (by revert w h; decide +kernel)) (by decide +kernel)) (goodIn_sub mem_P13_blockQ_5 gw_PL_addAX)
set_option maxHeartbeats 4000000 in
set_option maxRecDepth 100000 in
theorem c_P13_blockQ (l : Launch) (dC : Nat → ClassId) (dI : Nat → Nat → Nat) (cI : ClassId) (cZ : ClassId) (hc : Nat) (v13_2 : Value) (v13_3 : Value) (v13_4 : Value) (z13_made : Int) (la : Nat) (lb : Nat) (lr : Nat) (cO : ClassId) (L : List Nat) (P : PO) (sx_ed : Nat) (hNz13_made : 0 ≤ z13_made ∧ z13_made ≤ 9000) (hX_g : GLR L P cO cI cZ sx_ed) (hX_la : la ∈ L ∧ P.kd la = 30 ∧ P.ek la = 12 ∧ P.ow la = la) (hX_lb : lb ∈ L ∧ P.kd lb = 30 ∧ P.ek lb = 12 ∧ P.ow lb = lb) (hX_lr : lr ∈ L ∧ P.kd lr = 30 ∧ P.ek lr = 17 ∧ P.ow lr = lr) (hX_ab : la ≠ lb) (hX_ds : DST P lb) (hNr : z13_made ≤ P.lz lb ∧ P.lz lb ≤ 4164 ∧ 0 ≤ z13_made ∧ P.lz la ≤ 4164 ∧ 0 ≤ P.lz la) (hX_V : LVA L P) (sz : Nat) (sx_mi : Nat) (HU : Heap) : Met l yX13_block v_P13_blockQ ({ frames := 7, cells := 6, slots := 12510, locals := 191 }) (va_Pc [.ref hc] (fun U => U.heap.size = sz ∧ va_P (dC, dI) vwQ ([(hc, .inr (12, [.ref lb, .ref lr, v13_2, v13_3, v13_4, .ref la, .int (zI (z13_made))]))] ++ va_pl L (pE P)) U.heap ∧ va_K (dC, dI) vwQ [(cO, .object "java/lang/Object"), (cI, .int), (cZ, .boolean)] U ∧ va_D (fun _ => True) ([(hc, .inr (12, [.ref lb, .ref lr, v13_2, v13_3, v13_4, .ref la, .int (zI (z13_made))]))] ++ va_pl L (pE P)) ∧ va_Nw (.castable "SsaForgeModel$Block" "SsaForgeModel$Block") U ∧ va_Nw (.castable "SsaForgeModel$Row" "java/lang/Object") U ∧ va_Nw (.castable "SsaForgeModel$Phi" "java/lang/Object") U ∧ va_Nw (.castable "SsaForgeModel$Block" "java/lang/Object") U ∧ va_Dc U ∧ va_Mi "[Ljava/lang/Object;" sx_mi U ∧ va_AO "java/lang/Object" U ∧ va_T (.object "java/lang/Object") sx_ed 0 (fun _ => .null) (va_A ([(hc, .inr (12, [.ref lb, .ref lr, v13_2, v13_3, v13_4, .ref la, .int (zI (z13_made))]))] ++ va_pl L (pE P)) sz) U U.heap ∧ va_Z "java/util/ArrayList" "DEFAULTCAPACITY_EMPTY_ELEMENTDATA" "[Ljava/lang/Object;" (.ref sx_ed) (va_A ([(hc, .inr (12, [.ref lb, .ref lr, v13_2, v13_3, v13_4, .ref la, .int (zI (z13_made))]))] ++ va_pl L (pE P)) sz) U U.heap ∧ U.heap = HU ∧ va_Nw (.methodLinkNest RX12 23 yX17_init "SsaForgeModel") U ∧ va_Nw (.methodLinkNest RX13 44 yX12_init "SsaForgeModel") U)) (va_Qr (fun _ : Unit => True) (fun (_ : Unit) (rq : Nat) (t : State) => ∃ (z0_9 : Int) (Ln_9 : List Nat) (Pn_9 : PO) (kc_9 : Nat) (ks_9 : Nat), ((RM HU t.heap kc_9 ks_9 ∧ ((ks_9 : Int) ≤ PSI wSL Ln_9 Pn_9 - PSI wSL L P ∧ 40 * (kc_9 : Int) ≤ PSI wCE Ln_9 Pn_9 - PSI wCE L P)) ∧ ((0 ≤ z0_9 ∧ z0_9 ≤ 9001) ∧ (KEG [la, lb] L P Ln_9 Pn_9 ∧ GLR Ln_9 Pn_9 cO cI cZ sx_ed ∧ CB9 la lb rq (z13_made) L P Ln_9 Pn_9 ∧ DST Pn_9 lb ∧ (z0_9 = z13_made + 1) ∧ Pn_9.lz lr = P.lz lr ∧ LVA Ln_9 Pn_9 ∧ (PSI wSL Ln_9 Pn_9 = PSI wSL L P + 18 * (Pn_9.lz lb - P.lz lb) + (LVS (Pn_9.cap la) - LVS (P.cap la)) + (LVS (Pn_9.cap lb) - LVS (P.cap lb)) ∧ PSI wCE Ln_9 Pn_9 = PSI wCE L P + 160 * (Pn_9.lz lb - P.lz lb) + 4 * (LVS (Pn_9.cap la) - LVS (P.cap la)) + 4 * (LVS (Pn_9.cap lb) - LVS (P.cap lb)) ∧ LVS (Pn_9.cap lr) = LVS (P.cap lr) ∧ PSI wSL Ln_9 Pn_9 - PSI wSL L P ≤ 12510) ∧ LVG (Pn_9.cap la) (P.cap la) (Pn_9.lz la) ∧ NBK rq L P Ln_9 Pn_9 ∧ CPB9 la lb rq L P Pn_9))) ∧ va_P (dC, dI) vwQ ([(hc, .inr (12, [.ref lb, .ref lr, v13_2, v13_3, v13_4, .ref la, .int (zI (z0_9))]))] ++ va_pl Ln_9 (pE Pn_9)) t.heap ∧ va_K (dC, dI) vwQ [(cO, .object "java/lang/Object"), (cI, .int), (cZ, .boolean)] t ∧ va_D (va_A ([(hc, .inr (12, [.ref lb, .ref lr, v13_2, v13_3, v13_4, .ref la, .int (zI (z13_made))]))] ++ va_pl L (pE P)) sz) ([(hc, .inr (12, [.ref lb, .ref lr, v13_2, v13_3, v13_4, .ref la, .int (zI (z0_9))]))] ++ va_pl Ln_9 (pE Pn_9))) (va_A ([(hc, .inr (12, [.ref lb, .ref lr, v13_2, v13_3, v13_4, .ref la, .int (zI (z13_made))]))] ++ va_pl L (pE P)) sz)) 6 12510 (va_A ([(hc, .inr (12, [.ref lb, .ref lr, v13_2, v13_3, v13_4, .ref la, .int (zI (z13_made))]))] ++ va_pl L (pE P)) sz) := by
  refine Met.ofW (cc := cX13_block) (maxL := 2) (ret := (some (.object "SsaForgeModel$Block"))) (by decide) rfl ?_
  intro p e s m args below meth c s₁ B hml hv
  obtain ⟨rfl, hsz, hP, hK, hD0, hp0, hp1, hp2, hp3, hp4, hp5, hp6, hp7, hp8, hp9, hp10, hp11⟩ := hv
  have hx := B.exec
  have hb := B.bytes
  have hr := B.returns
  have hts := atoms_spec (ws := v_P13_blockQ) B.pre
  have hown : s.vm.findClass RX13 = some m.cls := findClass_of_methodNamed B.named
  have hlocks := B.notSynchronized
  have ow : ∀ {k : Nat} {w : Cond}, o_P13_blockQ[k]? = some w → w.before ([.ref hc] : List Value).toArray s = true := fun h => hts _ (mow_P13_blockQ _ (List.mem_of_getElem? h))
  subst hsz
  have hD := hD0.self (sz := s.heap.size)
  generalize hAe : va_A ([(hc, .inr (12, [.ref lb, .ref lr, v13_2, v13_3, v13_4, .ref la, .int (zI (z13_made))]))] ++ va_pl L (pE P)) s.heap.size = A at hD hp6 hp7 hp8 ⊢
  have hA : ∀ q : Nat, s.heap.size ≤ q → A q := fun q h => by rw [← hAe]; exact Or.inr h
  have hS : va_S A s.heap s.heap [] := va_S.rf
  have hP : va_P (dC, dI) vwQ ([(hc, .inr (12, [.ref lb, .ref lr, v13_2, v13_3, v13_4, .ref la, .int (zI (z13_made))]))] ++ va_pl L (pE P)) s.heap := hP
  have hl := lv_entry ([.ref hc]) (n := 2) (Nat.le_of_ble_eq_true rfl)
  rw [lg_entry_eq]
  generalize (lg_sl ([.ref hc]) ++ List.replicate (2 - (lg_sl ([.ref hc])).length) Slot.unset).toArray = ls at hl ⊢
  have hl : lv_has ls 2 [(0, .ref hc)] := hl
  obtain ⟨H, hH⟩ : ∃ H, H = s.heap := ⟨_, rfl⟩
  rw [← hH] at hP
  have hS : va_S A s.heap H [] := by rw [hH]; exact hS
  rw [← hH]
  refine zW_cap (fun Q hQ => ?_)
  have hX_g9 := hX_g
  have hC_la := hX_la
  have hC_lb := hX_lb
  have hC_lr := hX_lr
  refine lv_aload_n hx hb dX13_block_0 rfl (lv_at hl 0 rfl) ?_
  refine va_get (D := (dC, dI)) (ci := 12) (v := .int (zI (z13_made))) (C := RX13) (T := TX13) (N := 7) hx hb hts mem_P13_blockQ_0 hown hK hP 0 rfl rfl 6 (by decide) (ow (k := 0) rfl) (fun _ h9 => h9) rfl dX13_block_1 ?_
  refine lv_aload_n hx hb dX13_block_4 rfl (lv_at hl 0 rfl) ?_
  refine va_get (D := (dC, dI)) (ci := 12) (v := .ref lb) (C := RX13) (T := TX13) (N := 7) hx hb hts mem_P13_blockQ_0 hown hK hP 0 rfl rfl 0 (by decide) (ow (k := 1) rfl) (fun _ h9 => h9) rfl dX13_block_5 ?_
  have hlk_1 := (show LOK L P cO 12 lb from (by have q9 := (hX_g9.gla lb hC_lb.1 hC_lb.2.1).1; rw [hC_lb.2.2.1] at q9; exact q9))
  have hX_x := hlk_1.1
  have hX_k := hlk_1.2.1
  have hlz9 := hlk_1.2.2.1
  have hPc := hP.part (X := [(hc, .inr (12, [.ref lb, .ref lr, v13_2, v13_3, v13_4, .ref la, .int (zI (z13_made))]))]) (cx := []) (pl := va_pl L (pE P)) [] rfl
  have hDc := hD.part (X := [(hc, .inr (12, [.ref lb, .ref lr, v13_2, v13_3, v13_4, .ref la, .int (zI (z13_made))]))]) (cx := []) (pl := va_pl L (pE P)) [] (by decide) rfl
  have hKc := hK.sub (tys' := [(cO, .object "java/lang/Object")]) [0] rfl
  have hFc := va_freeP (X := [(hc, .inr (12, [.ref lb, .ref lr, v13_2, v13_3, v13_4, .ref la, .int (zI (z13_made))]))]) (cx := []) (pl := va_pl L (pE P)) hD hS hA [] rfl
  refine va_calli (va_runV (As := []) (rest := [.int (zI (z13_made))]) ⟨hx, hb, hml, hown, hts⟩ (c_PL_size l dC dI cO L P lb hX_x hX_k (by omega) H.size) (cwV 0 hts g_P13_blockQ_PL_size rfl rfl rfl (by decide +kernel) ⟨(Nat.le_of_ble_eq_true rfl), (Nat.le_of_ble_eq_true rfl)⟩) ⟨fun a U g mk q => by obtain ⟨q0, q1, qP, qK, qD⟩ := q; exact ⟨q0, q1, qP, va_K.moved (u := U) (U := U.calling g mk a) (Vm.Alike.refl U.vm) qK, qD⟩, recv_30 hKc hPc hC_lb.1 hC_lb.2.1, fun U hU hW => ⟨rfl, by rw [hU], by rw [hU]; exact hPc, va_K.moved hW.alike hKc, hDc.weaken (fun _ _ _ _ => trivial)⟩⟩ rfl rfl hl.1 rfl (lv_room (Nat.le_of_ble_eq_true rfl)) dX13_block_8 ⟨(Nat.le_of_ble_eq_true rfl), (Nat.le_of_ble_eq_true rfl)⟩) hS (fun q _ h => hFc q h) hFc (fun r_2 u t H1 locs ht hvm hw hB hz1 hk1 hS => ?_)
  obtain ⟨hP1, hK1, hD1⟩ := hB
  rw [ht] at hP1
  have hK1 := va_K.moved hvm.symm hK1
  obtain ⟨hP, hD⟩ := va_joinP (X := [(hc, .inr (12, [.ref lb, .ref lr, v13_2, v13_3, v13_4, .ref la, .int (zI (z13_made))]))]) (cx := []) (wr := [(hc, .inr (12, [.ref lb, .ref lr, v13_2, v13_3, v13_4, .ref la, .int (zI (z13_made))]))]) (rx := []) (pl := va_pl L (pE P)) (pl1 := va_pl L (pE P)) hP hD [] [0] rfl rfl (by decide) (by decide) hk1 hFc hP1 hD1
  have hK := (hK.sub (tys' := [(cI, .int), (cZ, .boolean)]) [1, 2] rfl).app hK1
  generalize H1 = H at hP hS ⊢
  have hP : va_P (dC, dI) vwQ ([(hc, .inr (12, [.ref lb, .ref lr, v13_2, v13_3, v13_4, .ref la, .int (zI (z13_made))]))] ++ va_pl L (pE P)) H := hP
  have hD : va_D A ([(hc, .inr (12, [.ref lb, .ref lr, v13_2, v13_3, v13_4, .ref la, .int (zI (z13_made))]))] ++ va_pl L (pE P)) := hD
  have hK : va_K (dC, dI) vwQ [(cI, .int), (cZ, .boolean), (cO, .object "java/lang/Object")] s := hK
  refine W.widen (k := 0) (n := 0) (Nat.le_of_ble_eq_true rfl) (Nat.le_of_ble_eq_true rfl) ?_
  obtain rfl : r_2 = (zI (P.lz lb)) := hw
  refine lv_icmp_ne (tgt := 29) hx hb dX13_block_11 (by decide) (fun b11 => ?_) (fun b11 => ?_)
  · have yb11 : ¬ (z13_made : Int) = (P.lz lb : Int) := fun q => b11 ((zI_eq (a := z13_made) (b := P.lz lb) (by omega) (by omega) (by omega) (by omega)).mpr q)
    refine lv_aload_n hx hb dX13_block_29 rfl (lv_at hl 0 rfl) ?_
    refine va_get (D := (dC, dI)) (ci := 12) (v := .ref lb) (C := RX13) (T := TX13) (N := 7) hx hb hts mem_P13_blockQ_0 hown hK hP 0 rfl rfl 0 (by decide) (ow (k := 1) rfl) (fun _ h9 => h9) rfl dX13_block_30 ?_
    refine lv_aload_n hx hb dX13_block_33 rfl (lv_at hl 0 rfl) ?_
    refine va_get (D := (dC, dI)) (ci := 12) (v := .int (zI (z13_made))) (C := RX13) (T := TX13) (N := 7) hx hb hts mem_P13_blockQ_0 hown hK hP 0 rfl rfl 6 (by decide) (ow (k := 0) rfl) (fun _ h9 => h9) rfl dX13_block_34 ?_
    have hlk_3 := (show LOK L P cO 12 lb from (by have q9 := (hX_g9.gla lb hC_lb.1 hC_lb.2.1).1; rw [hC_lb.2.2.1] at q9; exact q9))
    obtain ⟨x, ex⟩ : ∃ q9 : Nat, q9 = P.el lb (z13_made) := ⟨_, rfl⟩
    have hX_x := hlk_3.1
    have hX_k := hlk_3.2.1
    have hq9 := hlk_3.row (i := z13_made) (by omega) (by omega)
    have hX_q : P.le lb ∈ L ∧ P.kd (P.le lb) = 31 ∧ P.ac (P.le lb) = cO := ⟨hq9.1, hq9.2.1, hq9.2.2.1⟩
    have hq8 := hq9.2.2.2
    have hX_e0 : P.oa (P.le lb) (z13_made).toNat = some x := (by rw [ex]; exact (hlk_3.2.2.2.2 (z13_made) (by omega) (by omega)).1)
    have hxm : x ∈ L := (by rw [ex]; exact (hlk_3.2.2.2.2 (z13_made) (by omega) (by omega)).2.1)
    have hxk := (hlk_3.2.2.2.2 (z13_made) (by omega) (by omega)).2.2
    rw [← ex] at hxk
    have hPc := hP.part (X := [(hc, .inr (12, [.ref lb, .ref lr, v13_2, v13_3, v13_4, .ref la, .int (zI (z13_made))]))]) (cx := []) (pl := va_pl L (pE P)) [] rfl
    have hDc := hD.part (X := [(hc, .inr (12, [.ref lb, .ref lr, v13_2, v13_3, v13_4, .ref la, .int (zI (z13_made))]))]) (cx := []) (pl := va_pl L (pE P)) [] (by decide) rfl
    have hKc := hK.sub (tys' := [(cO, .object "java/lang/Object")]) [2] rfl
    have hFc := va_freeP (X := [(hc, .inr (12, [.ref lb, .ref lr, v13_2, v13_3, v13_4, .ref la, .int (zI (z13_made))]))]) (cx := []) (pl := va_pl L (pE P)) hD hS hA [] rfl
    refine va_callr (va_runV (As := [.int (zI (z13_made))]) (rest := []) ⟨hx, hb, hml, hown, hts⟩ (c_PL_get l dC dI cO L P lb z13_made x hX_x hX_k hX_q (by omega) hX_e0 H.size) (cwV 1 hts g_P13_blockQ_PL_get rfl rfl rfl (by decide +kernel) ⟨(Nat.le_of_ble_eq_true rfl), (Nat.le_of_ble_eq_true rfl)⟩) ⟨fun a U g mk q => by obtain ⟨q0, q1, qP, qK, qD⟩ := q; exact ⟨q0, q1, qP, va_K.moved (u := U) (U := U.calling g mk a) (Vm.Alike.refl U.vm) qK, qD⟩, recv_30 hKc hPc hC_lb.1 hC_lb.2.1, fun U hU hW => ⟨rfl, by rw [hU], by rw [hU]; exact hPc, va_K.moved hW.alike hKc, hDc.weaken (fun _ _ _ _ => trivial)⟩⟩ rfl rfl hl.1 rfl (lv_room (Nat.le_of_ble_eq_true rfl)) dX13_block_37 ⟨(Nat.le_of_ble_eq_true rfl), (Nat.le_of_ble_eq_true rfl)⟩) hS (fun q _ h => hFc q h) hFc (fun u q_4 t H1 locs ht hvm hw hB hz1 hk1 hS => ?_)
    obtain ⟨hxt_4, hP1, hK1, hD1⟩ := hB
    rw [ht] at hP1
    have hK1 := va_K.moved hvm.symm hK1
    obtain ⟨hP, hD⟩ := va_joinP (X := [(hc, .inr (12, [.ref lb, .ref lr, v13_2, v13_3, v13_4, .ref la, .int (zI (z13_made))]))]) (cx := []) (wr := [(hc, .inr (12, [.ref lb, .ref lr, v13_2, v13_3, v13_4, .ref la, .int (zI (z13_made))]))]) (rx := []) (pl := va_pl L (pE P)) (pl1 := va_pl L (pE P)) hP hD [] [0] rfl rfl (by decide) (by decide) hk1 hFc hP1 hD1
    have hK := (hK.sub (tys' := [(cI, .int), (cZ, .boolean)]) [0, 1] rfl).app hK1
    generalize H1 = H at hP hS ⊢
    have hP : va_P (dC, dI) vwQ ([(hc, .inr (12, [.ref lb, .ref lr, v13_2, v13_3, v13_4, .ref la, .int (zI (z13_made))]))] ++ va_pl L (pE P)) H := hP
    have hD : va_D A ([(hc, .inr (12, [.ref lb, .ref lr, v13_2, v13_3, v13_4, .ref la, .int (zI (z13_made))]))] ++ va_pl L (pE P)) := hD
    have hK : va_K (dC, dI) vwQ [(cI, .int), (cZ, .boolean), (cO, .object "java/lang/Object")] s := hK
    refine W.widen (k := 0) (n := 0) (Nat.le_of_ble_eq_true rfl) (Nat.le_of_ble_eq_true rfl) ?_
    rw [hxt_4]
    clear hX_e0
    obtain ⟨xb_5, h9⟩ : ∃ q9 : Nat, q9 = x := ⟨_, rfl⟩
    subst h9
    have hm_6 := hxm
    have hk_7 := hxk
    have hel9 := ex
    refine va_castY (C := "SsaForgeModel$Block") (nm := "SsaForgeModel$Block") hx hb hown (ow (k := 9) rfl) hp0 (recv_12 hK hP hm_6 hk_7) dX13_block_40 ?_
    refine lv_astore_n (lv' := [(1, .ref xb_5), (0, .ref hc)]) hx hb dX13_block_43 rfl hl (by decide) rfl (fun ls hl => ?_)
    refine lv_aload_n hx hb dX13_block_44 rfl (lv_at hl 1 rfl) ?_
    refine lv_dup hx hb dX13_block_45 rfl ?_
    refine va_get (D := (dC, dI)) (ci := 12) (v := .int (zI (z13_made))) (C := RX13) (T := TX13) (N := 7) hx hb hts mem_P13_blockQ_0 hown hK hP 0 rfl rfl 6 (by decide) (ow (k := 0) rfl) (fun _ h9 => h9) rfl dX13_block_46 ?_
    refine lv_iconst (v := 1) hx hb dX13_block_49 (by decide) ?_
    refine lv_iadd hx hb dX13_block_50 ?_
    refine lv_topi (fun z ez => ?_)
    obtain rfl : z = zI (z13_made + 1) := ez.trans (zI_add (z13_made) (1))
    refine va_put (D := (dC, dI)) (ci := 12) (v := .int (zI (z13_made + 1))) (ty := .int) (C := RX13) (T := TX13) (N := 7) hx hb hts mem_P13_blockQ_0 tyX13 tyX13_ok nmX13 hown hK hP hD hS 0 rfl rfl 6 (by decide) (ow (k := 0) rfl) (fun _ h9 => h9) rfl (by decide +kernel) rfl rfl (Nat.le_of_ble_eq_true rfl) dX13_block_51 (fun H locs hP hD hS => ?_)
    have hP : va_P (dC, dI) vwQ ([(hc, .inr (12, [.ref lb, .ref lr, v13_2, v13_3, v13_4, .ref la, .int (zI (z13_made + 1))]))] ++ va_pl L (pE P)) H := hP
    have hD : va_D A ([(hc, .inr (12, [.ref lb, .ref lr, v13_2, v13_3, v13_4, .ref la, .int (zI (z13_made + 1))]))] ++ va_pl L (pE P)) := hD
    obtain ⟨z_9, ez_9⟩ : ∃ z9 : Int, z9 = z13_made + 1 := ⟨_, rfl⟩
    rw [← ez_9] at hP hD
    have hP : va_P (dC, dI) vwQ ([(hc, .inr (12, [.ref lb, .ref lr, v13_2, v13_3, v13_4, .ref la, .int (zI (z_9))]))] ++ va_pl L (pE P)) H := hP
    have hD : va_D A ([(hc, .inr (12, [.ref lb, .ref lr, v13_2, v13_3, v13_4, .ref la, .int (zI (z_9))]))] ++ va_pl L (pE P)) := hD
    refine lv_aload_n hx hb dX13_block_54 rfl (lv_at hl 0 rfl) ?_
    have hfb := (hX_g9.gb hm_6 hk_7).2
    obtain ⟨kp_10, hkp_10⟩ := va_pl_get (X := [(hc, .inr (12, [.ref lb, .ref lr, v13_2, v13_3, v13_4, .ref la, .int (zI (z_9))]))]) (f := pE P) hm_6
    rw [pE_block hk_7] at hkp_10
    refine va_get (D := (dC, dI)) (ci := 19) (v := .ref (P.bp xb_5)) (C := RX12) (T := TX12) (N := 5) hx hb hts mem_P13_blockQ_3 hown hK hP kp_10 hkp_10 rfl 0 (by decide) (ow (k := 10) rfl) (fun _ h9 => h9) rfl dX13_block_55 ?_
    obtain ⟨pr_11, epr_11⟩ : ∃ q9 : Nat, q9 = P.bp xb_5 := ⟨_, rfl⟩
    rw [← epr_11]
    have hlk_12 : LOK L P cO 15 pr_11 := (by rw [epr_11]; exact hX_g9.lbp hm_6 hk_7)
    have hlz9 := hlk_12.2.2.1
    have hek_13 : HID (P.ek pr_11 = 15) := (by rw [epr_11]; exact (hX_g9.owc xb_5 hm_6 hk_7).2.1)
    have hlk_14 := (show LOK L P cO 15 pr_11 from (by rw [← epr_11.symm]; exact hX_g9.lbp hm_6 hk_7))
    have hX_x := hlk_14.1
    have hX_k := hlk_14.2.1
    have hlz9 := hlk_14.2.2.1
    have hX_c := hX_g9.adc hlk_14
    have hPc := hP.part (X := [(hc, .inr (12, [.ref lb, .ref lr, v13_2, v13_3, v13_4, .ref la, .int (zI (z_9))]))]) (cx := []) (pl := va_pl L (pE P)) [] rfl
    have hDc := hD.part (X := [(hc, .inr (12, [.ref lb, .ref lr, v13_2, v13_3, v13_4, .ref la, .int (zI (z_9))]))]) (cx := []) (pl := va_pl L (pE P)) [] (by decide) rfl
    have hKc := hK.sub (tys' := [(cO, .object "java/lang/Object")]) [2] rfl
    have hFc := va_freeP (X := [(hc, .inr (12, [.ref lb, .ref lr, v13_2, v13_3, v13_4, .ref la, .int (zI (z_9))]))]) (cx := []) (pl := va_pl L (pE P)) hD hS hA [] rfl
    refine va_callv (va_runV (As := []) (rest := []) ⟨hx, hb, hml, hown, hts⟩ (c_PL_clearA l dC dI cO L P pr_11 sx_ed hX_x hX_k (by omega) hX_c H.size) (cwV 0 hts g_P13_blockQ_PL_clearA rfl rfl rfl (by decide +kernel) ⟨(Nat.le_of_ble_eq_true rfl), (Nat.le_of_ble_eq_true rfl)⟩) ⟨fun a U g mk q => by obtain ⟨q0, q1, qP, qK, qD⟩ := q; exact ⟨q0, q1, qP, va_K.moved (u := U) (U := U.calling g mk a) (Vm.Alike.refl U.vm) qK, qD⟩, recv_30 hKc hPc hlk_12.1 hlk_12.2.1, fun U hU hW => ⟨rfl, by rw [hU], by rw [hU]; exact hPc, va_K.moved hW.alike hKc, hDc.weaken (fun _ _ _ _ => trivial)⟩⟩ rfl rfl hl.1 rfl (lv_room (Nat.le_of_ble_eq_true rfl)) dX13_block_58 ⟨(Nat.le_of_ble_eq_true rfl), (Nat.le_of_ble_eq_true rfl)⟩) hS (fun q _ h => hFc q h) hFc (fun  u t H1 locs ht hvm hw hB hz1 hk1 hS => ?_)
    obtain ⟨Pn_15, hxt_15, hP1, hK1, hD1⟩ := hB
    rw [ht] at hP1
    have hK1 := va_K.moved hvm.symm hK1
    obtain ⟨hP, hD⟩ := va_joinP (X := [(hc, .inr (12, [.ref lb, .ref lr, v13_2, v13_3, v13_4, .ref la, .int (zI (z_9))]))]) (cx := []) (wr := [(hc, .inr (12, [.ref lb, .ref lr, v13_2, v13_3, v13_4, .ref la, .int (zI (z_9))]))]) (rx := []) (pl := va_pl L (pE P)) (pl1 := va_pl L (pE Pn_15)) hP hD [] [0] rfl rfl (by decide) (by decide) hk1 hFc hP1 hD1
    have hK := (hK.sub (tys' := [(cI, .int), (cZ, .boolean)]) [0, 1] rfl).app hK1
    generalize H1 = H at hP hS ⊢
    have hP : va_P (dC, dI) vwQ ([(hc, .inr (12, [.ref lb, .ref lr, v13_2, v13_3, v13_4, .ref la, .int (zI (z_9))]))] ++ va_pl L (pE Pn_15)) H := hP
    have hD : va_D A ([(hc, .inr (12, [.ref lb, .ref lr, v13_2, v13_3, v13_4, .ref la, .int (zI (z_9))]))] ++ va_pl L (pE Pn_15)) := hD
    have hK : va_K (dC, dI) vwQ [(cI, .int), (cZ, .boolean), (cO, .object "java/lang/Object")] s := hK
    refine W.widen (k := 0) (n := 0) (Nat.le_of_ble_eq_true rfl) (Nat.le_of_ble_eq_true rfl) ?_
    have hu_16 := HID.mk (hxt_15)
    replace hxt_15 := HID.mk hxt_15
    have hke_17 : KEG [la, lb] L P L Pn_15 := hu_16.kegR hX_g9 hlk_12.1 hlk_12.2.1 (Or.inl (fun e9 => kd_ne hk_7 hlk_12.2.1 (by decide) (show xb_5 = pr_11 from (by have q9 := (hX_g9.owc xb_5 hm_6 hk_7).2.2.1; rw [epr_11.symm, e9] at q9; exact q9.symm))))
    have hak_18 : GLR L Pn_15 cO cI cZ sx_ed := hu_16.glfR hX_g9 hlk_12.1 hlk_12.2.1
    have hst_19 := hu_16.chgo hX_g9.owa hlk_12.1 hlk_12.2.1
    have hel_20 : ∀ i : Int, 0 ≤ i → i < P.lz la → Pn_15.el la i = P.el la i := (fun i i0 i1 => (hu_16.elO hX_g9.owa hlk_12.1 hlk_12.2.1 hC_la.1 hC_la.2.1 (ek_ne hC_la.2.2.1 hek_13.out (by decide)) i0 (by omega)))
    have hel_21 : ∀ i : Int, 0 ≤ i → i < P.lz lb → Pn_15.el lb i = P.el lb i := (fun i i0 i1 => (hu_16.elO hX_g9.owa hlk_12.1 hlk_12.2.1 hC_lb.1 hC_lb.2.1 (ek_ne hC_lb.2.2.1 hek_13.out (by decide)) i0 (by omega)))
    have hel_22 : ∀ i : Int, 0 ≤ i → i < P.lz lr → Pn_15.el lr i = P.el lr i := (fun i i0 i1 => (hu_16.elO hX_g9.owa hlk_12.1 hlk_12.2.1 hC_lr.1 hC_lr.2.1 (ek_ne hC_lr.2.2.1 hek_13.out (by decide)) i0 (by omega)))
    have hef_23 : Pn_15.el lb (z13_made) = xb_5 := (by have i0 : (0 : Int) ≤ z13_made := (by omega); exact (hu_16.elO hX_g9.owa hlk_12.1 hlk_12.2.1 hC_lb.1 hC_lb.2.1 (ek_ne hC_lb.2.2.1 hek_13.out (by decide)) i0 (by omega)).trans hel9.symm)
    have hq_24 : HID (la ∈ L ∧ Pn_15.kd la = 30) := hke_17.mem hC_la.1 hC_la.2.1 (by decide)
    have hq_25 : HID (lb ∈ L ∧ Pn_15.kd lb = 30) := hke_17.mem hC_lb.1 hC_lb.2.1 (by decide)
    have hq_26 : HID (lr ∈ L ∧ Pn_15.kd lr = 30) := hke_17.mem hC_lr.1 hC_lr.2.1 (by decide)
    have hq_27 : HID (xb_5 ∈ L ∧ Pn_15.kd xb_5 = 12) := hke_17.mem hm_6 hk_7 (by decide)
    have hq_28 : HID (pr_11 ∈ L ∧ Pn_15.kd pr_11 = 30) := hke_17.mem hlk_12.1 hlk_12.2.1 (by decide)
    have ha_29 : HID (Pn_15.bp xb_5 = pr_11) := hke_17.bp hm_6 hk_7 epr_11.symm
    have hA_30 : KEG [la, lb] L P L Pn_15 := (KEG.refl [la, lb] L P).trans hke_17
    have : Pn_15.lz pr_11 = 0 := hu_16.2.1
    have : Pn_15.lz la = P.lz la := hu_16.lz (ek_ne hC_la.2.2.1 hek_13.out (by decide))
    have : Pn_15.lz lb = P.lz lb := hu_16.lz (ek_ne hC_lb.2.2.1 hek_13.out (by decide))
    have : Pn_15.lz lr = P.lz lr := hu_16.lz (ek_ne hC_lr.2.2.1 hek_13.out (by decide))
    have : Pn_15.cap la = P.cap la := hu_16.cap la
    have : LVS (Pn_15.cap la) = LVS (P.cap la) := congrArg LVS (hu_16.cap la)
    have : Pn_15.cap lb = P.cap lb := hu_16.cap lb
    have : LVS (Pn_15.cap lb) = LVS (P.cap lb) := congrArg LVS (hu_16.cap lb)
    have : Pn_15.cap lr = P.cap lr := hu_16.cap lr
    have : LVS (Pn_15.cap lr) = LVS (P.cap lr) := congrArg LVS (hu_16.cap lr)
    have hek_31 : HID (Pn_15.ek la = 12) := (by rw [hke_17.ek hC_la.1 hC_la.2.1 (by decide)]; exact hC_la.2.2.1)
    have how_32 : HID (Pn_15.ow la = la) := ((hke_17.1 la hC_la.1 (by rw [hC_la.2.1]; decide)).2.2.2.1 hC_la.2.1 hC_la.2.2.2).1
    have hek_33 : HID (Pn_15.ek lb = 12) := (by rw [hke_17.ek hC_lb.1 hC_lb.2.1 (by decide)]; exact hC_lb.2.2.1)
    have how_34 : HID (Pn_15.ow lb = lb) := ((hke_17.1 lb hC_lb.1 (by rw [hC_lb.2.1]; decide)).2.2.2.1 hC_lb.2.1 hC_lb.2.2.2).1
    have hek_35 : HID (Pn_15.ek lr = 17) := (by rw [hke_17.ek hC_lr.1 hC_lr.2.1 (by decide)]; exact hC_lr.2.2.1)
    have how_36 : HID (Pn_15.ow lr = lr) := ((hke_17.1 lr hC_lr.1 (by rw [hC_lr.2.1]; decide)).2.2.2.1 hC_lr.2.1 hC_lr.2.2.2).1
    have hcz := (((hke_17.1 lr hC_lr.1 (by rw [hC_lr.2.1]; decide)).2.2.2.1 hC_lr.2.1 hC_lr.2.2.2).2 (fun q9 => by simp at q9; rcases q9 with q9 | q9; exact absurd q9 (ek_ne hC_lr.2.2.1 hC_la.2.2.1 (by decide)); exact absurd q9 (ek_ne hC_lr.2.2.1 hC_lb.2.2.1 (by decide)))).1
    have hek_37 : HID (Pn_15.ek pr_11 = 15) := (by rw [hke_17.ek hlk_12.1 hlk_12.2.1 (by decide)]; exact hek_13.out)
    have hps := PSI.same (w := wSL) (L := L) hu_16.1.1
    have hpc := PSI.same (w := wCE) (L := L) hu_16.1.1
    have hlv_38 : LVA L Pn_15 := LVA.same hX_V hu_16.1.1
    have hnb_39 := NBS.nat (NBS.refl (fun _ => False) L P) hu_16.1.1
    have hcb_40 := CPB.nat (CPB.refl la lb L P) hu_16.1.1
    refine lv_aload_n hx hb dX13_block_61 rfl (lv_at hl 0 rfl) ?_
    have hfb := (hak_18.gb hq_27.1 hq_27.2).2
    obtain ⟨kp_41, hkp_41⟩ := va_pl_get (X := [(hc, .inr (12, [.ref lb, .ref lr, v13_2, v13_3, v13_4, .ref la, .int (zI (z_9))]))]) (f := pE Pn_15) hq_27.1
    rw [pE_block hq_27.2] at hkp_41
    refine va_get (D := (dC, dI)) (ci := 19) (v := .ref (Pn_15.br xb_5)) (C := RX12) (T := TX12) (N := 5) hx hb hts mem_P13_blockQ_3 hown hK hP kp_41 hkp_41 rfl 1 (by decide) (ow (k := 14) rfl) (fun _ h9 => h9) rfl dX13_block_62 ?_
    obtain ⟨pr_42, epr_42⟩ : ∃ q9 : Nat, q9 = Pn_15.br xb_5 := ⟨_, rfl⟩
    rw [← epr_42]
    have hlk_43 : LOK L Pn_15 cO 17 pr_42 := (by rw [epr_42]; exact hak_18.lbr hq_27.1 hq_27.2)
    have hlz9 := hlk_43.2.2.1
    have hek_44 : HID (Pn_15.ek pr_42 = 17) := (by rw [epr_42]; exact (hak_18.owc xb_5 hq_27.1 hq_27.2).1.1)
    have hlk_45 := (show LOK L Pn_15 cO 17 pr_42 from (by rw [← epr_42.symm]; exact hak_18.lbr hq_27.1 hq_27.2))
    have hX_x := hlk_45.1
    have hX_k := hlk_45.2.1
    have hlz9 := hlk_45.2.2.1
    have hX_c := hak_18.adc hlk_45
    have hPc := hP.part (X := [(hc, .inr (12, [.ref lb, .ref lr, v13_2, v13_3, v13_4, .ref la, .int (zI (z_9))]))]) (cx := []) (pl := va_pl L (pE Pn_15)) [] rfl
    have hDc := hD.part (X := [(hc, .inr (12, [.ref lb, .ref lr, v13_2, v13_3, v13_4, .ref la, .int (zI (z_9))]))]) (cx := []) (pl := va_pl L (pE Pn_15)) [] (by decide) rfl
    have hKc := hK.sub (tys' := [(cO, .object "java/lang/Object")]) [2] rfl
    have hFc := va_freeP (X := [(hc, .inr (12, [.ref lb, .ref lr, v13_2, v13_3, v13_4, .ref la, .int (zI (z_9))]))]) (cx := []) (pl := va_pl L (pE Pn_15)) hD hS hA [] rfl
    refine va_callv (va_runV (As := []) (rest := []) ⟨hx, hb, hml, hown, hts⟩ (c_PL_clearA l dC dI cO L Pn_15 pr_42 sx_ed hX_x hX_k (by omega) hX_c H.size) (cwV 0 hts g_P13_blockQ_PL_clearA rfl rfl rfl (by decide +kernel) ⟨(Nat.le_of_ble_eq_true rfl), (Nat.le_of_ble_eq_true rfl)⟩) ⟨fun a U g mk q => by obtain ⟨q0, q1, qP, qK, qD⟩ := q; exact ⟨q0, q1, qP, va_K.moved (u := U) (U := U.calling g mk a) (Vm.Alike.refl U.vm) qK, qD⟩, recv_30 hKc hPc hlk_43.1 hlk_43.2.1, fun U hU hW => ⟨rfl, by rw [hU], by rw [hU]; exact hPc, va_K.moved hW.alike hKc, hDc.weaken (fun _ _ _ _ => trivial)⟩⟩ rfl rfl hl.1 rfl (lv_room (Nat.le_of_ble_eq_true rfl)) dX13_block_65 ⟨(Nat.le_of_ble_eq_true rfl), (Nat.le_of_ble_eq_true rfl)⟩) hS (fun q _ h => hFc q h) hFc (fun  u t H1 locs ht hvm hw hB hz1 hk1 hS => ?_)
    obtain ⟨Pn_46, hxt_46, hP1, hK1, hD1⟩ := hB
    rw [ht] at hP1
    have hK1 := va_K.moved hvm.symm hK1
    obtain ⟨hP, hD⟩ := va_joinP (X := [(hc, .inr (12, [.ref lb, .ref lr, v13_2, v13_3, v13_4, .ref la, .int (zI (z_9))]))]) (cx := []) (wr := [(hc, .inr (12, [.ref lb, .ref lr, v13_2, v13_3, v13_4, .ref la, .int (zI (z_9))]))]) (rx := []) (pl := va_pl L (pE Pn_15)) (pl1 := va_pl L (pE Pn_46)) hP hD [] [0] rfl rfl (by decide) (by decide) hk1 hFc hP1 hD1
    have hK := (hK.sub (tys' := [(cI, .int), (cZ, .boolean)]) [0, 1] rfl).app hK1
    generalize H1 = H at hP hS ⊢
    have hP : va_P (dC, dI) vwQ ([(hc, .inr (12, [.ref lb, .ref lr, v13_2, v13_3, v13_4, .ref la, .int (zI (z_9))]))] ++ va_pl L (pE Pn_46)) H := hP
    have hD : va_D A ([(hc, .inr (12, [.ref lb, .ref lr, v13_2, v13_3, v13_4, .ref la, .int (zI (z_9))]))] ++ va_pl L (pE Pn_46)) := hD
    have hK : va_K (dC, dI) vwQ [(cI, .int), (cZ, .boolean), (cO, .object "java/lang/Object")] s := hK
    refine W.widen (k := 0) (n := 0) (Nat.le_of_ble_eq_true rfl) (Nat.le_of_ble_eq_true rfl) ?_
    have hu_47 := HID.mk (hxt_46)
    replace hxt_46 := HID.mk hxt_46
    have hke_48 : KEG [la, lb] L Pn_15 L Pn_46 := hu_47.kegR hak_18 hlk_43.1 hlk_43.2.1 (Or.inl (fun e9 => kd_ne hq_27.2 hlk_43.2.1 (by decide) (show xb_5 = pr_42 from (by have q9 := (hak_18.owc xb_5 hq_27.1 hq_27.2).1.2.1; rw [epr_42.symm, e9] at q9; exact q9.symm))))
    have hak_49 : GLR L Pn_46 cO cI cZ sx_ed := hu_47.glfR hak_18 hlk_43.1 hlk_43.2.1
    have hst_50 := hu_47.chgo hak_18.owa hlk_43.1 hlk_43.2.1
    have hel_51 : ∀ i : Int, 0 ≤ i → i < P.lz la → Pn_46.el la i = P.el la i := (fun i i0 i1 => (hu_47.elO hak_18.owa hlk_43.1 hlk_43.2.1 hq_24.1 hq_24.2 (ek_ne hek_31.out hek_44.out (by decide)) i0 (by omega)).trans (hel_20 i i0 i1))
    have hel_52 : ∀ i : Int, 0 ≤ i → i < P.lz lb → Pn_46.el lb i = P.el lb i := (fun i i0 i1 => (hu_47.elO hak_18.owa hlk_43.1 hlk_43.2.1 hq_25.1 hq_25.2 (ek_ne hek_33.out hek_44.out (by decide)) i0 (by omega)).trans (hel_21 i i0 i1))
    have hel_53 : ∀ i : Int, 0 ≤ i → i < P.lz lr → Pn_46.el lr i = P.el lr i := (fun i i0 i1 => (hu_47.elO hak_18.owa hlk_43.1 hlk_43.2.1 hq_26.1 hq_26.2 (fun e9 => (show Pn_15.ow pr_42 ≠ pr_42 from (fun e9 => kd_ne hq_27.2 hlk_43.2.1 (by decide) (show xb_5 = pr_42 from (by have q9 := (hak_18.owc xb_5 hq_27.1 hq_27.2).1.2.1; rw [epr_42.symm, e9] at q9; exact q9.symm)))) (by rw [← e9]; exact how_36.out)) i0 (by omega)).trans (hel_22 i i0 i1))
    have hef_54 : Pn_46.el lb (z13_made) = xb_5 := (by have i0 : (0 : Int) ≤ z13_made := (by omega); exact (hu_47.elO hak_18.owa hlk_43.1 hlk_43.2.1 hq_25.1 hq_25.2 (ek_ne hek_33.out hek_44.out (by decide)) i0 (by omega)).trans hef_23)
    have hq_55 : HID (la ∈ L ∧ Pn_46.kd la = 30) := hke_48.mem hq_24.1 hq_24.2 (by decide)
    have hq_56 : HID (lb ∈ L ∧ Pn_46.kd lb = 30) := hke_48.mem hq_25.1 hq_25.2 (by decide)
    have hq_57 : HID (lr ∈ L ∧ Pn_46.kd lr = 30) := hke_48.mem hq_26.1 hq_26.2 (by decide)
    have hq_58 : HID (xb_5 ∈ L ∧ Pn_46.kd xb_5 = 12) := hke_48.mem hq_27.1 hq_27.2 (by decide)
    have hq_59 : HID (pr_11 ∈ L ∧ Pn_46.kd pr_11 = 30) := hke_48.mem hq_28.1 hq_28.2 (by decide)
    have hq_60 : HID (pr_42 ∈ L ∧ Pn_46.kd pr_42 = 30) := hke_48.mem hlk_43.1 hlk_43.2.1 (by decide)
    have ha_61 : HID (Pn_46.bp xb_5 = pr_11) := hke_48.bp hq_27.1 hq_27.2 ha_29.out
    have ha_62 : HID (Pn_46.br xb_5 = pr_42) := hke_48.br hq_27.1 hq_27.2 epr_42.symm
    have hA_63 : KEG [la, lb] L P L Pn_46 := hA_30.trans hke_48
    have : Pn_46.lz pr_42 = 0 := hu_47.2.1
    have : Pn_46.lz la = Pn_15.lz la := hu_47.lz (ek_ne hek_31.out hek_44.out (by decide))
    have : Pn_46.lz lb = Pn_15.lz lb := hu_47.lz (ek_ne hek_33.out hek_44.out (by decide))
    have : Pn_46.lz lr = Pn_15.lz lr := hu_47.lz (fun e9 => (show Pn_15.ow pr_42 ≠ pr_42 from (fun e9 => kd_ne hq_27.2 hlk_43.2.1 (by decide) (show xb_5 = pr_42 from (by have q9 := (hak_18.owc xb_5 hq_27.1 hq_27.2).1.2.1; rw [epr_42.symm, e9] at q9; exact q9.symm)))) (by rw [← e9]; exact how_36.out))
    have : Pn_46.lz pr_11 = Pn_15.lz pr_11 := hu_47.lz (ek_ne hek_37.out hek_44.out (by decide))
    have : Pn_46.cap la = Pn_15.cap la := hu_47.cap la
    have : LVS (Pn_46.cap la) = LVS (Pn_15.cap la) := congrArg LVS (hu_47.cap la)
    have : Pn_46.cap lb = Pn_15.cap lb := hu_47.cap lb
    have : LVS (Pn_46.cap lb) = LVS (Pn_15.cap lb) := congrArg LVS (hu_47.cap lb)
    have : Pn_46.cap lr = Pn_15.cap lr := hu_47.cap lr
    have : LVS (Pn_46.cap lr) = LVS (Pn_15.cap lr) := congrArg LVS (hu_47.cap lr)
    have hek_64 : HID (Pn_46.ek la = 12) := (by rw [hke_48.ek hq_24.1 hq_24.2 (by decide)]; exact hek_31.out)
    have how_65 : HID (Pn_46.ow la = la) := ((hke_48.1 la hq_24.1 (by rw [hq_24.2]; decide)).2.2.2.1 hq_24.2 how_32.out).1
    have hek_66 : HID (Pn_46.ek lb = 12) := (by rw [hke_48.ek hq_25.1 hq_25.2 (by decide)]; exact hek_33.out)
    have how_67 : HID (Pn_46.ow lb = lb) := ((hke_48.1 lb hq_25.1 (by rw [hq_25.2]; decide)).2.2.2.1 hq_25.2 how_34.out).1
    have hek_68 : HID (Pn_46.ek lr = 17) := (by rw [hke_48.ek hq_26.1 hq_26.2 (by decide)]; exact hek_35.out)
    have how_69 : HID (Pn_46.ow lr = lr) := ((hke_48.1 lr hq_26.1 (by rw [hq_26.2]; decide)).2.2.2.1 hq_26.2 how_36.out).1
    have hcz := (((hke_48.1 lr hq_26.1 (by rw [hq_26.2]; decide)).2.2.2.1 hq_26.2 how_36.out).2 (fun q9 => by simp at q9; rcases q9 with q9 | q9; exact absurd q9 (ek_ne hek_35.out hek_31.out (by decide)); exact absurd q9 (ek_ne hek_35.out hek_33.out (by decide)))).1
    have hek_70 : HID (Pn_46.ek pr_11 = 15) := (by rw [hke_48.ek hq_28.1 hq_28.2 (by decide)]; exact hek_37.out)
    have hek_71 : HID (Pn_46.ek pr_42 = 17) := (by rw [hke_48.ek hlk_43.1 hlk_43.2.1 (by decide)]; exact hek_44.out)
    have hps := PSI.same (w := wSL) (L := L) hu_47.1.1
    have hpc := PSI.same (w := wCE) (L := L) hu_47.1.1
    have hlv_72 : LVA L Pn_46 := LVA.same hlv_38 hu_47.1.1
    have hnb_73 := NBS.nat hnb_39 hu_47.1.1
    have hcb_74 := CPB.nat hcb_40 hu_47.1.1
    refine lv_aload_n hx hb dX13_block_68 rfl (lv_at hl 1 rfl) ?_
    refine va_get (D := (dC, dI)) (ci := 12) (v := .ref la) (C := RX13) (T := TX13) (N := 7) hx hb hts mem_P13_blockQ_0 hown hK hP 0 rfl rfl 5 (by decide) (ow (k := 15) rfl) (fun _ h9 => h9) rfl dX13_block_69 ?_
    refine lv_aload_n hx hb dX13_block_72 rfl (lv_at hl 0 rfl) ?_
    have hlk_75 := (show LOK L Pn_46 cO 12 la from (by have q9 := (hak_49.gla la hq_55.1 hq_55.2).1; rw [hek_64.out] at q9; exact q9))
    have hX_x := hlk_75.1
    have hX_k := hlk_75.2.1
    have hlz9 := hlk_75.2.2.1
    have hX_c := hak_49.adc hlk_75
    have hX_y : xb_5 ∈ L ∧ OBK (Pn_46.kd xb_5) := ⟨hq_58.1, (by rw [hq_58.2]; unfold OBK; decide)⟩
    have hvv_76 := hlv_72 la hlk_75.1 hlk_75.2.1
    have hX_v := hvv_76.1
    have hnd_77 : L.Nodup := pl_nd hD
    have had_78 := hX_c
    have hPc := hP.part (X := [(hc, .inr (12, [.ref lb, .ref lr, v13_2, v13_3, v13_4, .ref la, .int (zI (z_9))]))]) (cx := []) (pl := va_pl L (pE Pn_46)) [] rfl
    have hDc := hD.part (X := [(hc, .inr (12, [.ref lb, .ref lr, v13_2, v13_3, v13_4, .ref la, .int (zI (z_9))]))]) (cx := []) (pl := va_pl L (pE Pn_46)) [] (by decide) rfl
    have hKc := hK.sub (tys' := [(cO, .object "java/lang/Object")]) [2] rfl
    have hFc := va_freeP (X := [(hc, .inr (12, [.ref lb, .ref lr, v13_2, v13_3, v13_4, .ref la, .int (zI (z_9))]))]) (cx := []) (pl := va_pl L (pE Pn_46)) hD hS hA [] rfl
    have hgl := ADC.gl6 hX_c (by omega)
    refine va_calli (va_runV (As := [.ref xb_5]) (rest := []) ⟨hx, hb, hml, hown, hts⟩ (c_PL_addAX l dC dI cO L Pn_46 la xb_5 sx_ed hX_x hX_k (by omega) hX_c hX_y hX_v H.size sx_mi) (cwV 1 hts g_P13_blockQ_PL_addAX rfl rfl rfl (by decide +kernel) ⟨(Nat.le_of_ble_eq_true rfl), (Nat.le_of_ble_eq_true rfl)⟩) ⟨fun a U g mk q => by obtain ⟨q0, q1, qP, qK, qD, e0, e1, e2, e3, e4, e5, e6, e7⟩ := q; exact ⟨q0, q1, qP, va_K.moved (u := U) (U := U.calling g mk a) (Vm.Alike.refl U.vm) qK, qD, va_Nw.same rfl (u := U) (U := U.calling g mk a) rfl e0, va_Nw.same rfl (u := U) (U := U.calling g mk a) rfl e1, va_Nw.same rfl (u := U) (U := U.calling g mk a) rfl e2, va_Dc.moved (u := U) (U := U.calling g mk a) (Vm.Alike.refl U.vm) e3, va_Mi.moved (u := U) (U := U.calling g mk a) (Vm.Alike.refl U.vm) e4, va_AO.moved (u := U) (U := U.calling g mk a) (Vm.Alike.refl U.vm) e5, va_T.moved (u := U) (U := U.calling g mk a) (Vm.Alike.refl U.vm) e6, va_Z.moved (u := U) (U := U.calling g mk a) (Vm.Alike.refl U.vm) e7⟩, recv_30 hKc hPc hq_55.1 hq_55.2, fun U hU hW => ⟨rfl, by rw [hU], by rw [hU]; exact hPc, va_K.moved hW.alike hKc, hDc.weaken (fun _ _ _ _ => trivial), va_Nw.warmC hW hp1, va_Nw.warmC hW hp2, va_Nw.warmC hW hp3, va_Dc.moved hW.alike hp4, va_Mi.moved hW.alike hp5, va_AO.moved hW.alike hp6, by rw [hU]; exact va_T.narrow (va_T.moved hW.alike (va_T.kept hp7 hS.2.1)) hFc, by rw [hU]; exact va_Z.narrow (va_Z.moved hW.alike (va_Z.kept hp8 hS.2.1)) hFc⟩⟩ rfl rfl hl.1 rfl (lv_room (Nat.le_of_ble_eq_true rfl)) dX13_block_73 ⟨(Nat.le_trans (show 0 + (Pn_46.gc la) ≤ 1 by omega) (Nat.le_of_ble_eq_true rfl)), (Nat.le_trans (show 0 + (Pn_46.gx la) ≤ 6246 by omega) (Nat.le_of_ble_eq_true rfl))⟩) hS (fun q _ h => hFc q h) hFc (fun r_79 z_80 t H1 locs ht hvm hw hB hz1 hk1 hS => ?_)
    obtain ⟨Ln_81, Pn_82, hxt_82, hP1, hK1, hD1⟩ := hB
    rw [ht] at hP1
    have hK1 := va_K.moved hvm.symm hK1
    obtain ⟨hP, hD⟩ := va_joinP (X := [(hc, .inr (12, [.ref lb, .ref lr, v13_2, v13_3, v13_4, .ref la, .int (zI (z_9))]))]) (cx := []) (wr := [(hc, .inr (12, [.ref lb, .ref lr, v13_2, v13_3, v13_4, .ref la, .int (zI (z_9))]))]) (rx := []) (pl := va_pl L (pE Pn_46)) (pl1 := va_pl Ln_81 (pE Pn_82)) hP hD [] [0] rfl rfl (by decide) (by decide) hk1 hFc hP1 hD1
    have hK := (hK.sub (tys' := [(cI, .int), (cZ, .boolean)]) [0, 1] rfl).app hK1
    generalize H1 = H at hP hS ⊢
    have hP : va_P (dC, dI) vwQ ([(hc, .inr (12, [.ref lb, .ref lr, v13_2, v13_3, v13_4, .ref la, .int (zI (z_9))]))] ++ va_pl Ln_81 (pE Pn_82)) H := hP
    have hD : va_D A ([(hc, .inr (12, [.ref lb, .ref lr, v13_2, v13_3, v13_4, .ref la, .int (zI (z_9))]))] ++ va_pl Ln_81 (pE Pn_82)) := hD
    have hK : va_K (dC, dI) vwQ [(cI, .int), (cZ, .boolean), (cO, .object "java/lang/Object")] s := hK
    refine W.widen (k := (0 + (Pn_46.gc la))) (n := (0 + (Pn_46.gx la))) (by omega) (by omega) ?_
    obtain ⟨rfl, hzz_80⟩ := hw
    have hu_83 := HID.mk (hxt_82)
    replace hxt_82 := HID.mk hxt_82
    have hfx := hu_83.2.2.2.2.2.2.2
    have han := hu_83.2.2.2.1
    have hke_84 : KEG [la, lb] L Pn_46 Ln_81 Pn_82 := hu_83.1.kegR hak_49 hq_55.1 hq_55.2 hfx (Or.inr (by simp))
    have hak_85 : GLR Ln_81 Pn_82 cO cI cZ sx_ed := hak_49.add hu_83.1 hq_55.1 hq_55.2 hfx hek_64.out hq_58.1 hq_58.2 hu_83.2.1 (by omega) hu_83.2.2.1 hu_83.2.2.2.1.1 (by have q9 := hak_49.adc40 hlk_75; omega) hu_83.2.2.2.2.1 hu_83.2.2.2.2.2.1 hu_83.2.2.2.2.2.2.1 (fun q9 => absurd q9 (by decide))
    clear han
    have hst_86 := hu_83.1.chgo hak_49.owa hq_55.1 hq_55.2 hfx
    have hza := hu_83.2.1
    have hel_87 : ∀ i : Int, 0 ≤ i → i < P.lz la → Pn_82.el la i = P.el la i := (fun i i0 i1 => (hu_83.1.elx hu_83.2.2.2.2.2.2.1 i0 (by omega)).trans (hel_51 i i0 i1))
    have hel_88 : ∀ i : Int, 0 ≤ i → i < P.lz lb → Pn_82.el lb i = P.el lb i := (fun i i0 i1 => (hu_83.1.elO hak_49.owa hq_55.1 hq_55.2 hfx hq_56.1 hq_56.2 hX_ab.symm i0 (by omega)).trans (hel_52 i i0 i1))
    have hel_89 : ∀ i : Int, 0 ≤ i → i < P.lz lr → Pn_82.el lr i = P.el lr i := (fun i i0 i1 => (hu_83.1.elO hak_49.owa hq_55.1 hq_55.2 hfx hq_57.1 hq_57.2 (ek_ne hek_68.out hek_64.out (by decide)) i0 (by omega)).trans (hel_53 i i0 i1))
    have hef_90 : Pn_82.el lb (z13_made) = xb_5 := (by have i0 : (0 : Int) ≤ z13_made := (by omega); exact (hu_83.1.elO hak_49.owa hq_55.1 hq_55.2 hfx hq_56.1 hq_56.2 hX_ab.symm i0 (by omega)).trans hef_54)
    have hlast := hu_83.1.elast hu_83.2.2.2.2.2.1
    have hq_91 : HID (la ∈ Ln_81 ∧ Pn_82.kd la = 30) := hke_84.mem hq_55.1 hq_55.2 (by decide)
    have hq_92 : HID (lb ∈ Ln_81 ∧ Pn_82.kd lb = 30) := hke_84.mem hq_56.1 hq_56.2 (by decide)
    have hq_93 : HID (lr ∈ Ln_81 ∧ Pn_82.kd lr = 30) := hke_84.mem hq_57.1 hq_57.2 (by decide)
    have hq_94 : HID (xb_5 ∈ Ln_81 ∧ Pn_82.kd xb_5 = 12) := hke_84.mem hq_58.1 hq_58.2 (by decide)
    have hq_95 : HID (pr_11 ∈ Ln_81 ∧ Pn_82.kd pr_11 = 30) := hke_84.mem hq_59.1 hq_59.2 (by decide)
    have hq_96 : HID (pr_42 ∈ Ln_81 ∧ Pn_82.kd pr_42 = 30) := hke_84.mem hq_60.1 hq_60.2 (by decide)
    have ha_97 : HID (Pn_82.bp xb_5 = pr_11) := hke_84.bp hq_58.1 hq_58.2 ha_61.out
    have ha_98 : HID (Pn_82.br xb_5 = pr_42) := hke_84.br hq_58.1 hq_58.2 ha_62.out
    have hA_99 : KEG [la, lb] L P Ln_81 Pn_82 := hA_63.trans hke_84
    have : Pn_82.lz lb = Pn_46.lz lb := (hu_83.1.chg lb hq_56.1 (fun q9 => by rcases q9 with q9 | q9; exact hX_ab.symm q9; exact hak_49.owa.nle hq_55.1 hq_55.2 hfx hq_56.1 (by rw [hq_56.2]; decide) q9)).2.1 0
    have : Pn_82.lz lr = Pn_46.lz lr := (hu_83.1.chg lr hq_57.1 (fun q9 => by rcases q9 with q9 | q9; exact (ek_ne hek_68.out hek_64.out (by decide)) q9; exact hak_49.owa.nle hq_55.1 hq_55.2 hfx hq_57.1 (by rw [hq_57.2]; decide) q9)).2.1 0
    have : Pn_82.lz pr_11 = Pn_46.lz pr_11 := (hu_83.1.chg pr_11 hq_59.1 (fun q9 => by rcases q9 with q9 | q9; exact (ek_ne hek_70.out hek_64.out (by decide)) q9; exact hak_49.owa.nle hq_55.1 hq_55.2 hfx hq_59.1 (by rw [hq_59.2]; decide) q9)).2.1 0
    have : Pn_82.lz pr_42 = Pn_46.lz pr_42 := (hu_83.1.chg pr_42 hq_60.1 (fun q9 => by rcases q9 with q9 | q9; exact (ek_ne hek_71.out hek_64.out (by decide)) q9; exact hak_49.owa.nle hq_55.1 hq_55.2 hfx hq_60.1 (by rw [hq_60.2]; decide) q9)).2.1 0
    have : Pn_82.cap lb = Pn_46.cap lb := hu_83.1.capO hak_49.owa hq_55.1 hq_55.2 hfx hq_56.1 hq_56.2 hX_ab.symm
    have : LVS (Pn_82.cap lb) = LVS (Pn_46.cap lb) := congrArg LVS (hu_83.1.capO hak_49.owa hq_55.1 hq_55.2 hfx hq_56.1 hq_56.2 hX_ab.symm)
    have : Pn_82.cap lr = Pn_46.cap lr := hu_83.1.capO hak_49.owa hq_55.1 hq_55.2 hfx hq_57.1 hq_57.2 (ek_ne hek_68.out hek_64.out (by decide))
    have : LVS (Pn_82.cap lr) = LVS (Pn_46.cap lr) := congrArg LVS (hu_83.1.capO hak_49.owa hq_55.1 hq_55.2 hfx hq_57.1 hq_57.2 (ek_ne hek_68.out hek_64.out (by decide)))
    have hza := hu_83.2.1
    have hek_100 : HID (Pn_82.ek la = 12) := (by rw [hke_84.ek hq_55.1 hq_55.2 (by decide)]; exact hek_64.out)
    have how_101 : HID (Pn_82.ow la = la) := ((hke_84.1 la hq_55.1 (by rw [hq_55.2]; decide)).2.2.2.1 hq_55.2 how_65.out).1
    have hek_102 : HID (Pn_82.ek lb = 12) := (by rw [hke_84.ek hq_56.1 hq_56.2 (by decide)]; exact hek_66.out)
    have how_103 : HID (Pn_82.ow lb = lb) := ((hke_84.1 lb hq_56.1 (by rw [hq_56.2]; decide)).2.2.2.1 hq_56.2 how_67.out).1
    have hek_104 : HID (Pn_82.ek lr = 17) := (by rw [hke_84.ek hq_57.1 hq_57.2 (by decide)]; exact hek_68.out)
    have how_105 : HID (Pn_82.ow lr = lr) := ((hke_84.1 lr hq_57.1 (by rw [hq_57.2]; decide)).2.2.2.1 hq_57.2 how_69.out).1
    have hcz := (((hke_84.1 lr hq_57.1 (by rw [hq_57.2]; decide)).2.2.2.1 hq_57.2 how_69.out).2 (fun q9 => by simp at q9; rcases q9 with q9 | q9; exact absurd q9 (ek_ne hek_68.out hek_64.out (by decide)); exact absurd q9 (ek_ne hek_68.out hek_66.out (by decide)))).1
    have hek_106 : HID (Pn_82.ek pr_11 = 15) := (by rw [hke_84.ek hq_59.1 hq_59.2 (by decide)]; exact hek_70.out)
    have hek_107 : HID (Pn_82.ek pr_42 = 17) := (by rw [hke_84.ek hq_60.1 hq_60.2 (by decide)]; exact hek_71.out)
    clear hfx
    have hfx := hu_83.2.2.2.2.2.2.2
    have hnd_108 : Ln_81.Nodup := pl_nd hD
    have hpp_109 := PSI.putR hnd_77 hnd_108 hak_49.glfR hu_83.1 hlk_75.1 hlk_75.2.1 hfx hvv_76.1 (by omega) hu_83.2.2.2.1.2.2.1 hu_83.2.2.2.1.2.2.2 had_78 hvv_76.2
    have hps := hpp_109.1
    have hpc := hpp_109.2.1
    have hpg := PSI.glsR hnd_77 hnd_108 hak_49.glfR hu_83.1 hlk_75.1 hlk_75.2.1 hfx
    have hlv_110 : LVA Ln_81 Pn_82 := LVA.gl1R hlv_72 hak_49.glfR hu_83.1 hlk_75.1 hlk_75.2.1 hfx hpp_109.2.2
    have hvga : LV2 (Pn_82.cap la) (Pn_46.cap la) (Pn_46.lz la + 1) := LVG.put hu_83.1 hvv_76.1 (by omega) (by omega) hu_83.2.2.2.1.2.2.1 hu_83.2.2.2.1.2.2.2
    have hnb_111 := NBS.gl hnb_73 hak_49.owa hu_83.1 hq_55.1 hq_55.2 hu_83.2.2.2.2.2.2.2
    have hcb_112 := CPB.gl hcb_74 hak_49.owa hu_83.1 (Or.inl rfl) hq_55.1 hq_55.2 hu_83.2.2.2.2.2.2.2
    have hlw_113 : LGW la Pn_46 Pn_82 := LGW.of hu_83.1 hu_83.2.2.2.1.2.2.1 hu_83.2.2.2.1.2.2.2
    refine lv_pop hx hb dX13_block_76 rfl ?_
    refine lv_aload_n hx hb dX13_block_77 rfl (lv_at hl 0 rfl) ?_
    subst hQ
    have hK := hK.sub (tys' := [(cO, .object "java/lang/Object"), (cI, .int), (cZ, .boolean)]) [2, 0, 1] rfl
    refine W_knowS (fun hrm9 => ?_)
    refine W.widen (k := 6) (n := 12510) (by omega) (by omega) ?_
    exact W.aret (v := .ref xb_5) hx hb hr (Or.inl ⟨_, rfl⟩) (Or.inr ⟨_, rfl⟩) (fun t ht hW => ⟨⟨(), xb_5, rfl, trivial, z_9, Ln_81, Pn_82, (0 + (Pn_46.gc la)), (0 + (Pn_46.gx la)), ⟨⟨(by rw [ht, ← hp9]; exact hrm9), (by omega)⟩, ⟨(by omega), ⟨hA_99, hak_85, ⟨⟨hq_94.1, hq_94.2, hef_90.symm, (by have h9 := hlast; rw [show Pn_46.lz la = P.lz la from (by omega)] at h9; exact h9.symm), (by rw [ha_97.out]; omega), (by rw [ha_98.out]; omega)⟩, ⟨by omega, by omega, by omega⟩, hel_87, hel_88, ((((CHG.refl _ _ _).step hst_19 (Or.inr (Or.inr (Or.inl ha_97.out.symm)))).step hst_50 (Or.inr (Or.inr (Or.inr ha_98.out.symm)))).step hst_86 (Or.inl rfl))⟩, (hX_ds.blkR hX_g hX_lb hA_99 hel_88 (Or.inl (by omega))), by omega, by omega, hlv_110, ⟨by omega, by omega, by omega, by omega⟩, (((LVG.refl (P.cap la) (P.lz la)).to (show Pn_46.cap la = P.cap la from (by omega)) (show Pn_46.lz la = P.lz la from (by omega))).step hvga (by omega)).to rfl (by omega), (NBS.fin hnb_111 (fun z q9 => q9.elim)), ⟨⟨(LGW.to hlw_113 (by omega) (by omega) (by omega)), (Or.inl (by omega))⟩, (fun l m k a b => (hcb_112 l m k a b).2), (fun n9 => absurd hm_6 n9)⟩⟩⟩⟩, by rw [ht]; exact hP, va_K.moved hW.alike hK, hD⟩, hS.F ht⟩) hS.2.2 dX13_block_78
  · have yb11 : (z13_made : Int) = (P.lz lb : Int) := (zI_eq (a := z13_made) (b := P.lz lb) (by omega) (by omega) (by omega) (by omega)).mp b11
    refine lv_aload_n hx hb dX13_block_14 rfl (lv_at hl 0 rfl) ?_
    refine va_get (D := (dC, dI)) (ci := 12) (v := .ref lb) (C := RX13) (T := TX13) (N := 7) hx hb hts mem_P13_blockQ_0 hown hK hP 0 rfl rfl 0 (by decide) (ow (k := 1) rfl) (fun _ h9 => h9) rfl dX13_block_15 ?_
    refine va_new (ci := 19) (fs := [.null, .null, .null, .int 0, .int 0]) (C := RX12) (T := TX12) (N := 5) hx hb hts mem_P13_blockQ_3 tyX12 tyX12_ok hown (ow (k := 19) rfl) (ow (k := 20) rfl) (ow (k := 21) rfl) hK hP hD hS hA rfl (df_X12) (Nat.le_of_ble_eq_true rfl) (Nat.le_of_ble_eq_true rfl) dX13_block_18 (fun q_114 H hP hD hS => ?_)
    have hP := pl_Pp (pl_new (X := [(hc, .inr (12, [.ref lb, .ref lr, v13_2, v13_3, v13_4, .ref la, .int (zI (z13_made))]))]) (pl := va_pl L (pE P))) hP
    have hD := pl_Dp (pl_new (X := [(hc, .inr (12, [.ref lb, .ref lr, v13_2, v13_3, v13_4, .ref la, .int (zI (z13_made))]))]) (pl := va_pl L (pE P))) hD
    have hP : va_P (dC, dI) vwQ ([(hc, .inr (12, [.ref lb, .ref lr, v13_2, v13_3, v13_4, .ref la, .int (zI (z13_made))])), (q_114, .inr (19, [.null, .null, .null, .int 0, .int 0]))] ++ va_pl L (pE P)) H := hP
    have hD : va_D A ([(hc, .inr (12, [.ref lb, .ref lr, v13_2, v13_3, v13_4, .ref la, .int (zI (z13_made))])), (q_114, .inr (19, [.null, .null, .null, .int 0, .int 0]))] ++ va_pl L (pE P)) := hD
    refine W.widen (k := 1) (n := 5) (Nat.le_of_ble_eq_true rfl) (Nat.le_of_ble_eq_true rfl) ?_
    refine lv_dup hx hb dX13_block_21 rfl ?_
    have hX_g := hX_g9
    have hPc := hP.part (X := [(hc, .inr (12, [.ref lb, .ref lr, v13_2, v13_3, v13_4, .ref la, .int (zI (z13_made))])), (q_114, .inr (19, [.null, .null, .null, .int 0, .int 0]))]) (cx := [(q_114, .inr (19, [.null, .null, .null, .int 0, .int 0]))]) (pl := va_pl L (pE P)) [1] rfl
    have hDc := hD.part (X := [(hc, .inr (12, [.ref lb, .ref lr, v13_2, v13_3, v13_4, .ref la, .int (zI (z13_made))])), (q_114, .inr (19, [.null, .null, .null, .int 0, .int 0]))]) (cx := [(q_114, .inr (19, [.null, .null, .null, .int 0, .int 0]))]) (pl := va_pl L (pE P)) [1] (by decide) rfl
    have hKc := hK.sub (tys' := [(cO, .object "java/lang/Object"), (cI, .int), (cZ, .boolean)]) [2, 0, 1] rfl
    have hFc := va_freeP (X := [(hc, .inr (12, [.ref lb, .ref lr, v13_2, v13_3, v13_4, .ref la, .int (zI (z13_made))])), (q_114, .inr (19, [.null, .null, .null, .int 0, .int 0]))]) (cx := [(q_114, .inr (19, [.null, .null, .null, .int 0, .int 0]))]) (pl := va_pl L (pE P)) hD hS hA [1] rfl
    refine va_callv (va_runIN (As := []) (rest := [.ref q_114, .ref lb]) ⟨hx, hb, hml, hown, hts⟩ (c_X12_initQ l dC dI cI cZ q_114 cO L P sx_ed hX_g H.size) ⟨va_cnB 0 hts (goodIn_sub mem_P13_blockQ_6 gw_X12_initQ) rfl rfl rfl hp11 (ow (k := 21) rfl) (by decide +kernel) ⟨(Nat.le_of_ble_eq_true rfl), (Nat.le_of_ble_eq_true rfl)⟩, rfl, (ow (k := 22) rfl)⟩ ⟨fun a U g mk q => by obtain ⟨q0, q1, qP, qK, qD, e0, e1⟩ := q; exact ⟨q0, q1, qP, va_K.moved (u := U) (U := U.calling g mk a) (Vm.Alike.refl U.vm) qK, qD, va_Z.moved (u := U) (U := U.calling g mk a) (Vm.Alike.refl U.vm) e0, va_Nw.same rfl (u := U) (U := U.calling g mk a) rfl e1⟩, fun U hU hW => ⟨rfl, by rw [hU], by rw [hU]; exact hPc, va_K.moved hW.alike hKc, hDc.weaken (fun _ _ _ _ => trivial), by rw [hU]; exact va_Z.narrow (va_Z.moved hW.alike (va_Z.kept hp8 hS.2.1)) hFc, va_Nw.warmM hW hp10⟩⟩ rfl rfl hl.1 rfl (lv_room (Nat.le_of_ble_eq_true rfl)) dX13_block_22 ⟨(Nat.le_of_ble_eq_true rfl), (Nat.le_of_ble_eq_true rfl)⟩) hS (fun q _ h => hFc q h) hFc (fun  u t H1 locs ht hvm hw hB hz1 hk1 hS => ?_)
    obtain ⟨q0_115, q1_116, q2_117, Ln_118, Pn_119, hxt_119, hP1, hK1, hD1⟩ := hB
    rw [ht] at hP1
    have hK1 := va_K.moved hvm.symm hK1
    obtain ⟨hP, hD⟩ := va_joinP (X := [(hc, .inr (12, [.ref lb, .ref lr, v13_2, v13_3, v13_4, .ref la, .int (zI (z13_made))])), (q_114, .inr (19, [.null, .null, .null, .int 0, .int 0]))]) (cx := [(q_114, .inr (19, [.null, .null, .null, .int 0, .int 0]))]) (wr := [(hc, .inr (12, [.ref lb, .ref lr, v13_2, v13_3, v13_4, .ref la, .int (zI (z13_made))]))]) (rx := [(q_114, .inr (19, [.ref q0_115, .ref q1_116, .ref q2_117, .int 0, .int 0]))]) (pl := va_pl L (pE P)) (pl1 := va_pl Ln_118 (pE Pn_119)) hP hD [1] [0] rfl rfl (by decide) (by decide) hk1 hFc hP1 hD1
    have hK := (hK.sub (tys' := []) [] rfl).app hK1
    generalize H1 = H at hP hS ⊢
    have hP : va_P (dC, dI) vwQ ([(hc, .inr (12, [.ref lb, .ref lr, v13_2, v13_3, v13_4, .ref la, .int (zI (z13_made))])), (q_114, .inr (19, [.ref q0_115, .ref q1_116, .ref q2_117, .int 0, .int 0]))] ++ va_pl Ln_118 (pE Pn_119)) H := hP
    have hD : va_D A ([(hc, .inr (12, [.ref lb, .ref lr, v13_2, v13_3, v13_4, .ref la, .int (zI (z13_made))])), (q_114, .inr (19, [.ref q0_115, .ref q1_116, .ref q2_117, .int 0, .int 0]))] ++ va_pl Ln_118 (pE Pn_119)) := hD
    have hK : va_K (dC, dI) vwQ [(cO, .object "java/lang/Object"), (cI, .int), (cZ, .boolean)] s := hK
    refine W.widen (k := 4) (n := 18) (Nat.le_of_ble_eq_true rfl) (Nat.le_of_ble_eq_true rfl) ?_
    have hu_120 := HID.mk (hxt_119)
    replace hxt_119 := HID.mk hxt_119
    have hak_122 : GLR Ln_118 Pn_119 cO cI cZ sx_ed := hX_g9.ext hu_120.1 hu_120.2.1
    have hke_121 : KEG [la, lb] L P Ln_118 Pn_119 := hu_120.1.kegR hX_g9
    have hel_123 : ∀ i : Int, 0 ≤ i → i < P.lz la → Pn_119.el la i = P.el la i := (fun i i0 i1 => (hu_120.1.el hX_g9.owa hC_la.1 hC_la.2.1 i0 (by omega)))
    have hel_124 : ∀ i : Int, 0 ≤ i → i < P.lz lb → Pn_119.el lb i = P.el lb i := (fun i i0 i1 => (hu_120.1.el hX_g9.owa hC_lb.1 hC_lb.2.1 i0 (by omega)))
    have hel_125 : ∀ i : Int, 0 ≤ i → i < P.lz lr → Pn_119.el lr i = P.el lr i := (fun i i0 i1 => (hu_120.1.el hX_g9.owa hC_lr.1 hC_lr.2.1 i0 (by omega)))
    have hq_126 : HID (la ∈ Ln_118 ∧ Pn_119.kd la = 30) := hke_121.mem hC_la.1 hC_la.2.1 (by decide)
    have hq_127 : HID (lb ∈ Ln_118 ∧ Pn_119.kd lb = 30) := hke_121.mem hC_lb.1 hC_lb.2.1 (by decide)
    have hq_128 : HID (lr ∈ Ln_118 ∧ Pn_119.kd lr = 30) := hke_121.mem hC_lr.1 hC_lr.2.1 (by decide)
    have hA_129 : KEG [la, lb] L P Ln_118 Pn_119 := (KEG.refl [la, lb] L P).trans hke_121
    have : Pn_119.lz la = P.lz la := (hu_120.1 la hC_la.1).2.1 0
    have : Pn_119.lz lb = P.lz lb := (hu_120.1 lb hC_lb.1).2.1 0
    have : Pn_119.lz lr = P.lz lr := (hu_120.1 lr hC_lr.1).2.1 0
    have : Pn_119.cap la = P.cap la := hu_120.1.cap hX_g9.owa hC_la.1 hC_la.2.1
    have : LVS (Pn_119.cap la) = LVS (P.cap la) := congrArg LVS (hu_120.1.cap hX_g9.owa hC_la.1 hC_la.2.1)
    have : Pn_119.cap lb = P.cap lb := hu_120.1.cap hX_g9.owa hC_lb.1 hC_lb.2.1
    have : LVS (Pn_119.cap lb) = LVS (P.cap lb) := congrArg LVS (hu_120.1.cap hX_g9.owa hC_lb.1 hC_lb.2.1)
    have : Pn_119.cap lr = P.cap lr := hu_120.1.cap hX_g9.owa hC_lr.1 hC_lr.2.1
    have : LVS (Pn_119.cap lr) = LVS (P.cap lr) := congrArg LVS (hu_120.1.cap hX_g9.owa hC_lr.1 hC_lr.2.1)
    have hek_130 : HID (Pn_119.ek la = 12) := (by rw [hke_121.ek hC_la.1 hC_la.2.1 (by decide)]; exact hC_la.2.2.1)
    have how_131 : HID (Pn_119.ow la = la) := ((hke_121.1 la hC_la.1 (by rw [hC_la.2.1]; decide)).2.2.2.1 hC_la.2.1 hC_la.2.2.2).1
    have hek_132 : HID (Pn_119.ek lb = 12) := (by rw [hke_121.ek hC_lb.1 hC_lb.2.1 (by decide)]; exact hC_lb.2.2.1)
    have how_133 : HID (Pn_119.ow lb = lb) := ((hke_121.1 lb hC_lb.1 (by rw [hC_lb.2.1]; decide)).2.2.2.1 hC_lb.2.1 hC_lb.2.2.2).1
    have hek_134 : HID (Pn_119.ek lr = 17) := (by rw [hke_121.ek hC_lr.1 hC_lr.2.1 (by decide)]; exact hC_lr.2.2.1)
    have how_135 : HID (Pn_119.ow lr = lr) := ((hke_121.1 lr hC_lr.1 (by rw [hC_lr.2.1]; decide)).2.2.2.1 hC_lr.2.1 hC_lr.2.2.2).1
    have hcz := (((hke_121.1 lr hC_lr.1 (by rw [hC_lr.2.1]; decide)).2.2.2.1 hC_lr.2.1 hC_lr.2.2.2).2 (fun q9 => by simp at q9; rcases q9 with q9 | q9; exact absurd q9 (ek_ne hC_lr.2.2.1 hC_la.2.2.1 (by decide)); exact absurd q9 (ek_ne hC_lr.2.2.1 hC_lb.2.2.1 (by decide)))).1
    have hps := hu_120.2.2.2.2.2.2.1
    have hpc := hu_120.2.2.2.2.2.2.2.1
    have hlv_136 : LVA Ln_118 Pn_119 := LVA.extR hX_V hX_g9 hu_120.1 hu_120.2.2.2.2.2.2.2.2
    have hnw9 := hu_120.2.2.2.2.2.1.2
    have hnb_137 : NBS (fun z => z = q_114 ∨ z = q0_115 ∨ z = q1_116 ∨ z = q2_117) L P Ln_118 Pn_119 := NBS.ext1 hu_120.1 (fun z m n9 => Or.inr (hnw9.1 z m n9))
    have hcb_138 := CPB.refl la lb Ln_118 Pn_119
    have hcz9 := hu_120.2.2.2.2.2.2.2.2
    have hnl0 := hnw9.2.1
    have hnl1 := hnw9.2.2
    have hqn_141 : q_114 ∉ Ln_118 := pl_notin (X := [(hc, .inr (12, [.ref lb, .ref lr, v13_2, v13_3, v13_4, .ref la, .int (zI (z13_made))]))]) hD
    obtain ⟨Pm_139, ePm_139⟩ : ∃ Q9 : PO, Q9 = Pn_119.mblock q_114 q0_115 q1_116 q2_117 := ⟨_, rfl⟩
    obtain ⟨Lm_140, eLm_140⟩ : ∃ l9 : List Nat, l9 = q_114 :: Ln_118 := ⟨_, rfl⟩
    obtain ⟨hP, hD⟩ := pool_new (X := [(hc, .inr (12, [.ref lb, .ref lr, v13_2, v13_3, v13_4, .ref la, .int (zI (z13_made))]))]) (P' := Pm_139) (by rw [ePm_139]; exact pE_mblock Pn_119 q_114 q0_115 q1_116 q2_117) hP hD
    rw [← eLm_140] at hP hD
    have hex_142 : EXT9 Ln_118 Pn_119 Lm_140 Pm_139 := (by rw [eLm_140, ePm_139]; exact EXT9.one hqn_141)
    have hm9 := mblock_at Pn_119 q_114 q0_115 q1_116 q2_117
    rw [← ePm_139] at hm9
    have hak_143 : GLR Lm_140 Pm_139 cO cI cZ sx_ed := (by rw [eLm_140] at hex_142 ⊢; exact hak_122.new1R hex_142 (by rw [ePm_139]; exact mblock_newR hqn_141 hu_120.2.2.1 hu_120.2.2.2.1 hu_120.2.2.2.2.1))
    have hke_144 : KEG [la, lb] Ln_118 Pn_119 Lm_140 Pm_139 := hex_142.kegR hak_122
    have hP : va_P (dC, dI) vwQ ([(hc, .inr (12, [.ref lb, .ref lr, v13_2, v13_3, v13_4, .ref la, .int (zI (z13_made))]))] ++ va_pl Lm_140 (pE Pm_139)) H := hP
    have hD : va_D A ([(hc, .inr (12, [.ref lb, .ref lr, v13_2, v13_3, v13_4, .ref la, .int (zI (z13_made))]))] ++ va_pl Lm_140 (pE Pm_139)) := hD
    have hel_145 : ∀ i : Int, 0 ≤ i → i < P.lz la → Pm_139.el la i = P.el la i := (fun i i0 i1 => (hex_142.el hak_122.owa hq_126.1 hq_126.2 i0 (by omega)).trans (hel_123 i i0 i1))
    have hel_146 : ∀ i : Int, 0 ≤ i → i < P.lz lb → Pm_139.el lb i = P.el lb i := (fun i i0 i1 => (hex_142.el hak_122.owa hq_127.1 hq_127.2 i0 (by omega)).trans (hel_124 i i0 i1))
    have hel_147 : ∀ i : Int, 0 ≤ i → i < P.lz lr → Pm_139.el lr i = P.el lr i := (fun i i0 i1 => (hex_142.el hak_122.owa hq_128.1 hq_128.2 i0 (by omega)).trans (hel_125 i i0 i1))
    have hq_148 : HID (la ∈ Lm_140 ∧ Pm_139.kd la = 30) := hke_144.mem hq_126.1 hq_126.2 (by decide)
    have hq_149 : HID (lb ∈ Lm_140 ∧ Pm_139.kd lb = 30) := hke_144.mem hq_127.1 hq_127.2 (by decide)
    have hq_150 : HID (lr ∈ Lm_140 ∧ Pm_139.kd lr = 30) := hke_144.mem hq_128.1 hq_128.2 (by decide)
    have hA_151 : KEG [la, lb] L P Lm_140 Pm_139 := hA_129.trans hke_144
    have : Pm_139.lz la = Pn_119.lz la := (hex_142 la hq_126.1).2.1 0
    have : Pm_139.lz lb = Pn_119.lz lb := (hex_142 lb hq_127.1).2.1 0
    have : Pm_139.lz lr = Pn_119.lz lr := (hex_142 lr hq_128.1).2.1 0
    have : Pm_139.cap la = Pn_119.cap la := hex_142.cap hak_122.owa hq_126.1 hq_126.2
    have : LVS (Pm_139.cap la) = LVS (Pn_119.cap la) := congrArg LVS (hex_142.cap hak_122.owa hq_126.1 hq_126.2)
    have : Pm_139.cap lb = Pn_119.cap lb := hex_142.cap hak_122.owa hq_127.1 hq_127.2
    have : LVS (Pm_139.cap lb) = LVS (Pn_119.cap lb) := congrArg LVS (hex_142.cap hak_122.owa hq_127.1 hq_127.2)
    have : Pm_139.cap lr = Pn_119.cap lr := hex_142.cap hak_122.owa hq_128.1 hq_128.2
    have : LVS (Pm_139.cap lr) = LVS (Pn_119.cap lr) := congrArg LVS (hex_142.cap hak_122.owa hq_128.1 hq_128.2)
    have hek_152 : HID (Pm_139.ek la = 12) := (by rw [hke_144.ek hq_126.1 hq_126.2 (by decide)]; exact hek_130.out)
    have how_153 : HID (Pm_139.ow la = la) := ((hke_144.1 la hq_126.1 (by rw [hq_126.2]; decide)).2.2.2.1 hq_126.2 how_131.out).1
    have hek_154 : HID (Pm_139.ek lb = 12) := (by rw [hke_144.ek hq_127.1 hq_127.2 (by decide)]; exact hek_132.out)
    have how_155 : HID (Pm_139.ow lb = lb) := ((hke_144.1 lb hq_127.1 (by rw [hq_127.2]; decide)).2.2.2.1 hq_127.2 how_133.out).1
    have hek_156 : HID (Pm_139.ek lr = 17) := (by rw [hke_144.ek hq_128.1 hq_128.2 (by decide)]; exact hek_134.out)
    have how_157 : HID (Pm_139.ow lr = lr) := ((hke_144.1 lr hq_128.1 (by rw [hq_128.2]; decide)).2.2.2.1 hq_128.2 how_135.out).1
    have hcz := (((hke_144.1 lr hq_128.1 (by rw [hq_128.2]; decide)).2.2.2.1 hq_128.2 how_135.out).2 (fun q9 => by simp at q9; rcases q9 with q9 | q9; exact absurd q9 (ek_ne hek_134.out hek_130.out (by decide)); exact absurd q9 (ek_ne hek_134.out hek_132.out (by decide)))).1
    have hex_158 := hu_120.1.trans hex_142
    have hm_159 : q_114 ∈ Lm_140 := (by rw [eLm_140]; exact List.mem_cons_self)
    have hk_160 := hm9.1
    have hbe0 := hm9.2.2.2.1
    have hxnL : q_114 ∉ L := fun m9 => hqn_141 (hu_120.1 q_114 m9).1
    have hbnL : q2_117 ∉ L := hu_120.2.2.2.2.2.1.1
    have hpn_162 : PSI wSL Lm_140 Pm_139 = PSI wSL Ln_118 Pn_119 + 5 ∧ PSI wCE Lm_140 Pm_139 = PSI wCE Ln_118 Pn_119 + 40 := (by rw [eLm_140] at hex_142 ⊢; exact PSI.nblkR hak_122 hex_142 hm9.1)
    have hps := hpn_162.1
    have hpc := hpn_162.2
    have hlv_161 : LVA Lm_140 Pm_139 := LVA.extR hlv_136 hak_122 hex_142 (fun z m n9 k => by rw [eLm_140] at m; rcases List.mem_cons.mp m with q9 | q9; rw [q9, hm9.1] at k; omega; exact absurd q9 n9)
    have hnb_163 : NBS (fun z => z = q_114 ∨ z = q0_115 ∨ z = q1_116 ∨ z = q2_117) L P Lm_140 Pm_139 := NBS.ext2 hnb_137 hu_120.1 hex_142 (fun z m n9 => Or.inl (by rw [eLm_140] at m; rcases List.mem_cons.mp m with q9 | q9; exact q9; exact absurd q9 n9))
    have hcb_164 := CPB.ext hcb_138 hak_122.owa hex_142
    have hnf_165 : Pm_139.bp q_114 = q0_115 ∧ Pm_139.br q_114 = q1_116 ∧ Pm_139.be q_114 = q2_117 := ⟨hm9.2.1, hm9.2.2.1, hm9.2.2.2.1⟩
    have hlk_166 := (show LOK Lm_140 Pm_139 cO 12 lb from (by have q9 := (hak_143.gla lb hq_149.1 hq_149.2).1; rw [hek_154.out] at q9; exact q9))
    have hX_x := hlk_166.1
    have hX_k := hlk_166.2.1
    have hlz9 := hlk_166.2.2.1
    have hX_c := hak_143.adc hlk_166
    have hX_y : q_114 ∈ Lm_140 ∧ OBK (Pm_139.kd q_114) := ⟨hm_159, (by rw [hk_160]; unfold OBK; decide)⟩
    have hvv_167 := hlv_161 lb hlk_166.1 hlk_166.2.1
    have hX_v := hvv_167.1
    have hnd_168 : Lm_140.Nodup := pl_nd hD
    have had_169 := hX_c
    have hPc := hP.part (X := [(hc, .inr (12, [.ref lb, .ref lr, v13_2, v13_3, v13_4, .ref la, .int (zI (z13_made))]))]) (cx := []) (pl := va_pl Lm_140 (pE Pm_139)) [] rfl
    have hDc := hD.part (X := [(hc, .inr (12, [.ref lb, .ref lr, v13_2, v13_3, v13_4, .ref la, .int (zI (z13_made))]))]) (cx := []) (pl := va_pl Lm_140 (pE Pm_139)) [] (by decide) rfl
    have hKc := hK.sub (tys' := [(cO, .object "java/lang/Object")]) [0] rfl
    have hFc := va_freeP (X := [(hc, .inr (12, [.ref lb, .ref lr, v13_2, v13_3, v13_4, .ref la, .int (zI (z13_made))]))]) (cx := []) (pl := va_pl Lm_140 (pE Pm_139)) hD hS hA [] rfl
    have hgl := ADC.gl6 hX_c (by omega)
    refine va_calli (va_runV (As := [.ref q_114]) (rest := []) ⟨hx, hb, hml, hown, hts⟩ (c_PL_addAX l dC dI cO Lm_140 Pm_139 lb q_114 sx_ed hX_x hX_k (by omega) hX_c hX_y hX_v H.size sx_mi) (cwV 1 hts g_P13_blockQ_PL_addAX rfl rfl rfl (by decide +kernel) ⟨(Nat.le_of_ble_eq_true rfl), (Nat.le_of_ble_eq_true rfl)⟩) ⟨fun a U g mk q => by obtain ⟨q0, q1, qP, qK, qD, e0, e1, e2, e3, e4, e5, e6, e7⟩ := q; exact ⟨q0, q1, qP, va_K.moved (u := U) (U := U.calling g mk a) (Vm.Alike.refl U.vm) qK, qD, va_Nw.same rfl (u := U) (U := U.calling g mk a) rfl e0, va_Nw.same rfl (u := U) (U := U.calling g mk a) rfl e1, va_Nw.same rfl (u := U) (U := U.calling g mk a) rfl e2, va_Dc.moved (u := U) (U := U.calling g mk a) (Vm.Alike.refl U.vm) e3, va_Mi.moved (u := U) (U := U.calling g mk a) (Vm.Alike.refl U.vm) e4, va_AO.moved (u := U) (U := U.calling g mk a) (Vm.Alike.refl U.vm) e5, va_T.moved (u := U) (U := U.calling g mk a) (Vm.Alike.refl U.vm) e6, va_Z.moved (u := U) (U := U.calling g mk a) (Vm.Alike.refl U.vm) e7⟩, recv_30 hKc hPc hq_149.1 hq_149.2, fun U hU hW => ⟨rfl, by rw [hU], by rw [hU]; exact hPc, va_K.moved hW.alike hKc, hDc.weaken (fun _ _ _ _ => trivial), va_Nw.warmC hW hp1, va_Nw.warmC hW hp2, va_Nw.warmC hW hp3, va_Dc.moved hW.alike hp4, va_Mi.moved hW.alike hp5, va_AO.moved hW.alike hp6, by rw [hU]; exact va_T.narrow (va_T.moved hW.alike (va_T.kept hp7 hS.2.1)) hFc, by rw [hU]; exact va_Z.narrow (va_Z.moved hW.alike (va_Z.kept hp8 hS.2.1)) hFc⟩⟩ rfl rfl hl.1 rfl (lv_room (Nat.le_of_ble_eq_true rfl)) dX13_block_25 ⟨(Nat.le_trans (show 4 + (Pm_139.gc lb) ≤ 5 by omega) (Nat.le_of_ble_eq_true rfl)), (Nat.le_trans (show 18 + (Pm_139.gx lb) ≤ 6264 by omega) (Nat.le_of_ble_eq_true rfl))⟩) hS (fun q _ h => hFc q h) hFc (fun r_170 z_171 t H1 locs ht hvm hw hB hz1 hk1 hS => ?_)
    obtain ⟨Ln_172, Pn_173, hxt_173, hP1, hK1, hD1⟩ := hB
    rw [ht] at hP1
    have hK1 := va_K.moved hvm.symm hK1
    obtain ⟨hP, hD⟩ := va_joinP (X := [(hc, .inr (12, [.ref lb, .ref lr, v13_2, v13_3, v13_4, .ref la, .int (zI (z13_made))]))]) (cx := []) (wr := [(hc, .inr (12, [.ref lb, .ref lr, v13_2, v13_3, v13_4, .ref la, .int (zI (z13_made))]))]) (rx := []) (pl := va_pl Lm_140 (pE Pm_139)) (pl1 := va_pl Ln_172 (pE Pn_173)) hP hD [] [0] rfl rfl (by decide) (by decide) hk1 hFc hP1 hD1
    have hK := (hK.sub (tys' := [(cI, .int), (cZ, .boolean)]) [1, 2] rfl).app hK1
    generalize H1 = H at hP hS ⊢
    have hP : va_P (dC, dI) vwQ ([(hc, .inr (12, [.ref lb, .ref lr, v13_2, v13_3, v13_4, .ref la, .int (zI (z13_made))]))] ++ va_pl Ln_172 (pE Pn_173)) H := hP
    have hD : va_D A ([(hc, .inr (12, [.ref lb, .ref lr, v13_2, v13_3, v13_4, .ref la, .int (zI (z13_made))]))] ++ va_pl Ln_172 (pE Pn_173)) := hD
    have hK : va_K (dC, dI) vwQ [(cI, .int), (cZ, .boolean), (cO, .object "java/lang/Object")] s := hK
    refine W.widen (k := (4 + (Pm_139.gc lb))) (n := (18 + (Pm_139.gx lb))) (by omega) (by omega) ?_
    obtain ⟨rfl, hzz_171⟩ := hw
    have hu_174 := HID.mk (hxt_173)
    replace hxt_173 := HID.mk hxt_173
    have hfx := hu_174.2.2.2.2.2.2.2
    have han := hu_174.2.2.2.1
    have hke_175 : KEG [la, lb] Lm_140 Pm_139 Ln_172 Pn_173 := hu_174.1.kegR hak_143 hq_149.1 hq_149.2 hfx (Or.inr (by simp))
    have hak_176 : GLR Ln_172 Pn_173 cO cI cZ sx_ed := hak_143.add hu_174.1 hq_149.1 hq_149.2 hfx hek_154.out hm_159 hk_160 hu_174.2.1 (by omega) hu_174.2.2.1 hu_174.2.2.2.1.1 (by have q9 := hak_143.adc40 hlk_166; omega) hu_174.2.2.2.2.1 hu_174.2.2.2.2.2.1 hu_174.2.2.2.2.2.2.1 (fun q9 => absurd q9 (by decide))
    clear han
    have hst_177 := hu_174.1.chgo hak_143.owa hq_149.1 hq_149.2 hfx
    have hza := hu_174.2.1
    have hel_178 : ∀ i : Int, 0 ≤ i → i < P.lz la → Pn_173.el la i = P.el la i := (fun i i0 i1 => (hu_174.1.elO hak_143.owa hq_149.1 hq_149.2 hfx hq_148.1 hq_148.2 hX_ab i0 (by omega)).trans (hel_145 i i0 i1))
    have hel_179 : ∀ i : Int, 0 ≤ i → i < P.lz lb → Pn_173.el lb i = P.el lb i := (fun i i0 i1 => (hu_174.1.elx hu_174.2.2.2.2.2.2.1 i0 (by omega)).trans (hel_146 i i0 i1))
    have hel_180 : ∀ i : Int, 0 ≤ i → i < P.lz lr → Pn_173.el lr i = P.el lr i := (fun i i0 i1 => (hu_174.1.elO hak_143.owa hq_149.1 hq_149.2 hfx hq_150.1 hq_150.2 (ek_ne hek_156.out hek_154.out (by decide)) i0 (by omega)).trans (hel_147 i i0 i1))
    have hq_181 : HID (la ∈ Ln_172 ∧ Pn_173.kd la = 30) := hke_175.mem hq_148.1 hq_148.2 (by decide)
    have hq_182 : HID (lb ∈ Ln_172 ∧ Pn_173.kd lb = 30) := hke_175.mem hq_149.1 hq_149.2 (by decide)
    have hq_183 : HID (lr ∈ Ln_172 ∧ Pn_173.kd lr = 30) := hke_175.mem hq_150.1 hq_150.2 (by decide)
    have hq_184 : HID (q_114 ∈ Ln_172 ∧ Pn_173.kd q_114 = 12) := hke_175.mem hm_159 hk_160 (by decide)
    have ha_185 : HID (Pn_173.be q_114 = q2_117) := hke_175.be hm_159 hk_160 hbe0
    have hA_186 : KEG [la, lb] L P Ln_172 Pn_173 := hA_151.trans hke_175
    have : Pn_173.lz la = Pm_139.lz la := (hu_174.1.chg la hq_148.1 (fun q9 => by rcases q9 with q9 | q9; exact hX_ab q9; exact hak_143.owa.nle hq_149.1 hq_149.2 hfx hq_148.1 (by rw [hq_148.2]; decide) q9)).2.1 0
    have : Pn_173.lz lr = Pm_139.lz lr := (hu_174.1.chg lr hq_150.1 (fun q9 => by rcases q9 with q9 | q9; exact (ek_ne hek_156.out hek_154.out (by decide)) q9; exact hak_143.owa.nle hq_149.1 hq_149.2 hfx hq_150.1 (by rw [hq_150.2]; decide) q9)).2.1 0
    have : Pn_173.cap la = Pm_139.cap la := hu_174.1.capO hak_143.owa hq_149.1 hq_149.2 hfx hq_148.1 hq_148.2 hX_ab
    have : LVS (Pn_173.cap la) = LVS (Pm_139.cap la) := congrArg LVS (hu_174.1.capO hak_143.owa hq_149.1 hq_149.2 hfx hq_148.1 hq_148.2 hX_ab)
    have : Pn_173.cap lr = Pm_139.cap lr := hu_174.1.capO hak_143.owa hq_149.1 hq_149.2 hfx hq_150.1 hq_150.2 (ek_ne hek_156.out hek_154.out (by decide))
    have : LVS (Pn_173.cap lr) = LVS (Pm_139.cap lr) := congrArg LVS (hu_174.1.capO hak_143.owa hq_149.1 hq_149.2 hfx hq_150.1 hq_150.2 (ek_ne hek_156.out hek_154.out (by decide)))
    have hza := hu_174.2.1
    have hek_187 : HID (Pn_173.ek la = 12) := (by rw [hke_175.ek hq_148.1 hq_148.2 (by decide)]; exact hek_152.out)
    have how_188 : HID (Pn_173.ow la = la) := ((hke_175.1 la hq_148.1 (by rw [hq_148.2]; decide)).2.2.2.1 hq_148.2 how_153.out).1
    have hek_189 : HID (Pn_173.ek lb = 12) := (by rw [hke_175.ek hq_149.1 hq_149.2 (by decide)]; exact hek_154.out)
    have how_190 : HID (Pn_173.ow lb = lb) := ((hke_175.1 lb hq_149.1 (by rw [hq_149.2]; decide)).2.2.2.1 hq_149.2 how_155.out).1
    have hek_191 : HID (Pn_173.ek lr = 17) := (by rw [hke_175.ek hq_150.1 hq_150.2 (by decide)]; exact hek_156.out)
    have how_192 : HID (Pn_173.ow lr = lr) := ((hke_175.1 lr hq_150.1 (by rw [hq_150.2]; decide)).2.2.2.1 hq_150.2 how_157.out).1
    have hcz := (((hke_175.1 lr hq_150.1 (by rw [hq_150.2]; decide)).2.2.2.1 hq_150.2 how_157.out).2 (fun q9 => by simp at q9; rcases q9 with q9 | q9; exact absurd q9 (ek_ne hek_156.out hek_152.out (by decide)); exact absurd q9 (ek_ne hek_156.out hek_154.out (by decide)))).1
    clear hfx
    have hlb9 : Pn_173.el lb (Pm_139.lz lb) = q_114 := hu_174.1.elast hu_174.2.2.2.2.2.1
    have hfx := hu_174.2.2.2.2.2.2.2
    have hnd_193 : Ln_172.Nodup := pl_nd hD
    have hpp_194 := PSI.putR hnd_168 hnd_193 hak_143.glfR hu_174.1 hlk_166.1 hlk_166.2.1 hfx hvv_167.1 (by omega) hu_174.2.2.2.1.2.2.1 hu_174.2.2.2.1.2.2.2 had_169 hvv_167.2
    have hps := hpp_194.1
    have hpc := hpp_194.2.1
    have hpg := PSI.glsR hnd_168 hnd_193 hak_143.glfR hu_174.1 hlk_166.1 hlk_166.2.1 hfx
    have hlv_195 : LVA Ln_172 Pn_173 := LVA.gl1R hlv_161 hak_143.glfR hu_174.1 hlk_166.1 hlk_166.2.1 hfx hpp_194.2.2
    have hqe_196 := hke_175.2 q_114 hm_159 hk_160
    have hnf_197 : Pn_173.bp q_114 = q0_115 ∧ Pn_173.br q_114 = q1_116 ∧ Pn_173.be q_114 = q2_117 := ⟨hqe_196.1.trans hnf_165.1, hqe_196.2.1.trans hnf_165.2.1, hqe_196.2.2.trans hnf_165.2.2⟩
    have hnb_198 := NBS.gl hnb_163 hak_143.owa hu_174.1 hq_149.1 hq_149.2 hu_174.2.2.2.2.2.2.2
    have hcb_199 := CPB.gl hcb_164 hak_143.owa hu_174.1 (Or.inr rfl) hq_149.1 hq_149.2 hu_174.2.2.2.2.2.2.2
    have hlw_200 : LGW lb Pm_139 Pn_173 := LGW.of hu_174.1 hu_174.2.2.2.1.2.2.1 hu_174.2.2.2.1.2.2.2
    refine lv_pop hx hb dX13_block_28 rfl ?_
    refine lv_aload_n hx hb dX13_block_29 rfl (lv_at hl 0 rfl) ?_
    refine va_get (D := (dC, dI)) (ci := 12) (v := .ref lb) (C := RX13) (T := TX13) (N := 7) hx hb hts mem_P13_blockQ_0 hown hK hP 0 rfl rfl 0 (by decide) (ow (k := 1) rfl) (fun _ h9 => h9) rfl dX13_block_30 ?_
    refine lv_aload_n hx hb dX13_block_33 rfl (lv_at hl 0 rfl) ?_
    refine va_get (D := (dC, dI)) (ci := 12) (v := .int (zI (z13_made))) (C := RX13) (T := TX13) (N := 7) hx hb hts mem_P13_blockQ_0 hown hK hP 0 rfl rfl 6 (by decide) (ow (k := 0) rfl) (fun _ h9 => h9) rfl dX13_block_34 ?_
    have hlk_201 := (show LOK Ln_172 Pn_173 cO 12 lb from (by have q9 := (hak_176.gla lb hq_182.1 hq_182.2).1; rw [hek_189.out] at q9; exact q9))
    obtain ⟨x, ex⟩ : ∃ q9 : Nat, q9 = Pn_173.el lb (z13_made) := ⟨_, rfl⟩
    have hX_x := hlk_201.1
    have hX_k := hlk_201.2.1
    have hq9 := hlk_201.row (i := z13_made) (by omega) (by omega)
    have hX_q : Pn_173.le lb ∈ Ln_172 ∧ Pn_173.kd (Pn_173.le lb) = 31 ∧ Pn_173.ac (Pn_173.le lb) = cO := ⟨hq9.1, hq9.2.1, hq9.2.2.1⟩
    have hq8 := hq9.2.2.2
    have hX_e0 : Pn_173.oa (Pn_173.le lb) (z13_made).toNat = some x := (by rw [ex]; exact (hlk_201.2.2.2.2 (z13_made) (by omega) (by omega)).1)
    have hxm : x ∈ Ln_172 := (by rw [ex]; exact (hlk_201.2.2.2.2 (z13_made) (by omega) (by omega)).2.1)
    have hxk := (hlk_201.2.2.2.2 (z13_made) (by omega) (by omega)).2.2
    rw [← ex] at hxk
    have hPc := hP.part (X := [(hc, .inr (12, [.ref lb, .ref lr, v13_2, v13_3, v13_4, .ref la, .int (zI (z13_made))]))]) (cx := []) (pl := va_pl Ln_172 (pE Pn_173)) [] rfl
    have hDc := hD.part (X := [(hc, .inr (12, [.ref lb, .ref lr, v13_2, v13_3, v13_4, .ref la, .int (zI (z13_made))]))]) (cx := []) (pl := va_pl Ln_172 (pE Pn_173)) [] (by decide) rfl
    have hKc := hK.sub (tys' := [(cO, .object "java/lang/Object")]) [2] rfl
    have hFc := va_freeP (X := [(hc, .inr (12, [.ref lb, .ref lr, v13_2, v13_3, v13_4, .ref la, .int (zI (z13_made))]))]) (cx := []) (pl := va_pl Ln_172 (pE Pn_173)) hD hS hA [] rfl
    refine va_callr (va_runV (As := [.int (zI (z13_made))]) (rest := []) ⟨hx, hb, hml, hown, hts⟩ (c_PL_get l dC dI cO Ln_172 Pn_173 lb z13_made x hX_x hX_k hX_q (by omega) hX_e0 H.size) (cwV 1 hts g_P13_blockQ_PL_get rfl rfl rfl (by decide +kernel) ⟨(Nat.le_of_ble_eq_true rfl), (Nat.le_of_ble_eq_true rfl)⟩) ⟨fun a U g mk q => by obtain ⟨q0, q1, qP, qK, qD⟩ := q; exact ⟨q0, q1, qP, va_K.moved (u := U) (U := U.calling g mk a) (Vm.Alike.refl U.vm) qK, qD⟩, recv_30 hKc hPc hq_182.1 hq_182.2, fun U hU hW => ⟨rfl, by rw [hU], by rw [hU]; exact hPc, va_K.moved hW.alike hKc, hDc.weaken (fun _ _ _ _ => trivial)⟩⟩ rfl rfl hl.1 rfl (lv_room (Nat.le_of_ble_eq_true rfl)) dX13_block_37 ⟨(Nat.le_trans (show (4 + (Pm_139.gc lb)) + 0 ≤ 5 by omega) (Nat.le_of_ble_eq_true rfl)), (Nat.le_trans (show (18 + (Pm_139.gx lb)) + 0 ≤ 6264 by omega) (Nat.le_of_ble_eq_true rfl))⟩) hS (fun q _ h => hFc q h) hFc (fun u q_202 t H1 locs ht hvm hw hB hz1 hk1 hS => ?_)
    obtain ⟨hxt_202, hP1, hK1, hD1⟩ := hB
    rw [ht] at hP1
    have hK1 := va_K.moved hvm.symm hK1
    obtain ⟨hP, hD⟩ := va_joinP (X := [(hc, .inr (12, [.ref lb, .ref lr, v13_2, v13_3, v13_4, .ref la, .int (zI (z13_made))]))]) (cx := []) (wr := [(hc, .inr (12, [.ref lb, .ref lr, v13_2, v13_3, v13_4, .ref la, .int (zI (z13_made))]))]) (rx := []) (pl := va_pl Ln_172 (pE Pn_173)) (pl1 := va_pl Ln_172 (pE Pn_173)) hP hD [] [0] rfl rfl (by decide) (by decide) hk1 hFc hP1 hD1
    have hK := (hK.sub (tys' := [(cI, .int), (cZ, .boolean)]) [0, 1] rfl).app hK1
    generalize H1 = H at hP hS ⊢
    have hP : va_P (dC, dI) vwQ ([(hc, .inr (12, [.ref lb, .ref lr, v13_2, v13_3, v13_4, .ref la, .int (zI (z13_made))]))] ++ va_pl Ln_172 (pE Pn_173)) H := hP
    have hD : va_D A ([(hc, .inr (12, [.ref lb, .ref lr, v13_2, v13_3, v13_4, .ref la, .int (zI (z13_made))]))] ++ va_pl Ln_172 (pE Pn_173)) := hD
    have hK : va_K (dC, dI) vwQ [(cI, .int), (cZ, .boolean), (cO, .object "java/lang/Object")] s := hK
    refine W.widen (k := (4 + (Pm_139.gc lb))) (n := (18 + (Pm_139.gx lb))) (by omega) (by omega) ?_
    rw [hxt_202]
    clear hX_e0
    obtain ⟨xb_203, h9⟩ : ∃ q9 : Nat, q9 = x := ⟨_, rfl⟩
    subst h9
    have hm_204 := hxm
    have hk_205 := hxk
    have hel9 := ex
    have hbq : xb_203 = q_114 := hel9.trans (by rw [show (z13_made : Int) = Pm_139.lz lb from (by omega)]; exact hlb9)
    have hxn9 : xb_203 ∉ L := (by rw [hbq]; exact hxnL)
    refine va_castY (C := "SsaForgeModel$Block") (nm := "SsaForgeModel$Block") hx hb hown (ow (k := 9) rfl) hp0 (recv_12 hK hP hm_204 hk_205) dX13_block_40 ?_
    refine lv_astore_n (lv' := [(1, .ref xb_203), (0, .ref hc)]) hx hb dX13_block_43 rfl hl (by decide) rfl (fun ls hl => ?_)
    refine lv_aload_n hx hb dX13_block_44 rfl (lv_at hl 1 rfl) ?_
    refine lv_dup hx hb dX13_block_45 rfl ?_
    refine va_get (D := (dC, dI)) (ci := 12) (v := .int (zI (z13_made))) (C := RX13) (T := TX13) (N := 7) hx hb hts mem_P13_blockQ_0 hown hK hP 0 rfl rfl 6 (by decide) (ow (k := 0) rfl) (fun _ h9 => h9) rfl dX13_block_46 ?_
    refine lv_iconst (v := 1) hx hb dX13_block_49 (by decide) ?_
    refine lv_iadd hx hb dX13_block_50 ?_
    refine lv_topi (fun z ez => ?_)
    obtain rfl : z = zI (z13_made + 1) := ez.trans (zI_add (z13_made) (1))
    refine va_put (D := (dC, dI)) (ci := 12) (v := .int (zI (z13_made + 1))) (ty := .int) (C := RX13) (T := TX13) (N := 7) hx hb hts mem_P13_blockQ_0 tyX13 tyX13_ok nmX13 hown hK hP hD hS 0 rfl rfl 6 (by decide) (ow (k := 0) rfl) (fun _ h9 => h9) rfl (by decide +kernel) rfl rfl (by first | exact Nat.le_of_ble_eq_true rfl | exact Nat.le_trans (show (4 + (Pm_139.gc lb)) ≤ 5 from (by omega)) (Nat.le_of_ble_eq_true rfl) | exact Nat.le_trans (show (18 + (Pm_139.gx lb)) ≤ 6264 from (by omega)) (Nat.le_of_ble_eq_true rfl)) dX13_block_51 (fun H locs hP hD hS => ?_)
    have hP : va_P (dC, dI) vwQ ([(hc, .inr (12, [.ref lb, .ref lr, v13_2, v13_3, v13_4, .ref la, .int (zI (z13_made + 1))]))] ++ va_pl Ln_172 (pE Pn_173)) H := hP
    have hD : va_D A ([(hc, .inr (12, [.ref lb, .ref lr, v13_2, v13_3, v13_4, .ref la, .int (zI (z13_made + 1))]))] ++ va_pl Ln_172 (pE Pn_173)) := hD
    obtain ⟨z_207, ez_207⟩ : ∃ z9 : Int, z9 = z13_made + 1 := ⟨_, rfl⟩
    rw [← ez_207] at hP hD
    have hP : va_P (dC, dI) vwQ ([(hc, .inr (12, [.ref lb, .ref lr, v13_2, v13_3, v13_4, .ref la, .int (zI (z_207))]))] ++ va_pl Ln_172 (pE Pn_173)) H := hP
    have hD : va_D A ([(hc, .inr (12, [.ref lb, .ref lr, v13_2, v13_3, v13_4, .ref la, .int (zI (z_207))]))] ++ va_pl Ln_172 (pE Pn_173)) := hD
    refine lv_aload_n hx hb dX13_block_54 rfl (lv_at hl 0 rfl) ?_
    have hfb := (hak_176.gb hm_204 hk_205).2
    obtain ⟨kp_208, hkp_208⟩ := va_pl_get (X := [(hc, .inr (12, [.ref lb, .ref lr, v13_2, v13_3, v13_4, .ref la, .int (zI (z_207))]))]) (f := pE Pn_173) hm_204
    rw [pE_block hk_205] at hkp_208
    refine va_get (D := (dC, dI)) (ci := 19) (v := .ref (Pn_173.bp xb_203)) (C := RX12) (T := TX12) (N := 5) hx hb hts mem_P13_blockQ_3 hown hK hP kp_208 hkp_208 rfl 0 (by decide) (ow (k := 10) rfl) (fun _ h9 => h9) rfl dX13_block_55 ?_
    obtain ⟨pr_209, epr_209⟩ : ∃ q9 : Nat, q9 = Pn_173.bp xb_203 := ⟨_, rfl⟩
    rw [← epr_209]
    have hlk_210 : LOK Ln_172 Pn_173 cO 15 pr_209 := (by rw [epr_209]; exact hak_176.lbp hm_204 hk_205)
    have hlz9 := hlk_210.2.2.1
    have hek_211 : HID (Pn_173.ek pr_209 = 15) := (by rw [epr_209]; exact (hak_176.owc xb_203 hm_204 hk_205).2.1)
    have hlk_212 := (show LOK Ln_172 Pn_173 cO 15 pr_209 from (by rw [← epr_209.symm]; exact hak_176.lbp hm_204 hk_205))
    have hX_x := hlk_212.1
    have hX_k := hlk_212.2.1
    have hlz9 := hlk_212.2.2.1
    have hX_c := hak_176.adc hlk_212
    have hPc := hP.part (X := [(hc, .inr (12, [.ref lb, .ref lr, v13_2, v13_3, v13_4, .ref la, .int (zI (z_207))]))]) (cx := []) (pl := va_pl Ln_172 (pE Pn_173)) [] rfl
    have hDc := hD.part (X := [(hc, .inr (12, [.ref lb, .ref lr, v13_2, v13_3, v13_4, .ref la, .int (zI (z_207))]))]) (cx := []) (pl := va_pl Ln_172 (pE Pn_173)) [] (by decide) rfl
    have hKc := hK.sub (tys' := [(cO, .object "java/lang/Object")]) [2] rfl
    have hFc := va_freeP (X := [(hc, .inr (12, [.ref lb, .ref lr, v13_2, v13_3, v13_4, .ref la, .int (zI (z_207))]))]) (cx := []) (pl := va_pl Ln_172 (pE Pn_173)) hD hS hA [] rfl
    refine va_callv (va_runV (As := []) (rest := []) ⟨hx, hb, hml, hown, hts⟩ (c_PL_clearA l dC dI cO Ln_172 Pn_173 pr_209 sx_ed hX_x hX_k (by omega) hX_c H.size) (cwV 0 hts g_P13_blockQ_PL_clearA rfl rfl rfl (by decide +kernel) ⟨(Nat.le_of_ble_eq_true rfl), (Nat.le_of_ble_eq_true rfl)⟩) ⟨fun a U g mk q => by obtain ⟨q0, q1, qP, qK, qD⟩ := q; exact ⟨q0, q1, qP, va_K.moved (u := U) (U := U.calling g mk a) (Vm.Alike.refl U.vm) qK, qD⟩, recv_30 hKc hPc hlk_210.1 hlk_210.2.1, fun U hU hW => ⟨rfl, by rw [hU], by rw [hU]; exact hPc, va_K.moved hW.alike hKc, hDc.weaken (fun _ _ _ _ => trivial)⟩⟩ rfl rfl hl.1 rfl (lv_room (Nat.le_of_ble_eq_true rfl)) dX13_block_58 ⟨(Nat.le_trans (show (4 + (Pm_139.gc lb)) + 0 ≤ 5 by omega) (Nat.le_of_ble_eq_true rfl)), (Nat.le_trans (show (18 + (Pm_139.gx lb)) + 0 ≤ 6264 by omega) (Nat.le_of_ble_eq_true rfl))⟩) hS (fun q _ h => hFc q h) hFc (fun  u t H1 locs ht hvm hw hB hz1 hk1 hS => ?_)
    obtain ⟨Pn_213, hxt_213, hP1, hK1, hD1⟩ := hB
    rw [ht] at hP1
    have hK1 := va_K.moved hvm.symm hK1
    obtain ⟨hP, hD⟩ := va_joinP (X := [(hc, .inr (12, [.ref lb, .ref lr, v13_2, v13_3, v13_4, .ref la, .int (zI (z_207))]))]) (cx := []) (wr := [(hc, .inr (12, [.ref lb, .ref lr, v13_2, v13_3, v13_4, .ref la, .int (zI (z_207))]))]) (rx := []) (pl := va_pl Ln_172 (pE Pn_173)) (pl1 := va_pl Ln_172 (pE Pn_213)) hP hD [] [0] rfl rfl (by decide) (by decide) hk1 hFc hP1 hD1
    have hK := (hK.sub (tys' := [(cI, .int), (cZ, .boolean)]) [0, 1] rfl).app hK1
    generalize H1 = H at hP hS ⊢
    have hP : va_P (dC, dI) vwQ ([(hc, .inr (12, [.ref lb, .ref lr, v13_2, v13_3, v13_4, .ref la, .int (zI (z_207))]))] ++ va_pl Ln_172 (pE Pn_213)) H := hP
    have hD : va_D A ([(hc, .inr (12, [.ref lb, .ref lr, v13_2, v13_3, v13_4, .ref la, .int (zI (z_207))]))] ++ va_pl Ln_172 (pE Pn_213)) := hD
    have hK : va_K (dC, dI) vwQ [(cI, .int), (cZ, .boolean), (cO, .object "java/lang/Object")] s := hK
    refine W.widen (k := (4 + (Pm_139.gc lb))) (n := (18 + (Pm_139.gx lb))) (by omega) (by omega) ?_
    have hu_214 := HID.mk (hxt_213)
    replace hxt_213 := HID.mk hxt_213
    have hke_215 : KEG [la, lb] Ln_172 Pn_173 Ln_172 Pn_213 := hu_214.kegR hak_176 hlk_210.1 hlk_210.2.1 (Or.inl (fun e9 => kd_ne hk_205 hlk_210.2.1 (by decide) (show xb_203 = pr_209 from (by have q9 := (hak_176.owc xb_203 hm_204 hk_205).2.2.1; rw [epr_209.symm, e9] at q9; exact q9.symm))))
    have hak_216 : GLR Ln_172 Pn_213 cO cI cZ sx_ed := hu_214.glfR hak_176 hlk_210.1 hlk_210.2.1
    have hst_217 := hu_214.chgo hak_176.owa hlk_210.1 hlk_210.2.1
    have hel_218 : ∀ i : Int, 0 ≤ i → i < P.lz la → Pn_213.el la i = P.el la i := (fun i i0 i1 => (hu_214.elO hak_176.owa hlk_210.1 hlk_210.2.1 hq_181.1 hq_181.2 (ek_ne hek_187.out hek_211.out (by decide)) i0 (by omega)).trans (hel_178 i i0 i1))
    have hel_219 : ∀ i : Int, 0 ≤ i → i < P.lz lb → Pn_213.el lb i = P.el lb i := (fun i i0 i1 => (hu_214.elO hak_176.owa hlk_210.1 hlk_210.2.1 hq_182.1 hq_182.2 (ek_ne hek_189.out hek_211.out (by decide)) i0 (by omega)).trans (hel_179 i i0 i1))
    have hel_220 : ∀ i : Int, 0 ≤ i → i < P.lz lr → Pn_213.el lr i = P.el lr i := (fun i i0 i1 => (hu_214.elO hak_176.owa hlk_210.1 hlk_210.2.1 hq_183.1 hq_183.2 (ek_ne hek_191.out hek_211.out (by decide)) i0 (by omega)).trans (hel_180 i i0 i1))
    have hef_221 : Pn_213.el lb (z13_made) = xb_203 := (by have i0 : (0 : Int) ≤ z13_made := (by omega); exact (hu_214.elO hak_176.owa hlk_210.1 hlk_210.2.1 hq_182.1 hq_182.2 (ek_ne hek_189.out hek_211.out (by decide)) i0 (by omega)).trans hel9.symm)
    have hq_222 : HID (la ∈ Ln_172 ∧ Pn_213.kd la = 30) := hke_215.mem hq_181.1 hq_181.2 (by decide)
    have hq_223 : HID (lb ∈ Ln_172 ∧ Pn_213.kd lb = 30) := hke_215.mem hq_182.1 hq_182.2 (by decide)
    have hq_224 : HID (lr ∈ Ln_172 ∧ Pn_213.kd lr = 30) := hke_215.mem hq_183.1 hq_183.2 (by decide)
    have hq_225 : HID (q_114 ∈ Ln_172 ∧ Pn_213.kd q_114 = 12) := hke_215.mem hq_184.1 hq_184.2 (by decide)
    have hq_226 : HID (xb_203 ∈ Ln_172 ∧ Pn_213.kd xb_203 = 12) := hke_215.mem hm_204 hk_205 (by decide)
    have hq_227 : HID (pr_209 ∈ Ln_172 ∧ Pn_213.kd pr_209 = 30) := hke_215.mem hlk_210.1 hlk_210.2.1 (by decide)
    have ha_228 : HID (Pn_213.be q_114 = q2_117) := hke_215.be hq_184.1 hq_184.2 ha_185.out
    have ha_229 : HID (Pn_213.be xb_203 = q2_117) := hke_215.be hm_204 hk_205 (by rw [hbq]; exact ha_185.out)
    have ha_230 : HID (Pn_213.bp xb_203 = pr_209) := hke_215.bp hm_204 hk_205 epr_209.symm
    have hA_231 : KEG [la, lb] L P Ln_172 Pn_213 := hA_186.trans hke_215
    have : Pn_213.lz pr_209 = 0 := hu_214.2.1
    have : Pn_213.lz la = Pn_173.lz la := hu_214.lz (ek_ne hek_187.out hek_211.out (by decide))
    have : Pn_213.lz lb = Pn_173.lz lb := hu_214.lz (ek_ne hek_189.out hek_211.out (by decide))
    have : Pn_213.lz lr = Pn_173.lz lr := hu_214.lz (ek_ne hek_191.out hek_211.out (by decide))
    have : Pn_213.cap la = Pn_173.cap la := hu_214.cap la
    have : LVS (Pn_213.cap la) = LVS (Pn_173.cap la) := congrArg LVS (hu_214.cap la)
    have : Pn_213.cap lb = Pn_173.cap lb := hu_214.cap lb
    have : LVS (Pn_213.cap lb) = LVS (Pn_173.cap lb) := congrArg LVS (hu_214.cap lb)
    have : Pn_213.cap lr = Pn_173.cap lr := hu_214.cap lr
    have : LVS (Pn_213.cap lr) = LVS (Pn_173.cap lr) := congrArg LVS (hu_214.cap lr)
    have hek_232 : HID (Pn_213.ek la = 12) := (by rw [hke_215.ek hq_181.1 hq_181.2 (by decide)]; exact hek_187.out)
    have how_233 : HID (Pn_213.ow la = la) := ((hke_215.1 la hq_181.1 (by rw [hq_181.2]; decide)).2.2.2.1 hq_181.2 how_188.out).1
    have hek_234 : HID (Pn_213.ek lb = 12) := (by rw [hke_215.ek hq_182.1 hq_182.2 (by decide)]; exact hek_189.out)
    have how_235 : HID (Pn_213.ow lb = lb) := ((hke_215.1 lb hq_182.1 (by rw [hq_182.2]; decide)).2.2.2.1 hq_182.2 how_190.out).1
    have hek_236 : HID (Pn_213.ek lr = 17) := (by rw [hke_215.ek hq_183.1 hq_183.2 (by decide)]; exact hek_191.out)
    have how_237 : HID (Pn_213.ow lr = lr) := ((hke_215.1 lr hq_183.1 (by rw [hq_183.2]; decide)).2.2.2.1 hq_183.2 how_192.out).1
    have hcz := (((hke_215.1 lr hq_183.1 (by rw [hq_183.2]; decide)).2.2.2.1 hq_183.2 how_192.out).2 (fun q9 => by simp at q9; rcases q9 with q9 | q9; exact absurd q9 (ek_ne hek_191.out hek_187.out (by decide)); exact absurd q9 (ek_ne hek_191.out hek_189.out (by decide)))).1
    have hek_238 : HID (Pn_213.ek pr_209 = 15) := (by rw [hke_215.ek hlk_210.1 hlk_210.2.1 (by decide)]; exact hek_211.out)
    have hps := PSI.same (w := wSL) (L := Ln_172) hu_214.1.1
    have hpc := PSI.same (w := wCE) (L := Ln_172) hu_214.1.1
    have hlv_239 : LVA Ln_172 Pn_213 := LVA.same hlv_195 hu_214.1.1
    have hqe_240 := hke_215.2 q_114 hq_184.1 hq_184.2
    have hnf_241 : Pn_213.bp q_114 = q0_115 ∧ Pn_213.br q_114 = q1_116 ∧ Pn_213.be q_114 = q2_117 := ⟨hqe_240.1.trans hnf_197.1, hqe_240.2.1.trans hnf_197.2.1, hqe_240.2.2.trans hnf_197.2.2⟩
    have hnb_242 := NBS.nat hnb_198 hu_214.1.1
    have hcb_243 := CPB.nat hcb_199 hu_214.1.1
    refine lv_aload_n hx hb dX13_block_61 rfl (lv_at hl 0 rfl) ?_
    have hfb := (hak_216.gb hq_226.1 hq_226.2).2
    obtain ⟨kp_244, hkp_244⟩ := va_pl_get (X := [(hc, .inr (12, [.ref lb, .ref lr, v13_2, v13_3, v13_4, .ref la, .int (zI (z_207))]))]) (f := pE Pn_213) hq_226.1
    rw [pE_block hq_226.2] at hkp_244
    refine va_get (D := (dC, dI)) (ci := 19) (v := .ref (Pn_213.br xb_203)) (C := RX12) (T := TX12) (N := 5) hx hb hts mem_P13_blockQ_3 hown hK hP kp_244 hkp_244 rfl 1 (by decide) (ow (k := 14) rfl) (fun _ h9 => h9) rfl dX13_block_62 ?_
    obtain ⟨pr_245, epr_245⟩ : ∃ q9 : Nat, q9 = Pn_213.br xb_203 := ⟨_, rfl⟩
    rw [← epr_245]
    have hlk_246 : LOK Ln_172 Pn_213 cO 17 pr_245 := (by rw [epr_245]; exact hak_216.lbr hq_226.1 hq_226.2)
    have hlz9 := hlk_246.2.2.1
    have hek_247 : HID (Pn_213.ek pr_245 = 17) := (by rw [epr_245]; exact (hak_216.owc xb_203 hq_226.1 hq_226.2).1.1)
    have hlk_248 := (show LOK Ln_172 Pn_213 cO 17 pr_245 from (by rw [← epr_245.symm]; exact hak_216.lbr hq_226.1 hq_226.2))
    have hX_x := hlk_248.1
    have hX_k := hlk_248.2.1
    have hlz9 := hlk_248.2.2.1
    have hX_c := hak_216.adc hlk_248
    have hPc := hP.part (X := [(hc, .inr (12, [.ref lb, .ref lr, v13_2, v13_3, v13_4, .ref la, .int (zI (z_207))]))]) (cx := []) (pl := va_pl Ln_172 (pE Pn_213)) [] rfl
    have hDc := hD.part (X := [(hc, .inr (12, [.ref lb, .ref lr, v13_2, v13_3, v13_4, .ref la, .int (zI (z_207))]))]) (cx := []) (pl := va_pl Ln_172 (pE Pn_213)) [] (by decide) rfl
    have hKc := hK.sub (tys' := [(cO, .object "java/lang/Object")]) [2] rfl
    have hFc := va_freeP (X := [(hc, .inr (12, [.ref lb, .ref lr, v13_2, v13_3, v13_4, .ref la, .int (zI (z_207))]))]) (cx := []) (pl := va_pl Ln_172 (pE Pn_213)) hD hS hA [] rfl
    refine va_callv (va_runV (As := []) (rest := []) ⟨hx, hb, hml, hown, hts⟩ (c_PL_clearA l dC dI cO Ln_172 Pn_213 pr_245 sx_ed hX_x hX_k (by omega) hX_c H.size) (cwV 0 hts g_P13_blockQ_PL_clearA rfl rfl rfl (by decide +kernel) ⟨(Nat.le_of_ble_eq_true rfl), (Nat.le_of_ble_eq_true rfl)⟩) ⟨fun a U g mk q => by obtain ⟨q0, q1, qP, qK, qD⟩ := q; exact ⟨q0, q1, qP, va_K.moved (u := U) (U := U.calling g mk a) (Vm.Alike.refl U.vm) qK, qD⟩, recv_30 hKc hPc hlk_246.1 hlk_246.2.1, fun U hU hW => ⟨rfl, by rw [hU], by rw [hU]; exact hPc, va_K.moved hW.alike hKc, hDc.weaken (fun _ _ _ _ => trivial)⟩⟩ rfl rfl hl.1 rfl (lv_room (Nat.le_of_ble_eq_true rfl)) dX13_block_65 ⟨(Nat.le_trans (show (4 + (Pm_139.gc lb)) + 0 ≤ 5 by omega) (Nat.le_of_ble_eq_true rfl)), (Nat.le_trans (show (18 + (Pm_139.gx lb)) + 0 ≤ 6264 by omega) (Nat.le_of_ble_eq_true rfl))⟩) hS (fun q _ h => hFc q h) hFc (fun  u t H1 locs ht hvm hw hB hz1 hk1 hS => ?_)
    obtain ⟨Pn_249, hxt_249, hP1, hK1, hD1⟩ := hB
    rw [ht] at hP1
    have hK1 := va_K.moved hvm.symm hK1
    obtain ⟨hP, hD⟩ := va_joinP (X := [(hc, .inr (12, [.ref lb, .ref lr, v13_2, v13_3, v13_4, .ref la, .int (zI (z_207))]))]) (cx := []) (wr := [(hc, .inr (12, [.ref lb, .ref lr, v13_2, v13_3, v13_4, .ref la, .int (zI (z_207))]))]) (rx := []) (pl := va_pl Ln_172 (pE Pn_213)) (pl1 := va_pl Ln_172 (pE Pn_249)) hP hD [] [0] rfl rfl (by decide) (by decide) hk1 hFc hP1 hD1
    have hK := (hK.sub (tys' := [(cI, .int), (cZ, .boolean)]) [0, 1] rfl).app hK1
    generalize H1 = H at hP hS ⊢
    have hP : va_P (dC, dI) vwQ ([(hc, .inr (12, [.ref lb, .ref lr, v13_2, v13_3, v13_4, .ref la, .int (zI (z_207))]))] ++ va_pl Ln_172 (pE Pn_249)) H := hP
    have hD : va_D A ([(hc, .inr (12, [.ref lb, .ref lr, v13_2, v13_3, v13_4, .ref la, .int (zI (z_207))]))] ++ va_pl Ln_172 (pE Pn_249)) := hD
    have hK : va_K (dC, dI) vwQ [(cI, .int), (cZ, .boolean), (cO, .object "java/lang/Object")] s := hK
    refine W.widen (k := (4 + (Pm_139.gc lb))) (n := (18 + (Pm_139.gx lb))) (by omega) (by omega) ?_
    have hu_250 := HID.mk (hxt_249)
    replace hxt_249 := HID.mk hxt_249
    have hke_251 : KEG [la, lb] Ln_172 Pn_213 Ln_172 Pn_249 := hu_250.kegR hak_216 hlk_246.1 hlk_246.2.1 (Or.inl (fun e9 => kd_ne hq_226.2 hlk_246.2.1 (by decide) (show xb_203 = pr_245 from (by have q9 := (hak_216.owc xb_203 hq_226.1 hq_226.2).1.2.1; rw [epr_245.symm, e9] at q9; exact q9.symm))))
    have hak_252 : GLR Ln_172 Pn_249 cO cI cZ sx_ed := hu_250.glfR hak_216 hlk_246.1 hlk_246.2.1
    have hst_253 := hu_250.chgo hak_216.owa hlk_246.1 hlk_246.2.1
    have hel_254 : ∀ i : Int, 0 ≤ i → i < P.lz la → Pn_249.el la i = P.el la i := (fun i i0 i1 => (hu_250.elO hak_216.owa hlk_246.1 hlk_246.2.1 hq_222.1 hq_222.2 (ek_ne hek_232.out hek_247.out (by decide)) i0 (by omega)).trans (hel_218 i i0 i1))
    have hel_255 : ∀ i : Int, 0 ≤ i → i < P.lz lb → Pn_249.el lb i = P.el lb i := (fun i i0 i1 => (hu_250.elO hak_216.owa hlk_246.1 hlk_246.2.1 hq_223.1 hq_223.2 (ek_ne hek_234.out hek_247.out (by decide)) i0 (by omega)).trans (hel_219 i i0 i1))
    have hel_256 : ∀ i : Int, 0 ≤ i → i < P.lz lr → Pn_249.el lr i = P.el lr i := (fun i i0 i1 => (hu_250.elO hak_216.owa hlk_246.1 hlk_246.2.1 hq_224.1 hq_224.2 (fun e9 => (show Pn_213.ow pr_245 ≠ pr_245 from (fun e9 => kd_ne hq_226.2 hlk_246.2.1 (by decide) (show xb_203 = pr_245 from (by have q9 := (hak_216.owc xb_203 hq_226.1 hq_226.2).1.2.1; rw [epr_245.symm, e9] at q9; exact q9.symm)))) (by rw [← e9]; exact how_237.out)) i0 (by omega)).trans (hel_220 i i0 i1))
    have hef_257 : Pn_249.el lb (z13_made) = xb_203 := (by have i0 : (0 : Int) ≤ z13_made := (by omega); exact (hu_250.elO hak_216.owa hlk_246.1 hlk_246.2.1 hq_223.1 hq_223.2 (ek_ne hek_234.out hek_247.out (by decide)) i0 (by omega)).trans hef_221)
    have hq_258 : HID (la ∈ Ln_172 ∧ Pn_249.kd la = 30) := hke_251.mem hq_222.1 hq_222.2 (by decide)
    have hq_259 : HID (lb ∈ Ln_172 ∧ Pn_249.kd lb = 30) := hke_251.mem hq_223.1 hq_223.2 (by decide)
    have hq_260 : HID (lr ∈ Ln_172 ∧ Pn_249.kd lr = 30) := hke_251.mem hq_224.1 hq_224.2 (by decide)
    have hq_261 : HID (q_114 ∈ Ln_172 ∧ Pn_249.kd q_114 = 12) := hke_251.mem hq_225.1 hq_225.2 (by decide)
    have hq_262 : HID (xb_203 ∈ Ln_172 ∧ Pn_249.kd xb_203 = 12) := hke_251.mem hq_226.1 hq_226.2 (by decide)
    have hq_263 : HID (pr_209 ∈ Ln_172 ∧ Pn_249.kd pr_209 = 30) := hke_251.mem hq_227.1 hq_227.2 (by decide)
    have hq_264 : HID (pr_245 ∈ Ln_172 ∧ Pn_249.kd pr_245 = 30) := hke_251.mem hlk_246.1 hlk_246.2.1 (by decide)
    have ha_265 : HID (Pn_249.be q_114 = q2_117) := hke_251.be hq_225.1 hq_225.2 ha_228.out
    have ha_266 : HID (Pn_249.be xb_203 = q2_117) := hke_251.be hq_226.1 hq_226.2 ha_229.out
    have ha_267 : HID (Pn_249.bp xb_203 = pr_209) := hke_251.bp hq_226.1 hq_226.2 ha_230.out
    have ha_268 : HID (Pn_249.br xb_203 = pr_245) := hke_251.br hq_226.1 hq_226.2 epr_245.symm
    have hA_269 : KEG [la, lb] L P Ln_172 Pn_249 := hA_231.trans hke_251
    have : Pn_249.lz pr_245 = 0 := hu_250.2.1
    have : Pn_249.lz la = Pn_213.lz la := hu_250.lz (ek_ne hek_232.out hek_247.out (by decide))
    have : Pn_249.lz lb = Pn_213.lz lb := hu_250.lz (ek_ne hek_234.out hek_247.out (by decide))
    have : Pn_249.lz lr = Pn_213.lz lr := hu_250.lz (fun e9 => (show Pn_213.ow pr_245 ≠ pr_245 from (fun e9 => kd_ne hq_226.2 hlk_246.2.1 (by decide) (show xb_203 = pr_245 from (by have q9 := (hak_216.owc xb_203 hq_226.1 hq_226.2).1.2.1; rw [epr_245.symm, e9] at q9; exact q9.symm)))) (by rw [← e9]; exact how_237.out))
    have : Pn_249.lz pr_209 = Pn_213.lz pr_209 := hu_250.lz (ek_ne hek_238.out hek_247.out (by decide))
    have : Pn_249.cap la = Pn_213.cap la := hu_250.cap la
    have : LVS (Pn_249.cap la) = LVS (Pn_213.cap la) := congrArg LVS (hu_250.cap la)
    have : Pn_249.cap lb = Pn_213.cap lb := hu_250.cap lb
    have : LVS (Pn_249.cap lb) = LVS (Pn_213.cap lb) := congrArg LVS (hu_250.cap lb)
    have : Pn_249.cap lr = Pn_213.cap lr := hu_250.cap lr
    have : LVS (Pn_249.cap lr) = LVS (Pn_213.cap lr) := congrArg LVS (hu_250.cap lr)
    have hek_270 : HID (Pn_249.ek la = 12) := (by rw [hke_251.ek hq_222.1 hq_222.2 (by decide)]; exact hek_232.out)
    have how_271 : HID (Pn_249.ow la = la) := ((hke_251.1 la hq_222.1 (by rw [hq_222.2]; decide)).2.2.2.1 hq_222.2 how_233.out).1
    have hek_272 : HID (Pn_249.ek lb = 12) := (by rw [hke_251.ek hq_223.1 hq_223.2 (by decide)]; exact hek_234.out)
    have how_273 : HID (Pn_249.ow lb = lb) := ((hke_251.1 lb hq_223.1 (by rw [hq_223.2]; decide)).2.2.2.1 hq_223.2 how_235.out).1
    have hek_274 : HID (Pn_249.ek lr = 17) := (by rw [hke_251.ek hq_224.1 hq_224.2 (by decide)]; exact hek_236.out)
    have how_275 : HID (Pn_249.ow lr = lr) := ((hke_251.1 lr hq_224.1 (by rw [hq_224.2]; decide)).2.2.2.1 hq_224.2 how_237.out).1
    have hcz := (((hke_251.1 lr hq_224.1 (by rw [hq_224.2]; decide)).2.2.2.1 hq_224.2 how_237.out).2 (fun q9 => by simp at q9; rcases q9 with q9 | q9; exact absurd q9 (ek_ne hek_236.out hek_232.out (by decide)); exact absurd q9 (ek_ne hek_236.out hek_234.out (by decide)))).1
    have hek_276 : HID (Pn_249.ek pr_209 = 15) := (by rw [hke_251.ek hq_227.1 hq_227.2 (by decide)]; exact hek_238.out)
    have hek_277 : HID (Pn_249.ek pr_245 = 17) := (by rw [hke_251.ek hlk_246.1 hlk_246.2.1 (by decide)]; exact hek_247.out)
    have hps := PSI.same (w := wSL) (L := Ln_172) hu_250.1.1
    have hpc := PSI.same (w := wCE) (L := Ln_172) hu_250.1.1
    have hlv_278 : LVA Ln_172 Pn_249 := LVA.same hlv_239 hu_250.1.1
    have hqe_279 := hke_251.2 q_114 hq_225.1 hq_225.2
    have hnf_280 : Pn_249.bp q_114 = q0_115 ∧ Pn_249.br q_114 = q1_116 ∧ Pn_249.be q_114 = q2_117 := ⟨hqe_279.1.trans hnf_241.1, hqe_279.2.1.trans hnf_241.2.1, hqe_279.2.2.trans hnf_241.2.2⟩
    have hnb_281 := NBS.nat hnb_242 hu_250.1.1
    have hcb_282 := CPB.nat hcb_243 hu_250.1.1
    refine lv_aload_n hx hb dX13_block_68 rfl (lv_at hl 1 rfl) ?_
    refine va_get (D := (dC, dI)) (ci := 12) (v := .ref la) (C := RX13) (T := TX13) (N := 7) hx hb hts mem_P13_blockQ_0 hown hK hP 0 rfl rfl 5 (by decide) (ow (k := 15) rfl) (fun _ h9 => h9) rfl dX13_block_69 ?_
    refine lv_aload_n hx hb dX13_block_72 rfl (lv_at hl 0 rfl) ?_
    have hlk_283 := (show LOK Ln_172 Pn_249 cO 12 la from (by have q9 := (hak_252.gla la hq_258.1 hq_258.2).1; rw [hek_270.out] at q9; exact q9))
    have hX_x := hlk_283.1
    have hX_k := hlk_283.2.1
    have hlz9 := hlk_283.2.2.1
    have hX_c := hak_252.adc hlk_283
    have hX_y : xb_203 ∈ Ln_172 ∧ OBK (Pn_249.kd xb_203) := ⟨hq_262.1, (by rw [hq_262.2]; unfold OBK; decide)⟩
    have hvv_284 := hlv_278 la hlk_283.1 hlk_283.2.1
    have hX_v := hvv_284.1
    have hnd_285 : Ln_172.Nodup := pl_nd hD
    have had_286 := hX_c
    have hPc := hP.part (X := [(hc, .inr (12, [.ref lb, .ref lr, v13_2, v13_3, v13_4, .ref la, .int (zI (z_207))]))]) (cx := []) (pl := va_pl Ln_172 (pE Pn_249)) [] rfl
    have hDc := hD.part (X := [(hc, .inr (12, [.ref lb, .ref lr, v13_2, v13_3, v13_4, .ref la, .int (zI (z_207))]))]) (cx := []) (pl := va_pl Ln_172 (pE Pn_249)) [] (by decide) rfl
    have hKc := hK.sub (tys' := [(cO, .object "java/lang/Object")]) [2] rfl
    have hFc := va_freeP (X := [(hc, .inr (12, [.ref lb, .ref lr, v13_2, v13_3, v13_4, .ref la, .int (zI (z_207))]))]) (cx := []) (pl := va_pl Ln_172 (pE Pn_249)) hD hS hA [] rfl
    have hgl := ADC.gl6 hX_c (by omega)
    refine va_calli (va_runV (As := [.ref xb_203]) (rest := []) ⟨hx, hb, hml, hown, hts⟩ (c_PL_addAX l dC dI cO Ln_172 Pn_249 la xb_203 sx_ed hX_x hX_k (by omega) hX_c hX_y hX_v H.size sx_mi) (cwV 1 hts g_P13_blockQ_PL_addAX rfl rfl rfl (by decide +kernel) ⟨(Nat.le_of_ble_eq_true rfl), (Nat.le_of_ble_eq_true rfl)⟩) ⟨fun a U g mk q => by obtain ⟨q0, q1, qP, qK, qD, e0, e1, e2, e3, e4, e5, e6, e7⟩ := q; exact ⟨q0, q1, qP, va_K.moved (u := U) (U := U.calling g mk a) (Vm.Alike.refl U.vm) qK, qD, va_Nw.same rfl (u := U) (U := U.calling g mk a) rfl e0, va_Nw.same rfl (u := U) (U := U.calling g mk a) rfl e1, va_Nw.same rfl (u := U) (U := U.calling g mk a) rfl e2, va_Dc.moved (u := U) (U := U.calling g mk a) (Vm.Alike.refl U.vm) e3, va_Mi.moved (u := U) (U := U.calling g mk a) (Vm.Alike.refl U.vm) e4, va_AO.moved (u := U) (U := U.calling g mk a) (Vm.Alike.refl U.vm) e5, va_T.moved (u := U) (U := U.calling g mk a) (Vm.Alike.refl U.vm) e6, va_Z.moved (u := U) (U := U.calling g mk a) (Vm.Alike.refl U.vm) e7⟩, recv_30 hKc hPc hq_258.1 hq_258.2, fun U hU hW => ⟨rfl, by rw [hU], by rw [hU]; exact hPc, va_K.moved hW.alike hKc, hDc.weaken (fun _ _ _ _ => trivial), va_Nw.warmC hW hp1, va_Nw.warmC hW hp2, va_Nw.warmC hW hp3, va_Dc.moved hW.alike hp4, va_Mi.moved hW.alike hp5, va_AO.moved hW.alike hp6, by rw [hU]; exact va_T.narrow (va_T.moved hW.alike (va_T.kept hp7 hS.2.1)) hFc, by rw [hU]; exact va_Z.narrow (va_Z.moved hW.alike (va_Z.kept hp8 hS.2.1)) hFc⟩⟩ rfl rfl hl.1 rfl (lv_room (Nat.le_of_ble_eq_true rfl)) dX13_block_73 ⟨(Nat.le_trans (show (4 + (Pm_139.gc lb)) + (Pn_249.gc la) ≤ 6 by omega) (Nat.le_of_ble_eq_true rfl)), (Nat.le_trans (show (18 + (Pm_139.gx lb)) + (Pn_249.gx la) ≤ 12510 by omega) (Nat.le_of_ble_eq_true rfl))⟩) hS (fun q _ h => hFc q h) hFc (fun r_287 z_288 t H1 locs ht hvm hw hB hz1 hk1 hS => ?_)
    obtain ⟨Ln_289, Pn_290, hxt_290, hP1, hK1, hD1⟩ := hB
    rw [ht] at hP1
    have hK1 := va_K.moved hvm.symm hK1
    obtain ⟨hP, hD⟩ := va_joinP (X := [(hc, .inr (12, [.ref lb, .ref lr, v13_2, v13_3, v13_4, .ref la, .int (zI (z_207))]))]) (cx := []) (wr := [(hc, .inr (12, [.ref lb, .ref lr, v13_2, v13_3, v13_4, .ref la, .int (zI (z_207))]))]) (rx := []) (pl := va_pl Ln_172 (pE Pn_249)) (pl1 := va_pl Ln_289 (pE Pn_290)) hP hD [] [0] rfl rfl (by decide) (by decide) hk1 hFc hP1 hD1
    have hK := (hK.sub (tys' := [(cI, .int), (cZ, .boolean)]) [0, 1] rfl).app hK1
    generalize H1 = H at hP hS ⊢
    have hP : va_P (dC, dI) vwQ ([(hc, .inr (12, [.ref lb, .ref lr, v13_2, v13_3, v13_4, .ref la, .int (zI (z_207))]))] ++ va_pl Ln_289 (pE Pn_290)) H := hP
    have hD : va_D A ([(hc, .inr (12, [.ref lb, .ref lr, v13_2, v13_3, v13_4, .ref la, .int (zI (z_207))]))] ++ va_pl Ln_289 (pE Pn_290)) := hD
    have hK : va_K (dC, dI) vwQ [(cI, .int), (cZ, .boolean), (cO, .object "java/lang/Object")] s := hK
    refine W.widen (k := ((4 + (Pm_139.gc lb)) + (Pn_249.gc la))) (n := ((18 + (Pm_139.gx lb)) + (Pn_249.gx la))) (by omega) (by omega) ?_
    obtain ⟨rfl, hzz_288⟩ := hw
    have hu_291 := HID.mk (hxt_290)
    replace hxt_290 := HID.mk hxt_290
    have hfx := hu_291.2.2.2.2.2.2.2
    have han := hu_291.2.2.2.1
    have hke_292 : KEG [la, lb] Ln_172 Pn_249 Ln_289 Pn_290 := hu_291.1.kegR hak_252 hq_258.1 hq_258.2 hfx (Or.inr (by simp))
    have hak_293 : GLR Ln_289 Pn_290 cO cI cZ sx_ed := hak_252.add hu_291.1 hq_258.1 hq_258.2 hfx hek_270.out hq_262.1 hq_262.2 hu_291.2.1 (by omega) hu_291.2.2.1 hu_291.2.2.2.1.1 (by have q9 := hak_252.adc40 hlk_283; omega) hu_291.2.2.2.2.1 hu_291.2.2.2.2.2.1 hu_291.2.2.2.2.2.2.1 (fun q9 => absurd q9 (by decide))
    clear han
    have hst_294 := hu_291.1.chgo hak_252.owa hq_258.1 hq_258.2 hfx
    have hza := hu_291.2.1
    have hel_295 : ∀ i : Int, 0 ≤ i → i < P.lz la → Pn_290.el la i = P.el la i := (fun i i0 i1 => (hu_291.1.elx hu_291.2.2.2.2.2.2.1 i0 (by omega)).trans (hel_254 i i0 i1))
    have hel_296 : ∀ i : Int, 0 ≤ i → i < P.lz lb → Pn_290.el lb i = P.el lb i := (fun i i0 i1 => (hu_291.1.elO hak_252.owa hq_258.1 hq_258.2 hfx hq_259.1 hq_259.2 hX_ab.symm i0 (by omega)).trans (hel_255 i i0 i1))
    have hel_297 : ∀ i : Int, 0 ≤ i → i < P.lz lr → Pn_290.el lr i = P.el lr i := (fun i i0 i1 => (hu_291.1.elO hak_252.owa hq_258.1 hq_258.2 hfx hq_260.1 hq_260.2 (ek_ne hek_274.out hek_270.out (by decide)) i0 (by omega)).trans (hel_256 i i0 i1))
    have hef_298 : Pn_290.el lb (z13_made) = xb_203 := (by have i0 : (0 : Int) ≤ z13_made := (by omega); exact (hu_291.1.elO hak_252.owa hq_258.1 hq_258.2 hfx hq_259.1 hq_259.2 hX_ab.symm i0 (by omega)).trans hef_257)
    have hlast := hu_291.1.elast hu_291.2.2.2.2.2.1
    have hq_299 : HID (la ∈ Ln_289 ∧ Pn_290.kd la = 30) := hke_292.mem hq_258.1 hq_258.2 (by decide)
    have hq_300 : HID (lb ∈ Ln_289 ∧ Pn_290.kd lb = 30) := hke_292.mem hq_259.1 hq_259.2 (by decide)
    have hq_301 : HID (lr ∈ Ln_289 ∧ Pn_290.kd lr = 30) := hke_292.mem hq_260.1 hq_260.2 (by decide)
    have hq_302 : HID (q_114 ∈ Ln_289 ∧ Pn_290.kd q_114 = 12) := hke_292.mem hq_261.1 hq_261.2 (by decide)
    have hq_303 : HID (xb_203 ∈ Ln_289 ∧ Pn_290.kd xb_203 = 12) := hke_292.mem hq_262.1 hq_262.2 (by decide)
    have hq_304 : HID (pr_209 ∈ Ln_289 ∧ Pn_290.kd pr_209 = 30) := hke_292.mem hq_263.1 hq_263.2 (by decide)
    have hq_305 : HID (pr_245 ∈ Ln_289 ∧ Pn_290.kd pr_245 = 30) := hke_292.mem hq_264.1 hq_264.2 (by decide)
    have ha_306 : HID (Pn_290.be q_114 = q2_117) := hke_292.be hq_261.1 hq_261.2 ha_265.out
    have ha_307 : HID (Pn_290.be xb_203 = q2_117) := hke_292.be hq_262.1 hq_262.2 ha_266.out
    have ha_308 : HID (Pn_290.bp xb_203 = pr_209) := hke_292.bp hq_262.1 hq_262.2 ha_267.out
    have ha_309 : HID (Pn_290.br xb_203 = pr_245) := hke_292.br hq_262.1 hq_262.2 ha_268.out
    have hA_310 : KEG [la, lb] L P Ln_289 Pn_290 := hA_269.trans hke_292
    have : Pn_290.lz lb = Pn_249.lz lb := (hu_291.1.chg lb hq_259.1 (fun q9 => by rcases q9 with q9 | q9; exact hX_ab.symm q9; exact hak_252.owa.nle hq_258.1 hq_258.2 hfx hq_259.1 (by rw [hq_259.2]; decide) q9)).2.1 0
    have : Pn_290.lz lr = Pn_249.lz lr := (hu_291.1.chg lr hq_260.1 (fun q9 => by rcases q9 with q9 | q9; exact (ek_ne hek_274.out hek_270.out (by decide)) q9; exact hak_252.owa.nle hq_258.1 hq_258.2 hfx hq_260.1 (by rw [hq_260.2]; decide) q9)).2.1 0
    have : Pn_290.lz pr_209 = Pn_249.lz pr_209 := (hu_291.1.chg pr_209 hq_263.1 (fun q9 => by rcases q9 with q9 | q9; exact (ek_ne hek_276.out hek_270.out (by decide)) q9; exact hak_252.owa.nle hq_258.1 hq_258.2 hfx hq_263.1 (by rw [hq_263.2]; decide) q9)).2.1 0
    have : Pn_290.lz pr_245 = Pn_249.lz pr_245 := (hu_291.1.chg pr_245 hq_264.1 (fun q9 => by rcases q9 with q9 | q9; exact (ek_ne hek_277.out hek_270.out (by decide)) q9; exact hak_252.owa.nle hq_258.1 hq_258.2 hfx hq_264.1 (by rw [hq_264.2]; decide) q9)).2.1 0
    have : Pn_290.cap lb = Pn_249.cap lb := hu_291.1.capO hak_252.owa hq_258.1 hq_258.2 hfx hq_259.1 hq_259.2 hX_ab.symm
    have : LVS (Pn_290.cap lb) = LVS (Pn_249.cap lb) := congrArg LVS (hu_291.1.capO hak_252.owa hq_258.1 hq_258.2 hfx hq_259.1 hq_259.2 hX_ab.symm)
    have : Pn_290.cap lr = Pn_249.cap lr := hu_291.1.capO hak_252.owa hq_258.1 hq_258.2 hfx hq_260.1 hq_260.2 (ek_ne hek_274.out hek_270.out (by decide))
    have : LVS (Pn_290.cap lr) = LVS (Pn_249.cap lr) := congrArg LVS (hu_291.1.capO hak_252.owa hq_258.1 hq_258.2 hfx hq_260.1 hq_260.2 (ek_ne hek_274.out hek_270.out (by decide)))
    have hza := hu_291.2.1
    have hek_311 : HID (Pn_290.ek la = 12) := (by rw [hke_292.ek hq_258.1 hq_258.2 (by decide)]; exact hek_270.out)
    have how_312 : HID (Pn_290.ow la = la) := ((hke_292.1 la hq_258.1 (by rw [hq_258.2]; decide)).2.2.2.1 hq_258.2 how_271.out).1
    have hek_313 : HID (Pn_290.ek lb = 12) := (by rw [hke_292.ek hq_259.1 hq_259.2 (by decide)]; exact hek_272.out)
    have how_314 : HID (Pn_290.ow lb = lb) := ((hke_292.1 lb hq_259.1 (by rw [hq_259.2]; decide)).2.2.2.1 hq_259.2 how_273.out).1
    have hek_315 : HID (Pn_290.ek lr = 17) := (by rw [hke_292.ek hq_260.1 hq_260.2 (by decide)]; exact hek_274.out)
    have how_316 : HID (Pn_290.ow lr = lr) := ((hke_292.1 lr hq_260.1 (by rw [hq_260.2]; decide)).2.2.2.1 hq_260.2 how_275.out).1
    have hcz := (((hke_292.1 lr hq_260.1 (by rw [hq_260.2]; decide)).2.2.2.1 hq_260.2 how_275.out).2 (fun q9 => by simp at q9; rcases q9 with q9 | q9; exact absurd q9 (ek_ne hek_274.out hek_270.out (by decide)); exact absurd q9 (ek_ne hek_274.out hek_272.out (by decide)))).1
    have hek_317 : HID (Pn_290.ek pr_209 = 15) := (by rw [hke_292.ek hq_263.1 hq_263.2 (by decide)]; exact hek_276.out)
    have hek_318 : HID (Pn_290.ek pr_245 = 17) := (by rw [hke_292.ek hq_264.1 hq_264.2 (by decide)]; exact hek_277.out)
    clear hfx
    have hfx := hu_291.2.2.2.2.2.2.2
    have hnd_319 : Ln_289.Nodup := pl_nd hD
    have hpp_320 := PSI.putR hnd_285 hnd_319 hak_252.glfR hu_291.1 hlk_283.1 hlk_283.2.1 hfx hvv_284.1 (by omega) hu_291.2.2.2.1.2.2.1 hu_291.2.2.2.1.2.2.2 had_286 hvv_284.2
    have hps := hpp_320.1
    have hpc := hpp_320.2.1
    have hpg := PSI.glsR hnd_285 hnd_319 hak_252.glfR hu_291.1 hlk_283.1 hlk_283.2.1 hfx
    have hlv_321 : LVA Ln_289 Pn_290 := LVA.gl1R hlv_278 hak_252.glfR hu_291.1 hlk_283.1 hlk_283.2.1 hfx hpp_320.2.2
    have hvga : LV2 (Pn_290.cap la) (Pn_249.cap la) (Pn_249.lz la + 1) := LVG.put hu_291.1 hvv_284.1 (by omega) (by omega) hu_291.2.2.2.1.2.2.1 hu_291.2.2.2.1.2.2.2
    have hqe_322 := hke_292.2 q_114 hq_261.1 hq_261.2
    have hnf_323 : Pn_290.bp q_114 = q0_115 ∧ Pn_290.br q_114 = q1_116 ∧ Pn_290.be q_114 = q2_117 := ⟨hqe_322.1.trans hnf_280.1, hqe_322.2.1.trans hnf_280.2.1, hqe_322.2.2.trans hnf_280.2.2⟩
    have hnb_324 := NBS.gl hnb_281 hak_252.owa hu_291.1 hq_258.1 hq_258.2 hu_291.2.2.2.2.2.2.2
    have hcb_325 := CPB.gl hcb_282 hak_252.owa hu_291.1 (Or.inl rfl) hq_258.1 hq_258.2 hu_291.2.2.2.2.2.2.2
    have hlw_326 : LGW la Pn_249 Pn_290 := LGW.of hu_291.1 hu_291.2.2.2.1.2.2.1 hu_291.2.2.2.1.2.2.2
    refine lv_pop hx hb dX13_block_76 rfl ?_
    refine lv_aload_n hx hb dX13_block_77 rfl (lv_at hl 0 rfl) ?_
    subst hQ
    have hK := hK.sub (tys' := [(cO, .object "java/lang/Object"), (cI, .int), (cZ, .boolean)]) [2, 0, 1] rfl
    have hqf9 : Pn_290.bp xb_203 = q0_115 ∧ Pn_290.br xb_203 = q1_116 ∧ Pn_290.be xb_203 = q2_117 := (by rw [hbq]; exact hnf_323)
    refine W_knowS (fun hrm9 => ?_)
    refine W.widen (k := 6) (n := 12510) (by omega) (by omega) ?_
    exact W.aret (v := .ref xb_203) hx hb hr (Or.inl ⟨_, rfl⟩) (Or.inr ⟨_, rfl⟩) (fun t ht hW => ⟨⟨(), xb_203, rfl, trivial, z_207, Ln_289, Pn_290, ((4 + (Pm_139.gc lb)) + (Pn_249.gc la)), ((18 + (Pm_139.gx lb)) + (Pn_249.gx la)), ⟨⟨(by rw [ht, ← hp9]; exact hrm9), (by omega)⟩, ⟨(by omega), ⟨hA_310, hak_293, ⟨⟨hq_303.1, hq_303.2, hef_298.symm, (by have h9 := hlast; rw [show Pn_249.lz la = P.lz la from (by omega)] at h9; exact h9.symm), (by rw [ha_308.out]; omega), (by rw [ha_309.out]; omega)⟩, ⟨by omega, by omega, by omega⟩, hel_295, hel_296, ((((hex_158.chgo.step hst_177 (Or.inr (Or.inl rfl))).step hst_217 (Or.inr (Or.inr (Or.inl ha_308.out.symm)))).step hst_253 (Or.inr (Or.inr (Or.inr ha_309.out.symm)))).step hst_294 (Or.inl rfl))⟩, (hX_ds.blkR hX_g hX_lb hA_310 hel_296 (Or.inr ⟨by omega, (by rw [show P.lz lb = z13_made from (by omega), hef_298]; exact hxn9), (by rw [show P.lz lb = z13_made from (by omega), hef_298, ha_307.out]; exact hbnL)⟩)), by omega, by omega, hlv_321, ⟨by omega, by omega, by omega, by omega⟩, (((LVG.refl (P.cap la) (P.lz la)).to (show Pn_249.cap la = P.cap la from (by omega)) (show Pn_249.lz la = P.lz la from (by omega))).step hvga (by omega)).to rfl (by omega), (NBS.fin hnb_324 (fun z q9 => by rcases q9 with q9 | q9 | q9 | q9; exact Or.inl (q9.trans hbq.symm); exact Or.inr (Or.inl (q9.trans (hqf9.1).symm)); exact Or.inr (Or.inr (Or.inl (q9.trans (hqf9.2.1).symm))); exact Or.inr (Or.inr (Or.inr (q9.trans (hqf9.2.2).symm))))), ⟨⟨(LGW.to hlw_326 (by omega) (by omega) (by omega)), (LGW.to hlw_200 (by omega) (by omega) (by omega))⟩, (fun l m k a b => hcb_325.old hu_120.1 hX_g.owa m k a b), (fun _ => by rw [hqf9.1, hqf9.2.1]; exact ⟨(hcb_325 q0_115 hu_120.2.2.1.1 hu_120.2.2.1.2.1 (fun e9 => hnl0 (by rw [e9]; exact hX_la.1)) (fun e9 => hnl0 (by rw [e9]; exact hX_lb.1))).2.trans (hcz9 _ hu_120.2.2.1.1 hnl0 hu_120.2.2.1.2.1), (hcb_325 q1_116 hu_120.2.2.2.1.1 hu_120.2.2.2.1.2.1 (fun e9 => hnl1 (by rw [e9]; exact hX_la.1)) (fun e9 => hnl1 (by rw [e9]; exact hX_lb.1))).2.trans (hcz9 _ hu_120.2.2.2.1.1 hnl1 hu_120.2.2.2.1.2.1)⟩)⟩⟩⟩⟩, by rw [ht]; exact hP, va_K.moved hW.alike hK, hD⟩, hS.F ht⟩) hS.2.2 dX13_block_78
