def o_P13_blockP : List Cond := [.fieldLink RX13 35 "SsaForgeModel$Code" "made" "I", .fieldLink RX13 10 "SsaForgeModel$Code" "blocks" "Ljava/util/ArrayList;", .methodLink RX13 38 yJx4a65c_size_8abf5, .instanceMethod yJx4a65c_size_8abf5, .selects RJx4a65c yJx4a65c_size_8abf5 yJx4a65c_size_8abf5, .initialized RJx4a65c, .methodLink RX13 49 yJx4a65c_get_915e3, .instanceMethod yJx4a65c_get_915e3, .selects RJx4a65c yJx4a65c_get_915e3 yJx4a65c_get_915e3, .classLink RX13 42 "SsaForgeModel$Block", .fieldLink RX13 53 "SsaForgeModel$Block" "phis" "Ljava/util/ArrayList;", .methodLink RX13 32 yJx4a65c_clear_da8c8, .instanceMethod yJx4a65c_clear_da8c8, .selects RJx4a65c yJx4a65c_clear_da8c8 yJx4a65c_clear_da8c8, .fieldLink RX13 54 "SsaForgeModel$Block" "rows" "Ljava/util/ArrayList;", .fieldLink RX13 22 "SsaForgeModel$Code" "all" "Ljava/util/ArrayList;", .methodLink RX13 45 yJx4a65c_add_9ea2d, .instanceMethod yJx4a65c_add_9ea2d, .selects RJx4a65c yJx4a65c_add_9ea2d yJx4a65c_add_9ea2d, .classLink RX13 42 RX12, .instantiable RX12 5, .initialized RX12, .instanceMethod yX12_init]
def v_P13_blockP : List Cond := .code yX13_block cX13_block 2 (some (.object "SsaForgeModel$Block")) :: (o_P13_blockP ++ (wsX130 ++ (v_PL_size ++ (v_PL_get ++ (wsX120 ++ (v_PL_clearA ++ (v_PL_addAX ++ (v_X12_initP ++ []))))))))
theorem mow_P13_blockP : ∀ w ∈ o_P13_blockP, w ∈ v_P13_blockP := fun _ h => List.mem_cons_of_mem _ (List.mem_append_left _ h)
theorem mem_P13_blockP_0 : ∀ w ∈ wsX130, w ∈ v_P13_blockP := fun _ h => List.mem_cons_of_mem _ (List.mem_append_right _ (List.mem_append_left _ h))
theorem mem_P13_blockP_1 : ∀ w ∈ v_PL_size, w ∈ v_P13_blockP := fun _ h => List.mem_cons_of_mem _ (List.mem_append_right _ (List.mem_append_right _ (List.mem_append_left _ h)))
theorem mem_P13_blockP_2 : ∀ w ∈ v_PL_get, w ∈ v_P13_blockP := fun _ h => List.mem_cons_of_mem _ (List.mem_append_right _ (List.mem_append_right _ (List.mem_append_right _ (List.mem_append_left _ h))))
theorem mem_P13_blockP_3 : ∀ w ∈ wsX120, w ∈ v_P13_blockP := fun _ h => List.mem_cons_of_mem _ (List.mem_append_right _ (List.mem_append_right _ (List.mem_append_right _ (List.mem_append_right _ (List.mem_append_left _ h)))))
theorem mem_P13_blockP_4 : ∀ w ∈ v_PL_clearA, w ∈ v_P13_blockP := fun _ h => List.mem_cons_of_mem _ (List.mem_append_right _ (List.mem_append_right _ (List.mem_append_right _ (List.mem_append_right _ (List.mem_append_right _ (List.mem_append_left _ h))))))
theorem mem_P13_blockP_5 : ∀ w ∈ v_PL_addAX, w ∈ v_P13_blockP := fun _ h => List.mem_cons_of_mem _ (List.mem_append_right _ (List.mem_append_right _ (List.mem_append_right _ (List.mem_append_right _ (List.mem_append_right _ (List.mem_append_right _ (List.mem_append_left _ h)))))))
theorem mem_P13_blockP_6 : ∀ w ∈ v_X12_initP, w ∈ v_P13_blockP := fun _ h => List.mem_cons_of_mem _ (List.mem_append_right _ (List.mem_append_right _ (List.mem_append_right _ (List.mem_append_right _ (List.mem_append_right _ (List.mem_append_right _ (List.mem_append_right _ (List.mem_append_left _ h))))))))
set_option maxRecDepth 20000 in
theorem gw_P13_blockP : v_P13_blockP.all goodWord = true := by decide +kernel
set_option maxRecDepth 20000 in
theorem g_P13_blockP_PL_size : GoodIn v_P13_blockP (wsV RX13 38 RJx4a65c yJx4a65c_size_8abf5 v_PL_size) := goodIn_app (goodIn_sub (fun w h => mow_P13_blockP w (by revert w h; decide +kernel)) (by decide +kernel)) (goodIn_sub mem_P13_blockP_1 gw_PL_size)
set_option maxRecDepth 20000 in
theorem g_P13_blockP_PL_get : GoodIn v_P13_blockP (wsV RX13 49 RJx4a65c yJx4a65c_get_915e3 v_PL_get) := goodIn_app (goodIn_sub (fun w h => mow_P13_blockP w (by revert w h; decide +kernel)) (by decide +kernel)) (goodIn_sub mem_P13_blockP_2 gw_PL_get)
set_option maxRecDepth 20000 in
theorem g_P13_blockP_PL_clearA : GoodIn v_P13_blockP (wsV RX13 32 RJx4a65c yJx4a65c_clear_da8c8 v_PL_clearA) := goodIn_app (goodIn_sub (fun w h => mow_P13_blockP w (by revert w h; decide +kernel)) (by decide +kernel)) (goodIn_sub mem_P13_blockP_4 gw_PL_clearA)
set_option maxRecDepth 20000 in
theorem g_P13_blockP_PL_addAX : GoodIn v_P13_blockP (wsV RX13 45 RJx4a65c yJx4a65c_add_9ea2d v_PL_addAX) := goodIn_app (goodIn_sub (fun w h => mow_P13_blockP w (by revert w h; decide +kernel)) (by decide +kernel)) (goodIn_sub mem_P13_blockP_5 gw_PL_addAX)
set_option maxHeartbeats 4000000 in
set_option maxRecDepth 100000 in
theorem c_P13_blockP (l : Launch) (dC : Nat → ClassId) (dI : Nat → Nat → Nat) (cI : ClassId) (cZ : ClassId) (hc : Nat) (v13_2 : Value) (v13_3 : Value) (v13_4 : Value) (z13_made : Int) (la : Nat) (lb : Nat) (lr : Nat) (cO : ClassId) (L : List Nat) (P : PO) (sx_ed : Nat) (hNz13_made : 0 ≤ z13_made ∧ z13_made ≤ 9000) (hX_g : GLR L P cO cI cZ sx_ed) (hX_la : la ∈ L ∧ P.kd la = 30 ∧ P.ek la = 12 ∧ P.ow la = la) (hX_lb : lb ∈ L ∧ P.kd lb = 30 ∧ P.ek lb = 12 ∧ P.ow lb = lb) (hX_lr : lr ∈ L ∧ P.kd lr = 30 ∧ P.ek lr = 17 ∧ P.ow lr = lr) (hX_ab : la ≠ lb) (hX_ds : DST P lb) (hNr : z13_made ≤ P.lz lb ∧ P.lz lb ≤ 4164 ∧ 0 ≤ z13_made ∧ P.lz la ≤ 4164 ∧ 0 ≤ P.lz la) (hX_V : LVA L P) (sz : Nat) (sx_mi : Nat) (HU : Heap) : Met l yX13_block v_P13_blockP ({ frames := 7, cells := 6, slots := 12510, locals := 191 }) (va_Pc [.ref hc] (fun U => U.heap.size = sz ∧ va_P (dC, dI) vwQ ([(hc, .inr (12, [.ref lb, .ref lr, v13_2, v13_3, v13_4, .ref la, .int (zI (z13_made))]))] ++ va_pl L (pE P)) U.heap ∧ va_K (dC, dI) vwQ [(cO, .object "java/lang/Object"), (cI, .int), (cZ, .boolean)] U ∧ va_D (fun _ => True) ([(hc, .inr (12, [.ref lb, .ref lr, v13_2, v13_3, v13_4, .ref la, .int (zI (z13_made))]))] ++ va_pl L (pE P)) ∧ va_Nw (.castable "SsaForgeModel$Block" "SsaForgeModel$Block") U ∧ va_Nw (.castable "SsaForgeModel$Row" "java/lang/Object") U ∧ va_Nw (.castable "SsaForgeModel$Phi" "java/lang/Object") U ∧ va_Nw (.castable "SsaForgeModel$Block" "java/lang/Object") U ∧ va_Dc U ∧ va_Mi "[Ljava/lang/Object;" sx_mi U ∧ va_AO "java/lang/Object" U ∧ va_T (.object "java/lang/Object") sx_ed 0 (fun _ => .null) (va_A ([(hc, .inr (12, [.ref lb, .ref lr, v13_2, v13_3, v13_4, .ref la, .int (zI (z13_made))]))] ++ va_pl L (pE P)) sz) U U.heap ∧ va_Z "java/util/ArrayList" "DEFAULTCAPACITY_EMPTY_ELEMENTDATA" "[Ljava/lang/Object;" (.ref sx_ed) (va_A ([(hc, .inr (12, [.ref lb, .ref lr, v13_2, v13_3, v13_4, .ref la, .int (zI (z13_made))]))] ++ va_pl L (pE P)) sz) U U.heap ∧ U.heap = HU ∧ va_Nw (.methodLinkNest RX12 23 yX17_init "SsaForgeModel") U ∧ va_Nw (.methodLinkNest RX13 44 yX12_init "SsaForgeModel") U)) (va_Qr (fun _ : Unit => True) (fun (_ : Unit) (rq : Nat) (t : State) => ∃ (z0_9 : Int) (Ln_9 : List Nat) (Pn_9 : PO) (kc_9 : Nat) (ks_9 : Nat), ((RM HU t.heap kc_9 ks_9 ∧ ((ks_9 : Int) ≤ PSI wSL Ln_9 Pn_9 - PSI wSL L P ∧ 40 * (kc_9 : Int) ≤ PSI wCE Ln_9 Pn_9 - PSI wCE L P)) ∧ ((0 ≤ z0_9 ∧ z0_9 ≤ 9001) ∧ (KEG [la, lb] L P Ln_9 Pn_9 ∧ GLR Ln_9 Pn_9 cO cI cZ sx_ed ∧ CB9 la lb rq (z13_made) L P Ln_9 Pn_9 ∧ DST Pn_9 lb ∧ (z0_9 = z13_made + 1) ∧ Pn_9.lz lr = P.lz lr ∧ LVA Ln_9 Pn_9 ∧ (PSI wSL Ln_9 Pn_9 = PSI wSL L P + 18 * (Pn_9.lz lb - P.lz lb) + (LVS (Pn_9.cap la) - LVS (P.cap la)) + (LVS (Pn_9.cap lb) - LVS (P.cap lb)) ∧ PSI wCE Ln_9 Pn_9 = PSI wCE L P + 160 * (Pn_9.lz lb - P.lz lb) + 4 * (LVS (Pn_9.cap la) - LVS (P.cap la)) + 4 * (LVS (Pn_9.cap lb) - LVS (P.cap lb)) ∧ LVS (Pn_9.cap lr) = LVS (P.cap lr) ∧ PSI wSL Ln_9 Pn_9 - PSI wSL L P ≤ 12510) ∧ LVG (Pn_9.cap la) (P.cap la) (Pn_9.lz la)))) ∧ va_P (dC, dI) vwQ ([(hc, .inr (12, [.ref lb, .ref lr, v13_2, v13_3, v13_4, .ref la, .int (zI (z0_9))]))] ++ va_pl Ln_9 (pE Pn_9)) t.heap ∧ va_K (dC, dI) vwQ [(cO, .object "java/lang/Object"), (cI, .int), (cZ, .boolean)] t ∧ va_D (va_A ([(hc, .inr (12, [.ref lb, .ref lr, v13_2, v13_3, v13_4, .ref la, .int (zI (z13_made))]))] ++ va_pl L (pE P)) sz) ([(hc, .inr (12, [.ref lb, .ref lr, v13_2, v13_3, v13_4, .ref la, .int (zI (z0_9))]))] ++ va_pl Ln_9 (pE Pn_9))) (va_A ([(hc, .inr (12, [.ref lb, .ref lr, v13_2, v13_3, v13_4, .ref la, .int (zI (z13_made))]))] ++ va_pl L (pE P)) sz)) 6 12510 (va_A ([(hc, .inr (12, [.ref lb, .ref lr, v13_2, v13_3, v13_4, .ref la, .int (zI (z13_made))]))] ++ va_pl L (pE P)) sz) := by
  refine Met.ofW (cc := cX13_block) (maxL := 2) (ret := (some (.object "SsaForgeModel$Block"))) (by decide) rfl ?_
  intro p e s m args below meth c s₁ B hml hv
  obtain ⟨rfl, hsz, hP, hK, hD0, hp0, hp1, hp2, hp3, hp4, hp5, hp6, hp7, hp8, hp9, hp10, hp11⟩ := hv
  have hx := B.exec
  have hb := B.bytes
  have hr := B.returns
  have hts := atoms_spec (ws := v_P13_blockP) B.pre
  have hown : s.vm.findClass RX13 = some m.cls := findClass_of_methodNamed B.named
  have hlocks := B.notSynchronized
  have ow : ∀ {k : Nat} {w : Cond}, o_P13_blockP[k]? = some w → w.before ([.ref hc] : List Value).toArray s = true := fun h => hts _ (mow_P13_blockP _ (List.mem_of_getElem? h))
  subst hsz
  have hD := hD0.self (sz := s.heap.size)
  generalize hAe : va_A ([(hc, .inr (12, [.ref lb, .ref lr, v13_2, v13_3, v13_4, .ref la, .int (zI (z13_made))]))] ++ va_pl L (pE P)) s.heap.size = A at hD hp6 hp7 hp8 ⊢
  have hA : ∀ q : Nat, s.heap.size ≤ q → A q := fun q h => by rw [← hAe]; exact Or.inr h
  have hS : va_S A s.heap s.heap [] := va_S.rf
  have hP : va_P (dC, dI) vwQ ([(hc, .inr (12, [.ref lb, .ref lr, v13_2, v13_3, v13_4, .ref la, .int (zI (z13_made))]))] ++ va_pl L (pE P)) s.heap := hP
  have hl := lv_entry ([.ref hc]) (n := 2) (Nat.le_of_ble_eq_true rfl)
  rw [lg_entry_eq]
  generalize (lg_sl ([.ref hc]) ++ List.replicate (2 - (lg_sl ([.ref hc])).length) Slot.unset).toArray = ls at hl ⊢
  have hl : lv_has ls 2 [(0, .ref hc)] := hl
  obtain ⟨H, hH⟩ : ∃ H, H = s.heap := ⟨_, rfl⟩
  rw [← hH] at hP
  have hS : va_S A s.heap H [] := by rw [hH]; exact hS
  rw [← hH]
  refine zW_cap (fun Q hQ => ?_)
  have hX_g9 := hX_g
  have hC_la := hX_la
  have hC_lb := hX_lb
  have hC_lr := hX_lr
  refine lv_aload_n hx hb dX13_block_0 rfl (lv_at hl 0 rfl) ?_
  refine va_get (D := (dC, dI)) (ci := 12) (v := .int (zI (z13_made))) (C := RX13) (T := TX13) (N := 7) hx hb hts mem_P13_blockP_0 hown hK hP 0 rfl rfl 6 (by decide) (ow (k := 0) rfl) (fun _ h9 => h9) rfl dX13_block_1 ?_
  refine lv_aload_n hx hb dX13_block_4 rfl (lv_at hl 0 rfl) ?_
  refine va_get (D := (dC, dI)) (ci := 12) (v := .ref lb) (C := RX13) (T := TX13) (N := 7) hx hb hts mem_P13_blockP_0 hown hK hP 0 rfl rfl 0 (by decide) (ow (k := 1) rfl) (fun _ h9 => h9) rfl dX13_block_5 ?_
  have hlk_1 := (show LOK L P cO 12 lb from (by have q9 := (hX_g9.gla lb hC_lb.1 hC_lb.2.1).1; rw [hC_lb.2.2.1] at q9; exact q9))
  have hX_x := hlk_1.1
  have hX_k := hlk_1.2.1
  have hlz9 := hlk_1.2.2.1
  have hPc := hP.part (X := [(hc, .inr (12, [.ref lb, .ref lr, v13_2, v13_3, v13_4, .ref la, .int (zI (z13_made))]))]) (cx := []) (pl := va_pl L (pE P)) [] rfl
  have hDc := hD.part (X := [(hc, .inr (12, [.ref lb, .ref lr, v13_2, v13_3, v13_4, .ref la, .int (zI (z13_made))]))]) (cx := []) (pl := va_pl L (pE P)) [] (by decide) rfl
  have hKc := hK.sub (tys' := [(cO, .object "java/lang/Object")]) [0] rfl
  have hFc := va_freeP (X := [(hc, .inr (12, [.ref lb, .ref lr, v13_2, v13_3, v13_4, .ref la, .int (zI (z13_made))]))]) (cx := []) (pl := va_pl L (pE P)) hD hS hA [] rfl
  refine va_calli (va_runV (As := []) (rest := [.int (zI (z13_made))]) ⟨hx, hb, hml, hown, hts⟩ (c_PL_size l dC dI cO L P lb hX_x hX_k (by omega) H.size) (cwV 0 hts g_P13_blockP_PL_size rfl rfl rfl (by decide +kernel) ⟨(Nat.le_of_ble_eq_true rfl), (Nat.le_of_ble_eq_true rfl)⟩) ⟨fun a U g mk q => by obtain ⟨q0, q1, qP, qK, qD⟩ := q; exact ⟨q0, q1, qP, va_K.moved (u := U) (U := U.calling g mk a) (Vm.Alike.refl U.vm) qK, qD⟩, recv_30 hKc hPc hC_lb.1 hC_lb.2.1, fun U hU hW => ⟨rfl, by rw [hU], by rw [hU]; exact hPc, va_K.moved hW.alike hKc, hDc.weaken (fun _ _ _ _ => trivial)⟩⟩ rfl rfl hl.1 rfl (lv_room (Nat.le_of_ble_eq_true rfl)) dX13_block_8 ⟨(Nat.le_of_ble_eq_true rfl), (Nat.le_of_ble_eq_true rfl)⟩) hS (fun q _ h => hFc q h) hFc (fun r_2 u t H1 locs ht hvm hw hB hz1 hk1 hS => ?_)
  obtain ⟨hP1, hK1, hD1⟩ := hB
  rw [ht] at hP1
  have hK1 := va_K.moved hvm.symm hK1
  obtain ⟨hP, hD⟩ := va_joinP (X := [(hc, .inr (12, [.ref lb, .ref lr, v13_2, v13_3, v13_4, .ref la, .int (zI (z13_made))]))]) (cx := []) (wr := [(hc, .inr (12, [.ref lb, .ref lr, v13_2, v13_3, v13_4, .ref la, .int (zI (z13_made))]))]) (rx := []) (pl := va_pl L (pE P)) (pl1 := va_pl L (pE P)) hP hD [] [0] rfl rfl (by decide) (by decide) hk1 hFc hP1 hD1
  have hK := (hK.sub (tys' := [(cI, .int), (cZ, .boolean)]) [1, 2] rfl).app hK1
  generalize H1 = H at hP hS ⊢
  have hP : va_P (dC, dI) vwQ ([(hc, .inr (12, [.ref lb, .ref lr, v13_2, v13_3, v13_4, .ref la, .int (zI (z13_made))]))] ++ va_pl L (pE P)) H := hP
  have hD : va_D A ([(hc, .inr (12, [.ref lb, .ref lr, v13_2, v13_3, v13_4, .ref la, .int (zI (z13_made))]))] ++ va_pl L (pE P)) := hD
  have hK : va_K (dC, dI) vwQ [(cI, .int), (cZ, .boolean), (cO, .object "java/lang/Object")] s := hK
  refine W.widen (k := 0) (n := 0) (Nat.le_of_ble_eq_true rfl) (Nat.le_of_ble_eq_true rfl) ?_
  obtain rfl : r_2 = (zI (P.lz lb)) := hw
  refine lv_icmp_ne (tgt := 29) hx hb dX13_block_11 (by decide) (fun b11 => ?_) (fun b11 => ?_)
  · have yb11 : ¬ (z13_made : Int) = (P.lz lb : Int) := fun q => b11 ((zI_eq (a := z13_made) (b := P.lz lb) (by omega) (by omega) (by omega) (by omega)).mpr q)
    refine lv_aload_n hx hb dX13_block_29 rfl (lv_at hl 0 rfl) ?_
    refine va_get (D := (dC, dI)) (ci := 12) (v := .ref lb) (C := RX13) (T := TX13) (N := 7) hx hb hts mem_P13_blockP_0 hown hK hP 0 rfl rfl 0 (by decide) (ow (k := 1) rfl) (fun _ h9 => h9) rfl dX13_block_30 ?_
    refine lv_aload_n hx hb dX13_block_33 rfl (lv_at hl 0 rfl) ?_
    refine va_get (D := (dC, dI)) (ci := 12) (v := .int (zI (z13_made))) (C := RX13) (T := TX13) (N := 7) hx hb hts mem_P13_blockP_0 hown hK hP 0 rfl rfl 6 (by decide) (ow (k := 0) rfl) (fun _ h9 => h9) rfl dX13_block_34 ?_
    have hlk_3 := (show LOK L P cO 12 lb from (by have q9 := (hX_g9.gla lb hC_lb.1 hC_lb.2.1).1; rw [hC_lb.2.2.1] at q9; exact q9))
    obtain ⟨x, ex⟩ : ∃ q9 : Nat, q9 = P.el lb (z13_made) := ⟨_, rfl⟩
    have hX_x := hlk_3.1
    have hX_k := hlk_3.2.1
    have hq9 := hlk_3.row (i := z13_made) (by omega) (by omega)
    have hX_q : P.le lb ∈ L ∧ P.kd (P.le lb) = 31 ∧ P.ac (P.le lb) = cO := ⟨hq9.1, hq9.2.1, hq9.2.2.1⟩
    have hq8 := hq9.2.2.2
    have hX_e0 : P.oa (P.le lb) (z13_made).toNat = some x := (by rw [ex]; exact (hlk_3.2.2.2.2 (z13_made) (by omega) (by omega)).1)
    have hxm : x ∈ L := (by rw [ex]; exact (hlk_3.2.2.2.2 (z13_made) (by omega) (by omega)).2.1)
    have hxk := (hlk_3.2.2.2.2 (z13_made) (by omega) (by omega)).2.2
    rw [← ex] at hxk
    have hPc := hP.part (X := [(hc, .inr (12, [.ref lb, .ref lr, v13_2, v13_3, v13_4, .ref la, .int (zI (z13_made))]))]) (cx := []) (pl := va_pl L (pE P)) [] rfl
    have hDc := hD.part (X := [(hc, .inr (12, [.ref lb, .ref lr, v13_2, v13_3, v13_4, .ref la, .int (zI (z13_made))]))]) (cx := []) (pl := va_pl L (pE P)) [] (by decide) rfl
    have hKc := hK.sub (tys' := [(cO, .object "java/lang/Object")]) [2] rfl
    have hFc := va_freeP (X := [(hc, .inr (12, [.ref lb, .ref lr, v13_2, v13_3, v13_4, .ref la, .int (zI (z13_made))]))]) (cx := []) (pl := va_pl L (pE P)) hD hS hA [] rfl
    refine va_callr (va_runV (As := [.int (zI (z13_made))]) (rest := []) ⟨hx, hb, hml, hown, hts⟩ (c_PL_get l dC dI cO L P lb z13_made x hX_x hX_k hX_q (by omega) hX_e0 H.size) (cwV 1 hts g_P13_blockP_PL_get rfl rfl rfl (by decide +kernel) ⟨(Nat.le_of_ble_eq_true rfl), (Nat.le_of_ble_eq_true rfl)⟩) ⟨fun a U g mk q => by obtain ⟨q0, q1, qP, qK, qD⟩ := q; exact ⟨q0, q1, qP, va_K.moved (u := U) (U := U.calling g mk a) (Vm.Alike.refl U.vm) qK, qD⟩, recv_30 hKc hPc hC_lb.1 hC_lb.2.1, fun U hU hW => ⟨rfl, by rw [hU], by rw [hU]; exact hPc, va_K.moved hW.alike hKc, hDc.weaken (fun _ _ _ _ => trivial)⟩⟩ rfl rfl hl.1 rfl (lv_room (Nat.le_of_ble_eq_true rfl)) dX13_block_37 ⟨(Nat.le_of_ble_eq_true rfl), (Nat.le_of_ble_eq_true rfl)⟩) hS (fun q _ h => hFc q h) hFc (fun u q_4 t H1 locs ht hvm hw hB hz1 hk1 hS => ?_)
    obtain ⟨hxt_4, hP1, hK1, hD1⟩ := hB
    rw [ht] at hP1
    have hK1 := va_K.moved hvm.symm hK1
    obtain ⟨hP, hD⟩ := va_joinP (X := [(hc, .inr (12, [.ref lb, .ref lr, v13_2, v13_3, v13_4, .ref la, .int (zI (z13_made))]))]) (cx := []) (wr := [(hc, .inr (12, [.ref lb, .ref lr, v13_2, v13_3, v13_4, .ref la, .int (zI (z13_made))]))]) (rx := []) (pl := va_pl L (pE P)) (pl1 := va_pl L (pE P)) hP hD [] [0] rfl rfl (by decide) (by decide) hk1 hFc hP1 hD1
    have hK := (hK.sub (tys' := [(cI, .int), (cZ, .boolean)]) [0, 1] rfl).app hK1
    generalize H1 = H at hP hS ⊢
    have hP : va_P (dC, dI) vwQ ([(hc, .inr (12, [.ref lb, .ref lr, v13_2, v13_3, v13_4, .ref la, .int (zI (z13_made))]))] ++ va_pl L (pE P)) H := hP
    have hD : va_D A ([(hc, .inr (12, [.ref lb, .ref lr, v13_2, v13_3, v13_4, .ref la, .int (zI (z13_made))]))] ++ va_pl L (pE P)) := hD
    have hK : va_K (dC, dI) vwQ [(cI, .int), (cZ, .boolean), (cO, .object "java/lang/Object")] s := hK
    refine W.widen (k := 0) (n := 0) (Nat.le_of_ble_eq_true rfl) (Nat.le_of_ble_eq_true rfl) ?_
    rw [hxt_4]
    clear hX_e0
    obtain ⟨xb_5, h9⟩ : ∃ q9 : Nat, q9 = x := ⟨_, rfl⟩
    subst h9
    have hm_6 := hxm
    have hk_7 := hxk
    have hel9 := ex
    refine va_castY (C := "SsaForgeModel$Block") (nm := "SsaForgeModel$Block") hx hb hown (ow (k := 9) rfl) hp0 (recv_12 hK hP hm_6 hk_7) dX13_block_40 ?_
    refine lv_astore_n (lv' := [(1, .ref xb_5), (0, .ref hc)]) hx hb dX13_block_43 rfl hl (by decide) rfl (fun ls hl => ?_)
    refine lv_aload_n hx hb dX13_block_44 rfl (lv_at hl 1 rfl) ?_
    refine lv_dup hx hb dX13_block_45 rfl ?_
    refine va_get (D := (dC, dI)) (ci := 12) (v := .int (zI (z13_made))) (C := RX13) (T := TX13) (N := 7) hx hb hts mem_P13_blockP_0 hown hK hP 0 rfl rfl 6 (by decide) (ow (k := 0) rfl) (fun _ h9 => h9) rfl dX13_block_46 ?_
    refine lv_iconst (v := 1) hx hb dX13_block_49 (by decide) ?_
    refine lv_iadd hx hb dX13_block_50 ?_
    refine lv_topi (fun z ez => ?_)
    obtain rfl : z = zI (z13_made + 1) := ez.trans (zI_add (z13_made) (1))
    refine va_put (D := (dC, dI)) (ci := 12) (v := .int (zI (z13_made + 1))) (ty := .int) (C := RX13) (T := TX13) (N := 7) hx hb hts mem_P13_blockP_0 tyX13 tyX13_ok nmX13 hown hK hP hD hS 0 rfl rfl 6 (by decide) (ow (k := 0) rfl) (fun _ h9 => h9) rfl (by decide +kernel) rfl rfl (Nat.le_of_ble_eq_true rfl) dX13_block_51 (fun H locs hP hD hS => ?_)
    have hP : va_P (dC, dI) vwQ ([(hc, .inr (12, [.ref lb, .ref lr, v13_2, v13_3, v13_4, .ref la, .int (zI (z13_made + 1))]))] ++ va_pl L (pE P)) H := hP
    have hD : va_D A ([(hc, .inr (12, [.ref lb, .ref lr, v13_2, v13_3, v13_4, .ref la, .int (zI (z13_made + 1))]))] ++ va_pl L (pE P)) := hD
    obtain ⟨z_9, ez_9⟩ : ∃ z9 : Int, z9 = z13_made + 1 := ⟨_, rfl⟩
    rw [← ez_9] at hP hD
    have hP : va_P (dC, dI) vwQ ([(hc, .inr (12, [.ref lb, .ref lr, v13_2, v13_3, v13_4, .ref la, .int (zI (z_9))]))] ++ va_pl L (pE P)) H := hP
    have hD : va_D A ([(hc, .inr (12, [.ref lb, .ref lr, v13_2, v13_3, v13_4, .ref la, .int (zI (z_9))]))] ++ va_pl L (pE P)) := hD
    refine lv_aload_n hx hb dX13_block_54 rfl (lv_at hl 0 rfl) ?_
    have hfb := (hX_g9.gb hm_6 hk_7).2
    obtain ⟨kp_10, hkp_10⟩ := va_pl_get (X := [(hc, .inr (12, [.ref lb, .ref lr, v13_2, v13_3, v13_4, .ref la, .int (zI (z_9))]))]) (f := pE P) hm_6
    rw [pE_block hk_7] at hkp_10
    refine va_get (D := (dC, dI)) (ci := 19) (v := .ref (P.bp xb_5)) (C := RX12) (T := TX12) (N := 5) hx hb hts mem_P13_blockP_3 hown hK hP kp_10 hkp_10 rfl 0 (by decide) (ow (k := 10) rfl) (fun _ h9 => h9) rfl dX13_block_55 ?_
    obtain ⟨pr_11, epr_11⟩ : ∃ q9 : Nat, q9 = P.bp xb_5 := ⟨_, rfl⟩
    rw [← epr_11]
    have hlk_12 : LOK L P cO 15 pr_11 := (by rw [epr_11]; exact hX_g9.lbp hm_6 hk_7)
    have hlz9 := hlk_12.2.2.1
    have hek_13 : HID (P.ek pr_11 = 15) := (by rw [epr_11]; exact (hX_g9.owc xb_5 hm_6 hk_7).2.1)
    have hlk_14 := (show LOK L P cO 15 pr_11 from (by rw [← epr_11.symm]; exact hX_g9.lbp hm_6 hk_7))
    have hX_x := hlk_14.1
    have hX_k := hlk_14.2.1
    have hlz9 := hlk_14.2.2.1
    have hX_c := hX_g9.adc hlk_14
    have hPc := hP.part (X := [(hc, .inr (12, [.ref lb, .ref lr, v13_2, v13_3, v13_4, .ref la, .int (zI (z_9))]))]) (cx := []) (pl := va_pl L (pE P)) [] rfl
    have hDc := hD.part (X := [(hc, .inr (12, [.ref lb, .ref lr, v13_2, v13_3, v13_4, .ref la, .int (zI (z_9))]))]) (cx := []) (pl := va_pl L (pE P)) [] (by decide) rfl
    have hKc := hK.sub (tys' := [(cO, .object "java/lang/Object")]) [2] rfl
    have hFc := va_freeP (X := [(hc, .inr (12, [.ref lb, .ref lr, v13_2, v13_3, v13_4, .ref la, .int (zI (z_9))]))]) (cx := []) (pl := va_pl L (pE P)) hD hS hA [] rfl
    refine va_callv (va_runV (As := []) (rest := []) ⟨hx, hb, hml, hown, hts⟩ (c_PL_clearA l dC dI cO L P pr_11 sx_ed hX_x hX_k (by omega) hX_c H.size) (cwV 0 hts g_P13_blockP_PL_clearA rfl rfl rfl (by decide +kernel) ⟨(Nat.le_of_ble_eq_true rfl), (Nat.le_of_ble_eq_true rfl)⟩) ⟨fun a U g mk q => by obtain ⟨q0, q1, qP, qK, qD⟩ := q; exact ⟨q0, q1, qP, va_K.moved (u := U) (U := U.calling g mk a) (Vm.Alike.refl U.vm) qK, qD⟩, recv_30 hKc hPc hlk_12.1 hlk_12.2.1, fun U hU hW => ⟨rfl, by rw [hU], by rw [hU]; exact hPc, va_K.moved hW.alike hKc, hDc.weaken (fun _ _ _ _ => trivial)⟩⟩ rfl rfl hl.1 rfl (lv_room (Nat.le_of_ble_eq_true rfl)) dX13_block_58 ⟨(Nat.le_of_ble_eq_true rfl), (Nat.le_of_ble_eq_true rfl)⟩) hS (fun q _ h => hFc q h) hFc (fun  u t H1 locs ht hvm hw hB hz1 hk1 hS => ?_)
    obtain ⟨Pn_15, hxt_15, hP1, hK1, hD1⟩ := hB
    rw [ht] at hP1
    have hK1 := va_K.moved hvm.symm hK1
    obtain ⟨hP, hD⟩ := va_joinP (X := [(hc, .inr (12, [.ref lb, .ref lr, v13_2, v13_3, v13_4, .ref la, .int (zI (z_9))]))]) (cx := []) (wr := [(hc, .inr (12, [.ref lb, .ref lr, v13_2, v13_3, v13_4, .ref la, .int (zI (z_9))]))]) (rx := []) (pl := va_pl L (pE P)) (pl1 := va_pl L (pE Pn_15)) hP hD [] [0] rfl rfl (by decide) (by decide) hk1 hFc hP1 hD1
    have hK := (hK.sub (tys' := [(cI, .int), (cZ, .boolean)]) [0, 1] rfl).app hK1
    generalize H1 = H at hP hS ⊢
    have hP : va_P (dC, dI) vwQ ([(hc, .inr (12, [.ref lb, .ref lr, v13_2, v13_3, v13_4, .ref la, .int (zI (z_9))]))] ++ va_pl L (pE Pn_15)) H := hP
    have hD : va_D A ([(hc, .inr (12, [.ref lb, .ref lr, v13_2, v13_3, v13_4, .ref la, .int (zI (z_9))]))] ++ va_pl L (pE Pn_15)) := hD
    have hK : va_K (dC, dI) vwQ [(cI, .int), (cZ, .boolean), (cO, .object "java/lang/Object")] s := hK
    refine W.widen (k := 0) (n := 0) (Nat.le_of_ble_eq_true rfl) (Nat.le_of_ble_eq_true rfl) ?_
    have hu_16 := HID.mk (hxt_15)
    replace hxt_15 := HID.mk hxt_15
    have hke_17 : KEG [la, lb] L P L Pn_15 := hu_16.kegR hX_g9 hlk_12.1 hlk_12.2.1 (Or.inl (fun e9 => kd_ne hk_7 hlk_12.2.1 (by decide) (show xb_5 = pr_11 from (by have q9 := (hX_g9.owc xb_5 hm_6 hk_7).2.2.1; rw [epr_11.symm, e9] at q9; exact q9.symm))))
    have hak_18 : GLR L Pn_15 cO cI cZ sx_ed := hu_16.glfR hX_g9 hlk_12.1 hlk_12.2.1
    have hst_19 := hu_16.chgo hX_g9.owa hlk_12.1 hlk_12.2.1
    have hel_20 : ∀ i : Int, 0 ≤ i → i < P.lz la → Pn_15.el la i = P.el la i := (fun i i0 i1 => (hu_16.elO hX_g9.owa hlk_12.1 hlk_12.2.1 hC_la.1 hC_la.2.1 (ek_ne hC_la.2.2.1 hek_13.out (by decide)) i0 (by omega)))
    have hel_21 : ∀ i : Int, 0 ≤ i → i < P.lz lb → Pn_15.el lb i = P.el lb i := (fun i i0 i1 => (hu_16.elO hX_g9.owa hlk_12.1 hlk_12.2.1 hC_lb.1 hC_lb.2.1 (ek_ne hC_lb.2.2.1 hek_13.out (by decide)) i0 (by omega)))
    have hel_22 : ∀ i : Int, 0 ≤ i → i < P.lz lr → Pn_15.el lr i = P.el lr i := (fun i i0 i1 => (hu_16.elO hX_g9.owa hlk_12.1 hlk_12.2.1 hC_lr.1 hC_lr.2.1 (ek_ne hC_lr.2.2.1 hek_13.out (by decide)) i0 (by omega)))
    have hef_23 : Pn_15.el lb (z13_made) = xb_5 := (by have i0 : (0 : Int) ≤ z13_made := (by omega); exact (hu_16.elO hX_g9.owa hlk_12.1 hlk_12.2.1 hC_lb.1 hC_lb.2.1 (ek_ne hC_lb.2.2.1 hek_13.out (by decide)) i0 (by omega)).trans hel9.symm)
    have hq_24 : HID (la ∈ L ∧ Pn_15.kd la = 30) := hke_17.mem hC_la.1 hC_la.2.1 (by decide)
    have hq_25 : HID (lb ∈ L ∧ Pn_15.kd lb = 30) := hke_17.mem hC_lb.1 hC_lb.2.1 (by decide)
    have hq_26 : HID (lr ∈ L ∧ Pn_15.kd lr = 30) := hke_17.mem hC_lr.1 hC_lr.2.1 (by decide)
    have hq_27 : HID (xb_5 ∈ L ∧ Pn_15.kd xb_5 = 12) := hke_17.mem hm_6 hk_7 (by decide)
    have hq_28 : HID (pr_11 ∈ L ∧ Pn_15.kd pr_11 = 30) := hke_17.mem hlk_12.1 hlk_12.2.1 (by decide)
    have ha_29 : HID (Pn_15.bp xb_5 = pr_11) := hke_17.bp hm_6 hk_7 epr_11.symm
    have hA_30 : KEG [la, lb] L P L Pn_15 := (KEG.refl [la, lb] L P).trans hke_17
    have : Pn_15.lz pr_11 = 0 := hu_16.2.1
    have : Pn_15.lz la = P.lz la := hu_16.lz (ek_ne hC_la.2.2.1 hek_13.out (by decide))
    have : Pn_15.lz lb = P.lz lb := hu_16.lz (ek_ne hC_lb.2.2.1 hek_13.out (by decide))
    have : Pn_15.lz lr = P.lz lr := hu_16.lz (ek_ne hC_lr.2.2.1 hek_13.out (by decide))
    have : Pn_15.cap la = P.cap la := hu_16.cap la
    have : LVS (Pn_15.cap la) = LVS (P.cap la) := congrArg LVS (hu_16.cap la)
    have : Pn_15.cap lb = P.cap lb := hu_16.cap lb
    have : LVS (Pn_15.cap lb) = LVS (P.cap lb) := congrArg LVS (hu_16.cap lb)
    have : Pn_15.cap lr = P.cap lr := hu_16.cap lr
    have : LVS (Pn_15.cap lr) = LVS (P.cap lr) := congrArg LVS (hu_16.cap lr)
    have hek_31 : HID (Pn_15.ek la = 12) := (by rw [hke_17.ek hC_la.1 hC_la.2.1 (by decide)]; exact hC_la.2.2.1)
    have how_32 : HID (Pn_15.ow la = la) := ((hke_17.1 la hC_la.1 (by rw [hC_la.2.1]; decide)).2.2.2.1 hC_la.2.1 hC_la.2.2.2).1
    have hek_33 : HID (Pn_15.ek lb = 12) := (by rw [hke_17.ek hC_lb.1 hC_lb.2.1 (by decide)]; exact hC_lb.2.2.1)
    have how_34 : HID (Pn_15.ow lb = lb) := ((hke_17.1 lb hC_lb.1 (by rw [hC_lb.2.1]; decide)).2.2.2.1 hC_lb.2.1 hC_lb.2.2.2).1
    have hek_35 : HID (Pn_15.ek lr = 17) := (by rw [hke_17.ek hC_lr.1 hC_lr.2.1 (by decide)]; exact hC_lr.2.2.1)
    have how_36 : HID (Pn_15.ow lr = lr) := ((hke_17.1 lr hC_lr.1 (by rw [hC_lr.2.1]; decide)).2.2.2.1 hC_lr.2.1 hC_lr.2.2.2).1
    have hcz := (((hke_17.1 lr hC_lr.1 (by rw [hC_lr.2.1]; decide)).2.2.2.1 hC_lr.2.1 hC_lr.2.2.2).2 (fun q9 => by simp at q9; rcases q9 with q9 | q9; exact absurd q9 (ek_ne hC_lr.2.2.1 hC_la.2.2.1 (by decide)); exact absurd q9 (ek_ne hC_lr.2.2.1 hC_lb.2.2.1 (by decide)))).1
    have hek_37 : HID (Pn_15.ek pr_11 = 15) := (by rw [hke_17.ek hlk_12.1 hlk_12.2.1 (by decide)]; exact hek_13.out)
    have hps := PSI.same (w := wSL) (L := L) hu_16.1.1
    have hpc := PSI.same (w := wCE) (L := L) hu_16.1.1
    have hlv_38 : LVA L Pn_15 := LVA.same hX_V hu_16.1.1
    refine lv_aload_n hx hb dX13_block_61 rfl (lv_at hl 0 rfl) ?_
    have hfb := (hak_18.gb hq_27.1 hq_27.2).2
    obtain ⟨kp_39, hkp_39⟩ := va_pl_get (X := [(hc, .inr (12, [.ref lb, .ref lr, v13_2, v13_3, v13_4, .ref la, .int (zI (z_9))]))]) (f := pE Pn_15) hq_27.1
    rw [pE_block hq_27.2] at hkp_39
    refine va_get (D := (dC, dI)) (ci := 19) (v := .ref (Pn_15.br xb_5)) (C := RX12) (T := TX12) (N := 5) hx hb hts mem_P13_blockP_3 hown hK hP kp_39 hkp_39 rfl 1 (by decide) (ow (k := 14) rfl) (fun _ h9 => h9) rfl dX13_block_62 ?_
    obtain ⟨pr_40, epr_40⟩ : ∃ q9 : Nat, q9 = Pn_15.br xb_5 := ⟨_, rfl⟩
    rw [← epr_40]
    have hlk_41 : LOK L Pn_15 cO 17 pr_40 := (by rw [epr_40]; exact hak_18.lbr hq_27.1 hq_27.2)
    have hlz9 := hlk_41.2.2.1
    have hek_42 : HID (Pn_15.ek pr_40 = 17) := (by rw [epr_40]; exact (hak_18.owc xb_5 hq_27.1 hq_27.2).1.1)
    have hlk_43 := (show LOK L Pn_15 cO 17 pr_40 from (by rw [← epr_40.symm]; exact hak_18.lbr hq_27.1 hq_27.2))
    have hX_x := hlk_43.1
    have hX_k := hlk_43.2.1
    have hlz9 := hlk_43.2.2.1
    have hX_c := hak_18.adc hlk_43
    have hPc := hP.part (X := [(hc, .inr (12, [.ref lb, .ref lr, v13_2, v13_3, v13_4, .ref la, .int (zI (z_9))]))]) (cx := []) (pl := va_pl L (pE Pn_15)) [] rfl
    have hDc := hD.part (X := [(hc, .inr (12, [.ref lb, .ref lr, v13_2, v13_3, v13_4, .ref la, .int (zI (z_9))]))]) (cx := []) (pl := va_pl L (pE Pn_15)) [] (by decide) rfl
    have hKc := hK.sub (tys' := [(cO, .object "java/lang/Object")]) [2] rfl
    have hFc := va_freeP (X := [(hc, .inr (12, [.ref lb, .ref lr, v13_2, v13_3, v13_4, .ref la, .int (zI (z_9))]))]) (cx := []) (pl := va_pl L (pE Pn_15)) hD hS hA [] rfl
    refine va_callv (va_runV (As := []) (rest := []) ⟨hx, hb, hml, hown, hts⟩ (c_PL_clearA l dC dI cO L Pn_15 pr_40 sx_ed hX_x hX_k (by omega) hX_c H.size) (cwV 0 hts g_P13_blockP_PL_clearA rfl rfl rfl (by decide +kernel) ⟨(Nat.le_of_ble_eq_true rfl), (Nat.le_of_ble_eq_true rfl)⟩) ⟨fun a U g mk q => by obtain ⟨q0, q1, qP, qK, qD⟩ := q; exact ⟨q0, q1, qP, va_K.moved (u := U) (U := U.calling g mk a) (Vm.Alike.refl U.vm) qK, qD⟩, recv_30 hKc hPc hlk_41.1 hlk_41.2.1, fun U hU hW => ⟨rfl, by rw [hU], by rw [hU]; exact hPc, va_K.moved hW.alike hKc, hDc.weaken (fun _ _ _ _ => trivial)⟩⟩ rfl rfl hl.1 rfl (lv_room (Nat.le_of_ble_eq_true rfl)) dX13_block_65 ⟨(Nat.le_of_ble_eq_true rfl), (Nat.le_of_ble_eq_true rfl)⟩) hS (fun q _ h => hFc q h) hFc (fun  u t H1 locs ht hvm hw hB hz1 hk1 hS => ?_)
    obtain ⟨Pn_44, hxt_44, hP1, hK1, hD1⟩ := hB
    rw [ht] at hP1
    have hK1 := va_K.moved hvm.symm hK1
    obtain ⟨hP, hD⟩ := va_joinP (X := [(hc, .inr (12, [.ref lb, .ref lr, v13_2, v13_3, v13_4, .ref la, .int (zI (z_9))]))]) (cx := []) (wr := [(hc, .inr (12, [.ref lb, .ref lr, v13_2, v13_3, v13_4, .ref la, .int (zI (z_9))]))]) (rx := []) (pl := va_pl L (pE Pn_15)) (pl1 := va_pl L (pE Pn_44)) hP hD [] [0] rfl rfl (by decide) (by decide) hk1 hFc hP1 hD1
    have hK := (hK.sub (tys' := [(cI, .int), (cZ, .boolean)]) [0, 1] rfl).app hK1
    generalize H1 = H at hP hS ⊢
    have hP : va_P (dC, dI) vwQ ([(hc, .inr (12, [.ref lb, .ref lr, v13_2, v13_3, v13_4, .ref la, .int (zI (z_9))]))] ++ va_pl L (pE Pn_44)) H := hP
    have hD : va_D A ([(hc, .inr (12, [.ref lb, .ref lr, v13_2, v13_3, v13_4, .ref la, .int (zI (z_9))]))] ++ va_pl L (pE Pn_44)) := hD
    have hK : va_K (dC, dI) vwQ [(cI, .int), (cZ, .boolean), (cO, .object "java/lang/Object")] s := hK
    refine W.widen (k := 0) (n := 0) (Nat.le_of_ble_eq_true rfl) (Nat.le_of_ble_eq_true rfl) ?_
    have hu_45 := HID.mk (hxt_44)
    replace hxt_44 := HID.mk hxt_44
    have hke_46 : KEG [la, lb] L Pn_15 L Pn_44 := hu_45.kegR hak_18 hlk_41.1 hlk_41.2.1 (Or.inl (fun e9 => kd_ne hq_27.2 hlk_41.2.1 (by decide) (show xb_5 = pr_40 from (by have q9 := (hak_18.owc xb_5 hq_27.1 hq_27.2).1.2.1; rw [epr_40.symm, e9] at q9; exact q9.symm))))
    have hak_47 : GLR L Pn_44 cO cI cZ sx_ed := hu_45.glfR hak_18 hlk_41.1 hlk_41.2.1
    have hst_48 := hu_45.chgo hak_18.owa hlk_41.1 hlk_41.2.1
    have hel_49 : ∀ i : Int, 0 ≤ i → i < P.lz la → Pn_44.el la i = P.el la i := (fun i i0 i1 => (hu_45.elO hak_18.owa hlk_41.1 hlk_41.2.1 hq_24.1 hq_24.2 (ek_ne hek_31.out hek_42.out (by decide)) i0 (by omega)).trans (hel_20 i i0 i1))
    have hel_50 : ∀ i : Int, 0 ≤ i → i < P.lz lb → Pn_44.el lb i = P.el lb i := (fun i i0 i1 => (hu_45.elO hak_18.owa hlk_41.1 hlk_41.2.1 hq_25.1 hq_25.2 (ek_ne hek_33.out hek_42.out (by decide)) i0 (by omega)).trans (hel_21 i i0 i1))
    have hel_51 : ∀ i : Int, 0 ≤ i → i < P.lz lr → Pn_44.el lr i = P.el lr i := (fun i i0 i1 => (hu_45.elO hak_18.owa hlk_41.1 hlk_41.2.1 hq_26.1 hq_26.2 (fun e9 => (show Pn_15.ow pr_40 ≠ pr_40 from (fun e9 => kd_ne hq_27.2 hlk_41.2.1 (by decide) (show xb_5 = pr_40 from (by have q9 := (hak_18.owc xb_5 hq_27.1 hq_27.2).1.2.1; rw [epr_40.symm, e9] at q9; exact q9.symm)))) (by rw [← e9]; exact how_36.out)) i0 (by omega)).trans (hel_22 i i0 i1))
    have hef_52 : Pn_44.el lb (z13_made) = xb_5 := (by have i0 : (0 : Int) ≤ z13_made := (by omega); exact (hu_45.elO hak_18.owa hlk_41.1 hlk_41.2.1 hq_25.1 hq_25.2 (ek_ne hek_33.out hek_42.out (by decide)) i0 (by omega)).trans hef_23)
    have hq_53 : HID (la ∈ L ∧ Pn_44.kd la = 30) := hke_46.mem hq_24.1 hq_24.2 (by decide)
    have hq_54 : HID (lb ∈ L ∧ Pn_44.kd lb = 30) := hke_46.mem hq_25.1 hq_25.2 (by decide)
    have hq_55 : HID (lr ∈ L ∧ Pn_44.kd lr = 30) := hke_46.mem hq_26.1 hq_26.2 (by decide)
    have hq_56 : HID (xb_5 ∈ L ∧ Pn_44.kd xb_5 = 12) := hke_46.mem hq_27.1 hq_27.2 (by decide)
    have hq_57 : HID (pr_11 ∈ L ∧ Pn_44.kd pr_11 = 30) := hke_46.mem hq_28.1 hq_28.2 (by decide)
    have hq_58 : HID (pr_40 ∈ L ∧ Pn_44.kd pr_40 = 30) := hke_46.mem hlk_41.1 hlk_41.2.1 (by decide)
    have ha_59 : HID (Pn_44.bp xb_5 = pr_11) := hke_46.bp hq_27.1 hq_27.2 ha_29.out
    have ha_60 : HID (Pn_44.br xb_5 = pr_40) := hke_46.br hq_27.1 hq_27.2 epr_40.symm
    have hA_61 : KEG [la, lb] L P L Pn_44 := hA_30.trans hke_46
    have : Pn_44.lz pr_40 = 0 := hu_45.2.1
    have : Pn_44.lz la = Pn_15.lz la := hu_45.lz (ek_ne hek_31.out hek_42.out (by decide))
    have : Pn_44.lz lb = Pn_15.lz lb := hu_45.lz (ek_ne hek_33.out hek_42.out (by decide))
    have : Pn_44.lz lr = Pn_15.lz lr := hu_45.lz (fun e9 => (show Pn_15.ow pr_40 ≠ pr_40 from (fun e9 => kd_ne hq_27.2 hlk_41.2.1 (by decide) (show xb_5 = pr_40 from (by have q9 := (hak_18.owc xb_5 hq_27.1 hq_27.2).1.2.1; rw [epr_40.symm, e9] at q9; exact q9.symm)))) (by rw [← e9]; exact how_36.out))
    have : Pn_44.lz pr_11 = Pn_15.lz pr_11 := hu_45.lz (ek_ne hek_37.out hek_42.out (by decide))
    have : Pn_44.cap la = Pn_15.cap la := hu_45.cap la
    have : LVS (Pn_44.cap la) = LVS (Pn_15.cap la) := congrArg LVS (hu_45.cap la)
    have : Pn_44.cap lb = Pn_15.cap lb := hu_45.cap lb
    have : LVS (Pn_44.cap lb) = LVS (Pn_15.cap lb) := congrArg LVS (hu_45.cap lb)
    have : Pn_44.cap lr = Pn_15.cap lr := hu_45.cap lr
    have : LVS (Pn_44.cap lr) = LVS (Pn_15.cap lr) := congrArg LVS (hu_45.cap lr)
    have hek_62 : HID (Pn_44.ek la = 12) := (by rw [hke_46.ek hq_24.1 hq_24.2 (by decide)]; exact hek_31.out)
    have how_63 : HID (Pn_44.ow la = la) := ((hke_46.1 la hq_24.1 (by rw [hq_24.2]; decide)).2.2.2.1 hq_24.2 how_32.out).1
    have hek_64 : HID (Pn_44.ek lb = 12) := (by rw [hke_46.ek hq_25.1 hq_25.2 (by decide)]; exact hek_33.out)
    have how_65 : HID (Pn_44.ow lb = lb) := ((hke_46.1 lb hq_25.1 (by rw [hq_25.2]; decide)).2.2.2.1 hq_25.2 how_34.out).1
    have hek_66 : HID (Pn_44.ek lr = 17) := (by rw [hke_46.ek hq_26.1 hq_26.2 (by decide)]; exact hek_35.out)
    have how_67 : HID (Pn_44.ow lr = lr) := ((hke_46.1 lr hq_26.1 (by rw [hq_26.2]; decide)).2.2.2.1 hq_26.2 how_36.out).1
    have hcz := (((hke_46.1 lr hq_26.1 (by rw [hq_26.2]; decide)).2.2.2.1 hq_26.2 how_36.out).2 (fun q9 => by simp at q9; rcases q9 with q9 | q9; exact absurd q9 (ek_ne hek_35.out hek_31.out (by decide)); exact absurd q9 (ek_ne hek_35.out hek_33.out (by decide)))).1
    have hek_68 : HID (Pn_44.ek pr_11 = 15) := (by rw [hke_46.ek hq_28.1 hq_28.2 (by decide)]; exact hek_37.out)
    have hek_69 : HID (Pn_44.ek pr_40 = 17) := (by rw [hke_46.ek hlk_41.1 hlk_41.2.1 (by decide)]; exact hek_42.out)
    have hps := PSI.same (w := wSL) (L := L) hu_45.1.1
    have hpc := PSI.same (w := wCE) (L := L) hu_45.1.1
    have hlv_70 : LVA L Pn_44 := LVA.same hlv_38 hu_45.1.1
    refine lv_aload_n hx hb dX13_block_68 rfl (lv_at hl 1 rfl) ?_
    refine va_get (D := (dC, dI)) (ci := 12) (v := .ref la) (C := RX13) (T := TX13) (N := 7) hx hb hts mem_P13_blockP_0 hown hK hP 0 rfl rfl 5 (by decide) (ow (k := 15) rfl) (fun _ h9 => h9) rfl dX13_block_69 ?_
    refine lv_aload_n hx hb dX13_block_72 rfl (lv_at hl 0 rfl) ?_
    have hlk_71 := (show LOK L Pn_44 cO 12 la from (by have q9 := (hak_47.gla la hq_53.1 hq_53.2).1; rw [hek_62.out] at q9; exact q9))
    have hX_x := hlk_71.1
    have hX_k := hlk_71.2.1
    have hlz9 := hlk_71.2.2.1
    have hX_c := hak_47.adc hlk_71
    have hX_y : xb_5 ∈ L ∧ OBK (Pn_44.kd xb_5) := ⟨hq_56.1, (by rw [hq_56.2]; unfold OBK; decide)⟩
    have hvv_72 := hlv_70 la hlk_71.1 hlk_71.2.1
    have hX_v := hvv_72.1
    have hnd_73 : L.Nodup := pl_nd hD
    have had_74 := hX_c
    have hPc := hP.part (X := [(hc, .inr (12, [.ref lb, .ref lr, v13_2, v13_3, v13_4, .ref la, .int (zI (z_9))]))]) (cx := []) (pl := va_pl L (pE Pn_44)) [] rfl
    have hDc := hD.part (X := [(hc, .inr (12, [.ref lb, .ref lr, v13_2, v13_3, v13_4, .ref la, .int (zI (z_9))]))]) (cx := []) (pl := va_pl L (pE Pn_44)) [] (by decide) rfl
    have hKc := hK.sub (tys' := [(cO, .object "java/lang/Object")]) [2] rfl
    have hFc := va_freeP (X := [(hc, .inr (12, [.ref lb, .ref lr, v13_2, v13_3, v13_4, .ref la, .int (zI (z_9))]))]) (cx := []) (pl := va_pl L (pE Pn_44)) hD hS hA [] rfl
    have hgl := ADC.gl6 hX_c (by omega)
    refine va_calli (va_runV (As := [.ref xb_5]) (rest := []) ⟨hx, hb, hml, hown, hts⟩ (c_PL_addAX l dC dI cO L Pn_44 la xb_5 sx_ed hX_x hX_k (by omega) hX_c hX_y hX_v H.size sx_mi) (cwV 1 hts g_P13_blockP_PL_addAX rfl rfl rfl (by decide +kernel) ⟨(Nat.le_of_ble_eq_true rfl), (Nat.le_of_ble_eq_true rfl)⟩) ⟨fun a U g mk q => by obtain ⟨q0, q1, qP, qK, qD, e0, e1, e2, e3, e4, e5, e6, e7⟩ := q; exact ⟨q0, q1, qP, va_K.moved (u := U) (U := U.calling g mk a) (Vm.Alike.refl U.vm) qK, qD, va_Nw.same rfl (u := U) (U := U.calling g mk a) rfl e0, va_Nw.same rfl (u := U) (U := U.calling g mk a) rfl e1, va_Nw.same rfl (u := U) (U := U.calling g mk a) rfl e2, va_Dc.moved (u := U) (U := U.calling g mk a) (Vm.Alike.refl U.vm) e3, va_Mi.moved (u := U) (U := U.calling g mk a) (Vm.Alike.refl U.vm) e4, va_AO.moved (u := U) (U := U.calling g mk a) (Vm.Alike.refl U.vm) e5, va_T.moved (u := U) (U := U.calling g mk a) (Vm.Alike.refl U.vm) e6, va_Z.moved (u := U) (U := U.calling g mk a) (Vm.Alike.refl U.vm) e7⟩, recv_30 hKc hPc hq_53.1 hq_53.2, fun U hU hW => ⟨rfl, by rw [hU], by rw [hU]; exact hPc, va_K.moved hW.alike hKc, hDc.weaken (fun _ _ _ _ => trivial), va_Nw.warmC hW hp1, va_Nw.warmC hW hp2, va_Nw.warmC hW hp3, va_Dc.moved hW.alike hp4, va_Mi.moved hW.alike hp5, va_AO.moved hW.alike hp6, by rw [hU]; exact va_T.narrow (va_T.moved hW.alike (va_T.kept hp7 hS.2.1)) hFc, by rw [hU]; exact va_Z.narrow (va_Z.moved hW.alike (va_Z.kept hp8 hS.2.1)) hFc⟩⟩ rfl rfl hl.1 rfl (lv_room (Nat.le_of_ble_eq_true rfl)) dX13_block_73 ⟨(Nat.le_trans (show 0 + (Pn_44.gc la) ≤ 1 by omega) (Nat.le_of_ble_eq_true rfl)), (Nat.le_trans (show 0 + (Pn_44.gx la) ≤ 6246 by omega) (Nat.le_of_ble_eq_true rfl))⟩) hS (fun q _ h => hFc q h) hFc (fun r_75 z_76 t H1 locs ht hvm hw hB hz1 hk1 hS => ?_)
    obtain ⟨Ln_77, Pn_78, hxt_78, hP1, hK1, hD1⟩ := hB
    rw [ht] at hP1
    have hK1 := va_K.moved hvm.symm hK1
    obtain ⟨hP, hD⟩ := va_joinP (X := [(hc, .inr (12, [.ref lb, .ref lr, v13_2, v13_3, v13_4, .ref la, .int (zI (z_9))]))]) (cx := []) (wr := [(hc, .inr (12, [.ref lb, .ref lr, v13_2, v13_3, v13_4, .ref la, .int (zI (z_9))]))]) (rx := []) (pl := va_pl L (pE Pn_44)) (pl1 := va_pl Ln_77 (pE Pn_78)) hP hD [] [0] rfl rfl (by decide) (by decide) hk1 hFc hP1 hD1
    have hK := (hK.sub (tys' := [(cI, .int), (cZ, .boolean)]) [0, 1] rfl).app hK1
    generalize H1 = H at hP hS ⊢
    have hP : va_P (dC, dI) vwQ ([(hc, .inr (12, [.ref lb, .ref lr, v13_2, v13_3, v13_4, .ref la, .int (zI (z_9))]))] ++ va_pl Ln_77 (pE Pn_78)) H := hP
    have hD : va_D A ([(hc, .inr (12, [.ref lb, .ref lr, v13_2, v13_3, v13_4, .ref la, .int (zI (z_9))]))] ++ va_pl Ln_77 (pE Pn_78)) := hD
    have hK : va_K (dC, dI) vwQ [(cI, .int), (cZ, .boolean), (cO, .object "java/lang/Object")] s := hK
    refine W.widen (k := (0 + (Pn_44.gc la))) (n := (0 + (Pn_44.gx la))) (by omega) (by omega) ?_
    obtain ⟨rfl, hzz_76⟩ := hw
    have hu_79 := HID.mk (hxt_78)
    replace hxt_78 := HID.mk hxt_78
    have hfx := hu_79.2.2.2.2.2.2.2
    have han := hu_79.2.2.2.1
    have hke_80 : KEG [la, lb] L Pn_44 Ln_77 Pn_78 := hu_79.1.kegR hak_47 hq_53.1 hq_53.2 hfx (Or.inr (by simp))
    have hak_81 : GLR Ln_77 Pn_78 cO cI cZ sx_ed := hak_47.add hu_79.1 hq_53.1 hq_53.2 hfx hek_62.out hq_56.1 hq_56.2 hu_79.2.1 (by omega) hu_79.2.2.1 hu_79.2.2.2.1.1 (by have q9 := hak_47.adc40 hlk_71; omega) hu_79.2.2.2.2.1 hu_79.2.2.2.2.2.1 hu_79.2.2.2.2.2.2.1 (fun q9 => absurd q9 (by decide))
    clear han
    have hst_82 := hu_79.1.chgo hak_47.owa hq_53.1 hq_53.2 hfx
    have hza := hu_79.2.1
    have hel_83 : ∀ i : Int, 0 ≤ i → i < P.lz la → Pn_78.el la i = P.el la i := (fun i i0 i1 => (hu_79.1.elx hu_79.2.2.2.2.2.2.1 i0 (by omega)).trans (hel_49 i i0 i1))
    have hel_84 : ∀ i : Int, 0 ≤ i → i < P.lz lb → Pn_78.el lb i = P.el lb i := (fun i i0 i1 => (hu_79.1.elO hak_47.owa hq_53.1 hq_53.2 hfx hq_54.1 hq_54.2 hX_ab.symm i0 (by omega)).trans (hel_50 i i0 i1))
    have hel_85 : ∀ i : Int, 0 ≤ i → i < P.lz lr → Pn_78.el lr i = P.el lr i := (fun i i0 i1 => (hu_79.1.elO hak_47.owa hq_53.1 hq_53.2 hfx hq_55.1 hq_55.2 (ek_ne hek_66.out hek_62.out (by decide)) i0 (by omega)).trans (hel_51 i i0 i1))
    have hef_86 : Pn_78.el lb (z13_made) = xb_5 := (by have i0 : (0 : Int) ≤ z13_made := (by omega); exact (hu_79.1.elO hak_47.owa hq_53.1 hq_53.2 hfx hq_54.1 hq_54.2 hX_ab.symm i0 (by omega)).trans hef_52)
    have hlast := hu_79.1.elast hu_79.2.2.2.2.2.1
    have hq_87 : HID (la ∈ Ln_77 ∧ Pn_78.kd la = 30) := hke_80.mem hq_53.1 hq_53.2 (by decide)
    have hq_88 : HID (lb ∈ Ln_77 ∧ Pn_78.kd lb = 30) := hke_80.mem hq_54.1 hq_54.2 (by decide)
    have hq_89 : HID (lr ∈ Ln_77 ∧ Pn_78.kd lr = 30) := hke_80.mem hq_55.1 hq_55.2 (by decide)
    have hq_90 : HID (xb_5 ∈ Ln_77 ∧ Pn_78.kd xb_5 = 12) := hke_80.mem hq_56.1 hq_56.2 (by decide)
    have hq_91 : HID (pr_11 ∈ Ln_77 ∧ Pn_78.kd pr_11 = 30) := hke_80.mem hq_57.1 hq_57.2 (by decide)
    have hq_92 : HID (pr_40 ∈ Ln_77 ∧ Pn_78.kd pr_40 = 30) := hke_80.mem hq_58.1 hq_58.2 (by decide)
    have ha_93 : HID (Pn_78.bp xb_5 = pr_11) := hke_80.bp hq_56.1 hq_56.2 ha_59.out
    have ha_94 : HID (Pn_78.br xb_5 = pr_40) := hke_80.br hq_56.1 hq_56.2 ha_60.out
    have hA_95 : KEG [la, lb] L P Ln_77 Pn_78 := hA_61.trans hke_80
    have : Pn_78.lz lb = Pn_44.lz lb := (hu_79.1.chg lb hq_54.1 (fun q9 => by rcases q9 with q9 | q9; exact hX_ab.symm q9; exact hak_47.owa.nle hq_53.1 hq_53.2 hfx hq_54.1 (by rw [hq_54.2]; decide) q9)).2.1 0
    have : Pn_78.lz lr = Pn_44.lz lr := (hu_79.1.chg lr hq_55.1 (fun q9 => by rcases q9 with q9 | q9; exact (ek_ne hek_66.out hek_62.out (by decide)) q9; exact hak_47.owa.nle hq_53.1 hq_53.2 hfx hq_55.1 (by rw [hq_55.2]; decide) q9)).2.1 0
    have : Pn_78.lz pr_11 = Pn_44.lz pr_11 := (hu_79.1.chg pr_11 hq_57.1 (fun q9 => by rcases q9 with q9 | q9; exact (ek_ne hek_68.out hek_62.out (by decide)) q9; exact hak_47.owa.nle hq_53.1 hq_53.2 hfx hq_57.1 (by rw [hq_57.2]; decide) q9)).2.1 0
    have : Pn_78.lz pr_40 = Pn_44.lz pr_40 := (hu_79.1.chg pr_40 hq_58.1 (fun q9 => by rcases q9 with q9 | q9; exact (ek_ne hek_69.out hek_62.out (by decide)) q9; exact hak_47.owa.nle hq_53.1 hq_53.2 hfx hq_58.1 (by rw [hq_58.2]; decide) q9)).2.1 0
    have : Pn_78.cap lb = Pn_44.cap lb := hu_79.1.capO hak_47.owa hq_53.1 hq_53.2 hfx hq_54.1 hq_54.2 hX_ab.symm
    have : LVS (Pn_78.cap lb) = LVS (Pn_44.cap lb) := congrArg LVS (hu_79.1.capO hak_47.owa hq_53.1 hq_53.2 hfx hq_54.1 hq_54.2 hX_ab.symm)
    have : Pn_78.cap lr = Pn_44.cap lr := hu_79.1.capO hak_47.owa hq_53.1 hq_53.2 hfx hq_55.1 hq_55.2 (ek_ne hek_66.out hek_62.out (by decide))
    have : LVS (Pn_78.cap lr) = LVS (Pn_44.cap lr) := congrArg LVS (hu_79.1.capO hak_47.owa hq_53.1 hq_53.2 hfx hq_55.1 hq_55.2 (ek_ne hek_66.out hek_62.out (by decide)))
    have hza := hu_79.2.1
    have hek_96 : HID (Pn_78.ek la = 12) := (by rw [hke_80.ek hq_53.1 hq_53.2 (by decide)]; exact hek_62.out)
    have how_97 : HID (Pn_78.ow la = la) := ((hke_80.1 la hq_53.1 (by rw [hq_53.2]; decide)).2.2.2.1 hq_53.2 how_63.out).1
    have hek_98 : HID (Pn_78.ek lb = 12) := (by rw [hke_80.ek hq_54.1 hq_54.2 (by decide)]; exact hek_64.out)
    have how_99 : HID (Pn_78.ow lb = lb) := ((hke_80.1 lb hq_54.1 (by rw [hq_54.2]; decide)).2.2.2.1 hq_54.2 how_65.out).1
    have hek_100 : HID (Pn_78.ek lr = 17) := (by rw [hke_80.ek hq_55.1 hq_55.2 (by decide)]; exact hek_66.out)
    have how_101 : HID (Pn_78.ow lr = lr) := ((hke_80.1 lr hq_55.1 (by rw [hq_55.2]; decide)).2.2.2.1 hq_55.2 how_67.out).1
    have hcz := (((hke_80.1 lr hq_55.1 (by rw [hq_55.2]; decide)).2.2.2.1 hq_55.2 how_67.out).2 (fun q9 => by simp at q9; rcases q9 with q9 | q9; exact absurd q9 (ek_ne hek_66.out hek_62.out (by decide)); exact absurd q9 (ek_ne hek_66.out hek_64.out (by decide)))).1
    have hek_102 : HID (Pn_78.ek pr_11 = 15) := (by rw [hke_80.ek hq_57.1 hq_57.2 (by decide)]; exact hek_68.out)
    have hek_103 : HID (Pn_78.ek pr_40 = 17) := (by rw [hke_80.ek hq_58.1 hq_58.2 (by decide)]; exact hek_69.out)
    clear hfx
    have hfx := hu_79.2.2.2.2.2.2.2
    have hnd_104 : Ln_77.Nodup := pl_nd hD
    have hpp_105 := PSI.putR hnd_73 hnd_104 hak_47.glfR hu_79.1 hlk_71.1 hlk_71.2.1 hfx hvv_72.1 (by omega) hu_79.2.2.2.1.2.2.1 hu_79.2.2.2.1.2.2.2 had_74 hvv_72.2
    have hps := hpp_105.1
    have hpc := hpp_105.2.1
    have hpg := PSI.glsR hnd_73 hnd_104 hak_47.glfR hu_79.1 hlk_71.1 hlk_71.2.1 hfx
    have hlv_106 : LVA Ln_77 Pn_78 := LVA.gl1R hlv_70 hak_47.glfR hu_79.1 hlk_71.1 hlk_71.2.1 hfx hpp_105.2.2
    have hvga : LV2 (Pn_78.cap la) (Pn_44.cap la) (Pn_44.lz la + 1) := LVG.put hu_79.1 hvv_72.1 (by omega) (by omega) hu_79.2.2.2.1.2.2.1 hu_79.2.2.2.1.2.2.2
    refine lv_pop hx hb dX13_block_76 rfl ?_
    refine lv_aload_n hx hb dX13_block_77 rfl (lv_at hl 0 rfl) ?_
    subst hQ
    have hK := hK.sub (tys' := [(cO, .object "java/lang/Object"), (cI, .int), (cZ, .boolean)]) [2, 0, 1] rfl
    refine W_knowS (fun hrm9 => ?_)
    refine W.widen (k := 6) (n := 12510) (by omega) (by omega) ?_
    exact W.aret (v := .ref xb_5) hx hb hr (Or.inl ⟨_, rfl⟩) (Or.inr ⟨_, rfl⟩) (fun t ht hW => ⟨⟨(), xb_5, rfl, trivial, z_9, Ln_77, Pn_78, (0 + (Pn_44.gc la)), (0 + (Pn_44.gx la)), ⟨⟨(by rw [ht, ← hp9]; exact hrm9), (by omega)⟩, ⟨(by omega), ⟨hA_95, hak_81, ⟨⟨hq_90.1, hq_90.2, hef_86.symm, (by have h9 := hlast; rw [show Pn_44.lz la = P.lz la from (by omega)] at h9; exact h9.symm), (by rw [ha_93.out]; omega), (by rw [ha_94.out]; omega)⟩, ⟨by omega, by omega, by omega⟩, hel_83, hel_84, ((((CHG.refl _ _ _).step hst_19 (Or.inr (Or.inr (Or.inl ha_93.out.symm)))).step hst_48 (Or.inr (Or.inr (Or.inr ha_94.out.symm)))).step hst_82 (Or.inl rfl))⟩, (hX_ds.blkR hX_g hX_lb hA_95 hel_84 (Or.inl (by omega))), by omega, by omega, hlv_106, ⟨by omega, by omega, by omega, by omega⟩, (((LVG.refl (P.cap la) (P.lz la)).to (show Pn_44.cap la = P.cap la from (by omega)) (show Pn_44.lz la = P.lz la from (by omega))).step hvga (by omega)).to rfl (by omega)⟩⟩⟩, by rw [ht]; exact hP, va_K.moved hW.alike hK, hD⟩, hS.F ht⟩) hS.2.2 dX13_block_78
  · have yb11 : (z13_made : Int) = (P.lz lb : Int) := (zI_eq (a := z13_made) (b := P.lz lb) (by omega) (by omega) (by omega) (by omega)).mp b11
    refine lv_aload_n hx hb dX13_block_14 rfl (lv_at hl 0 rfl) ?_
    refine va_get (D := (dC, dI)) (ci := 12) (v := .ref lb) (C := RX13) (T := TX13) (N := 7) hx hb hts mem_P13_blockP_0 hown hK hP 0 rfl rfl 0 (by decide) (ow (k := 1) rfl) (fun _ h9 => h9) rfl dX13_block_15 ?_
    refine va_new (ci := 19) (fs := [.null, .null, .null, .int 0, .int 0]) (C := RX12) (T := TX12) (N := 5) hx hb hts mem_P13_blockP_3 tyX12 tyX12_ok hown (ow (k := 19) rfl) (ow (k := 20) rfl) (ow (k := 21) rfl) hK hP hD hS hA rfl (df_X12) (Nat.le_of_ble_eq_true rfl) (Nat.le_of_ble_eq_true rfl) dX13_block_18 (fun q_107 H hP hD hS => ?_)
    have hP := pl_Pp (pl_new (X := [(hc, .inr (12, [.ref lb, .ref lr, v13_2, v13_3, v13_4, .ref la, .int (zI (z13_made))]))]) (pl := va_pl L (pE P))) hP
    have hD := pl_Dp (pl_new (X := [(hc, .inr (12, [.ref lb, .ref lr, v13_2, v13_3, v13_4, .ref la, .int (zI (z13_made))]))]) (pl := va_pl L (pE P))) hD
    have hP : va_P (dC, dI) vwQ ([(hc, .inr (12, [.ref lb, .ref lr, v13_2, v13_3, v13_4, .ref la, .int (zI (z13_made))])), (q_107, .inr (19, [.null, .null, .null, .int 0, .int 0]))] ++ va_pl L (pE P)) H := hP
    have hD : va_D A ([(hc, .inr (12, [.ref lb, .ref lr, v13_2, v13_3, v13_4, .ref la, .int (zI (z13_made))])), (q_107, .inr (19, [.null, .null, .null, .int 0, .int 0]))] ++ va_pl L (pE P)) := hD
    refine W.widen (k := 1) (n := 5) (Nat.le_of_ble_eq_true rfl) (Nat.le_of_ble_eq_true rfl) ?_
    refine lv_dup hx hb dX13_block_21 rfl ?_
    have hX_g := hX_g9
    have hPc := hP.part (X := [(hc, .inr (12, [.ref lb, .ref lr, v13_2, v13_3, v13_4, .ref la, .int (zI (z13_made))])), (q_107, .inr (19, [.null, .null, .null, .int 0, .int 0]))]) (cx := [(q_107, .inr (19, [.null, .null, .null, .int 0, .int 0]))]) (pl := va_pl L (pE P)) [1] rfl
    have hDc := hD.part (X := [(hc, .inr (12, [.ref lb, .ref lr, v13_2, v13_3, v13_4, .ref la, .int (zI (z13_made))])), (q_107, .inr (19, [.null, .null, .null, .int 0, .int 0]))]) (cx := [(q_107, .inr (19, [.null, .null, .null, .int 0, .int 0]))]) (pl := va_pl L (pE P)) [1] (by decide) rfl
    have hKc := hK.sub (tys' := [(cO, .object "java/lang/Object"), (cI, .int), (cZ, .boolean)]) [2, 0, 1] rfl
    have hFc := va_freeP (X := [(hc, .inr (12, [.ref lb, .ref lr, v13_2, v13_3, v13_4, .ref la, .int (zI (z13_made))])), (q_107, .inr (19, [.null, .null, .null, .int 0, .int 0]))]) (cx := [(q_107, .inr (19, [.null, .null, .null, .int 0, .int 0]))]) (pl := va_pl L (pE P)) hD hS hA [1] rfl
    refine va_callv (va_runIN (As := []) (rest := [.ref q_107, .ref lb]) ⟨hx, hb, hml, hown, hts⟩ (c_X12_initP l dC dI cI cZ q_107 cO L P sx_ed hX_g H.size) ⟨va_cnB 0 hts (goodIn_sub mem_P13_blockP_6 gw_X12_initP) rfl rfl rfl hp11 (ow (k := 21) rfl) (by decide +kernel) ⟨(Nat.le_of_ble_eq_true rfl), (Nat.le_of_ble_eq_true rfl)⟩, rfl, (ow (k := 22) rfl)⟩ ⟨fun a U g mk q => by obtain ⟨q0, q1, qP, qK, qD, e0, e1⟩ := q; exact ⟨q0, q1, qP, va_K.moved (u := U) (U := U.calling g mk a) (Vm.Alike.refl U.vm) qK, qD, va_Z.moved (u := U) (U := U.calling g mk a) (Vm.Alike.refl U.vm) e0, va_Nw.same rfl (u := U) (U := U.calling g mk a) rfl e1⟩, fun U hU hW => ⟨rfl, by rw [hU], by rw [hU]; exact hPc, va_K.moved hW.alike hKc, hDc.weaken (fun _ _ _ _ => trivial), by rw [hU]; exact va_Z.narrow (va_Z.moved hW.alike (va_Z.kept hp8 hS.2.1)) hFc, va_Nw.warmM hW hp10⟩⟩ rfl rfl hl.1 rfl (lv_room (Nat.le_of_ble_eq_true rfl)) dX13_block_22 ⟨(Nat.le_of_ble_eq_true rfl), (Nat.le_of_ble_eq_true rfl)⟩) hS (fun q _ h => hFc q h) hFc (fun  u t H1 locs ht hvm hw hB hz1 hk1 hS => ?_)
    obtain ⟨q0_108, q1_109, q2_110, Ln_111, Pn_112, hxt_112, hP1, hK1, hD1⟩ := hB
    rw [ht] at hP1
    have hK1 := va_K.moved hvm.symm hK1
    obtain ⟨hP, hD⟩ := va_joinP (X := [(hc, .inr (12, [.ref lb, .ref lr, v13_2, v13_3, v13_4, .ref la, .int (zI (z13_made))])), (q_107, .inr (19, [.null, .null, .null, .int 0, .int 0]))]) (cx := [(q_107, .inr (19, [.null, .null, .null, .int 0, .int 0]))]) (wr := [(hc, .inr (12, [.ref lb, .ref lr, v13_2, v13_3, v13_4, .ref la, .int (zI (z13_made))]))]) (rx := [(q_107, .inr (19, [.ref q0_108, .ref q1_109, .ref q2_110, .int 0, .int 0]))]) (pl := va_pl L (pE P)) (pl1 := va_pl Ln_111 (pE Pn_112)) hP hD [1] [0] rfl rfl (by decide) (by decide) hk1 hFc hP1 hD1
    have hK := (hK.sub (tys' := []) [] rfl).app hK1
    generalize H1 = H at hP hS ⊢
    have hP : va_P (dC, dI) vwQ ([(hc, .inr (12, [.ref lb, .ref lr, v13_2, v13_3, v13_4, .ref la, .int (zI (z13_made))])), (q_107, .inr (19, [.ref q0_108, .ref q1_109, .ref q2_110, .int 0, .int 0]))] ++ va_pl Ln_111 (pE Pn_112)) H := hP
    have hD : va_D A ([(hc, .inr (12, [.ref lb, .ref lr, v13_2, v13_3, v13_4, .ref la, .int (zI (z13_made))])), (q_107, .inr (19, [.ref q0_108, .ref q1_109, .ref q2_110, .int 0, .int 0]))] ++ va_pl Ln_111 (pE Pn_112)) := hD
    have hK : va_K (dC, dI) vwQ [(cO, .object "java/lang/Object"), (cI, .int), (cZ, .boolean)] s := hK
    refine W.widen (k := 4) (n := 18) (Nat.le_of_ble_eq_true rfl) (Nat.le_of_ble_eq_true rfl) ?_
    have hu_113 := HID.mk (hxt_112)
    replace hxt_112 := HID.mk hxt_112
    have hak_115 : GLR Ln_111 Pn_112 cO cI cZ sx_ed := hX_g9.ext hu_113.1 hu_113.2.1
    have hke_114 : KEG [la, lb] L P Ln_111 Pn_112 := hu_113.1.kegR hX_g9
    have hel_116 : ∀ i : Int, 0 ≤ i → i < P.lz la → Pn_112.el la i = P.el la i := (fun i i0 i1 => (hu_113.1.el hX_g9.owa hC_la.1 hC_la.2.1 i0 (by omega)))
    have hel_117 : ∀ i : Int, 0 ≤ i → i < P.lz lb → Pn_112.el lb i = P.el lb i := (fun i i0 i1 => (hu_113.1.el hX_g9.owa hC_lb.1 hC_lb.2.1 i0 (by omega)))
    have hel_118 : ∀ i : Int, 0 ≤ i → i < P.lz lr → Pn_112.el lr i = P.el lr i := (fun i i0 i1 => (hu_113.1.el hX_g9.owa hC_lr.1 hC_lr.2.1 i0 (by omega)))
    have hq_119 : HID (la ∈ Ln_111 ∧ Pn_112.kd la = 30) := hke_114.mem hC_la.1 hC_la.2.1 (by decide)
    have hq_120 : HID (lb ∈ Ln_111 ∧ Pn_112.kd lb = 30) := hke_114.mem hC_lb.1 hC_lb.2.1 (by decide)
    have hq_121 : HID (lr ∈ Ln_111 ∧ Pn_112.kd lr = 30) := hke_114.mem hC_lr.1 hC_lr.2.1 (by decide)
    have hA_122 : KEG [la, lb] L P Ln_111 Pn_112 := (KEG.refl [la, lb] L P).trans hke_114
    have : Pn_112.lz la = P.lz la := (hu_113.1 la hC_la.1).2.1 0
    have : Pn_112.lz lb = P.lz lb := (hu_113.1 lb hC_lb.1).2.1 0
    have : Pn_112.lz lr = P.lz lr := (hu_113.1 lr hC_lr.1).2.1 0
    have : Pn_112.cap la = P.cap la := hu_113.1.cap hX_g9.owa hC_la.1 hC_la.2.1
    have : LVS (Pn_112.cap la) = LVS (P.cap la) := congrArg LVS (hu_113.1.cap hX_g9.owa hC_la.1 hC_la.2.1)
    have : Pn_112.cap lb = P.cap lb := hu_113.1.cap hX_g9.owa hC_lb.1 hC_lb.2.1
    have : LVS (Pn_112.cap lb) = LVS (P.cap lb) := congrArg LVS (hu_113.1.cap hX_g9.owa hC_lb.1 hC_lb.2.1)
    have : Pn_112.cap lr = P.cap lr := hu_113.1.cap hX_g9.owa hC_lr.1 hC_lr.2.1
    have : LVS (Pn_112.cap lr) = LVS (P.cap lr) := congrArg LVS (hu_113.1.cap hX_g9.owa hC_lr.1 hC_lr.2.1)
    have hek_123 : HID (Pn_112.ek la = 12) := (by rw [hke_114.ek hC_la.1 hC_la.2.1 (by decide)]; exact hC_la.2.2.1)
    have how_124 : HID (Pn_112.ow la = la) := ((hke_114.1 la hC_la.1 (by rw [hC_la.2.1]; decide)).2.2.2.1 hC_la.2.1 hC_la.2.2.2).1
    have hek_125 : HID (Pn_112.ek lb = 12) := (by rw [hke_114.ek hC_lb.1 hC_lb.2.1 (by decide)]; exact hC_lb.2.2.1)
    have how_126 : HID (Pn_112.ow lb = lb) := ((hke_114.1 lb hC_lb.1 (by rw [hC_lb.2.1]; decide)).2.2.2.1 hC_lb.2.1 hC_lb.2.2.2).1
    have hek_127 : HID (Pn_112.ek lr = 17) := (by rw [hke_114.ek hC_lr.1 hC_lr.2.1 (by decide)]; exact hC_lr.2.2.1)
    have how_128 : HID (Pn_112.ow lr = lr) := ((hke_114.1 lr hC_lr.1 (by rw [hC_lr.2.1]; decide)).2.2.2.1 hC_lr.2.1 hC_lr.2.2.2).1
    have hcz := (((hke_114.1 lr hC_lr.1 (by rw [hC_lr.2.1]; decide)).2.2.2.1 hC_lr.2.1 hC_lr.2.2.2).2 (fun q9 => by simp at q9; rcases q9 with q9 | q9; exact absurd q9 (ek_ne hC_lr.2.2.1 hC_la.2.2.1 (by decide)); exact absurd q9 (ek_ne hC_lr.2.2.1 hC_lb.2.2.1 (by decide)))).1
    have hps := hu_113.2.2.2.2.2.2.1
    have hpc := hu_113.2.2.2.2.2.2.2.1
    have hlv_129 : LVA Ln_111 Pn_112 := LVA.extR hX_V hX_g9 hu_113.1 hu_113.2.2.2.2.2.2.2.2
    have hqn_132 : q_107 ∉ Ln_111 := pl_notin (X := [(hc, .inr (12, [.ref lb, .ref lr, v13_2, v13_3, v13_4, .ref la, .int (zI (z13_made))]))]) hD
    obtain ⟨Pm_130, ePm_130⟩ : ∃ Q9 : PO, Q9 = Pn_112.mblock q_107 q0_108 q1_109 q2_110 := ⟨_, rfl⟩
    obtain ⟨Lm_131, eLm_131⟩ : ∃ l9 : List Nat, l9 = q_107 :: Ln_111 := ⟨_, rfl⟩
    obtain ⟨hP, hD⟩ := pool_new (X := [(hc, .inr (12, [.ref lb, .ref lr, v13_2, v13_3, v13_4, .ref la, .int (zI (z13_made))]))]) (P' := Pm_130) (by rw [ePm_130]; exact pE_mblock Pn_112 q_107 q0_108 q1_109 q2_110) hP hD
    rw [← eLm_131] at hP hD
    have hex_133 : EXT9 Ln_111 Pn_112 Lm_131 Pm_130 := (by rw [eLm_131, ePm_130]; exact EXT9.one hqn_132)
    have hm9 := mblock_at Pn_112 q_107 q0_108 q1_109 q2_110
    rw [← ePm_130] at hm9
    have hak_134 : GLR Lm_131 Pm_130 cO cI cZ sx_ed := (by rw [eLm_131] at hex_133 ⊢; exact hak_115.new1R hex_133 (by rw [ePm_130]; exact mblock_newR hqn_132 hu_113.2.2.1 hu_113.2.2.2.1 hu_113.2.2.2.2.1))
    have hke_135 : KEG [la, lb] Ln_111 Pn_112 Lm_131 Pm_130 := hex_133.kegR hak_115
    have hP : va_P (dC, dI) vwQ ([(hc, .inr (12, [.ref lb, .ref lr, v13_2, v13_3, v13_4, .ref la, .int (zI (z13_made))]))] ++ va_pl Lm_131 (pE Pm_130)) H := hP
    have hD : va_D A ([(hc, .inr (12, [.ref lb, .ref lr, v13_2, v13_3, v13_4, .ref la, .int (zI (z13_made))]))] ++ va_pl Lm_131 (pE Pm_130)) := hD
    have hel_136 : ∀ i : Int, 0 ≤ i → i < P.lz la → Pm_130.el la i = P.el la i := (fun i i0 i1 => (hex_133.el hak_115.owa hq_119.1 hq_119.2 i0 (by omega)).trans (hel_116 i i0 i1))
    have hel_137 : ∀ i : Int, 0 ≤ i → i < P.lz lb → Pm_130.el lb i = P.el lb i := (fun i i0 i1 => (hex_133.el hak_115.owa hq_120.1 hq_120.2 i0 (by omega)).trans (hel_117 i i0 i1))
    have hel_138 : ∀ i : Int, 0 ≤ i → i < P.lz lr → Pm_130.el lr i = P.el lr i := (fun i i0 i1 => (hex_133.el hak_115.owa hq_121.1 hq_121.2 i0 (by omega)).trans (hel_118 i i0 i1))
    have hq_139 : HID (la ∈ Lm_131 ∧ Pm_130.kd la = 30) := hke_135.mem hq_119.1 hq_119.2 (by decide)
    have hq_140 : HID (lb ∈ Lm_131 ∧ Pm_130.kd lb = 30) := hke_135.mem hq_120.1 hq_120.2 (by decide)
    have hq_141 : HID (lr ∈ Lm_131 ∧ Pm_130.kd lr = 30) := hke_135.mem hq_121.1 hq_121.2 (by decide)
    have hA_142 : KEG [la, lb] L P Lm_131 Pm_130 := hA_122.trans hke_135
    have : Pm_130.lz la = Pn_112.lz la := (hex_133 la hq_119.1).2.1 0
    have : Pm_130.lz lb = Pn_112.lz lb := (hex_133 lb hq_120.1).2.1 0
    have : Pm_130.lz lr = Pn_112.lz lr := (hex_133 lr hq_121.1).2.1 0
    have : Pm_130.cap la = Pn_112.cap la := hex_133.cap hak_115.owa hq_119.1 hq_119.2
    have : LVS (Pm_130.cap la) = LVS (Pn_112.cap la) := congrArg LVS (hex_133.cap hak_115.owa hq_119.1 hq_119.2)
    have : Pm_130.cap lb = Pn_112.cap lb := hex_133.cap hak_115.owa hq_120.1 hq_120.2
    have : LVS (Pm_130.cap lb) = LVS (Pn_112.cap lb) := congrArg LVS (hex_133.cap hak_115.owa hq_120.1 hq_120.2)
    have : Pm_130.cap lr = Pn_112.cap lr := hex_133.cap hak_115.owa hq_121.1 hq_121.2
    have : LVS (Pm_130.cap lr) = LVS (Pn_112.cap lr) := congrArg LVS (hex_133.cap hak_115.owa hq_121.1 hq_121.2)
    have hek_143 : HID (Pm_130.ek la = 12) := (by rw [hke_135.ek hq_119.1 hq_119.2 (by decide)]; exact hek_123.out)
    have how_144 : HID (Pm_130.ow la = la) := ((hke_135.1 la hq_119.1 (by rw [hq_119.2]; decide)).2.2.2.1 hq_119.2 how_124.out).1
    have hek_145 : HID (Pm_130.ek lb = 12) := (by rw [hke_135.ek hq_120.1 hq_120.2 (by decide)]; exact hek_125.out)
    have how_146 : HID (Pm_130.ow lb = lb) := ((hke_135.1 lb hq_120.1 (by rw [hq_120.2]; decide)).2.2.2.1 hq_120.2 how_126.out).1
    have hek_147 : HID (Pm_130.ek lr = 17) := (by rw [hke_135.ek hq_121.1 hq_121.2 (by decide)]; exact hek_127.out)
    have how_148 : HID (Pm_130.ow lr = lr) := ((hke_135.1 lr hq_121.1 (by rw [hq_121.2]; decide)).2.2.2.1 hq_121.2 how_128.out).1
    have hcz := (((hke_135.1 lr hq_121.1 (by rw [hq_121.2]; decide)).2.2.2.1 hq_121.2 how_128.out).2 (fun q9 => by simp at q9; rcases q9 with q9 | q9; exact absurd q9 (ek_ne hek_127.out hek_123.out (by decide)); exact absurd q9 (ek_ne hek_127.out hek_125.out (by decide)))).1
    have hex_149 := hu_113.1.trans hex_133
    have hm_150 : q_107 ∈ Lm_131 := (by rw [eLm_131]; exact List.mem_cons_self)
    have hk_151 := hm9.1
    have hbe0 := hm9.2.2.2.1
    have hxnL : q_107 ∉ L := fun m9 => hqn_132 (hu_113.1 q_107 m9).1
    have hbnL : q2_110 ∉ L := hu_113.2.2.2.2.2.1
    have hpn_153 : PSI wSL Lm_131 Pm_130 = PSI wSL Ln_111 Pn_112 + 5 ∧ PSI wCE Lm_131 Pm_130 = PSI wCE Ln_111 Pn_112 + 40 := (by rw [eLm_131] at hex_133 ⊢; exact PSI.nblkR hak_115 hex_133 hm9.1)
    have hps := hpn_153.1
    have hpc := hpn_153.2
    have hlv_152 : LVA Lm_131 Pm_130 := LVA.extR hlv_129 hak_115 hex_133 (fun z m n9 k => by rw [eLm_131] at m; rcases List.mem_cons.mp m with q9 | q9; rw [q9, hm9.1] at k; omega; exact absurd q9 n9)
    have hlk_154 := (show LOK Lm_131 Pm_130 cO 12 lb from (by have q9 := (hak_134.gla lb hq_140.1 hq_140.2).1; rw [hek_145.out] at q9; exact q9))
    have hX_x := hlk_154.1
    have hX_k := hlk_154.2.1
    have hlz9 := hlk_154.2.2.1
    have hX_c := hak_134.adc hlk_154
    have hX_y : q_107 ∈ Lm_131 ∧ OBK (Pm_130.kd q_107) := ⟨hm_150, (by rw [hk_151]; unfold OBK; decide)⟩
    have hvv_155 := hlv_152 lb hlk_154.1 hlk_154.2.1
    have hX_v := hvv_155.1
    have hnd_156 : Lm_131.Nodup := pl_nd hD
    have had_157 := hX_c
    have hPc := hP.part (X := [(hc, .inr (12, [.ref lb, .ref lr, v13_2, v13_3, v13_4, .ref la, .int (zI (z13_made))]))]) (cx := []) (pl := va_pl Lm_131 (pE Pm_130)) [] rfl
    have hDc := hD.part (X := [(hc, .inr (12, [.ref lb, .ref lr, v13_2, v13_3, v13_4, .ref la, .int (zI (z13_made))]))]) (cx := []) (pl := va_pl Lm_131 (pE Pm_130)) [] (by decide) rfl
    have hKc := hK.sub (tys' := [(cO, .object "java/lang/Object")]) [0] rfl
    have hFc := va_freeP (X := [(hc, .inr (12, [.ref lb, .ref lr, v13_2, v13_3, v13_4, .ref la, .int (zI (z13_made))]))]) (cx := []) (pl := va_pl Lm_131 (pE Pm_130)) hD hS hA [] rfl
    have hgl := ADC.gl6 hX_c (by omega)
    refine va_calli (va_runV (As := [.ref q_107]) (rest := []) ⟨hx, hb, hml, hown, hts⟩ (c_PL_addAX l dC dI cO Lm_131 Pm_130 lb q_107 sx_ed hX_x hX_k (by omega) hX_c hX_y hX_v H.size sx_mi) (cwV 1 hts g_P13_blockP_PL_addAX rfl rfl rfl (by decide +kernel) ⟨(Nat.le_of_ble_eq_true rfl), (Nat.le_of_ble_eq_true rfl)⟩) ⟨fun a U g mk q => by obtain ⟨q0, q1, qP, qK, qD, e0, e1, e2, e3, e4, e5, e6, e7⟩ := q; exact ⟨q0, q1, qP, va_K.moved (u := U) (U := U.calling g mk a) (Vm.Alike.refl U.vm) qK, qD, va_Nw.same rfl (u := U) (U := U.calling g mk a) rfl e0, va_Nw.same rfl (u := U) (U := U.calling g mk a) rfl e1, va_Nw.same rfl (u := U) (U := U.calling g mk a) rfl e2, va_Dc.moved (u := U) (U := U.calling g mk a) (Vm.Alike.refl U.vm) e3, va_Mi.moved (u := U) (U := U.calling g mk a) (Vm.Alike.refl U.vm) e4, va_AO.moved (u := U) (U := U.calling g mk a) (Vm.Alike.refl U.vm) e5, va_T.moved (u := U) (U := U.calling g mk a) (Vm.Alike.refl U.vm) e6, va_Z.moved (u := U) (U := U.calling g mk a) (Vm.Alike.refl U.vm) e7⟩, recv_30 hKc hPc hq_140.1 hq_140.2, fun U hU hW => ⟨rfl, by rw [hU], by rw [hU]; exact hPc, va_K.moved hW.alike hKc, hDc.weaken (fun _ _ _ _ => trivial), va_Nw.warmC hW hp1, va_Nw.warmC hW hp2, va_Nw.warmC hW hp3, va_Dc.moved hW.alike hp4, va_Mi.moved hW.alike hp5, va_AO.moved hW.alike hp6, by rw [hU]; exact va_T.narrow (va_T.moved hW.alike (va_T.kept hp7 hS.2.1)) hFc, by rw [hU]; exact va_Z.narrow (va_Z.moved hW.alike (va_Z.kept hp8 hS.2.1)) hFc⟩⟩ rfl rfl hl.1 rfl (lv_room (Nat.le_of_ble_eq_true rfl)) dX13_block_25 ⟨(Nat.le_trans (show 4 + (Pm_130.gc lb) ≤ 5 by omega) (Nat.le_of_ble_eq_true rfl)), (Nat.le_trans (show 18 + (Pm_130.gx lb) ≤ 6264 by omega) (Nat.le_of_ble_eq_true rfl))⟩) hS (fun q _ h => hFc q h) hFc (fun r_158 z_159 t H1 locs ht hvm hw hB hz1 hk1 hS => ?_)
    obtain ⟨Ln_160, Pn_161, hxt_161, hP1, hK1, hD1⟩ := hB
    rw [ht] at hP1
    have hK1 := va_K.moved hvm.symm hK1
    obtain ⟨hP, hD⟩ := va_joinP (X := [(hc, .inr (12, [.ref lb, .ref lr, v13_2, v13_3, v13_4, .ref la, .int (zI (z13_made))]))]) (cx := []) (wr := [(hc, .inr (12, [.ref lb, .ref lr, v13_2, v13_3, v13_4, .ref la, .int (zI (z13_made))]))]) (rx := []) (pl := va_pl Lm_131 (pE Pm_130)) (pl1 := va_pl Ln_160 (pE Pn_161)) hP hD [] [0] rfl rfl (by decide) (by decide) hk1 hFc hP1 hD1
    have hK := (hK.sub (tys' := [(cI, .int), (cZ, .boolean)]) [1, 2] rfl).app hK1
    generalize H1 = H at hP hS ⊢
    have hP : va_P (dC, dI) vwQ ([(hc, .inr (12, [.ref lb, .ref lr, v13_2, v13_3, v13_4, .ref la, .int (zI (z13_made))]))] ++ va_pl Ln_160 (pE Pn_161)) H := hP
    have hD : va_D A ([(hc, .inr (12, [.ref lb, .ref lr, v13_2, v13_3, v13_4, .ref la, .int (zI (z13_made))]))] ++ va_pl Ln_160 (pE Pn_161)) := hD
    have hK : va_K (dC, dI) vwQ [(cI, .int), (cZ, .boolean), (cO, .object "java/lang/Object")] s := hK
    refine W.widen (k := (4 + (Pm_130.gc lb))) (n := (18 + (Pm_130.gx lb))) (by omega) (by omega) ?_
    obtain ⟨rfl, hzz_159⟩ := hw
    have hu_162 := HID.mk (hxt_161)
    replace hxt_161 := HID.mk hxt_161
    have hfx := hu_162.2.2.2.2.2.2.2
    have han := hu_162.2.2.2.1
    have hke_163 : KEG [la, lb] Lm_131 Pm_130 Ln_160 Pn_161 := hu_162.1.kegR hak_134 hq_140.1 hq_140.2 hfx (Or.inr (by simp))
    have hak_164 : GLR Ln_160 Pn_161 cO cI cZ sx_ed := hak_134.add hu_162.1 hq_140.1 hq_140.2 hfx hek_145.out hm_150 hk_151 hu_162.2.1 (by omega) hu_162.2.2.1 hu_162.2.2.2.1.1 (by have q9 := hak_134.adc40 hlk_154; omega) hu_162.2.2.2.2.1 hu_162.2.2.2.2.2.1 hu_162.2.2.2.2.2.2.1 (fun q9 => absurd q9 (by decide))
    clear han
    have hst_165 := hu_162.1.chgo hak_134.owa hq_140.1 hq_140.2 hfx
    have hza := hu_162.2.1
    have hel_166 : ∀ i : Int, 0 ≤ i → i < P.lz la → Pn_161.el la i = P.el la i := (fun i i0 i1 => (hu_162.1.elO hak_134.owa hq_140.1 hq_140.2 hfx hq_139.1 hq_139.2 hX_ab i0 (by omega)).trans (hel_136 i i0 i1))
    have hel_167 : ∀ i : Int, 0 ≤ i → i < P.lz lb → Pn_161.el lb i = P.el lb i := (fun i i0 i1 => (hu_162.1.elx hu_162.2.2.2.2.2.2.1 i0 (by omega)).trans (hel_137 i i0 i1))
    have hel_168 : ∀ i : Int, 0 ≤ i → i < P.lz lr → Pn_161.el lr i = P.el lr i := (fun i i0 i1 => (hu_162.1.elO hak_134.owa hq_140.1 hq_140.2 hfx hq_141.1 hq_141.2 (ek_ne hek_147.out hek_145.out (by decide)) i0 (by omega)).trans (hel_138 i i0 i1))
    have hq_169 : HID (la ∈ Ln_160 ∧ Pn_161.kd la = 30) := hke_163.mem hq_139.1 hq_139.2 (by decide)
    have hq_170 : HID (lb ∈ Ln_160 ∧ Pn_161.kd lb = 30) := hke_163.mem hq_140.1 hq_140.2 (by decide)
    have hq_171 : HID (lr ∈ Ln_160 ∧ Pn_161.kd lr = 30) := hke_163.mem hq_141.1 hq_141.2 (by decide)
    have hq_172 : HID (q_107 ∈ Ln_160 ∧ Pn_161.kd q_107 = 12) := hke_163.mem hm_150 hk_151 (by decide)
    have ha_173 : HID (Pn_161.be q_107 = q2_110) := hke_163.be hm_150 hk_151 hbe0
    have hA_174 : KEG [la, lb] L P Ln_160 Pn_161 := hA_142.trans hke_163
    have : Pn_161.lz la = Pm_130.lz la := (hu_162.1.chg la hq_139.1 (fun q9 => by rcases q9 with q9 | q9; exact hX_ab q9; exact hak_134.owa.nle hq_140.1 hq_140.2 hfx hq_139.1 (by rw [hq_139.2]; decide) q9)).2.1 0
    have : Pn_161.lz lr = Pm_130.lz lr := (hu_162.1.chg lr hq_141.1 (fun q9 => by rcases q9 with q9 | q9; exact (ek_ne hek_147.out hek_145.out (by decide)) q9; exact hak_134.owa.nle hq_140.1 hq_140.2 hfx hq_141.1 (by rw [hq_141.2]; decide) q9)).2.1 0
    have : Pn_161.cap la = Pm_130.cap la := hu_162.1.capO hak_134.owa hq_140.1 hq_140.2 hfx hq_139.1 hq_139.2 hX_ab
    have : LVS (Pn_161.cap la) = LVS (Pm_130.cap la) := congrArg LVS (hu_162.1.capO hak_134.owa hq_140.1 hq_140.2 hfx hq_139.1 hq_139.2 hX_ab)
    have : Pn_161.cap lr = Pm_130.cap lr := hu_162.1.capO hak_134.owa hq_140.1 hq_140.2 hfx hq_141.1 hq_141.2 (ek_ne hek_147.out hek_145.out (by decide))
    have : LVS (Pn_161.cap lr) = LVS (Pm_130.cap lr) := congrArg LVS (hu_162.1.capO hak_134.owa hq_140.1 hq_140.2 hfx hq_141.1 hq_141.2 (ek_ne hek_147.out hek_145.out (by decide)))
    have hza := hu_162.2.1
    have hek_175 : HID (Pn_161.ek la = 12) := (by rw [hke_163.ek hq_139.1 hq_139.2 (by decide)]; exact hek_143.out)
    have how_176 : HID (Pn_161.ow la = la) := ((hke_163.1 la hq_139.1 (by rw [hq_139.2]; decide)).2.2.2.1 hq_139.2 how_144.out).1
    have hek_177 : HID (Pn_161.ek lb = 12) := (by rw [hke_163.ek hq_140.1 hq_140.2 (by decide)]; exact hek_145.out)
    have how_178 : HID (Pn_161.ow lb = lb) := ((hke_163.1 lb hq_140.1 (by rw [hq_140.2]; decide)).2.2.2.1 hq_140.2 how_146.out).1
    have hek_179 : HID (Pn_161.ek lr = 17) := (by rw [hke_163.ek hq_141.1 hq_141.2 (by decide)]; exact hek_147.out)
    have how_180 : HID (Pn_161.ow lr = lr) := ((hke_163.1 lr hq_141.1 (by rw [hq_141.2]; decide)).2.2.2.1 hq_141.2 how_148.out).1
    have hcz := (((hke_163.1 lr hq_141.1 (by rw [hq_141.2]; decide)).2.2.2.1 hq_141.2 how_148.out).2 (fun q9 => by simp at q9; rcases q9 with q9 | q9; exact absurd q9 (ek_ne hek_147.out hek_143.out (by decide)); exact absurd q9 (ek_ne hek_147.out hek_145.out (by decide)))).1
    clear hfx
    have hlb9 : Pn_161.el lb (Pm_130.lz lb) = q_107 := hu_162.1.elast hu_162.2.2.2.2.2.1
    have hfx := hu_162.2.2.2.2.2.2.2
    have hnd_181 : Ln_160.Nodup := pl_nd hD
    have hpp_182 := PSI.putR hnd_156 hnd_181 hak_134.glfR hu_162.1 hlk_154.1 hlk_154.2.1 hfx hvv_155.1 (by omega) hu_162.2.2.2.1.2.2.1 hu_162.2.2.2.1.2.2.2 had_157 hvv_155.2
    have hps := hpp_182.1
    have hpc := hpp_182.2.1
    have hpg := PSI.glsR hnd_156 hnd_181 hak_134.glfR hu_162.1 hlk_154.1 hlk_154.2.1 hfx
    have hlv_183 : LVA Ln_160 Pn_161 := LVA.gl1R hlv_152 hak_134.glfR hu_162.1 hlk_154.1 hlk_154.2.1 hfx hpp_182.2.2
    refine lv_pop hx hb dX13_block_28 rfl ?_
    refine lv_aload_n hx hb dX13_block_29 rfl (lv_at hl 0 rfl) ?_
    refine va_get (D := (dC, dI)) (ci := 12) (v := .ref lb) (C := RX13) (T := TX13) (N := 7) hx hb hts mem_P13_blockP_0 hown hK hP 0 rfl rfl 0 (by decide) (ow (k := 1) rfl) (fun _ h9 => h9) rfl dX13_block_30 ?_
    refine lv_aload_n hx hb dX13_block_33 rfl (lv_at hl 0 rfl) ?_
    refine va_get (D := (dC, dI)) (ci := 12) (v := .int (zI (z13_made))) (C := RX13) (T := TX13) (N := 7) hx hb hts mem_P13_blockP_0 hown hK hP 0 rfl rfl 6 (by decide) (ow (k := 0) rfl) (fun _ h9 => h9) rfl dX13_block_34 ?_
    have hlk_184 := (show LOK Ln_160 Pn_161 cO 12 lb from (by have q9 := (hak_164.gla lb hq_170.1 hq_170.2).1; rw [hek_177.out] at q9; exact q9))
    obtain ⟨x, ex⟩ : ∃ q9 : Nat, q9 = Pn_161.el lb (z13_made) := ⟨_, rfl⟩
    have hX_x := hlk_184.1
    have hX_k := hlk_184.2.1
    have hq9 := hlk_184.row (i := z13_made) (by omega) (by omega)
    have hX_q : Pn_161.le lb ∈ Ln_160 ∧ Pn_161.kd (Pn_161.le lb) = 31 ∧ Pn_161.ac (Pn_161.le lb) = cO := ⟨hq9.1, hq9.2.1, hq9.2.2.1⟩
    have hq8 := hq9.2.2.2
    have hX_e0 : Pn_161.oa (Pn_161.le lb) (z13_made).toNat = some x := (by rw [ex]; exact (hlk_184.2.2.2.2 (z13_made) (by omega) (by omega)).1)
    have hxm : x ∈ Ln_160 := (by rw [ex]; exact (hlk_184.2.2.2.2 (z13_made) (by omega) (by omega)).2.1)
    have hxk := (hlk_184.2.2.2.2 (z13_made) (by omega) (by omega)).2.2
    rw [← ex] at hxk
    have hPc := hP.part (X := [(hc, .inr (12, [.ref lb, .ref lr, v13_2, v13_3, v13_4, .ref la, .int (zI (z13_made))]))]) (cx := []) (pl := va_pl Ln_160 (pE Pn_161)) [] rfl
    have hDc := hD.part (X := [(hc, .inr (12, [.ref lb, .ref lr, v13_2, v13_3, v13_4, .ref la, .int (zI (z13_made))]))]) (cx := []) (pl := va_pl Ln_160 (pE Pn_161)) [] (by decide) rfl
    have hKc := hK.sub (tys' := [(cO, .object "java/lang/Object")]) [2] rfl
    have hFc := va_freeP (X := [(hc, .inr (12, [.ref lb, .ref lr, v13_2, v13_3, v13_4, .ref la, .int (zI (z13_made))]))]) (cx := []) (pl := va_pl Ln_160 (pE Pn_161)) hD hS hA [] rfl
    refine va_callr (va_runV (As := [.int (zI (z13_made))]) (rest := []) ⟨hx, hb, hml, hown, hts⟩ (c_PL_get l dC dI cO Ln_160 Pn_161 lb z13_made x hX_x hX_k hX_q (by omega) hX_e0 H.size) (cwV 1 hts g_P13_blockP_PL_get rfl rfl rfl (by decide +kernel) ⟨(Nat.le_of_ble_eq_true rfl), (Nat.le_of_ble_eq_true rfl)⟩) ⟨fun a U g mk q => by obtain ⟨q0, q1, qP, qK, qD⟩ := q; exact ⟨q0, q1, qP, va_K.moved (u := U) (U := U.calling g mk a) (Vm.Alike.refl U.vm) qK, qD⟩, recv_30 hKc hPc hq_170.1 hq_170.2, fun U hU hW => ⟨rfl, by rw [hU], by rw [hU]; exact hPc, va_K.moved hW.alike hKc, hDc.weaken (fun _ _ _ _ => trivial)⟩⟩ rfl rfl hl.1 rfl (lv_room (Nat.le_of_ble_eq_true rfl)) dX13_block_37 ⟨(Nat.le_trans (show (4 + (Pm_130.gc lb)) + 0 ≤ 5 by omega) (Nat.le_of_ble_eq_true rfl)), (Nat.le_trans (show (18 + (Pm_130.gx lb)) + 0 ≤ 6264 by omega) (Nat.le_of_ble_eq_true rfl))⟩) hS (fun q _ h => hFc q h) hFc (fun u q_185 t H1 locs ht hvm hw hB hz1 hk1 hS => ?_)
    obtain ⟨hxt_185, hP1, hK1, hD1⟩ := hB
    rw [ht] at hP1
    have hK1 := va_K.moved hvm.symm hK1
    obtain ⟨hP, hD⟩ := va_joinP (X := [(hc, .inr (12, [.ref lb, .ref lr, v13_2, v13_3, v13_4, .ref la, .int (zI (z13_made))]))]) (cx := []) (wr := [(hc, .inr (12, [.ref lb, .ref lr, v13_2, v13_3, v13_4, .ref la, .int (zI (z13_made))]))]) (rx := []) (pl := va_pl Ln_160 (pE Pn_161)) (pl1 := va_pl Ln_160 (pE Pn_161)) hP hD [] [0] rfl rfl (by decide) (by decide) hk1 hFc hP1 hD1
    have hK := (hK.sub (tys' := [(cI, .int), (cZ, .boolean)]) [0, 1] rfl).app hK1
    generalize H1 = H at hP hS ⊢
    have hP : va_P (dC, dI) vwQ ([(hc, .inr (12, [.ref lb, .ref lr, v13_2, v13_3, v13_4, .ref la, .int (zI (z13_made))]))] ++ va_pl Ln_160 (pE Pn_161)) H := hP
    have hD : va_D A ([(hc, .inr (12, [.ref lb, .ref lr, v13_2, v13_3, v13_4, .ref la, .int (zI (z13_made))]))] ++ va_pl Ln_160 (pE Pn_161)) := hD
    have hK : va_K (dC, dI) vwQ [(cI, .int), (cZ, .boolean), (cO, .object "java/lang/Object")] s := hK
    refine W.widen (k := (4 + (Pm_130.gc lb))) (n := (18 + (Pm_130.gx lb))) (by omega) (by omega) ?_
    rw [hxt_185]
    clear hX_e0
    obtain ⟨xb_186, h9⟩ : ∃ q9 : Nat, q9 = x := ⟨_, rfl⟩
    subst h9
    have hm_187 := hxm
    have hk_188 := hxk
    have hel9 := ex
    have hbq : xb_186 = q_107 := hel9.trans (by rw [show (z13_made : Int) = Pm_130.lz lb from (by omega)]; exact hlb9)
    have hxn9 : xb_186 ∉ L := (by rw [hbq]; exact hxnL)
    refine va_castY (C := "SsaForgeModel$Block") (nm := "SsaForgeModel$Block") hx hb hown (ow (k := 9) rfl) hp0 (recv_12 hK hP hm_187 hk_188) dX13_block_40 ?_
    refine lv_astore_n (lv' := [(1, .ref xb_186), (0, .ref hc)]) hx hb dX13_block_43 rfl hl (by decide) rfl (fun ls hl => ?_)
    refine lv_aload_n hx hb dX13_block_44 rfl (lv_at hl 1 rfl) ?_
    refine lv_dup hx hb dX13_block_45 rfl ?_
    refine va_get (D := (dC, dI)) (ci := 12) (v := .int (zI (z13_made))) (C := RX13) (T := TX13) (N := 7) hx hb hts mem_P13_blockP_0 hown hK hP 0 rfl rfl 6 (by decide) (ow (k := 0) rfl) (fun _ h9 => h9) rfl dX13_block_46 ?_
    refine lv_iconst (v := 1) hx hb dX13_block_49 (by decide) ?_
    refine lv_iadd hx hb dX13_block_50 ?_
    refine lv_topi (fun z ez => ?_)
    obtain rfl : z = zI (z13_made + 1) := ez.trans (zI_add (z13_made) (1))
    refine va_put (D := (dC, dI)) (ci := 12) (v := .int (zI (z13_made + 1))) (ty := .int) (C := RX13) (T := TX13) (N := 7) hx hb hts mem_P13_blockP_0 tyX13 tyX13_ok nmX13 hown hK hP hD hS 0 rfl rfl 6 (by decide) (ow (k := 0) rfl) (fun _ h9 => h9) rfl (by decide +kernel) rfl rfl (by first | exact Nat.le_of_ble_eq_true rfl | exact Nat.le_trans (show (4 + (Pm_130.gc lb)) ≤ 5 from (by omega)) (Nat.le_of_ble_eq_true rfl) | exact Nat.le_trans (show (18 + (Pm_130.gx lb)) ≤ 6264 from (by omega)) (Nat.le_of_ble_eq_true rfl)) dX13_block_51 (fun H locs hP hD hS => ?_)
    have hP : va_P (dC, dI) vwQ ([(hc, .inr (12, [.ref lb, .ref lr, v13_2, v13_3, v13_4, .ref la, .int (zI (z13_made + 1))]))] ++ va_pl Ln_160 (pE Pn_161)) H := hP
    have hD : va_D A ([(hc, .inr (12, [.ref lb, .ref lr, v13_2, v13_3, v13_4, .ref la, .int (zI (z13_made + 1))]))] ++ va_pl Ln_160 (pE Pn_161)) := hD
    obtain ⟨z_190, ez_190⟩ : ∃ z9 : Int, z9 = z13_made + 1 := ⟨_, rfl⟩
    rw [← ez_190] at hP hD
    have hP : va_P (dC, dI) vwQ ([(hc, .inr (12, [.ref lb, .ref lr, v13_2, v13_3, v13_4, .ref la, .int (zI (z_190))]))] ++ va_pl Ln_160 (pE Pn_161)) H := hP
    have hD : va_D A ([(hc, .inr (12, [.ref lb, .ref lr, v13_2, v13_3, v13_4, .ref la, .int (zI (z_190))]))] ++ va_pl Ln_160 (pE Pn_161)) := hD
    refine lv_aload_n hx hb dX13_block_54 rfl (lv_at hl 0 rfl) ?_
    have hfb := (hak_164.gb hm_187 hk_188).2
    obtain ⟨kp_191, hkp_191⟩ := va_pl_get (X := [(hc, .inr (12, [.ref lb, .ref lr, v13_2, v13_3, v13_4, .ref la, .int (zI (z_190))]))]) (f := pE Pn_161) hm_187
    rw [pE_block hk_188] at hkp_191
    refine va_get (D := (dC, dI)) (ci := 19) (v := .ref (Pn_161.bp xb_186)) (C := RX12) (T := TX12) (N := 5) hx hb hts mem_P13_blockP_3 hown hK hP kp_191 hkp_191 rfl 0 (by decide) (ow (k := 10) rfl) (fun _ h9 => h9) rfl dX13_block_55 ?_
    obtain ⟨pr_192, epr_192⟩ : ∃ q9 : Nat, q9 = Pn_161.bp xb_186 := ⟨_, rfl⟩
    rw [← epr_192]
    have hlk_193 : LOK Ln_160 Pn_161 cO 15 pr_192 := (by rw [epr_192]; exact hak_164.lbp hm_187 hk_188)
    have hlz9 := hlk_193.2.2.1
    have hek_194 : HID (Pn_161.ek pr_192 = 15) := (by rw [epr_192]; exact (hak_164.owc xb_186 hm_187 hk_188).2.1)
    have hlk_195 := (show LOK Ln_160 Pn_161 cO 15 pr_192 from (by rw [← epr_192.symm]; exact hak_164.lbp hm_187 hk_188))
    have hX_x := hlk_195.1
    have hX_k := hlk_195.2.1
    have hlz9 := hlk_195.2.2.1
    have hX_c := hak_164.adc hlk_195
    have hPc := hP.part (X := [(hc, .inr (12, [.ref lb, .ref lr, v13_2, v13_3, v13_4, .ref la, .int (zI (z_190))]))]) (cx := []) (pl := va_pl Ln_160 (pE Pn_161)) [] rfl
    have hDc := hD.part (X := [(hc, .inr (12, [.ref lb, .ref lr, v13_2, v13_3, v13_4, .ref la, .int (zI (z_190))]))]) (cx := []) (pl := va_pl Ln_160 (pE Pn_161)) [] (by decide) rfl
    have hKc := hK.sub (tys' := [(cO, .object "java/lang/Object")]) [2] rfl
    have hFc := va_freeP (X := [(hc, .inr (12, [.ref lb, .ref lr, v13_2, v13_3, v13_4, .ref la, .int (zI (z_190))]))]) (cx := []) (pl := va_pl Ln_160 (pE Pn_161)) hD hS hA [] rfl
    refine va_callv (va_runV (As := []) (rest := []) ⟨hx, hb, hml, hown, hts⟩ (c_PL_clearA l dC dI cO Ln_160 Pn_161 pr_192 sx_ed hX_x hX_k (by omega) hX_c H.size) (cwV 0 hts g_P13_blockP_PL_clearA rfl rfl rfl (by decide +kernel) ⟨(Nat.le_of_ble_eq_true rfl), (Nat.le_of_ble_eq_true rfl)⟩) ⟨fun a U g mk q => by obtain ⟨q0, q1, qP, qK, qD⟩ := q; exact ⟨q0, q1, qP, va_K.moved (u := U) (U := U.calling g mk a) (Vm.Alike.refl U.vm) qK, qD⟩, recv_30 hKc hPc hlk_193.1 hlk_193.2.1, fun U hU hW => ⟨rfl, by rw [hU], by rw [hU]; exact hPc, va_K.moved hW.alike hKc, hDc.weaken (fun _ _ _ _ => trivial)⟩⟩ rfl rfl hl.1 rfl (lv_room (Nat.le_of_ble_eq_true rfl)) dX13_block_58 ⟨(Nat.le_trans (show (4 + (Pm_130.gc lb)) + 0 ≤ 5 by omega) (Nat.le_of_ble_eq_true rfl)), (Nat.le_trans (show (18 + (Pm_130.gx lb)) + 0 ≤ 6264 by omega) (Nat.le_of_ble_eq_true rfl))⟩) hS (fun q _ h => hFc q h) hFc (fun  u t H1 locs ht hvm hw hB hz1 hk1 hS => ?_)
    obtain ⟨Pn_196, hxt_196, hP1, hK1, hD1⟩ := hB
    rw [ht] at hP1
    have hK1 := va_K.moved hvm.symm hK1
    obtain ⟨hP, hD⟩ := va_joinP (X := [(hc, .inr (12, [.ref lb, .ref lr, v13_2, v13_3, v13_4, .ref la, .int (zI (z_190))]))]) (cx := []) (wr := [(hc, .inr (12, [.ref lb, .ref lr, v13_2, v13_3, v13_4, .ref la, .int (zI (z_190))]))]) (rx := []) (pl := va_pl Ln_160 (pE Pn_161)) (pl1 := va_pl Ln_160 (pE Pn_196)) hP hD [] [0] rfl rfl (by decide) (by decide) hk1 hFc hP1 hD1
    have hK := (hK.sub (tys' := [(cI, .int), (cZ, .boolean)]) [0, 1] rfl).app hK1
    generalize H1 = H at hP hS ⊢
    have hP : va_P (dC, dI) vwQ ([(hc, .inr (12, [.ref lb, .ref lr, v13_2, v13_3, v13_4, .ref la, .int (zI (z_190))]))] ++ va_pl Ln_160 (pE Pn_196)) H := hP
    have hD : va_D A ([(hc, .inr (12, [.ref lb, .ref lr, v13_2, v13_3, v13_4, .ref la, .int (zI (z_190))]))] ++ va_pl Ln_160 (pE Pn_196)) := hD
    have hK : va_K (dC, dI) vwQ [(cI, .int), (cZ, .boolean), (cO, .object "java/lang/Object")] s := hK
    refine W.widen (k := (4 + (Pm_130.gc lb))) (n := (18 + (Pm_130.gx lb))) (by omega) (by omega) ?_
    have hu_197 := HID.mk (hxt_196)
    replace hxt_196 := HID.mk hxt_196
    have hke_198 : KEG [la, lb] Ln_160 Pn_161 Ln_160 Pn_196 := hu_197.kegR hak_164 hlk_193.1 hlk_193.2.1 (Or.inl (fun e9 => kd_ne hk_188 hlk_193.2.1 (by decide) (show xb_186 = pr_192 from (by have q9 := (hak_164.owc xb_186 hm_187 hk_188).2.2.1; rw [epr_192.symm, e9] at q9; exact q9.symm))))
    have hak_199 : GLR Ln_160 Pn_196 cO cI cZ sx_ed := hu_197.glfR hak_164 hlk_193.1 hlk_193.2.1
    have hst_200 := hu_197.chgo hak_164.owa hlk_193.1 hlk_193.2.1
    have hel_201 : ∀ i : Int, 0 ≤ i → i < P.lz la → Pn_196.el la i = P.el la i := (fun i i0 i1 => (hu_197.elO hak_164.owa hlk_193.1 hlk_193.2.1 hq_169.1 hq_169.2 (ek_ne hek_175.out hek_194.out (by decide)) i0 (by omega)).trans (hel_166 i i0 i1))
    have hel_202 : ∀ i : Int, 0 ≤ i → i < P.lz lb → Pn_196.el lb i = P.el lb i := (fun i i0 i1 => (hu_197.elO hak_164.owa hlk_193.1 hlk_193.2.1 hq_170.1 hq_170.2 (ek_ne hek_177.out hek_194.out (by decide)) i0 (by omega)).trans (hel_167 i i0 i1))
    have hel_203 : ∀ i : Int, 0 ≤ i → i < P.lz lr → Pn_196.el lr i = P.el lr i := (fun i i0 i1 => (hu_197.elO hak_164.owa hlk_193.1 hlk_193.2.1 hq_171.1 hq_171.2 (ek_ne hek_179.out hek_194.out (by decide)) i0 (by omega)).trans (hel_168 i i0 i1))
    have hef_204 : Pn_196.el lb (z13_made) = xb_186 := (by have i0 : (0 : Int) ≤ z13_made := (by omega); exact (hu_197.elO hak_164.owa hlk_193.1 hlk_193.2.1 hq_170.1 hq_170.2 (ek_ne hek_177.out hek_194.out (by decide)) i0 (by omega)).trans hel9.symm)
    have hq_205 : HID (la ∈ Ln_160 ∧ Pn_196.kd la = 30) := hke_198.mem hq_169.1 hq_169.2 (by decide)
    have hq_206 : HID (lb ∈ Ln_160 ∧ Pn_196.kd lb = 30) := hke_198.mem hq_170.1 hq_170.2 (by decide)
    have hq_207 : HID (lr ∈ Ln_160 ∧ Pn_196.kd lr = 30) := hke_198.mem hq_171.1 hq_171.2 (by decide)
    have hq_208 : HID (q_107 ∈ Ln_160 ∧ Pn_196.kd q_107 = 12) := hke_198.mem hq_172.1 hq_172.2 (by decide)
    have hq_209 : HID (xb_186 ∈ Ln_160 ∧ Pn_196.kd xb_186 = 12) := hke_198.mem hm_187 hk_188 (by decide)
    have hq_210 : HID (pr_192 ∈ Ln_160 ∧ Pn_196.kd pr_192 = 30) := hke_198.mem hlk_193.1 hlk_193.2.1 (by decide)
    have ha_211 : HID (Pn_196.be q_107 = q2_110) := hke_198.be hq_172.1 hq_172.2 ha_173.out
    have ha_212 : HID (Pn_196.be xb_186 = q2_110) := hke_198.be hm_187 hk_188 (by rw [hbq]; exact ha_173.out)
    have ha_213 : HID (Pn_196.bp xb_186 = pr_192) := hke_198.bp hm_187 hk_188 epr_192.symm
    have hA_214 : KEG [la, lb] L P Ln_160 Pn_196 := hA_174.trans hke_198
    have : Pn_196.lz pr_192 = 0 := hu_197.2.1
    have : Pn_196.lz la = Pn_161.lz la := hu_197.lz (ek_ne hek_175.out hek_194.out (by decide))
    have : Pn_196.lz lb = Pn_161.lz lb := hu_197.lz (ek_ne hek_177.out hek_194.out (by decide))
    have : Pn_196.lz lr = Pn_161.lz lr := hu_197.lz (ek_ne hek_179.out hek_194.out (by decide))
    have : Pn_196.cap la = Pn_161.cap la := hu_197.cap la
    have : LVS (Pn_196.cap la) = LVS (Pn_161.cap la) := congrArg LVS (hu_197.cap la)
    have : Pn_196.cap lb = Pn_161.cap lb := hu_197.cap lb
    have : LVS (Pn_196.cap lb) = LVS (Pn_161.cap lb) := congrArg LVS (hu_197.cap lb)
    have : Pn_196.cap lr = Pn_161.cap lr := hu_197.cap lr
    have : LVS (Pn_196.cap lr) = LVS (Pn_161.cap lr) := congrArg LVS (hu_197.cap lr)
    have hek_215 : HID (Pn_196.ek la = 12) := (by rw [hke_198.ek hq_169.1 hq_169.2 (by decide)]; exact hek_175.out)
    have how_216 : HID (Pn_196.ow la = la) := ((hke_198.1 la hq_169.1 (by rw [hq_169.2]; decide)).2.2.2.1 hq_169.2 how_176.out).1
    have hek_217 : HID (Pn_196.ek lb = 12) := (by rw [hke_198.ek hq_170.1 hq_170.2 (by decide)]; exact hek_177.out)
    have how_218 : HID (Pn_196.ow lb = lb) := ((hke_198.1 lb hq_170.1 (by rw [hq_170.2]; decide)).2.2.2.1 hq_170.2 how_178.out).1
    have hek_219 : HID (Pn_196.ek lr = 17) := (by rw [hke_198.ek hq_171.1 hq_171.2 (by decide)]; exact hek_179.out)
    have how_220 : HID (Pn_196.ow lr = lr) := ((hke_198.1 lr hq_171.1 (by rw [hq_171.2]; decide)).2.2.2.1 hq_171.2 how_180.out).1
    have hcz := (((hke_198.1 lr hq_171.1 (by rw [hq_171.2]; decide)).2.2.2.1 hq_171.2 how_180.out).2 (fun q9 => by simp at q9; rcases q9 with q9 | q9; exact absurd q9 (ek_ne hek_179.out hek_175.out (by decide)); exact absurd q9 (ek_ne hek_179.out hek_177.out (by decide)))).1
    have hek_221 : HID (Pn_196.ek pr_192 = 15) := (by rw [hke_198.ek hlk_193.1 hlk_193.2.1 (by decide)]; exact hek_194.out)
    have hps := PSI.same (w := wSL) (L := Ln_160) hu_197.1.1
    have hpc := PSI.same (w := wCE) (L := Ln_160) hu_197.1.1
    have hlv_222 : LVA Ln_160 Pn_196 := LVA.same hlv_183 hu_197.1.1
    refine lv_aload_n hx hb dX13_block_61 rfl (lv_at hl 0 rfl) ?_
    have hfb := (hak_199.gb hq_209.1 hq_209.2).2
    obtain ⟨kp_223, hkp_223⟩ := va_pl_get (X := [(hc, .inr (12, [.ref lb, .ref lr, v13_2, v13_3, v13_4, .ref la, .int (zI (z_190))]))]) (f := pE Pn_196) hq_209.1
    rw [pE_block hq_209.2] at hkp_223
    refine va_get (D := (dC, dI)) (ci := 19) (v := .ref (Pn_196.br xb_186)) (C := RX12) (T := TX12) (N := 5) hx hb hts mem_P13_blockP_3 hown hK hP kp_223 hkp_223 rfl 1 (by decide) (ow (k := 14) rfl) (fun _ h9 => h9) rfl dX13_block_62 ?_
    obtain ⟨pr_224, epr_224⟩ : ∃ q9 : Nat, q9 = Pn_196.br xb_186 := ⟨_, rfl⟩
    rw [← epr_224]
    have hlk_225 : LOK Ln_160 Pn_196 cO 17 pr_224 := (by rw [epr_224]; exact hak_199.lbr hq_209.1 hq_209.2)
    have hlz9 := hlk_225.2.2.1
    have hek_226 : HID (Pn_196.ek pr_224 = 17) := (by rw [epr_224]; exact (hak_199.owc xb_186 hq_209.1 hq_209.2).1.1)
    have hlk_227 := (show LOK Ln_160 Pn_196 cO 17 pr_224 from (by rw [← epr_224.symm]; exact hak_199.lbr hq_209.1 hq_209.2))
    have hX_x := hlk_227.1
    have hX_k := hlk_227.2.1
    have hlz9 := hlk_227.2.2.1
    have hX_c := hak_199.adc hlk_227
    have hPc := hP.part (X := [(hc, .inr (12, [.ref lb, .ref lr, v13_2, v13_3, v13_4, .ref la, .int (zI (z_190))]))]) (cx := []) (pl := va_pl Ln_160 (pE Pn_196)) [] rfl
    have hDc := hD.part (X := [(hc, .inr (12, [.ref lb, .ref lr, v13_2, v13_3, v13_4, .ref la, .int (zI (z_190))]))]) (cx := []) (pl := va_pl Ln_160 (pE Pn_196)) [] (by decide) rfl
    have hKc := hK.sub (tys' := [(cO, .object "java/lang/Object")]) [2] rfl
    have hFc := va_freeP (X := [(hc, .inr (12, [.ref lb, .ref lr, v13_2, v13_3, v13_4, .ref la, .int (zI (z_190))]))]) (cx := []) (pl := va_pl Ln_160 (pE Pn_196)) hD hS hA [] rfl
    refine va_callv (va_runV (As := []) (rest := []) ⟨hx, hb, hml, hown, hts⟩ (c_PL_clearA l dC dI cO Ln_160 Pn_196 pr_224 sx_ed hX_x hX_k (by omega) hX_c H.size) (cwV 0 hts g_P13_blockP_PL_clearA rfl rfl rfl (by decide +kernel) ⟨(Nat.le_of_ble_eq_true rfl), (Nat.le_of_ble_eq_true rfl)⟩) ⟨fun a U g mk q => by obtain ⟨q0, q1, qP, qK, qD⟩ := q; exact ⟨q0, q1, qP, va_K.moved (u := U) (U := U.calling g mk a) (Vm.Alike.refl U.vm) qK, qD⟩, recv_30 hKc hPc hlk_225.1 hlk_225.2.1, fun U hU hW => ⟨rfl, by rw [hU], by rw [hU]; exact hPc, va_K.moved hW.alike hKc, hDc.weaken (fun _ _ _ _ => trivial)⟩⟩ rfl rfl hl.1 rfl (lv_room (Nat.le_of_ble_eq_true rfl)) dX13_block_65 ⟨(Nat.le_trans (show (4 + (Pm_130.gc lb)) + 0 ≤ 5 by omega) (Nat.le_of_ble_eq_true rfl)), (Nat.le_trans (show (18 + (Pm_130.gx lb)) + 0 ≤ 6264 by omega) (Nat.le_of_ble_eq_true rfl))⟩) hS (fun q _ h => hFc q h) hFc (fun  u t H1 locs ht hvm hw hB hz1 hk1 hS => ?_)
    obtain ⟨Pn_228, hxt_228, hP1, hK1, hD1⟩ := hB
    rw [ht] at hP1
    have hK1 := va_K.moved hvm.symm hK1
    obtain ⟨hP, hD⟩ := va_joinP (X := [(hc, .inr (12, [.ref lb, .ref lr, v13_2, v13_3, v13_4, .ref la, .int (zI (z_190))]))]) (cx := []) (wr := [(hc, .inr (12, [.ref lb, .ref lr, v13_2, v13_3, v13_4, .ref la, .int (zI (z_190))]))]) (rx := []) (pl := va_pl Ln_160 (pE Pn_196)) (pl1 := va_pl Ln_160 (pE Pn_228)) hP hD [] [0] rfl rfl (by decide) (by decide) hk1 hFc hP1 hD1
    have hK := (hK.sub (tys' := [(cI, .int), (cZ, .boolean)]) [0, 1] rfl).app hK1
    generalize H1 = H at hP hS ⊢
    have hP : va_P (dC, dI) vwQ ([(hc, .inr (12, [.ref lb, .ref lr, v13_2, v13_3, v13_4, .ref la, .int (zI (z_190))]))] ++ va_pl Ln_160 (pE Pn_228)) H := hP
    have hD : va_D A ([(hc, .inr (12, [.ref lb, .ref lr, v13_2, v13_3, v13_4, .ref la, .int (zI (z_190))]))] ++ va_pl Ln_160 (pE Pn_228)) := hD
    have hK : va_K (dC, dI) vwQ [(cI, .int), (cZ, .boolean), (cO, .object "java/lang/Object")] s := hK
    refine W.widen (k := (4 + (Pm_130.gc lb))) (n := (18 + (Pm_130.gx lb))) (by omega) (by omega) ?_
    have hu_229 := HID.mk (hxt_228)
    replace hxt_228 := HID.mk hxt_228
    have hke_230 : KEG [la, lb] Ln_160 Pn_196 Ln_160 Pn_228 := hu_229.kegR hak_199 hlk_225.1 hlk_225.2.1 (Or.inl (fun e9 => kd_ne hq_209.2 hlk_225.2.1 (by decide) (show xb_186 = pr_224 from (by have q9 := (hak_199.owc xb_186 hq_209.1 hq_209.2).1.2.1; rw [epr_224.symm, e9] at q9; exact q9.symm))))
    have hak_231 : GLR Ln_160 Pn_228 cO cI cZ sx_ed := hu_229.glfR hak_199 hlk_225.1 hlk_225.2.1
    have hst_232 := hu_229.chgo hak_199.owa hlk_225.1 hlk_225.2.1
    have hel_233 : ∀ i : Int, 0 ≤ i → i < P.lz la → Pn_228.el la i = P.el la i := (fun i i0 i1 => (hu_229.elO hak_199.owa hlk_225.1 hlk_225.2.1 hq_205.1 hq_205.2 (ek_ne hek_215.out hek_226.out (by decide)) i0 (by omega)).trans (hel_201 i i0 i1))
    have hel_234 : ∀ i : Int, 0 ≤ i → i < P.lz lb → Pn_228.el lb i = P.el lb i := (fun i i0 i1 => (hu_229.elO hak_199.owa hlk_225.1 hlk_225.2.1 hq_206.1 hq_206.2 (ek_ne hek_217.out hek_226.out (by decide)) i0 (by omega)).trans (hel_202 i i0 i1))
    have hel_235 : ∀ i : Int, 0 ≤ i → i < P.lz lr → Pn_228.el lr i = P.el lr i := (fun i i0 i1 => (hu_229.elO hak_199.owa hlk_225.1 hlk_225.2.1 hq_207.1 hq_207.2 (fun e9 => (show Pn_196.ow pr_224 ≠ pr_224 from (fun e9 => kd_ne hq_209.2 hlk_225.2.1 (by decide) (show xb_186 = pr_224 from (by have q9 := (hak_199.owc xb_186 hq_209.1 hq_209.2).1.2.1; rw [epr_224.symm, e9] at q9; exact q9.symm)))) (by rw [← e9]; exact how_220.out)) i0 (by omega)).trans (hel_203 i i0 i1))
    have hef_236 : Pn_228.el lb (z13_made) = xb_186 := (by have i0 : (0 : Int) ≤ z13_made := (by omega); exact (hu_229.elO hak_199.owa hlk_225.1 hlk_225.2.1 hq_206.1 hq_206.2 (ek_ne hek_217.out hek_226.out (by decide)) i0 (by omega)).trans hef_204)
    have hq_237 : HID (la ∈ Ln_160 ∧ Pn_228.kd la = 30) := hke_230.mem hq_205.1 hq_205.2 (by decide)
    have hq_238 : HID (lb ∈ Ln_160 ∧ Pn_228.kd lb = 30) := hke_230.mem hq_206.1 hq_206.2 (by decide)
    have hq_239 : HID (lr ∈ Ln_160 ∧ Pn_228.kd lr = 30) := hke_230.mem hq_207.1 hq_207.2 (by decide)
    have hq_240 : HID (q_107 ∈ Ln_160 ∧ Pn_228.kd q_107 = 12) := hke_230.mem hq_208.1 hq_208.2 (by decide)
    have hq_241 : HID (xb_186 ∈ Ln_160 ∧ Pn_228.kd xb_186 = 12) := hke_230.mem hq_209.1 hq_209.2 (by decide)
    have hq_242 : HID (pr_192 ∈ Ln_160 ∧ Pn_228.kd pr_192 = 30) := hke_230.mem hq_210.1 hq_210.2 (by decide)
    have hq_243 : HID (pr_224 ∈ Ln_160 ∧ Pn_228.kd pr_224 = 30) := hke_230.mem hlk_225.1 hlk_225.2.1 (by decide)
    have ha_244 : HID (Pn_228.be q_107 = q2_110) := hke_230.be hq_208.1 hq_208.2 ha_211.out
    have ha_245 : HID (Pn_228.be xb_186 = q2_110) := hke_230.be hq_209.1 hq_209.2 ha_212.out
    have ha_246 : HID (Pn_228.bp xb_186 = pr_192) := hke_230.bp hq_209.1 hq_209.2 ha_213.out
    have ha_247 : HID (Pn_228.br xb_186 = pr_224) := hke_230.br hq_209.1 hq_209.2 epr_224.symm
    have hA_248 : KEG [la, lb] L P Ln_160 Pn_228 := hA_214.trans hke_230
    have : Pn_228.lz pr_224 = 0 := hu_229.2.1
    have : Pn_228.lz la = Pn_196.lz la := hu_229.lz (ek_ne hek_215.out hek_226.out (by decide))
    have : Pn_228.lz lb = Pn_196.lz lb := hu_229.lz (ek_ne hek_217.out hek_226.out (by decide))
    have : Pn_228.lz lr = Pn_196.lz lr := hu_229.lz (fun e9 => (show Pn_196.ow pr_224 ≠ pr_224 from (fun e9 => kd_ne hq_209.2 hlk_225.2.1 (by decide) (show xb_186 = pr_224 from (by have q9 := (hak_199.owc xb_186 hq_209.1 hq_209.2).1.2.1; rw [epr_224.symm, e9] at q9; exact q9.symm)))) (by rw [← e9]; exact how_220.out))
    have : Pn_228.lz pr_192 = Pn_196.lz pr_192 := hu_229.lz (ek_ne hek_221.out hek_226.out (by decide))
    have : Pn_228.cap la = Pn_196.cap la := hu_229.cap la
    have : LVS (Pn_228.cap la) = LVS (Pn_196.cap la) := congrArg LVS (hu_229.cap la)
    have : Pn_228.cap lb = Pn_196.cap lb := hu_229.cap lb
    have : LVS (Pn_228.cap lb) = LVS (Pn_196.cap lb) := congrArg LVS (hu_229.cap lb)
    have : Pn_228.cap lr = Pn_196.cap lr := hu_229.cap lr
    have : LVS (Pn_228.cap lr) = LVS (Pn_196.cap lr) := congrArg LVS (hu_229.cap lr)
    have hek_249 : HID (Pn_228.ek la = 12) := (by rw [hke_230.ek hq_205.1 hq_205.2 (by decide)]; exact hek_215.out)
    have how_250 : HID (Pn_228.ow la = la) := ((hke_230.1 la hq_205.1 (by rw [hq_205.2]; decide)).2.2.2.1 hq_205.2 how_216.out).1
    have hek_251 : HID (Pn_228.ek lb = 12) := (by rw [hke_230.ek hq_206.1 hq_206.2 (by decide)]; exact hek_217.out)
    have how_252 : HID (Pn_228.ow lb = lb) := ((hke_230.1 lb hq_206.1 (by rw [hq_206.2]; decide)).2.2.2.1 hq_206.2 how_218.out).1
    have hek_253 : HID (Pn_228.ek lr = 17) := (by rw [hke_230.ek hq_207.1 hq_207.2 (by decide)]; exact hek_219.out)
    have how_254 : HID (Pn_228.ow lr = lr) := ((hke_230.1 lr hq_207.1 (by rw [hq_207.2]; decide)).2.2.2.1 hq_207.2 how_220.out).1
    have hcz := (((hke_230.1 lr hq_207.1 (by rw [hq_207.2]; decide)).2.2.2.1 hq_207.2 how_220.out).2 (fun q9 => by simp at q9; rcases q9 with q9 | q9; exact absurd q9 (ek_ne hek_219.out hek_215.out (by decide)); exact absurd q9 (ek_ne hek_219.out hek_217.out (by decide)))).1
    have hek_255 : HID (Pn_228.ek pr_192 = 15) := (by rw [hke_230.ek hq_210.1 hq_210.2 (by decide)]; exact hek_221.out)
    have hek_256 : HID (Pn_228.ek pr_224 = 17) := (by rw [hke_230.ek hlk_225.1 hlk_225.2.1 (by decide)]; exact hek_226.out)
    have hps := PSI.same (w := wSL) (L := Ln_160) hu_229.1.1
    have hpc := PSI.same (w := wCE) (L := Ln_160) hu_229.1.1
    have hlv_257 : LVA Ln_160 Pn_228 := LVA.same hlv_222 hu_229.1.1
    refine lv_aload_n hx hb dX13_block_68 rfl (lv_at hl 1 rfl) ?_
    refine va_get (D := (dC, dI)) (ci := 12) (v := .ref la) (C := RX13) (T := TX13) (N := 7) hx hb hts mem_P13_blockP_0 hown hK hP 0 rfl rfl 5 (by decide) (ow (k := 15) rfl) (fun _ h9 => h9) rfl dX13_block_69 ?_
    refine lv_aload_n hx hb dX13_block_72 rfl (lv_at hl 0 rfl) ?_
    have hlk_258 := (show LOK Ln_160 Pn_228 cO 12 la from (by have q9 := (hak_231.gla la hq_237.1 hq_237.2).1; rw [hek_249.out] at q9; exact q9))
    have hX_x := hlk_258.1
    have hX_k := hlk_258.2.1
    have hlz9 := hlk_258.2.2.1
    have hX_c := hak_231.adc hlk_258
    have hX_y : xb_186 ∈ Ln_160 ∧ OBK (Pn_228.kd xb_186) := ⟨hq_241.1, (by rw [hq_241.2]; unfold OBK; decide)⟩
    have hvv_259 := hlv_257 la hlk_258.1 hlk_258.2.1
    have hX_v := hvv_259.1
    have hnd_260 : Ln_160.Nodup := pl_nd hD
    have had_261 := hX_c
    have hPc := hP.part (X := [(hc, .inr (12, [.ref lb, .ref lr, v13_2, v13_3, v13_4, .ref la, .int (zI (z_190))]))]) (cx := []) (pl := va_pl Ln_160 (pE Pn_228)) [] rfl
    have hDc := hD.part (X := [(hc, .inr (12, [.ref lb, .ref lr, v13_2, v13_3, v13_4, .ref la, .int (zI (z_190))]))]) (cx := []) (pl := va_pl Ln_160 (pE Pn_228)) [] (by decide) rfl
    have hKc := hK.sub (tys' := [(cO, .object "java/lang/Object")]) [2] rfl
    have hFc := va_freeP (X := [(hc, .inr (12, [.ref lb, .ref lr, v13_2, v13_3, v13_4, .ref la, .int (zI (z_190))]))]) (cx := []) (pl := va_pl Ln_160 (pE Pn_228)) hD hS hA [] rfl
    have hgl := ADC.gl6 hX_c (by omega)
    refine va_calli (va_runV (As := [.ref xb_186]) (rest := []) ⟨hx, hb, hml, hown, hts⟩ (c_PL_addAX l dC dI cO Ln_160 Pn_228 la xb_186 sx_ed hX_x hX_k (by omega) hX_c hX_y hX_v H.size sx_mi) (cwV 1 hts g_P13_blockP_PL_addAX rfl rfl rfl (by decide +kernel) ⟨(Nat.le_of_ble_eq_true rfl), (Nat.le_of_ble_eq_true rfl)⟩) ⟨fun a U g mk q => by obtain ⟨q0, q1, qP, qK, qD, e0, e1, e2, e3, e4, e5, e6, e7⟩ := q; exact ⟨q0, q1, qP, va_K.moved (u := U) (U := U.calling g mk a) (Vm.Alike.refl U.vm) qK, qD, va_Nw.same rfl (u := U) (U := U.calling g mk a) rfl e0, va_Nw.same rfl (u := U) (U := U.calling g mk a) rfl e1, va_Nw.same rfl (u := U) (U := U.calling g mk a) rfl e2, va_Dc.moved (u := U) (U := U.calling g mk a) (Vm.Alike.refl U.vm) e3, va_Mi.moved (u := U) (U := U.calling g mk a) (Vm.Alike.refl U.vm) e4, va_AO.moved (u := U) (U := U.calling g mk a) (Vm.Alike.refl U.vm) e5, va_T.moved (u := U) (U := U.calling g mk a) (Vm.Alike.refl U.vm) e6, va_Z.moved (u := U) (U := U.calling g mk a) (Vm.Alike.refl U.vm) e7⟩, recv_30 hKc hPc hq_237.1 hq_237.2, fun U hU hW => ⟨rfl, by rw [hU], by rw [hU]; exact hPc, va_K.moved hW.alike hKc, hDc.weaken (fun _ _ _ _ => trivial), va_Nw.warmC hW hp1, va_Nw.warmC hW hp2, va_Nw.warmC hW hp3, va_Dc.moved hW.alike hp4, va_Mi.moved hW.alike hp5, va_AO.moved hW.alike hp6, by rw [hU]; exact va_T.narrow (va_T.moved hW.alike (va_T.kept hp7 hS.2.1)) hFc, by rw [hU]; exact va_Z.narrow (va_Z.moved hW.alike (va_Z.kept hp8 hS.2.1)) hFc⟩⟩ rfl rfl hl.1 rfl (lv_room (Nat.le_of_ble_eq_true rfl)) dX13_block_73 ⟨(Nat.le_trans (show (4 + (Pm_130.gc lb)) + (Pn_228.gc la) ≤ 6 by omega) (Nat.le_of_ble_eq_true rfl)), (Nat.le_trans (show (18 + (Pm_130.gx lb)) + (Pn_228.gx la) ≤ 12510 by omega) (Nat.le_of_ble_eq_true rfl))⟩) hS (fun q _ h => hFc q h) hFc (fun r_262 z_263 t H1 locs ht hvm hw hB hz1 hk1 hS => ?_)
    obtain ⟨Ln_264, Pn_265, hxt_265, hP1, hK1, hD1⟩ := hB
    rw [ht] at hP1
    have hK1 := va_K.moved hvm.symm hK1
    obtain ⟨hP, hD⟩ := va_joinP (X := [(hc, .inr (12, [.ref lb, .ref lr, v13_2, v13_3, v13_4, .ref la, .int (zI (z_190))]))]) (cx := []) (wr := [(hc, .inr (12, [.ref lb, .ref lr, v13_2, v13_3, v13_4, .ref la, .int (zI (z_190))]))]) (rx := []) (pl := va_pl Ln_160 (pE Pn_228)) (pl1 := va_pl Ln_264 (pE Pn_265)) hP hD [] [0] rfl rfl (by decide) (by decide) hk1 hFc hP1 hD1
    have hK := (hK.sub (tys' := [(cI, .int), (cZ, .boolean)]) [0, 1] rfl).app hK1
    generalize H1 = H at hP hS ⊢
    have hP : va_P (dC, dI) vwQ ([(hc, .inr (12, [.ref lb, .ref lr, v13_2, v13_3, v13_4, .ref la, .int (zI (z_190))]))] ++ va_pl Ln_264 (pE Pn_265)) H := hP
    have hD : va_D A ([(hc, .inr (12, [.ref lb, .ref lr, v13_2, v13_3, v13_4, .ref la, .int (zI (z_190))]))] ++ va_pl Ln_264 (pE Pn_265)) := hD
    have hK : va_K (dC, dI) vwQ [(cI, .int), (cZ, .boolean), (cO, .object "java/lang/Object")] s := hK
    refine W.widen (k := ((4 + (Pm_130.gc lb)) + (Pn_228.gc la))) (n := ((18 + (Pm_130.gx lb)) + (Pn_228.gx la))) (by omega) (by omega) ?_
    obtain ⟨rfl, hzz_263⟩ := hw
    have hu_266 := HID.mk (hxt_265)
    replace hxt_265 := HID.mk hxt_265
    have hfx := hu_266.2.2.2.2.2.2.2
    have han := hu_266.2.2.2.1
    have hke_267 : KEG [la, lb] Ln_160 Pn_228 Ln_264 Pn_265 := hu_266.1.kegR hak_231 hq_237.1 hq_237.2 hfx (Or.inr (by simp))
    have hak_268 : GLR Ln_264 Pn_265 cO cI cZ sx_ed := hak_231.add hu_266.1 hq_237.1 hq_237.2 hfx hek_249.out hq_241.1 hq_241.2 hu_266.2.1 (by omega) hu_266.2.2.1 hu_266.2.2.2.1.1 (by have q9 := hak_231.adc40 hlk_258; omega) hu_266.2.2.2.2.1 hu_266.2.2.2.2.2.1 hu_266.2.2.2.2.2.2.1 (fun q9 => absurd q9 (by decide))
    clear han
    have hst_269 := hu_266.1.chgo hak_231.owa hq_237.1 hq_237.2 hfx
    have hza := hu_266.2.1
    have hel_270 : ∀ i : Int, 0 ≤ i → i < P.lz la → Pn_265.el la i = P.el la i := (fun i i0 i1 => (hu_266.1.elx hu_266.2.2.2.2.2.2.1 i0 (by omega)).trans (hel_233 i i0 i1))
    have hel_271 : ∀ i : Int, 0 ≤ i → i < P.lz lb → Pn_265.el lb i = P.el lb i := (fun i i0 i1 => (hu_266.1.elO hak_231.owa hq_237.1 hq_237.2 hfx hq_238.1 hq_238.2 hX_ab.symm i0 (by omega)).trans (hel_234 i i0 i1))
    have hel_272 : ∀ i : Int, 0 ≤ i → i < P.lz lr → Pn_265.el lr i = P.el lr i := (fun i i0 i1 => (hu_266.1.elO hak_231.owa hq_237.1 hq_237.2 hfx hq_239.1 hq_239.2 (ek_ne hek_253.out hek_249.out (by decide)) i0 (by omega)).trans (hel_235 i i0 i1))
    have hef_273 : Pn_265.el lb (z13_made) = xb_186 := (by have i0 : (0 : Int) ≤ z13_made := (by omega); exact (hu_266.1.elO hak_231.owa hq_237.1 hq_237.2 hfx hq_238.1 hq_238.2 hX_ab.symm i0 (by omega)).trans hef_236)
    have hlast := hu_266.1.elast hu_266.2.2.2.2.2.1
    have hq_274 : HID (la ∈ Ln_264 ∧ Pn_265.kd la = 30) := hke_267.mem hq_237.1 hq_237.2 (by decide)
    have hq_275 : HID (lb ∈ Ln_264 ∧ Pn_265.kd lb = 30) := hke_267.mem hq_238.1 hq_238.2 (by decide)
    have hq_276 : HID (lr ∈ Ln_264 ∧ Pn_265.kd lr = 30) := hke_267.mem hq_239.1 hq_239.2 (by decide)
    have hq_277 : HID (q_107 ∈ Ln_264 ∧ Pn_265.kd q_107 = 12) := hke_267.mem hq_240.1 hq_240.2 (by decide)
    have hq_278 : HID (xb_186 ∈ Ln_264 ∧ Pn_265.kd xb_186 = 12) := hke_267.mem hq_241.1 hq_241.2 (by decide)
    have hq_279 : HID (pr_192 ∈ Ln_264 ∧ Pn_265.kd pr_192 = 30) := hke_267.mem hq_242.1 hq_242.2 (by decide)
    have hq_280 : HID (pr_224 ∈ Ln_264 ∧ Pn_265.kd pr_224 = 30) := hke_267.mem hq_243.1 hq_243.2 (by decide)
    have ha_281 : HID (Pn_265.be q_107 = q2_110) := hke_267.be hq_240.1 hq_240.2 ha_244.out
    have ha_282 : HID (Pn_265.be xb_186 = q2_110) := hke_267.be hq_241.1 hq_241.2 ha_245.out
    have ha_283 : HID (Pn_265.bp xb_186 = pr_192) := hke_267.bp hq_241.1 hq_241.2 ha_246.out
    have ha_284 : HID (Pn_265.br xb_186 = pr_224) := hke_267.br hq_241.1 hq_241.2 ha_247.out
    have hA_285 : KEG [la, lb] L P Ln_264 Pn_265 := hA_248.trans hke_267
    have : Pn_265.lz lb = Pn_228.lz lb := (hu_266.1.chg lb hq_238.1 (fun q9 => by rcases q9 with q9 | q9; exact hX_ab.symm q9; exact hak_231.owa.nle hq_237.1 hq_237.2 hfx hq_238.1 (by rw [hq_238.2]; decide) q9)).2.1 0
    have : Pn_265.lz lr = Pn_228.lz lr := (hu_266.1.chg lr hq_239.1 (fun q9 => by rcases q9 with q9 | q9; exact (ek_ne hek_253.out hek_249.out (by decide)) q9; exact hak_231.owa.nle hq_237.1 hq_237.2 hfx hq_239.1 (by rw [hq_239.2]; decide) q9)).2.1 0
    have : Pn_265.lz pr_192 = Pn_228.lz pr_192 := (hu_266.1.chg pr_192 hq_242.1 (fun q9 => by rcases q9 with q9 | q9; exact (ek_ne hek_255.out hek_249.out (by decide)) q9; exact hak_231.owa.nle hq_237.1 hq_237.2 hfx hq_242.1 (by rw [hq_242.2]; decide) q9)).2.1 0
    have : Pn_265.lz pr_224 = Pn_228.lz pr_224 := (hu_266.1.chg pr_224 hq_243.1 (fun q9 => by rcases q9 with q9 | q9; exact (ek_ne hek_256.out hek_249.out (by decide)) q9; exact hak_231.owa.nle hq_237.1 hq_237.2 hfx hq_243.1 (by rw [hq_243.2]; decide) q9)).2.1 0
    have : Pn_265.cap lb = Pn_228.cap lb := hu_266.1.capO hak_231.owa hq_237.1 hq_237.2 hfx hq_238.1 hq_238.2 hX_ab.symm
    have : LVS (Pn_265.cap lb) = LVS (Pn_228.cap lb) := congrArg LVS (hu_266.1.capO hak_231.owa hq_237.1 hq_237.2 hfx hq_238.1 hq_238.2 hX_ab.symm)
    have : Pn_265.cap lr = Pn_228.cap lr := hu_266.1.capO hak_231.owa hq_237.1 hq_237.2 hfx hq_239.1 hq_239.2 (ek_ne hek_253.out hek_249.out (by decide))
    have : LVS (Pn_265.cap lr) = LVS (Pn_228.cap lr) := congrArg LVS (hu_266.1.capO hak_231.owa hq_237.1 hq_237.2 hfx hq_239.1 hq_239.2 (ek_ne hek_253.out hek_249.out (by decide)))
    have hza := hu_266.2.1
    have hek_286 : HID (Pn_265.ek la = 12) := (by rw [hke_267.ek hq_237.1 hq_237.2 (by decide)]; exact hek_249.out)
    have how_287 : HID (Pn_265.ow la = la) := ((hke_267.1 la hq_237.1 (by rw [hq_237.2]; decide)).2.2.2.1 hq_237.2 how_250.out).1
    have hek_288 : HID (Pn_265.ek lb = 12) := (by rw [hke_267.ek hq_238.1 hq_238.2 (by decide)]; exact hek_251.out)
    have how_289 : HID (Pn_265.ow lb = lb) := ((hke_267.1 lb hq_238.1 (by rw [hq_238.2]; decide)).2.2.2.1 hq_238.2 how_252.out).1
    have hek_290 : HID (Pn_265.ek lr = 17) := (by rw [hke_267.ek hq_239.1 hq_239.2 (by decide)]; exact hek_253.out)
    have how_291 : HID (Pn_265.ow lr = lr) := ((hke_267.1 lr hq_239.1 (by rw [hq_239.2]; decide)).2.2.2.1 hq_239.2 how_254.out).1
    have hcz := (((hke_267.1 lr hq_239.1 (by rw [hq_239.2]; decide)).2.2.2.1 hq_239.2 how_254.out).2 (fun q9 => by simp at q9; rcases q9 with q9 | q9; exact absurd q9 (ek_ne hek_253.out hek_249.out (by decide)); exact absurd q9 (ek_ne hek_253.out hek_251.out (by decide)))).1
    have hek_292 : HID (Pn_265.ek pr_192 = 15) := (by rw [hke_267.ek hq_242.1 hq_242.2 (by decide)]; exact hek_255.out)
    have hek_293 : HID (Pn_265.ek pr_224 = 17) := (by rw [hke_267.ek hq_243.1 hq_243.2 (by decide)]; exact hek_256.out)
    clear hfx
    have hfx := hu_266.2.2.2.2.2.2.2
    have hnd_294 : Ln_264.Nodup := pl_nd hD
    have hpp_295 := PSI.putR hnd_260 hnd_294 hak_231.glfR hu_266.1 hlk_258.1 hlk_258.2.1 hfx hvv_259.1 (by omega) hu_266.2.2.2.1.2.2.1 hu_266.2.2.2.1.2.2.2 had_261 hvv_259.2
    have hps := hpp_295.1
    have hpc := hpp_295.2.1
    have hpg := PSI.glsR hnd_260 hnd_294 hak_231.glfR hu_266.1 hlk_258.1 hlk_258.2.1 hfx
    have hlv_296 : LVA Ln_264 Pn_265 := LVA.gl1R hlv_257 hak_231.glfR hu_266.1 hlk_258.1 hlk_258.2.1 hfx hpp_295.2.2
    have hvga : LV2 (Pn_265.cap la) (Pn_228.cap la) (Pn_228.lz la + 1) := LVG.put hu_266.1 hvv_259.1 (by omega) (by omega) hu_266.2.2.2.1.2.2.1 hu_266.2.2.2.1.2.2.2
    refine lv_pop hx hb dX13_block_76 rfl ?_
    refine lv_aload_n hx hb dX13_block_77 rfl (lv_at hl 0 rfl) ?_
    subst hQ
    have hK := hK.sub (tys' := [(cO, .object "java/lang/Object"), (cI, .int), (cZ, .boolean)]) [2, 0, 1] rfl
    refine W_knowS (fun hrm9 => ?_)
    refine W.widen (k := 6) (n := 12510) (by omega) (by omega) ?_
    exact W.aret (v := .ref xb_186) hx hb hr (Or.inl ⟨_, rfl⟩) (Or.inr ⟨_, rfl⟩) (fun t ht hW => ⟨⟨(), xb_186, rfl, trivial, z_190, Ln_264, Pn_265, ((4 + (Pm_130.gc lb)) + (Pn_228.gc la)), ((18 + (Pm_130.gx lb)) + (Pn_228.gx la)), ⟨⟨(by rw [ht, ← hp9]; exact hrm9), (by omega)⟩, ⟨(by omega), ⟨hA_285, hak_268, ⟨⟨hq_278.1, hq_278.2, hef_273.symm, (by have h9 := hlast; rw [show Pn_228.lz la = P.lz la from (by omega)] at h9; exact h9.symm), (by rw [ha_283.out]; omega), (by rw [ha_284.out]; omega)⟩, ⟨by omega, by omega, by omega⟩, hel_270, hel_271, ((((hex_149.chgo.step hst_165 (Or.inr (Or.inl rfl))).step hst_200 (Or.inr (Or.inr (Or.inl ha_283.out.symm)))).step hst_232 (Or.inr (Or.inr (Or.inr ha_284.out.symm)))).step hst_269 (Or.inl rfl))⟩, (hX_ds.blkR hX_g hX_lb hA_285 hel_271 (Or.inr ⟨by omega, (by rw [show P.lz lb = z13_made from (by omega), hef_273]; exact hxn9), (by rw [show P.lz lb = z13_made from (by omega), hef_273, ha_282.out]; exact hbnL)⟩)), by omega, by omega, hlv_296, ⟨by omega, by omega, by omega, by omega⟩, (((LVG.refl (P.cap la) (P.lz la)).to (show Pn_228.cap la = P.cap la from (by omega)) (show Pn_228.lz la = P.lz la from (by omega))).step hvga (by omega)).to rfl (by omega)⟩⟩⟩, by rw [ht]; exact hP, va_K.moved hW.alike hK, hD⟩, hS.F ht⟩) hS.2.2 dX13_block_78
