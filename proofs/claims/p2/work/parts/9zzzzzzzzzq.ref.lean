def o_P13_blockI : List Cond := [.fieldLink RX13 35 "SsaForgeModel$Code" "made" "I", .fieldLink RX13 10 "SsaForgeModel$Code" "blocks" "Ljava/util/ArrayList;", .methodLink RX13 38 yJx4a65c_size_8abf5, .instanceMethod yJx4a65c_size_8abf5, .selects RJx4a65c yJx4a65c_size_8abf5 yJx4a65c_size_8abf5, .initialized RJx4a65c, .methodLink RX13 49 yJx4a65c_get_915e3, .instanceMethod yJx4a65c_get_915e3, .selects RJx4a65c yJx4a65c_get_915e3 yJx4a65c_get_915e3, .classLink RX13 42 "SsaForgeModel$Block", .fieldLink RX13 53 "SsaForgeModel$Block" "phis" "Ljava/util/ArrayList;", .methodLink RX13 32 yJx4a65c_clear_da8c8, .instanceMethod yJx4a65c_clear_da8c8, .selects RJx4a65c yJx4a65c_clear_da8c8 yJx4a65c_clear_da8c8, .fieldLink RX13 54 "SsaForgeModel$Block" "rows" "Ljava/util/ArrayList;", .fieldLink RX13 22 "SsaForgeModel$Code" "all" "Ljava/util/ArrayList;", .methodLink RX13 45 yJx4a65c_add_9ea2d, .instanceMethod yJx4a65c_add_9ea2d, .selects RJx4a65c yJx4a65c_add_9ea2d yJx4a65c_add_9ea2d, .classLink RX13 42 RX12, .instantiable RX12 5, .initialized RX12, .instanceMethod yX12_init]
def v_P13_blockI : List Cond := .code yX13_block cX13_block 2 (some (.object "SsaForgeModel$Block")) :: (o_P13_blockI ++ (wsX130 ++ (v_PL_size ++ (v_PL_get ++ (wsX120 ++ (v_PL_clearA ++ (v_PL_addAR ++ (v_X12_initH ++ []))))))))
theorem mow_P13_blockI : ∀ w ∈ o_P13_blockI, w ∈ v_P13_blockI := fun _ h => List.mem_cons_of_mem _ (List.mem_append_left _ h)
theorem mem_P13_blockI_0 : ∀ w ∈ wsX130, w ∈ v_P13_blockI := fun _ h => List.mem_cons_of_mem _ (List.mem_append_right _ (List.mem_append_left _ h))
theorem mem_P13_blockI_1 : ∀ w ∈ v_PL_size, w ∈ v_P13_blockI := fun _ h => List.mem_cons_of_mem _ (List.mem_append_right _ (List.mem_append_right _ (List.mem_append_left _ h)))
theorem mem_P13_blockI_2 : ∀ w ∈ v_PL_get, w ∈ v_P13_blockI := fun _ h => List.mem_cons_of_mem _ (List.mem_append_right _ (List.mem_append_right _ (List.mem_append_right _ (List.mem_append_left _ h))))
theorem mem_P13_blockI_3 : ∀ w ∈ wsX120, w ∈ v_P13_blockI := fun _ h => List.mem_cons_of_mem _ (List.mem_append_right _ (List.mem_append_right _ (List.mem_append_right _ (List.mem_append_right _ (List.mem_append_left _ h)))))
theorem mem_P13_blockI_4 : ∀ w ∈ v_PL_clearA, w ∈ v_P13_blockI := fun _ h => List.mem_cons_of_mem _ (List.mem_append_right _ (List.mem_append_right _ (List.mem_append_right _ (List.mem_append_right _ (List.mem_append_right _ (List.mem_append_left _ h))))))
theorem mem_P13_blockI_5 : ∀ w ∈ v_PL_addAR, w ∈ v_P13_blockI := fun _ h => List.mem_cons_of_mem _ (List.mem_append_right _ (List.mem_append_right _ (List.mem_append_right _ (List.mem_append_right _ (List.mem_append_right _ (List.mem_append_right _ (List.mem_append_left _ h)))))))
theorem mem_P13_blockI_6 : ∀ w ∈ v_X12_initH, w ∈ v_P13_blockI := fun _ h => List.mem_cons_of_mem _ (List.mem_append_right _ (List.mem_append_right _ (List.mem_append_right _ (List.mem_append_right _ (List.mem_append_right _ (List.mem_append_right _ (List.mem_append_right _ (List.mem_append_left _ h))))))))
set_option maxRecDepth 20000 in
theorem gw_P13_blockI : v_P13_blockI.all goodWord = true := by decide +kernel
set_option maxRecDepth 20000 in
theorem g_P13_blockI_PL_size : GoodIn v_P13_blockI (wsV RX13 38 RJx4a65c yJx4a65c_size_8abf5 v_PL_size) := goodIn_app (goodIn_sub (fun w h => mow_P13_blockI w (by revert w h; decide +kernel)) (by decide +kernel)) (goodIn_sub mem_P13_blockI_1 gw_PL_size)
set_option maxRecDepth 20000 in
theorem g_P13_blockI_PL_get : GoodIn v_P13_blockI (wsV RX13 49 RJx4a65c yJx4a65c_get_915e3 v_PL_get) := goodIn_app (goodIn_sub (fun w h => mow_P13_blockI w (by revert w h; decide +kernel)) (by decide +kernel)) (goodIn_sub mem_P13_blockI_2 gw_PL_get)
set_option maxRecDepth 20000 in
theorem g_P13_blockI_PL_clearA : GoodIn v_P13_blockI (wsV RX13 32 RJx4a65c yJx4a65c_clear_da8c8 v_PL_clearA) := goodIn_app (goodIn_sub (fun w h => mow_P13_blockI w (by revert w h; decide +kernel)) (by decide +kernel)) (goodIn_sub mem_P13_blockI_4 gw_PL_clearA)
set_option maxRecDepth 20000 in
theorem g_P13_blockI_PL_addAR : GoodIn v_P13_blockI (wsV RX13 45 RJx4a65c yJx4a65c_add_9ea2d v_PL_addAR) := goodIn_app (goodIn_sub (fun w h => mow_P13_blockI w (by revert w h; decide +kernel)) (by decide +kernel)) (goodIn_sub mem_P13_blockI_5 gw_PL_addAR)
set_option maxHeartbeats 4000000 in
set_option maxRecDepth 100000 in
theorem c_P13_blockI (l : Launch) (dC : Nat → ClassId) (dI : Nat → Nat → Nat) (cI : ClassId) (cZ : ClassId) (hc : Nat) (v13_2 : Value) (v13_3 : Value) (v13_4 : Value) (z13_made : Int) (la : Nat) (lb : Nat) (lr : Nat) (cO : ClassId) (L : List Nat) (P : PO) (sx_ed : Nat) (hNz13_made : 0 ≤ z13_made ∧ z13_made ≤ 9000) (hX_g : GLF L P cO cI cZ sx_ed) (hX_la : la ∈ L ∧ P.kd la = 30 ∧ P.ek la = 12 ∧ P.ow la = la) (hX_lb : lb ∈ L ∧ P.kd lb = 30 ∧ P.ek lb = 12 ∧ P.ow lb = lb) (hX_lr : lr ∈ L ∧ P.kd lr = 30 ∧ P.ek lr = 17 ∧ P.ow lr = lr) (hX_ab : la ≠ lb) (hX_ds : DST P lb) (hNr : z13_made ≤ P.lz lb ∧ P.lz lb ≤ 9000 ∧ 0 ≤ z13_made ∧ P.lz la ≤ 9000 ∧ 0 ≤ P.lz la) (sz : Nat) (sx_mi : Nat) (HU : Heap) : Met l yX13_block v_P13_blockI ({ frames := 7, cells := 6, slots := 200018, locals := 191 }) (va_Pc [.ref hc] (fun U => U.heap.size = sz ∧ va_P (dC, dI) vwQ ([(hc, .inr (12, [.ref lb, .ref lr, v13_2, v13_3, v13_4, .ref la, .int (zI (z13_made))]))] ++ va_pl L (pE P)) U.heap ∧ va_K (dC, dI) vwQ [(cO, .object "java/lang/Object"), (cI, .int), (cZ, .boolean)] U ∧ va_D (fun _ => True) ([(hc, .inr (12, [.ref lb, .ref lr, v13_2, v13_3, v13_4, .ref la, .int (zI (z13_made))]))] ++ va_pl L (pE P)) ∧ va_Nw (.castable "SsaForgeModel$Block" "SsaForgeModel$Block") U ∧ va_Nw (.castable "SsaForgeModel$Row" "java/lang/Object") U ∧ va_Nw (.castable "SsaForgeModel$Phi" "java/lang/Object") U ∧ va_Nw (.castable "SsaForgeModel$Block" "java/lang/Object") U ∧ va_Dc U ∧ va_Mi "[Ljava/lang/Object;" sx_mi U ∧ va_AO "java/lang/Object" U ∧ va_T (.object "java/lang/Object") sx_ed 0 (fun _ => .null) (va_A ([(hc, .inr (12, [.ref lb, .ref lr, v13_2, v13_3, v13_4, .ref la, .int (zI (z13_made))]))] ++ va_pl L (pE P)) sz) U U.heap ∧ va_Z "java/util/ArrayList" "DEFAULTCAPACITY_EMPTY_ELEMENTDATA" "[Ljava/lang/Object;" (.ref sx_ed) (va_A ([(hc, .inr (12, [.ref lb, .ref lr, v13_2, v13_3, v13_4, .ref la, .int (zI (z13_made))]))] ++ va_pl L (pE P)) sz) U U.heap ∧ U.heap = HU ∧ va_Nw (.methodLinkNest RX12 23 yX17_init "SsaForgeModel") U ∧ va_Nw (.methodLinkNest RX13 44 yX12_init "SsaForgeModel") U)) (va_Qr (fun _ : Unit => True) (fun (_ : Unit) (rq : Nat) (t : State) => ∃ (z0_9 : Int) (Ln_9 : List Nat) (Pn_9 : PO) (kc_9 : Nat) (ks_9 : Nat), ((RM HU t.heap kc_9 ks_9 ∧ ((ks_9 : Int) ≤ 18 * (Pn_9.lz lb - P.lz lb) + 5 * (Pn_9.cap lb - P.cap lb) + 5 * (Pn_9.cap la - P.cap la) ∧ (kc_9 : Int) ≤ 4 * (Pn_9.lz lb - P.lz lb) + (Pn_9.cap lb - P.cap lb) + (Pn_9.cap la - P.cap la) ∧ (ks_9 : Int) ≤ 200018 ∧ (kc_9 : Int) ≤ 6)) ∧ ((0 ≤ z0_9 ∧ z0_9 ≤ 9001) ∧ (KEG [la, lb] L P Ln_9 Pn_9 ∧ GLF Ln_9 Pn_9 cO cI cZ sx_ed ∧ CB9 la lb rq (z13_made) L P Ln_9 Pn_9 ∧ DST Pn_9 lb ∧ (z0_9 = z13_made + 1) ∧ Pn_9.lz lr = P.lz lr ∧ Pn_9.cap lr = P.cap lr))) ∧ va_P (dC, dI) vwQ ([(hc, .inr (12, [.ref lb, .ref lr, v13_2, v13_3, v13_4, .ref la, .int (zI (z0_9))]))] ++ va_pl Ln_9 (pE Pn_9)) t.heap ∧ va_K (dC, dI) vwQ [(cO, .object "java/lang/Object"), (cI, .int), (cZ, .boolean)] t ∧ va_D (va_A ([(hc, .inr (12, [.ref lb, .ref lr, v13_2, v13_3, v13_4, .ref la, .int (zI (z13_made))]))] ++ va_pl L (pE P)) sz) ([(hc, .inr (12, [.ref lb, .ref lr, v13_2, v13_3, v13_4, .ref la, .int (zI (z0_9))]))] ++ va_pl Ln_9 (pE Pn_9))) (va_A ([(hc, .inr (12, [.ref lb, .ref lr, v13_2, v13_3, v13_4, .ref la, .int (zI (z13_made))]))] ++ va_pl L (pE P)) sz)) 6 200018 (va_A ([(hc, .inr (12, [.ref lb, .ref lr, v13_2, v13_3, v13_4, .ref la, .int (zI (z13_made))]))] ++ va_pl L (pE P)) sz) := by
  refine Met.ofW (cc := cX13_block) (maxL := 2) (ret := (some (.object "SsaForgeModel$Block"))) (by decide) rfl ?_
  intro p e s m args below meth c s₁ B hml hv
  obtain ⟨rfl, hsz, hP, hK, hD0, hp0, hp1, hp2, hp3, hp4, hp5, hp6, hp7, hp8, hp9, hp10, hp11⟩ := hv
  have hx := B.exec
  have hb := B.bytes
  have hr := B.returns
  have hts := atoms_spec (ws := v_P13_blockI) B.pre
  have hown : s.vm.findClass RX13 = some m.cls := findClass_of_methodNamed B.named
  have hlocks := B.notSynchronized
  have ow : ∀ {k : Nat} {w : Cond}, o_P13_blockI[k]? = some w → w.before ([.ref hc] : List Value).toArray s = true := fun h => hts _ (mow_P13_blockI _ (List.mem_of_getElem? h))
  subst hsz
  have hD := hD0.self (sz := s.heap.size)
  generalize hAe : va_A ([(hc, .inr (12, [.ref lb, .ref lr, v13_2, v13_3, v13_4, .ref la, .int (zI (z13_made))]))] ++ va_pl L (pE P)) s.heap.size = A at hD hp6 hp7 hp8 ⊢
  have hA : ∀ q : Nat, s.heap.size ≤ q → A q := fun q h => by rw [← hAe]; exact Or.inr h
  have hS : va_S A s.heap s.heap [] := va_S.rf
  have hP : va_P (dC, dI) vwQ ([(hc, .inr (12, [.ref lb, .ref lr, v13_2, v13_3, v13_4, .ref la, .int (zI (z13_made))]))] ++ va_pl L (pE P)) s.heap := hP
  have hl := lv_entry ([.ref hc]) (n := 2) (Nat.le_of_ble_eq_true rfl)
  rw [lg_entry_eq]
  generalize (lg_sl ([.ref hc]) ++ List.replicate (2 - (lg_sl ([.ref hc])).length) Slot.unset).toArray = ls at hl ⊢
  have hl : lv_has ls 2 [(0, .ref hc)] := hl
  obtain ⟨H, hH⟩ : ∃ H, H = s.heap := ⟨_, rfl⟩
  rw [← hH] at hP
  have hS : va_S A s.heap H [] := by rw [hH]; exact hS
  rw [← hH]
  refine zW_cap (fun Q hQ => ?_)
  have hX_g9 := hX_g
  have hC_la := hX_la
  have hC_lb := hX_lb
  have hC_lr := hX_lr
  refine lv_aload_n hx hb dX13_block_0 rfl (lv_at hl 0 rfl) ?_
  refine va_get (D := (dC, dI)) (ci := 12) (v := .int (zI (z13_made))) (C := RX13) (T := TX13) (N := 7) hx hb hts mem_P13_blockI_0 hown hK hP 0 rfl rfl 6 (by decide) (ow (k := 0) rfl) (fun _ h9 => h9) rfl dX13_block_1 ?_
  refine lv_aload_n hx hb dX13_block_4 rfl (lv_at hl 0 rfl) ?_
  refine va_get (D := (dC, dI)) (ci := 12) (v := .ref lb) (C := RX13) (T := TX13) (N := 7) hx hb hts mem_P13_blockI_0 hown hK hP 0 rfl rfl 0 (by decide) (ow (k := 1) rfl) (fun _ h9 => h9) rfl dX13_block_5 ?_
  have hlk_1 := (show LOK L P cO 12 lb from (by have q9 := (hX_g9.gla lb hC_lb.1 hC_lb.2.1).1; rw [hC_lb.2.2.1] at q9; exact q9))
  have hX_x := hlk_1.1
  have hX_k := hlk_1.2.1
  have hlz9 := hlk_1.2.2.1
  have hPc := hP.part (X := [(hc, .inr (12, [.ref lb, .ref lr, v13_2, v13_3, v13_4, .ref la, .int (zI (z13_made))]))]) (cx := []) (pl := va_pl L (pE P)) [] rfl
  have hDc := hD.part (X := [(hc, .inr (12, [.ref lb, .ref lr, v13_2, v13_3, v13_4, .ref la, .int (zI (z13_made))]))]) (cx := []) (pl := va_pl L (pE P)) [] (by decide) rfl
  have hKc := hK.sub (tys' := [(cO, .object "java/lang/Object")]) [0] rfl
  have hFc := va_freeP (X := [(hc, .inr (12, [.ref lb, .ref lr, v13_2, v13_3, v13_4, .ref la, .int (zI (z13_made))]))]) (cx := []) (pl := va_pl L (pE P)) hD hS hA [] rfl
  refine va_calli (va_runV (As := []) (rest := [.int (zI (z13_made))]) ⟨hx, hb, hml, hown, hts⟩ (c_PL_size l dC dI cO L P lb hX_x hX_k (by omega) H.size) (cwV 0 hts g_P13_blockI_PL_size rfl rfl rfl (by decide +kernel) ⟨(Nat.le_of_ble_eq_true rfl), (Nat.le_of_ble_eq_true rfl)⟩) ⟨fun a U g mk q => by obtain ⟨q0, q1, qP, qK, qD⟩ := q; exact ⟨q0, q1, qP, va_K.moved (u := U) (U := U.calling g mk a) (Vm.Alike.refl U.vm) qK, qD⟩, recv_30 hKc hPc hC_lb.1 hC_lb.2.1, fun U hU hW => ⟨rfl, by rw [hU], by rw [hU]; exact hPc, va_K.moved hW.alike hKc, hDc.weaken (fun _ _ _ _ => trivial)⟩⟩ rfl rfl hl.1 rfl (lv_room (Nat.le_of_ble_eq_true rfl)) dX13_block_8 ⟨(Nat.le_of_ble_eq_true rfl), (Nat.le_of_ble_eq_true rfl)⟩) hS (fun q _ h => hFc q h) hFc (fun r_2 u t H1 locs ht hvm hw hB hz1 hk1 hS => ?_)
  obtain ⟨hP1, hK1, hD1⟩ := hB
  rw [ht] at hP1
  have hK1 := va_K.moved hvm.symm hK1
  obtain ⟨hP, hD⟩ := va_joinP (X := [(hc, .inr (12, [.ref lb, .ref lr, v13_2, v13_3, v13_4, .ref la, .int (zI (z13_made))]))]) (cx := []) (wr := [(hc, .inr (12, [.ref lb, .ref lr, v13_2, v13_3, v13_4, .ref la, .int (zI (z13_made))]))]) (rx := []) (pl := va_pl L (pE P)) (pl1 := va_pl L (pE P)) hP hD [] [0] rfl rfl (by decide) (by decide) hk1 hFc hP1 hD1
  have hK := (hK.sub (tys' := [(cI, .int), (cZ, .boolean)]) [1, 2] rfl).app hK1
  generalize H1 = H at hP hS ⊢
  have hP : va_P (dC, dI) vwQ ([(hc, .inr (12, [.ref lb, .ref lr, v13_2, v13_3, v13_4, .ref la, .int (zI (z13_made))]))] ++ va_pl L (pE P)) H := hP
  have hD : va_D A ([(hc, .inr (12, [.ref lb, .ref lr, v13_2, v13_3, v13_4, .ref la, .int (zI (z13_made))]))] ++ va_pl L (pE P)) := hD
  have hK : va_K (dC, dI) vwQ [(cI, .int), (cZ, .boolean), (cO, .object "java/lang/Object")] s := hK
  refine W.widen (k := 0) (n := 0) (Nat.le_of_ble_eq_true rfl) (Nat.le_of_ble_eq_true rfl) ?_
  obtain rfl : r_2 = (zI (P.lz lb)) := hw
  refine lv_icmp_ne (tgt := 29) hx hb dX13_block_11 (by decide) (fun b11 => ?_) (fun b11 => ?_)
  · have yb11 : ¬ (z13_made : Int) = (P.lz lb : Int) := fun q => b11 ((zI_eq (a := z13_made) (b := P.lz lb) (by omega) (by omega) (by omega) (by omega)).mpr q)
    refine lv_aload_n hx hb dX13_block_29 rfl (lv_at hl 0 rfl) ?_
    refine va_get (D := (dC, dI)) (ci := 12) (v := .ref lb) (C := RX13) (T := TX13) (N := 7) hx hb hts mem_P13_blockI_0 hown hK hP 0 rfl rfl 0 (by decide) (ow (k := 1) rfl) (fun _ h9 => h9) rfl dX13_block_30 ?_
    refine lv_aload_n hx hb dX13_block_33 rfl (lv_at hl 0 rfl) ?_
    refine va_get (D := (dC, dI)) (ci := 12) (v := .int (zI (z13_made))) (C := RX13) (T := TX13) (N := 7) hx hb hts mem_P13_blockI_0 hown hK hP 0 rfl rfl 6 (by decide) (ow (k := 0) rfl) (fun _ h9 => h9) rfl dX13_block_34 ?_
    have hlk_3 := (show LOK L P cO 12 lb from (by have q9 := (hX_g9.gla lb hC_lb.1 hC_lb.2.1).1; rw [hC_lb.2.2.1] at q9; exact q9))
    obtain ⟨x, ex⟩ : ∃ q9 : Nat, q9 = P.el lb (z13_made) := ⟨_, rfl⟩
    have hX_x := hlk_3.1
    have hX_k := hlk_3.2.1
    have hq9 := hlk_3.row (i := z13_made) (by omega) (by omega)
    have hX_q : P.le lb ∈ L ∧ P.kd (P.le lb) = 31 ∧ P.ac (P.le lb) = cO := ⟨hq9.1, hq9.2.1, hq9.2.2.1⟩
    have hq8 := hq9.2.2.2
    have hX_e0 : P.oa (P.le lb) (z13_made).toNat = some x := (by rw [ex]; exact (hlk_3.2.2.2.2 (z13_made) (by omega) (by omega)).1)
    have hxm : x ∈ L := (by rw [ex]; exact (hlk_3.2.2.2.2 (z13_made) (by omega) (by omega)).2.1)
    have hxk := (hlk_3.2.2.2.2 (z13_made) (by omega) (by omega)).2.2
    rw [← ex] at hxk
    have hPc := hP.part (X := [(hc, .inr (12, [.ref lb, .ref lr, v13_2, v13_3, v13_4, .ref la, .int (zI (z13_made))]))]) (cx := []) (pl := va_pl L (pE P)) [] rfl
    have hDc := hD.part (X := [(hc, .inr (12, [.ref lb, .ref lr, v13_2, v13_3, v13_4, .ref la, .int (zI (z13_made))]))]) (cx := []) (pl := va_pl L (pE P)) [] (by decide) rfl
    have hKc := hK.sub (tys' := [(cO, .object "java/lang/Object")]) [2] rfl
    have hFc := va_freeP (X := [(hc, .inr (12, [.ref lb, .ref lr, v13_2, v13_3, v13_4, .ref la, .int (zI (z13_made))]))]) (cx := []) (pl := va_pl L (pE P)) hD hS hA [] rfl
    refine va_callr (va_runV (As := [.int (zI (z13_made))]) (rest := []) ⟨hx, hb, hml, hown, hts⟩ (c_PL_get l dC dI cO L P lb z13_made x hX_x hX_k hX_q (by omega) hX_e0 H.size) (cwV 1 hts g_P13_blockI_PL_get rfl rfl rfl (by decide +kernel) ⟨(Nat.le_of_ble_eq_true rfl), (Nat.le_of_ble_eq_true rfl)⟩) ⟨fun a U g mk q => by obtain ⟨q0, q1, qP, qK, qD⟩ := q; exact ⟨q0, q1, qP, va_K.moved (u := U) (U := U.calling g mk a) (Vm.Alike.refl U.vm) qK, qD⟩, recv_30 hKc hPc hC_lb.1 hC_lb.2.1, fun U hU hW => ⟨rfl, by rw [hU], by rw [hU]; exact hPc, va_K.moved hW.alike hKc, hDc.weaken (fun _ _ _ _ => trivial)⟩⟩ rfl rfl hl.1 rfl (lv_room (Nat.le_of_ble_eq_true rfl)) dX13_block_37 ⟨(Nat.le_of_ble_eq_true rfl), (Nat.le_of_ble_eq_true rfl)⟩) hS (fun q _ h => hFc q h) hFc (fun u q_4 t H1 locs ht hvm hw hB hz1 hk1 hS => ?_)
    obtain ⟨hxt_4, hP1, hK1, hD1⟩ := hB
    rw [ht] at hP1
    have hK1 := va_K.moved hvm.symm hK1
    obtain ⟨hP, hD⟩ := va_joinP (X := [(hc, .inr (12, [.ref lb, .ref lr, v13_2, v13_3, v13_4, .ref la, .int (zI (z13_made))]))]) (cx := []) (wr := [(hc, .inr (12, [.ref lb, .ref lr, v13_2, v13_3, v13_4, .ref la, .int (zI (z13_made))]))]) (rx := []) (pl := va_pl L (pE P)) (pl1 := va_pl L (pE P)) hP hD [] [0] rfl rfl (by decide) (by decide) hk1 hFc hP1 hD1
    have hK := (hK.sub (tys' := [(cI, .int), (cZ, .boolean)]) [0, 1] rfl).app hK1
    generalize H1 = H at hP hS ⊢
    have hP : va_P (dC, dI) vwQ ([(hc, .inr (12, [.ref lb, .ref lr, v13_2, v13_3, v13_4, .ref la, .int (zI (z13_made))]))] ++ va_pl L (pE P)) H := hP
    have hD : va_D A ([(hc, .inr (12, [.ref lb, .ref lr, v13_2, v13_3, v13_4, .ref la, .int (zI (z13_made))]))] ++ va_pl L (pE P)) := hD
    have hK : va_K (dC, dI) vwQ [(cI, .int), (cZ, .boolean), (cO, .object "java/lang/Object")] s := hK
    refine W.widen (k := 0) (n := 0) (Nat.le_of_ble_eq_true rfl) (Nat.le_of_ble_eq_true rfl) ?_
    rw [hxt_4]
    clear hX_e0
    obtain ⟨xb_5, h9⟩ : ∃ q9 : Nat, q9 = x := ⟨_, rfl⟩
    subst h9
    have hm_6 := hxm
    have hk_7 := hxk
    have hel9 := ex
    refine va_castY (C := "SsaForgeModel$Block") (nm := "SsaForgeModel$Block") hx hb hown (ow (k := 9) rfl) hp0 (recv_12 hK hP hm_6 hk_7) dX13_block_40 ?_
    refine lv_astore_n (lv' := [(1, .ref xb_5), (0, .ref hc)]) hx hb dX13_block_43 rfl hl (by decide) rfl (fun ls hl => ?_)
    refine lv_aload_n hx hb dX13_block_44 rfl (lv_at hl 1 rfl) ?_
    refine lv_dup hx hb dX13_block_45 rfl ?_
    refine va_get (D := (dC, dI)) (ci := 12) (v := .int (zI (z13_made))) (C := RX13) (T := TX13) (N := 7) hx hb hts mem_P13_blockI_0 hown hK hP 0 rfl rfl 6 (by decide) (ow (k := 0) rfl) (fun _ h9 => h9) rfl dX13_block_46 ?_
    refine lv_iconst (v := 1) hx hb dX13_block_49 (by decide) ?_
    refine lv_iadd hx hb dX13_block_50 ?_
    refine lv_topi (fun z ez => ?_)
    obtain rfl : z = zI (z13_made + 1) := ez.trans (zI_add (z13_made) (1))
    refine va_put (D := (dC, dI)) (ci := 12) (v := .int (zI (z13_made + 1))) (ty := .int) (C := RX13) (T := TX13) (N := 7) hx hb hts mem_P13_blockI_0 tyX13 tyX13_ok nmX13 hown hK hP hD hS 0 rfl rfl 6 (by decide) (ow (k := 0) rfl) (fun _ h9 => h9) rfl (by decide +kernel) rfl rfl (Nat.le_of_ble_eq_true rfl) dX13_block_51 (fun H locs hP hD hS => ?_)
    have hP : va_P (dC, dI) vwQ ([(hc, .inr (12, [.ref lb, .ref lr, v13_2, v13_3, v13_4, .ref la, .int (zI (z13_made + 1))]))] ++ va_pl L (pE P)) H := hP
    have hD : va_D A ([(hc, .inr (12, [.ref lb, .ref lr, v13_2, v13_3, v13_4, .ref la, .int (zI (z13_made + 1))]))] ++ va_pl L (pE P)) := hD
    obtain ⟨z_9, ez_9⟩ : ∃ z9 : Int, z9 = z13_made + 1 := ⟨_, rfl⟩
    rw [← ez_9] at hP hD
    have hP : va_P (dC, dI) vwQ ([(hc, .inr (12, [.ref lb, .ref lr, v13_2, v13_3, v13_4, .ref la, .int (zI (z_9))]))] ++ va_pl L (pE P)) H := hP
    have hD : va_D A ([(hc, .inr (12, [.ref lb, .ref lr, v13_2, v13_3, v13_4, .ref la, .int (zI (z_9))]))] ++ va_pl L (pE P)) := hD
    refine lv_aload_n hx hb dX13_block_54 rfl (lv_at hl 0 rfl) ?_
    have hfb := (hX_g9.gb hm_6 hk_7).2
    obtain ⟨kp_10, hkp_10⟩ := va_pl_get (X := [(hc, .inr (12, [.ref lb, .ref lr, v13_2, v13_3, v13_4, .ref la, .int (zI (z_9))]))]) (f := pE P) hm_6
    rw [pE_block hk_7] at hkp_10
    refine va_get (D := (dC, dI)) (ci := 19) (v := .ref (P.bp xb_5)) (C := RX12) (T := TX12) (N := 5) hx hb hts mem_P13_blockI_3 hown hK hP kp_10 hkp_10 rfl 0 (by decide) (ow (k := 10) rfl) (fun _ h9 => h9) rfl dX13_block_55 ?_
    obtain ⟨pr_11, epr_11⟩ : ∃ q9 : Nat, q9 = P.bp xb_5 := ⟨_, rfl⟩
    rw [← epr_11]
    have hlk_12 : LOK L P cO 15 pr_11 := (by rw [epr_11]; exact hX_g9.lbp hm_6 hk_7)
    have hlz9 := hlk_12.2.2.1
    have hek_13 : P.ek pr_11 = 15 := (by rw [epr_11]; exact (hX_g9.owc xb_5 hm_6 hk_7).2.1)
    have hlk_14 := (show LOK L P cO 15 pr_11 from (by rw [← epr_11.symm]; exact hX_g9.lbp hm_6 hk_7))
    have hX_x := hlk_14.1
    have hX_k := hlk_14.2.1
    have hlz9 := hlk_14.2.2.1
    have hX_c := hX_g9.adc hlk_14
    have hPc := hP.part (X := [(hc, .inr (12, [.ref lb, .ref lr, v13_2, v13_3, v13_4, .ref la, .int (zI (z_9))]))]) (cx := []) (pl := va_pl L (pE P)) [] rfl
    have hDc := hD.part (X := [(hc, .inr (12, [.ref lb, .ref lr, v13_2, v13_3, v13_4, .ref la, .int (zI (z_9))]))]) (cx := []) (pl := va_pl L (pE P)) [] (by decide) rfl
    have hKc := hK.sub (tys' := [(cO, .object "java/lang/Object")]) [2] rfl
    have hFc := va_freeP (X := [(hc, .inr (12, [.ref lb, .ref lr, v13_2, v13_3, v13_4, .ref la, .int (zI (z_9))]))]) (cx := []) (pl := va_pl L (pE P)) hD hS hA [] rfl
    refine va_callv (va_runV (As := []) (rest := []) ⟨hx, hb, hml, hown, hts⟩ (c_PL_clearA l dC dI cO L P pr_11 sx_ed hX_x hX_k (by omega) hX_c H.size) (cwV 0 hts g_P13_blockI_PL_clearA rfl rfl rfl (by decide +kernel) ⟨(Nat.le_of_ble_eq_true rfl), (Nat.le_of_ble_eq_true rfl)⟩) ⟨fun a U g mk q => by obtain ⟨q0, q1, qP, qK, qD⟩ := q; exact ⟨q0, q1, qP, va_K.moved (u := U) (U := U.calling g mk a) (Vm.Alike.refl U.vm) qK, qD⟩, recv_30 hKc hPc hlk_12.1 hlk_12.2.1, fun U hU hW => ⟨rfl, by rw [hU], by rw [hU]; exact hPc, va_K.moved hW.alike hKc, hDc.weaken (fun _ _ _ _ => trivial)⟩⟩ rfl rfl hl.1 rfl (lv_room (Nat.le_of_ble_eq_true rfl)) dX13_block_58 ⟨(Nat.le_of_ble_eq_true rfl), (Nat.le_of_ble_eq_true rfl)⟩) hS (fun q _ h => hFc q h) hFc (fun  u t H1 locs ht hvm hw hB hz1 hk1 hS => ?_)
    obtain ⟨Pn_15, hxt_15, hP1, hK1, hD1⟩ := hB
    rw [ht] at hP1
    have hK1 := va_K.moved hvm.symm hK1
    obtain ⟨hP, hD⟩ := va_joinP (X := [(hc, .inr (12, [.ref lb, .ref lr, v13_2, v13_3, v13_4, .ref la, .int (zI (z_9))]))]) (cx := []) (wr := [(hc, .inr (12, [.ref lb, .ref lr, v13_2, v13_3, v13_4, .ref la, .int (zI (z_9))]))]) (rx := []) (pl := va_pl L (pE P)) (pl1 := va_pl L (pE Pn_15)) hP hD [] [0] rfl rfl (by decide) (by decide) hk1 hFc hP1 hD1
    have hK := (hK.sub (tys' := [(cI, .int), (cZ, .boolean)]) [0, 1] rfl).app hK1
    generalize H1 = H at hP hS ⊢
    have hP : va_P (dC, dI) vwQ ([(hc, .inr (12, [.ref lb, .ref lr, v13_2, v13_3, v13_4, .ref la, .int (zI (z_9))]))] ++ va_pl L (pE Pn_15)) H := hP
    have hD : va_D A ([(hc, .inr (12, [.ref lb, .ref lr, v13_2, v13_3, v13_4, .ref la, .int (zI (z_9))]))] ++ va_pl L (pE Pn_15)) := hD
    have hK : va_K (dC, dI) vwQ [(cI, .int), (cZ, .boolean), (cO, .object "java/lang/Object")] s := hK
    refine W.widen (k := 0) (n := 0) (Nat.le_of_ble_eq_true rfl) (Nat.le_of_ble_eq_true rfl) ?_
    have hu_16 := hxt_15
    have hke_17 : KEG [la, lb] L P L Pn_15 := hu_16.keg hX_g9 hlk_12.1 hlk_12.2.1 (Or.inl (fun e9 => kd_ne hk_7 hlk_12.2.1 (by decide) (show xb_5 = pr_11 from (by have q9 := (hX_g9.owc xb_5 hm_6 hk_7).2.2.1; rw [epr_11.symm, e9] at q9; exact q9.symm))))
    have hak_18 : GLF L Pn_15 cO cI cZ sx_ed := hu_16.glf hX_g9 hlk_12.1 hlk_12.2.1
    have hst_19 := hu_16.chgo hX_g9.owa hlk_12.1 hlk_12.2.1
    have hel_20 : ∀ i : Int, 0 ≤ i → i < P.lz la → Pn_15.el la i = P.el la i := (fun i i0 i1 => (hu_16.elO hX_g9.owa hlk_12.1 hlk_12.2.1 hC_la.1 hC_la.2.1 (ek_ne hC_la.2.2.1 hek_13 (by decide)) i0 (by omega)))
    have hel_21 : ∀ i : Int, 0 ≤ i → i < P.lz lb → Pn_15.el lb i = P.el lb i := (fun i i0 i1 => (hu_16.elO hX_g9.owa hlk_12.1 hlk_12.2.1 hC_lb.1 hC_lb.2.1 (ek_ne hC_lb.2.2.1 hek_13 (by decide)) i0 (by omega)))
    have hel_22 : ∀ i : Int, 0 ≤ i → i < P.lz lr → Pn_15.el lr i = P.el lr i := (fun i i0 i1 => (hu_16.elO hX_g9.owa hlk_12.1 hlk_12.2.1 hC_lr.1 hC_lr.2.1 (ek_ne hC_lr.2.2.1 hek_13 (by decide)) i0 (by omega)))
    have hef_23 : Pn_15.el lb (z13_made) = xb_5 := (by have i0 : (0 : Int) ≤ z13_made := (by omega); exact (hu_16.elO hX_g9.owa hlk_12.1 hlk_12.2.1 hC_lb.1 hC_lb.2.1 (ek_ne hC_lb.2.2.1 hek_13 (by decide)) i0 (by omega)).trans hel9.symm)
    have hq_24 : la ∈ L ∧ Pn_15.kd la = 30 := hke_17.mem hC_la.1 hC_la.2.1 (by decide)
    have hq_25 : lb ∈ L ∧ Pn_15.kd lb = 30 := hke_17.mem hC_lb.1 hC_lb.2.1 (by decide)
    have hq_26 : lr ∈ L ∧ Pn_15.kd lr = 30 := hke_17.mem hC_lr.1 hC_lr.2.1 (by decide)
    have hq_27 : xb_5 ∈ L ∧ Pn_15.kd xb_5 = 12 := hke_17.mem hm_6 hk_7 (by decide)
    have hq_28 : pr_11 ∈ L ∧ Pn_15.kd pr_11 = 30 := hke_17.mem hlk_12.1 hlk_12.2.1 (by decide)
    have ha_29 : Pn_15.bp xb_5 = pr_11 := hke_17.bp hm_6 hk_7 epr_11.symm
    have hA_30 : KEG [la, lb] L P L Pn_15 := (KEG.refl [la, lb] L P).trans hke_17
    have : Pn_15.lz pr_11 = 0 := hu_16.2.1
    have : Pn_15.lz la = P.lz la := hu_16.lz (ek_ne hC_la.2.2.1 hek_13 (by decide))
    have : Pn_15.lz lb = P.lz lb := hu_16.lz (ek_ne hC_lb.2.2.1 hek_13 (by decide))
    have : Pn_15.lz lr = P.lz lr := hu_16.lz (ek_ne hC_lr.2.2.1 hek_13 (by decide))
    have : Pn_15.cap la = P.cap la := hu_16.cap la
    have : Pn_15.cap lb = P.cap lb := hu_16.cap lb
    have : Pn_15.cap lr = P.cap lr := hu_16.cap lr
    have hek_31 : Pn_15.ek la = 12 := (by rw [hke_17.ek hC_la.1 hC_la.2.1 (by decide)]; exact hC_la.2.2.1)
    have how_32 : Pn_15.ow la = la := ((hke_17.1 la hC_la.1 (by rw [hC_la.2.1]; decide)).2.2.2.1 hC_la.2.1 hC_la.2.2.2).1
    have hek_33 : Pn_15.ek lb = 12 := (by rw [hke_17.ek hC_lb.1 hC_lb.2.1 (by decide)]; exact hC_lb.2.2.1)
    have how_34 : Pn_15.ow lb = lb := ((hke_17.1 lb hC_lb.1 (by rw [hC_lb.2.1]; decide)).2.2.2.1 hC_lb.2.1 hC_lb.2.2.2).1
    have hek_35 : Pn_15.ek lr = 17 := (by rw [hke_17.ek hC_lr.1 hC_lr.2.1 (by decide)]; exact hC_lr.2.2.1)
    have how_36 : Pn_15.ow lr = lr := ((hke_17.1 lr hC_lr.1 (by rw [hC_lr.2.1]; decide)).2.2.2.1 hC_lr.2.1 hC_lr.2.2.2).1
    have hcz := (((hke_17.1 lr hC_lr.1 (by rw [hC_lr.2.1]; decide)).2.2.2.1 hC_lr.2.1 hC_lr.2.2.2).2 (fun q9 => by have h9 := hC_lr.2.2.1; simp at q9; rcases q9 with q9 | q9 <;> (rw [q9] at h9; omega))).1
    have hek_37 : Pn_15.ek pr_11 = 15 := (by rw [hke_17.ek hlk_12.1 hlk_12.2.1 (by decide)]; exact hek_13)
    refine lv_aload_n hx hb dX13_block_61 rfl (lv_at hl 0 rfl) ?_
    have hfb := (hak_18.gb hq_27.1 hq_27.2).2
    obtain ⟨kp_38, hkp_38⟩ := va_pl_get (X := [(hc, .inr (12, [.ref lb, .ref lr, v13_2, v13_3, v13_4, .ref la, .int (zI (z_9))]))]) (f := pE Pn_15) hq_27.1
    rw [pE_block hq_27.2] at hkp_38
    refine va_get (D := (dC, dI)) (ci := 19) (v := .ref (Pn_15.br xb_5)) (C := RX12) (T := TX12) (N := 5) hx hb hts mem_P13_blockI_3 hown hK hP kp_38 hkp_38 rfl 1 (by decide) (ow (k := 14) rfl) (fun _ h9 => h9) rfl dX13_block_62 ?_
    obtain ⟨pr_39, epr_39⟩ : ∃ q9 : Nat, q9 = Pn_15.br xb_5 := ⟨_, rfl⟩
    rw [← epr_39]
    have hlk_40 : LOK L Pn_15 cO 17 pr_39 := (by rw [epr_39]; exact hak_18.lbr hq_27.1 hq_27.2)
    have hlz9 := hlk_40.2.2.1
    have hek_41 : Pn_15.ek pr_39 = 17 := (by rw [epr_39]; exact (hak_18.owc xb_5 hq_27.1 hq_27.2).1.1)
    have hlk_42 := (show LOK L Pn_15 cO 17 pr_39 from (by rw [← epr_39.symm]; exact hak_18.lbr hq_27.1 hq_27.2))
    have hX_x := hlk_42.1
    have hX_k := hlk_42.2.1
    have hlz9 := hlk_42.2.2.1
    have hX_c := hak_18.adc hlk_42
    have hPc := hP.part (X := [(hc, .inr (12, [.ref lb, .ref lr, v13_2, v13_3, v13_4, .ref la, .int (zI (z_9))]))]) (cx := []) (pl := va_pl L (pE Pn_15)) [] rfl
    have hDc := hD.part (X := [(hc, .inr (12, [.ref lb, .ref lr, v13_2, v13_3, v13_4, .ref la, .int (zI (z_9))]))]) (cx := []) (pl := va_pl L (pE Pn_15)) [] (by decide) rfl
    have hKc := hK.sub (tys' := [(cO, .object "java/lang/Object")]) [2] rfl
    have hFc := va_freeP (X := [(hc, .inr (12, [.ref lb, .ref lr, v13_2, v13_3, v13_4, .ref la, .int (zI (z_9))]))]) (cx := []) (pl := va_pl L (pE Pn_15)) hD hS hA [] rfl
    refine va_callv (va_runV (As := []) (rest := []) ⟨hx, hb, hml, hown, hts⟩ (c_PL_clearA l dC dI cO L Pn_15 pr_39 sx_ed hX_x hX_k (by omega) hX_c H.size) (cwV 0 hts g_P13_blockI_PL_clearA rfl rfl rfl (by decide +kernel) ⟨(Nat.le_of_ble_eq_true rfl), (Nat.le_of_ble_eq_true rfl)⟩) ⟨fun a U g mk q => by obtain ⟨q0, q1, qP, qK, qD⟩ := q; exact ⟨q0, q1, qP, va_K.moved (u := U) (U := U.calling g mk a) (Vm.Alike.refl U.vm) qK, qD⟩, recv_30 hKc hPc hlk_40.1 hlk_40.2.1, fun U hU hW => ⟨rfl, by rw [hU], by rw [hU]; exact hPc, va_K.moved hW.alike hKc, hDc.weaken (fun _ _ _ _ => trivial)⟩⟩ rfl rfl hl.1 rfl (lv_room (Nat.le_of_ble_eq_true rfl)) dX13_block_65 ⟨(Nat.le_of_ble_eq_true rfl), (Nat.le_of_ble_eq_true rfl)⟩) hS (fun q _ h => hFc q h) hFc (fun  u t H1 locs ht hvm hw hB hz1 hk1 hS => ?_)
    obtain ⟨Pn_43, hxt_43, hP1, hK1, hD1⟩ := hB
    rw [ht] at hP1
    have hK1 := va_K.moved hvm.symm hK1
    obtain ⟨hP, hD⟩ := va_joinP (X := [(hc, .inr (12, [.ref lb, .ref lr, v13_2, v13_3, v13_4, .ref la, .int (zI (z_9))]))]) (cx := []) (wr := [(hc, .inr (12, [.ref lb, .ref lr, v13_2, v13_3, v13_4, .ref la, .int (zI (z_9))]))]) (rx := []) (pl := va_pl L (pE Pn_15)) (pl1 := va_pl L (pE Pn_43)) hP hD [] [0] rfl rfl (by decide) (by decide) hk1 hFc hP1 hD1
    have hK := (hK.sub (tys' := [(cI, .int), (cZ, .boolean)]) [0, 1] rfl).app hK1
    generalize H1 = H at hP hS ⊢
    have hP : va_P (dC, dI) vwQ ([(hc, .inr (12, [.ref lb, .ref lr, v13_2, v13_3, v13_4, .ref la, .int (zI (z_9))]))] ++ va_pl L (pE Pn_43)) H := hP
    have hD : va_D A ([(hc, .inr (12, [.ref lb, .ref lr, v13_2, v13_3, v13_4, .ref la, .int (zI (z_9))]))] ++ va_pl L (pE Pn_43)) := hD
    have hK : va_K (dC, dI) vwQ [(cI, .int), (cZ, .boolean), (cO, .object "java/lang/Object")] s := hK
    refine W.widen (k := 0) (n := 0) (Nat.le_of_ble_eq_true rfl) (Nat.le_of_ble_eq_true rfl) ?_
    have hu_44 := hxt_43
    have hke_45 : KEG [la, lb] L Pn_15 L Pn_43 := hu_44.keg hak_18 hlk_40.1 hlk_40.2.1 (Or.inl (fun e9 => kd_ne hq_27.2 hlk_40.2.1 (by decide) (show xb_5 = pr_39 from (by have q9 := (hak_18.owc xb_5 hq_27.1 hq_27.2).1.2.1; rw [epr_39.symm, e9] at q9; exact q9.symm))))
    have hak_46 : GLF L Pn_43 cO cI cZ sx_ed := hu_44.glf hak_18 hlk_40.1 hlk_40.2.1
    have hst_47 := hu_44.chgo hak_18.owa hlk_40.1 hlk_40.2.1
    have hel_48 : ∀ i : Int, 0 ≤ i → i < P.lz la → Pn_43.el la i = P.el la i := (fun i i0 i1 => (hu_44.elO hak_18.owa hlk_40.1 hlk_40.2.1 hq_24.1 hq_24.2 (ek_ne hek_31 hek_41 (by decide)) i0 (by omega)).trans (hel_20 i i0 i1))
    have hel_49 : ∀ i : Int, 0 ≤ i → i < P.lz lb → Pn_43.el lb i = P.el lb i := (fun i i0 i1 => (hu_44.elO hak_18.owa hlk_40.1 hlk_40.2.1 hq_25.1 hq_25.2 (ek_ne hek_33 hek_41 (by decide)) i0 (by omega)).trans (hel_21 i i0 i1))
    have hel_50 : ∀ i : Int, 0 ≤ i → i < P.lz lr → Pn_43.el lr i = P.el lr i := (fun i i0 i1 => (hu_44.elO hak_18.owa hlk_40.1 hlk_40.2.1 hq_26.1 hq_26.2 (fun e9 => (show Pn_15.ow pr_39 ≠ pr_39 from (fun e9 => kd_ne hq_27.2 hlk_40.2.1 (by decide) (show xb_5 = pr_39 from (by have q9 := (hak_18.owc xb_5 hq_27.1 hq_27.2).1.2.1; rw [epr_39.symm, e9] at q9; exact q9.symm)))) (by rw [← e9]; exact how_36)) i0 (by omega)).trans (hel_22 i i0 i1))
    have hef_51 : Pn_43.el lb (z13_made) = xb_5 := (by have i0 : (0 : Int) ≤ z13_made := (by omega); exact (hu_44.elO hak_18.owa hlk_40.1 hlk_40.2.1 hq_25.1 hq_25.2 (ek_ne hek_33 hek_41 (by decide)) i0 (by omega)).trans hef_23)
    have hq_52 : la ∈ L ∧ Pn_43.kd la = 30 := hke_45.mem hq_24.1 hq_24.2 (by decide)
    have hq_53 : lb ∈ L ∧ Pn_43.kd lb = 30 := hke_45.mem hq_25.1 hq_25.2 (by decide)
    have hq_54 : lr ∈ L ∧ Pn_43.kd lr = 30 := hke_45.mem hq_26.1 hq_26.2 (by decide)
    have hq_55 : xb_5 ∈ L ∧ Pn_43.kd xb_5 = 12 := hke_45.mem hq_27.1 hq_27.2 (by decide)
    have hq_56 : pr_11 ∈ L ∧ Pn_43.kd pr_11 = 30 := hke_45.mem hq_28.1 hq_28.2 (by decide)
    have hq_57 : pr_39 ∈ L ∧ Pn_43.kd pr_39 = 30 := hke_45.mem hlk_40.1 hlk_40.2.1 (by decide)
    have ha_58 : Pn_43.bp xb_5 = pr_11 := hke_45.bp hq_27.1 hq_27.2 ha_29
    have ha_59 : Pn_43.br xb_5 = pr_39 := hke_45.br hq_27.1 hq_27.2 epr_39.symm
    have hA_60 : KEG [la, lb] L P L Pn_43 := hA_30.trans hke_45
    have : Pn_43.lz pr_39 = 0 := hu_44.2.1
    have : Pn_43.lz la = Pn_15.lz la := hu_44.lz (ek_ne hek_31 hek_41 (by decide))
    have : Pn_43.lz lb = Pn_15.lz lb := hu_44.lz (ek_ne hek_33 hek_41 (by decide))
    have : Pn_43.lz lr = Pn_15.lz lr := hu_44.lz (fun e9 => (show Pn_15.ow pr_39 ≠ pr_39 from (fun e9 => kd_ne hq_27.2 hlk_40.2.1 (by decide) (show xb_5 = pr_39 from (by have q9 := (hak_18.owc xb_5 hq_27.1 hq_27.2).1.2.1; rw [epr_39.symm, e9] at q9; exact q9.symm)))) (by rw [← e9]; exact how_36))
    have : Pn_43.lz pr_11 = Pn_15.lz pr_11 := hu_44.lz (ek_ne hek_37 hek_41 (by decide))
    have : Pn_43.cap la = Pn_15.cap la := hu_44.cap la
    have : Pn_43.cap lb = Pn_15.cap lb := hu_44.cap lb
    have : Pn_43.cap lr = Pn_15.cap lr := hu_44.cap lr
    have hek_61 : Pn_43.ek la = 12 := (by rw [hke_45.ek hq_24.1 hq_24.2 (by decide)]; exact hek_31)
    have how_62 : Pn_43.ow la = la := ((hke_45.1 la hq_24.1 (by rw [hq_24.2]; decide)).2.2.2.1 hq_24.2 how_32).1
    have hek_63 : Pn_43.ek lb = 12 := (by rw [hke_45.ek hq_25.1 hq_25.2 (by decide)]; exact hek_33)
    have how_64 : Pn_43.ow lb = lb := ((hke_45.1 lb hq_25.1 (by rw [hq_25.2]; decide)).2.2.2.1 hq_25.2 how_34).1
    have hek_65 : Pn_43.ek lr = 17 := (by rw [hke_45.ek hq_26.1 hq_26.2 (by decide)]; exact hek_35)
    have how_66 : Pn_43.ow lr = lr := ((hke_45.1 lr hq_26.1 (by rw [hq_26.2]; decide)).2.2.2.1 hq_26.2 how_36).1
    have hcz := (((hke_45.1 lr hq_26.1 (by rw [hq_26.2]; decide)).2.2.2.1 hq_26.2 how_36).2 (fun q9 => by have h9 := hek_35; simp at q9; rcases q9 with q9 | q9 <;> (rw [q9] at h9; omega))).1
    have hek_67 : Pn_43.ek pr_11 = 15 := (by rw [hke_45.ek hq_28.1 hq_28.2 (by decide)]; exact hek_37)
    have hek_68 : Pn_43.ek pr_39 = 17 := (by rw [hke_45.ek hlk_40.1 hlk_40.2.1 (by decide)]; exact hek_41)
    refine lv_aload_n hx hb dX13_block_68 rfl (lv_at hl 1 rfl) ?_
    refine va_get (D := (dC, dI)) (ci := 12) (v := .ref la) (C := RX13) (T := TX13) (N := 7) hx hb hts mem_P13_blockI_0 hown hK hP 0 rfl rfl 5 (by decide) (ow (k := 15) rfl) (fun _ h9 => h9) rfl dX13_block_69 ?_
    refine lv_aload_n hx hb dX13_block_72 rfl (lv_at hl 0 rfl) ?_
    have hlk_69 := (show LOK L Pn_43 cO 12 la from (by have q9 := (hak_46.gla la hq_52.1 hq_52.2).1; rw [hek_61] at q9; exact q9))
    have hX_x := hlk_69.1
    have hX_k := hlk_69.2.1
    have hlz9 := hlk_69.2.2.1
    have hX_c := hak_46.adc hlk_69
    have hX_y : xb_5 ∈ L ∧ OBK (Pn_43.kd xb_5) := ⟨hq_55.1, (by rw [hq_55.2]; unfold OBK; decide)⟩
    have hPc := hP.part (X := [(hc, .inr (12, [.ref lb, .ref lr, v13_2, v13_3, v13_4, .ref la, .int (zI (z_9))]))]) (cx := []) (pl := va_pl L (pE Pn_43)) [] rfl
    have hDc := hD.part (X := [(hc, .inr (12, [.ref lb, .ref lr, v13_2, v13_3, v13_4, .ref la, .int (zI (z_9))]))]) (cx := []) (pl := va_pl L (pE Pn_43)) [] (by decide) rfl
    have hKc := hK.sub (tys' := [(cO, .object "java/lang/Object")]) [2] rfl
    have hFc := va_freeP (X := [(hc, .inr (12, [.ref lb, .ref lr, v13_2, v13_3, v13_4, .ref la, .int (zI (z_9))]))]) (cx := []) (pl := va_pl L (pE Pn_43)) hD hS hA [] rfl
    have hgl := ADC.gl hX_c
    refine va_calli (va_runV (As := [.ref xb_5]) (rest := []) ⟨hx, hb, hml, hown, hts⟩ (c_PL_addAR l dC dI cO L Pn_43 la xb_5 sx_ed hX_x hX_k (by omega) hX_c hX_y H.size sx_mi) (cwV 1 hts g_P13_blockI_PL_addAR rfl rfl rfl (by decide +kernel) ⟨(Nat.le_of_ble_eq_true rfl), (Nat.le_of_ble_eq_true rfl)⟩) ⟨fun a U g mk q => by obtain ⟨q0, q1, qP, qK, qD, e0, e1, e2, e3, e4, e5, e6, e7⟩ := q; exact ⟨q0, q1, qP, va_K.moved (u := U) (U := U.calling g mk a) (Vm.Alike.refl U.vm) qK, qD, va_Nw.same rfl (u := U) (U := U.calling g mk a) rfl e0, va_Nw.same rfl (u := U) (U := U.calling g mk a) rfl e1, va_Nw.same rfl (u := U) (U := U.calling g mk a) rfl e2, va_Dc.moved (u := U) (U := U.calling g mk a) (Vm.Alike.refl U.vm) e3, va_Mi.moved (u := U) (U := U.calling g mk a) (Vm.Alike.refl U.vm) e4, va_AO.moved (u := U) (U := U.calling g mk a) (Vm.Alike.refl U.vm) e5, va_T.moved (u := U) (U := U.calling g mk a) (Vm.Alike.refl U.vm) e6, va_Z.moved (u := U) (U := U.calling g mk a) (Vm.Alike.refl U.vm) e7⟩, recv_30 hKc hPc hq_52.1 hq_52.2, fun U hU hW => ⟨rfl, by rw [hU], by rw [hU]; exact hPc, va_K.moved hW.alike hKc, hDc.weaken (fun _ _ _ _ => trivial), va_Nw.warmC hW hp1, va_Nw.warmC hW hp2, va_Nw.warmC hW hp3, va_Dc.moved hW.alike hp4, va_Mi.moved hW.alike hp5, va_AO.moved hW.alike hp6, by rw [hU]; exact va_T.narrow (va_T.moved hW.alike (va_T.kept hp7 hS.2.1)) hFc, by rw [hU]; exact va_Z.narrow (va_Z.moved hW.alike (va_Z.kept hp8 hS.2.1)) hFc⟩⟩ rfl rfl hl.1 rfl (lv_room (Nat.le_of_ble_eq_true rfl)) dX13_block_73 ⟨(Nat.le_trans (show 0 + (Pn_43.gc la) ≤ 1 by omega) (Nat.le_of_ble_eq_true rfl)), (Nat.le_trans (show 0 + (Pn_43.gs la) ≤ 100000 by omega) (Nat.le_of_ble_eq_true rfl))⟩) hS (fun q _ h => hFc q h) hFc (fun r_70 z_71 t H1 locs ht hvm hw hB hz1 hk1 hS => ?_)
    obtain ⟨Ln_72, Pn_73, hxt_73, hP1, hK1, hD1⟩ := hB
    rw [ht] at hP1
    have hK1 := va_K.moved hvm.symm hK1
    obtain ⟨hP, hD⟩ := va_joinP (X := [(hc, .inr (12, [.ref lb, .ref lr, v13_2, v13_3, v13_4, .ref la, .int (zI (z_9))]))]) (cx := []) (wr := [(hc, .inr (12, [.ref lb, .ref lr, v13_2, v13_3, v13_4, .ref la, .int (zI (z_9))]))]) (rx := []) (pl := va_pl L (pE Pn_43)) (pl1 := va_pl Ln_72 (pE Pn_73)) hP hD [] [0] rfl rfl (by decide) (by decide) hk1 hFc hP1 hD1
    have hK := (hK.sub (tys' := [(cI, .int), (cZ, .boolean)]) [0, 1] rfl).app hK1
    generalize H1 = H at hP hS ⊢
    have hP : va_P (dC, dI) vwQ ([(hc, .inr (12, [.ref lb, .ref lr, v13_2, v13_3, v13_4, .ref la, .int (zI (z_9))]))] ++ va_pl Ln_72 (pE Pn_73)) H := hP
    have hD : va_D A ([(hc, .inr (12, [.ref lb, .ref lr, v13_2, v13_3, v13_4, .ref la, .int (zI (z_9))]))] ++ va_pl Ln_72 (pE Pn_73)) := hD
    have hK : va_K (dC, dI) vwQ [(cI, .int), (cZ, .boolean), (cO, .object "java/lang/Object")] s := hK
    refine W.widen (k := (0 + (Pn_43.gc la))) (n := (0 + (Pn_43.gs la))) (by omega) (by omega) ?_
    obtain ⟨rfl, hzz_71⟩ := hw
    have hu_74 := hxt_73
    have hfx := hu_74.2.2.2.2.2.2.2
    have han := hu_74.2.2.2.1
    have hke_75 : KEG [la, lb] L Pn_43 Ln_72 Pn_73 := hu_74.1.keg hak_46 hq_52.1 hq_52.2 hfx (Or.inr (by simp))
    have hak_76 : GLF Ln_72 Pn_73 cO cI cZ sx_ed := hak_46.add hu_74.1 hq_52.1 hq_52.2 hfx hek_61 hq_55.1 hq_55.2 hu_74.2.1 (by omega) hu_74.2.2.1 hu_74.2.2.2.1.1 (by have q9 := hak_46.adc40 hlk_69; omega) hu_74.2.2.2.2.1 hu_74.2.2.2.2.2.1 hu_74.2.2.2.2.2.2.1 (fun q9 => absurd q9 (by decide))
    have hgr9 := (gro_cap (P := Pn_43) (P' := Pn_73) (x := la) (hak_46.adcl hlk_69) hu_74.1.1.2.2.2.2.2.2.2.2 hu_74.2.2.2.1.1 hu_74.2.2.2.1.2.2.1 hu_74.2.2.2.1.2.2.2 hu_74.2.2.2.1.2.1).1
    clear han
    have hst_77 := hu_74.1.chgo hak_46.owa hq_52.1 hq_52.2 hfx
    have hza := hu_74.2.1
    have hel_78 : ∀ i : Int, 0 ≤ i → i < P.lz la → Pn_73.el la i = P.el la i := (fun i i0 i1 => (hu_74.1.elx hu_74.2.2.2.2.2.2.1 i0 (by omega)).trans (hel_48 i i0 i1))
    have hel_79 : ∀ i : Int, 0 ≤ i → i < P.lz lb → Pn_73.el lb i = P.el lb i := (fun i i0 i1 => (hu_74.1.elO hak_46.owa hq_52.1 hq_52.2 hfx hq_53.1 hq_53.2 hX_ab.symm i0 (by omega)).trans (hel_49 i i0 i1))
    have hel_80 : ∀ i : Int, 0 ≤ i → i < P.lz lr → Pn_73.el lr i = P.el lr i := (fun i i0 i1 => (hu_74.1.elO hak_46.owa hq_52.1 hq_52.2 hfx hq_54.1 hq_54.2 (ek_ne hek_65 hek_61 (by decide)) i0 (by omega)).trans (hel_50 i i0 i1))
    have hef_81 : Pn_73.el lb (z13_made) = xb_5 := (by have i0 : (0 : Int) ≤ z13_made := (by omega); exact (hu_74.1.elO hak_46.owa hq_52.1 hq_52.2 hfx hq_53.1 hq_53.2 hX_ab.symm i0 (by omega)).trans hef_51)
    have hlast := hu_74.1.elast hu_74.2.2.2.2.2.1
    have hq_82 : la ∈ Ln_72 ∧ Pn_73.kd la = 30 := hke_75.mem hq_52.1 hq_52.2 (by decide)
    have hq_83 : lb ∈ Ln_72 ∧ Pn_73.kd lb = 30 := hke_75.mem hq_53.1 hq_53.2 (by decide)
    have hq_84 : lr ∈ Ln_72 ∧ Pn_73.kd lr = 30 := hke_75.mem hq_54.1 hq_54.2 (by decide)
    have hq_85 : xb_5 ∈ Ln_72 ∧ Pn_73.kd xb_5 = 12 := hke_75.mem hq_55.1 hq_55.2 (by decide)
    have hq_86 : pr_11 ∈ Ln_72 ∧ Pn_73.kd pr_11 = 30 := hke_75.mem hq_56.1 hq_56.2 (by decide)
    have hq_87 : pr_39 ∈ Ln_72 ∧ Pn_73.kd pr_39 = 30 := hke_75.mem hq_57.1 hq_57.2 (by decide)
    have ha_88 : Pn_73.bp xb_5 = pr_11 := hke_75.bp hq_55.1 hq_55.2 ha_58
    have ha_89 : Pn_73.br xb_5 = pr_39 := hke_75.br hq_55.1 hq_55.2 ha_59
    have hA_90 : KEG [la, lb] L P Ln_72 Pn_73 := hA_60.trans hke_75
    have : Pn_73.lz lb = Pn_43.lz lb := (hu_74.1.chg lb hq_53.1 (fun q9 => by rcases q9 with q9 | q9; exact hX_ab.symm q9; exact hak_46.owa.nle hq_52.1 hq_52.2 hfx hq_53.1 (by rw [hq_53.2]; decide) q9)).2.1 0
    have : Pn_73.lz lr = Pn_43.lz lr := (hu_74.1.chg lr hq_54.1 (fun q9 => by rcases q9 with q9 | q9; exact (ek_ne hek_65 hek_61 (by decide)) q9; exact hak_46.owa.nle hq_52.1 hq_52.2 hfx hq_54.1 (by rw [hq_54.2]; decide) q9)).2.1 0
    have : Pn_73.lz pr_11 = Pn_43.lz pr_11 := (hu_74.1.chg pr_11 hq_56.1 (fun q9 => by rcases q9 with q9 | q9; exact (ek_ne hek_67 hek_61 (by decide)) q9; exact hak_46.owa.nle hq_52.1 hq_52.2 hfx hq_56.1 (by rw [hq_56.2]; decide) q9)).2.1 0
    have : Pn_73.lz pr_39 = Pn_43.lz pr_39 := (hu_74.1.chg pr_39 hq_57.1 (fun q9 => by rcases q9 with q9 | q9; exact (ek_ne hek_68 hek_61 (by decide)) q9; exact hak_46.owa.nle hq_52.1 hq_52.2 hfx hq_57.1 (by rw [hq_57.2]; decide) q9)).2.1 0
    have : Pn_73.cap lb = Pn_43.cap lb := hu_74.1.capO hak_46.owa hq_52.1 hq_52.2 hfx hq_53.1 hq_53.2 hX_ab.symm
    have : Pn_73.cap lr = Pn_43.cap lr := hu_74.1.capO hak_46.owa hq_52.1 hq_52.2 hfx hq_54.1 hq_54.2 (ek_ne hek_65 hek_61 (by decide))
    have hza := hu_74.2.1
    have hek_91 : Pn_73.ek la = 12 := (by rw [hke_75.ek hq_52.1 hq_52.2 (by decide)]; exact hek_61)
    have how_92 : Pn_73.ow la = la := ((hke_75.1 la hq_52.1 (by rw [hq_52.2]; decide)).2.2.2.1 hq_52.2 how_62).1
    have hek_93 : Pn_73.ek lb = 12 := (by rw [hke_75.ek hq_53.1 hq_53.2 (by decide)]; exact hek_63)
    have how_94 : Pn_73.ow lb = lb := ((hke_75.1 lb hq_53.1 (by rw [hq_53.2]; decide)).2.2.2.1 hq_53.2 how_64).1
    have hek_95 : Pn_73.ek lr = 17 := (by rw [hke_75.ek hq_54.1 hq_54.2 (by decide)]; exact hek_65)
    have how_96 : Pn_73.ow lr = lr := ((hke_75.1 lr hq_54.1 (by rw [hq_54.2]; decide)).2.2.2.1 hq_54.2 how_66).1
    have hcz := (((hke_75.1 lr hq_54.1 (by rw [hq_54.2]; decide)).2.2.2.1 hq_54.2 how_66).2 (fun q9 => by have h9 := hek_65; simp at q9; rcases q9 with q9 | q9 <;> (rw [q9] at h9; omega))).1
    have hek_97 : Pn_73.ek pr_11 = 15 := (by rw [hke_75.ek hq_56.1 hq_56.2 (by decide)]; exact hek_67)
    have hek_98 : Pn_73.ek pr_39 = 17 := (by rw [hke_75.ek hq_57.1 hq_57.2 (by decide)]; exact hek_68)
    clear hfx
    refine lv_pop hx hb dX13_block_76 rfl ?_
    refine lv_aload_n hx hb dX13_block_77 rfl (lv_at hl 0 rfl) ?_
    subst hQ
    have hK := hK.sub (tys' := [(cO, .object "java/lang/Object"), (cI, .int), (cZ, .boolean)]) [2, 0, 1] rfl
    refine W_knowS (fun hrm9 => ?_)
    refine W.widen (k := 6) (n := 200018) (by omega) (by omega) ?_
    exact W.aret (v := .ref xb_5) hx hb hr (Or.inl ⟨_, rfl⟩) (Or.inr ⟨_, rfl⟩) (fun t ht hW => ⟨⟨(), xb_5, rfl, trivial, z_9, Ln_72, Pn_73, (0 + (Pn_43.gc la)), (0 + (Pn_43.gs la)), ⟨⟨(by rw [ht, ← hp9]; exact hrm9), (by omega)⟩, ⟨(by omega), ⟨hA_90, hak_76, ⟨⟨hq_85.1, hq_85.2, hef_81.symm, (by have h9 := hlast; rw [show Pn_43.lz la = P.lz la from (by omega)] at h9; exact h9.symm), (by rw [ha_88]; omega), (by rw [ha_89]; omega)⟩, ⟨by omega, by omega, by omega⟩, hel_78, hel_79, ((((CHG.refl _ _ _).step hst_19 (Or.inr (Or.inr (Or.inl ha_88.symm)))).step hst_47 (Or.inr (Or.inr (Or.inr ha_89.symm)))).step hst_77 (Or.inl rfl))⟩, (hX_ds.blk hX_g hX_lb hA_90 hel_79 (Or.inl (by omega))), by omega, by omega, by omega⟩⟩⟩, by rw [ht]; exact hP, va_K.moved hW.alike hK, hD⟩, hS.F ht⟩) hS.2.2 dX13_block_78
  · have yb11 : (z13_made : Int) = (P.lz lb : Int) := (zI_eq (a := z13_made) (b := P.lz lb) (by omega) (by omega) (by omega) (by omega)).mp b11
    refine lv_aload_n hx hb dX13_block_14 rfl (lv_at hl 0 rfl) ?_
    refine va_get (D := (dC, dI)) (ci := 12) (v := .ref lb) (C := RX13) (T := TX13) (N := 7) hx hb hts mem_P13_blockI_0 hown hK hP 0 rfl rfl 0 (by decide) (ow (k := 1) rfl) (fun _ h9 => h9) rfl dX13_block_15 ?_
    refine va_new (ci := 19) (fs := [.null, .null, .null, .int 0, .int 0]) (C := RX12) (T := TX12) (N := 5) hx hb hts mem_P13_blockI_3 tyX12 tyX12_ok hown (ow (k := 19) rfl) (ow (k := 20) rfl) (ow (k := 21) rfl) hK hP hD hS hA rfl (df_X12) (Nat.le_of_ble_eq_true rfl) (Nat.le_of_ble_eq_true rfl) dX13_block_18 (fun q_99 H hP hD hS => ?_)
    have hP := pl_Pp (pl_new (X := [(hc, .inr (12, [.ref lb, .ref lr, v13_2, v13_3, v13_4, .ref la, .int (zI (z13_made))]))]) (pl := va_pl L (pE P))) hP
    have hD := pl_Dp (pl_new (X := [(hc, .inr (12, [.ref lb, .ref lr, v13_2, v13_3, v13_4, .ref la, .int (zI (z13_made))]))]) (pl := va_pl L (pE P))) hD
    have hP : va_P (dC, dI) vwQ ([(hc, .inr (12, [.ref lb, .ref lr, v13_2, v13_3, v13_4, .ref la, .int (zI (z13_made))])), (q_99, .inr (19, [.null, .null, .null, .int 0, .int 0]))] ++ va_pl L (pE P)) H := hP
    have hD : va_D A ([(hc, .inr (12, [.ref lb, .ref lr, v13_2, v13_3, v13_4, .ref la, .int (zI (z13_made))])), (q_99, .inr (19, [.null, .null, .null, .int 0, .int 0]))] ++ va_pl L (pE P)) := hD
    refine W.widen (k := 1) (n := 5) (Nat.le_of_ble_eq_true rfl) (Nat.le_of_ble_eq_true rfl) ?_
    refine lv_dup hx hb dX13_block_21 rfl ?_
    have hPc := hP.part (X := [(hc, .inr (12, [.ref lb, .ref lr, v13_2, v13_3, v13_4, .ref la, .int (zI (z13_made))])), (q_99, .inr (19, [.null, .null, .null, .int 0, .int 0]))]) (cx := [(q_99, .inr (19, [.null, .null, .null, .int 0, .int 0]))]) (pl := va_pl L (pE P)) [1] rfl
    have hDc := hD.part (X := [(hc, .inr (12, [.ref lb, .ref lr, v13_2, v13_3, v13_4, .ref la, .int (zI (z13_made))])), (q_99, .inr (19, [.null, .null, .null, .int 0, .int 0]))]) (cx := [(q_99, .inr (19, [.null, .null, .null, .int 0, .int 0]))]) (pl := va_pl L (pE P)) [1] (by decide) rfl
    have hKc := hK.sub (tys' := [(cO, .object "java/lang/Object"), (cI, .int), (cZ, .boolean)]) [2, 0, 1] rfl
    have hFc := va_freeP (X := [(hc, .inr (12, [.ref lb, .ref lr, v13_2, v13_3, v13_4, .ref la, .int (zI (z13_made))])), (q_99, .inr (19, [.null, .null, .null, .int 0, .int 0]))]) (cx := [(q_99, .inr (19, [.null, .null, .null, .int 0, .int 0]))]) (pl := va_pl L (pE P)) hD hS hA [1] rfl
    refine va_callv (va_runIN (As := []) (rest := [.ref q_99, .ref lb]) ⟨hx, hb, hml, hown, hts⟩ (c_X12_initH l dC dI cI cZ q_99 cO L P sx_ed H.size) ⟨va_cnB 0 hts (goodIn_sub mem_P13_blockI_6 gw_X12_initH) rfl rfl rfl hp11 (ow (k := 21) rfl) (by decide +kernel) ⟨(Nat.le_of_ble_eq_true rfl), (Nat.le_of_ble_eq_true rfl)⟩, rfl, (ow (k := 22) rfl)⟩ ⟨fun a U g mk q => by obtain ⟨q0, q1, qP, qK, qD, e0, e1⟩ := q; exact ⟨q0, q1, qP, va_K.moved (u := U) (U := U.calling g mk a) (Vm.Alike.refl U.vm) qK, qD, va_Z.moved (u := U) (U := U.calling g mk a) (Vm.Alike.refl U.vm) e0, va_Nw.same rfl (u := U) (U := U.calling g mk a) rfl e1⟩, fun U hU hW => ⟨rfl, by rw [hU], by rw [hU]; exact hPc, va_K.moved hW.alike hKc, hDc.weaken (fun _ _ _ _ => trivial), by rw [hU]; exact va_Z.narrow (va_Z.moved hW.alike (va_Z.kept hp8 hS.2.1)) hFc, va_Nw.warmM hW hp10⟩⟩ rfl rfl hl.1 rfl (lv_room (Nat.le_of_ble_eq_true rfl)) dX13_block_22 ⟨(Nat.le_of_ble_eq_true rfl), (Nat.le_of_ble_eq_true rfl)⟩) hS (fun q _ h => hFc q h) hFc (fun  u t H1 locs ht hvm hw hB hz1 hk1 hS => ?_)
    obtain ⟨q0_100, q1_101, q2_102, Ln_103, Pn_104, hxt_104, hP1, hK1, hD1⟩ := hB
    rw [ht] at hP1
    have hK1 := va_K.moved hvm.symm hK1
    obtain ⟨hP, hD⟩ := va_joinP (X := [(hc, .inr (12, [.ref lb, .ref lr, v13_2, v13_3, v13_4, .ref la, .int (zI (z13_made))])), (q_99, .inr (19, [.null, .null, .null, .int 0, .int 0]))]) (cx := [(q_99, .inr (19, [.null, .null, .null, .int 0, .int 0]))]) (wr := [(hc, .inr (12, [.ref lb, .ref lr, v13_2, v13_3, v13_4, .ref la, .int (zI (z13_made))]))]) (rx := [(q_99, .inr (19, [.ref q0_100, .ref q1_101, .ref q2_102, .int 0, .int 0]))]) (pl := va_pl L (pE P)) (pl1 := va_pl Ln_103 (pE Pn_104)) hP hD [1] [0] rfl rfl (by decide) (by decide) hk1 hFc hP1 hD1
    have hK := (hK.sub (tys' := []) [] rfl).app hK1
    generalize H1 = H at hP hS ⊢
    have hP : va_P (dC, dI) vwQ ([(hc, .inr (12, [.ref lb, .ref lr, v13_2, v13_3, v13_4, .ref la, .int (zI (z13_made))])), (q_99, .inr (19, [.ref q0_100, .ref q1_101, .ref q2_102, .int 0, .int 0]))] ++ va_pl Ln_103 (pE Pn_104)) H := hP
    have hD : va_D A ([(hc, .inr (12, [.ref lb, .ref lr, v13_2, v13_3, v13_4, .ref la, .int (zI (z13_made))])), (q_99, .inr (19, [.ref q0_100, .ref q1_101, .ref q2_102, .int 0, .int 0]))] ++ va_pl Ln_103 (pE Pn_104)) := hD
    have hK : va_K (dC, dI) vwQ [(cO, .object "java/lang/Object"), (cI, .int), (cZ, .boolean)] s := hK
    refine W.widen (k := 4) (n := 18) (Nat.le_of_ble_eq_true rfl) (Nat.le_of_ble_eq_true rfl) ?_
    have hu_105 := hxt_104
    have hak_107 : GLF Ln_103 Pn_104 cO cI cZ sx_ed := hX_g9.ext hu_105.1 hu_105.2.1
    have hke_106 : KEG [la, lb] L P Ln_103 Pn_104 := hu_105.1.keg hX_g9
    have hel_108 : ∀ i : Int, 0 ≤ i → i < P.lz la → Pn_104.el la i = P.el la i := (fun i i0 i1 => (hu_105.1.el hX_g9.owa hC_la.1 hC_la.2.1 i0 (by omega)))
    have hel_109 : ∀ i : Int, 0 ≤ i → i < P.lz lb → Pn_104.el lb i = P.el lb i := (fun i i0 i1 => (hu_105.1.el hX_g9.owa hC_lb.1 hC_lb.2.1 i0 (by omega)))
    have hel_110 : ∀ i : Int, 0 ≤ i → i < P.lz lr → Pn_104.el lr i = P.el lr i := (fun i i0 i1 => (hu_105.1.el hX_g9.owa hC_lr.1 hC_lr.2.1 i0 (by omega)))
    have hq_111 : la ∈ Ln_103 ∧ Pn_104.kd la = 30 := hke_106.mem hC_la.1 hC_la.2.1 (by decide)
    have hq_112 : lb ∈ Ln_103 ∧ Pn_104.kd lb = 30 := hke_106.mem hC_lb.1 hC_lb.2.1 (by decide)
    have hq_113 : lr ∈ Ln_103 ∧ Pn_104.kd lr = 30 := hke_106.mem hC_lr.1 hC_lr.2.1 (by decide)
    have hA_114 : KEG [la, lb] L P Ln_103 Pn_104 := (KEG.refl [la, lb] L P).trans hke_106
    have : Pn_104.lz la = P.lz la := (hu_105.1 la hC_la.1).2.1 0
    have : Pn_104.lz lb = P.lz lb := (hu_105.1 lb hC_lb.1).2.1 0
    have : Pn_104.lz lr = P.lz lr := (hu_105.1 lr hC_lr.1).2.1 0
    have : Pn_104.cap la = P.cap la := hu_105.1.cap hX_g9.owa hC_la.1 hC_la.2.1
    have : Pn_104.cap lb = P.cap lb := hu_105.1.cap hX_g9.owa hC_lb.1 hC_lb.2.1
    have : Pn_104.cap lr = P.cap lr := hu_105.1.cap hX_g9.owa hC_lr.1 hC_lr.2.1
    have hek_115 : Pn_104.ek la = 12 := (by rw [hke_106.ek hC_la.1 hC_la.2.1 (by decide)]; exact hC_la.2.2.1)
    have how_116 : Pn_104.ow la = la := ((hke_106.1 la hC_la.1 (by rw [hC_la.2.1]; decide)).2.2.2.1 hC_la.2.1 hC_la.2.2.2).1
    have hek_117 : Pn_104.ek lb = 12 := (by rw [hke_106.ek hC_lb.1 hC_lb.2.1 (by decide)]; exact hC_lb.2.2.1)
    have how_118 : Pn_104.ow lb = lb := ((hke_106.1 lb hC_lb.1 (by rw [hC_lb.2.1]; decide)).2.2.2.1 hC_lb.2.1 hC_lb.2.2.2).1
    have hek_119 : Pn_104.ek lr = 17 := (by rw [hke_106.ek hC_lr.1 hC_lr.2.1 (by decide)]; exact hC_lr.2.2.1)
    have how_120 : Pn_104.ow lr = lr := ((hke_106.1 lr hC_lr.1 (by rw [hC_lr.2.1]; decide)).2.2.2.1 hC_lr.2.1 hC_lr.2.2.2).1
    have hcz := (((hke_106.1 lr hC_lr.1 (by rw [hC_lr.2.1]; decide)).2.2.2.1 hC_lr.2.1 hC_lr.2.2.2).2 (fun q9 => by have h9 := hC_lr.2.2.1; simp at q9; rcases q9 with q9 | q9 <;> (rw [q9] at h9; omega))).1
    have hqn_123 : q_99 ∉ Ln_103 := pl_notin (X := [(hc, .inr (12, [.ref lb, .ref lr, v13_2, v13_3, v13_4, .ref la, .int (zI (z13_made))]))]) hD
    obtain ⟨Pm_121, ePm_121⟩ : ∃ Q9 : PO, Q9 = Pn_104.mblock q_99 q0_100 q1_101 q2_102 := ⟨_, rfl⟩
    obtain ⟨Lm_122, eLm_122⟩ : ∃ l9 : List Nat, l9 = q_99 :: Ln_103 := ⟨_, rfl⟩
    obtain ⟨hP, hD⟩ := pool_new (X := [(hc, .inr (12, [.ref lb, .ref lr, v13_2, v13_3, v13_4, .ref la, .int (zI (z13_made))]))]) (P' := Pm_121) (by rw [ePm_121]; exact pE_mblock Pn_104 q_99 q0_100 q1_101 q2_102) hP hD
    rw [← eLm_122] at hP hD
    have hex_124 : EXT9 Ln_103 Pn_104 Lm_122 Pm_121 := (by rw [eLm_122, ePm_121]; exact EXT9.one hqn_123)
    have hm9 := mblock_at Pn_104 q_99 q0_100 q1_101 q2_102
    rw [← ePm_121] at hm9
    have hak_125 : GLF Lm_122 Pm_121 cO cI cZ sx_ed := (by rw [eLm_122] at hex_124 ⊢; exact hak_107.new1 hex_124 (by rw [ePm_121]; exact mblock_new hqn_123 hu_105.2.2.1 hu_105.2.2.2.1 hu_105.2.2.2.2.1))
    have hke_126 : KEG [la, lb] Ln_103 Pn_104 Lm_122 Pm_121 := hex_124.keg hak_107
    have hP : va_P (dC, dI) vwQ ([(hc, .inr (12, [.ref lb, .ref lr, v13_2, v13_3, v13_4, .ref la, .int (zI (z13_made))]))] ++ va_pl Lm_122 (pE Pm_121)) H := hP
    have hD : va_D A ([(hc, .inr (12, [.ref lb, .ref lr, v13_2, v13_3, v13_4, .ref la, .int (zI (z13_made))]))] ++ va_pl Lm_122 (pE Pm_121)) := hD
    have hel_127 : ∀ i : Int, 0 ≤ i → i < P.lz la → Pm_121.el la i = P.el la i := (fun i i0 i1 => (hex_124.el hak_107.owa hq_111.1 hq_111.2 i0 (by omega)).trans (hel_108 i i0 i1))
    have hel_128 : ∀ i : Int, 0 ≤ i → i < P.lz lb → Pm_121.el lb i = P.el lb i := (fun i i0 i1 => (hex_124.el hak_107.owa hq_112.1 hq_112.2 i0 (by omega)).trans (hel_109 i i0 i1))
    have hel_129 : ∀ i : Int, 0 ≤ i → i < P.lz lr → Pm_121.el lr i = P.el lr i := (fun i i0 i1 => (hex_124.el hak_107.owa hq_113.1 hq_113.2 i0 (by omega)).trans (hel_110 i i0 i1))
    have hq_130 : la ∈ Lm_122 ∧ Pm_121.kd la = 30 := hke_126.mem hq_111.1 hq_111.2 (by decide)
    have hq_131 : lb ∈ Lm_122 ∧ Pm_121.kd lb = 30 := hke_126.mem hq_112.1 hq_112.2 (by decide)
    have hq_132 : lr ∈ Lm_122 ∧ Pm_121.kd lr = 30 := hke_126.mem hq_113.1 hq_113.2 (by decide)
    have hA_133 : KEG [la, lb] L P Lm_122 Pm_121 := hA_114.trans hke_126
    have : Pm_121.lz la = Pn_104.lz la := (hex_124 la hq_111.1).2.1 0
    have : Pm_121.lz lb = Pn_104.lz lb := (hex_124 lb hq_112.1).2.1 0
    have : Pm_121.lz lr = Pn_104.lz lr := (hex_124 lr hq_113.1).2.1 0
    have : Pm_121.cap la = Pn_104.cap la := hex_124.cap hak_107.owa hq_111.1 hq_111.2
    have : Pm_121.cap lb = Pn_104.cap lb := hex_124.cap hak_107.owa hq_112.1 hq_112.2
    have : Pm_121.cap lr = Pn_104.cap lr := hex_124.cap hak_107.owa hq_113.1 hq_113.2
    have hek_134 : Pm_121.ek la = 12 := (by rw [hke_126.ek hq_111.1 hq_111.2 (by decide)]; exact hek_115)
    have how_135 : Pm_121.ow la = la := ((hke_126.1 la hq_111.1 (by rw [hq_111.2]; decide)).2.2.2.1 hq_111.2 how_116).1
    have hek_136 : Pm_121.ek lb = 12 := (by rw [hke_126.ek hq_112.1 hq_112.2 (by decide)]; exact hek_117)
    have how_137 : Pm_121.ow lb = lb := ((hke_126.1 lb hq_112.1 (by rw [hq_112.2]; decide)).2.2.2.1 hq_112.2 how_118).1
    have hek_138 : Pm_121.ek lr = 17 := (by rw [hke_126.ek hq_113.1 hq_113.2 (by decide)]; exact hek_119)
    have how_139 : Pm_121.ow lr = lr := ((hke_126.1 lr hq_113.1 (by rw [hq_113.2]; decide)).2.2.2.1 hq_113.2 how_120).1
    have hcz := (((hke_126.1 lr hq_113.1 (by rw [hq_113.2]; decide)).2.2.2.1 hq_113.2 how_120).2 (fun q9 => by have h9 := hek_119; simp at q9; rcases q9 with q9 | q9 <;> (rw [q9] at h9; omega))).1
    have hex_140 := hu_105.1.trans hex_124
    have hm_141 : q_99 ∈ Lm_122 := (by rw [eLm_122]; exact List.mem_cons_self)
    have hk_142 := hm9.1
    have hbe0 := hm9.2.2.2.1
    have hxnL : q_99 ∉ L := fun m9 => hqn_123 (hu_105.1 q_99 m9).1
    have hbnL : q2_102 ∉ L := hu_105.2.2.2.2.2
    have hlk_143 := (show LOK Lm_122 Pm_121 cO 12 lb from (by have q9 := (hak_125.gla lb hq_131.1 hq_131.2).1; rw [hek_136] at q9; exact q9))
    have hX_x := hlk_143.1
    have hX_k := hlk_143.2.1
    have hlz9 := hlk_143.2.2.1
    have hX_c := hak_125.adc hlk_143
    have hX_y : q_99 ∈ Lm_122 ∧ OBK (Pm_121.kd q_99) := ⟨hm_141, (by rw [hk_142]; unfold OBK; decide)⟩
    have hPc := hP.part (X := [(hc, .inr (12, [.ref lb, .ref lr, v13_2, v13_3, v13_4, .ref la, .int (zI (z13_made))]))]) (cx := []) (pl := va_pl Lm_122 (pE Pm_121)) [] rfl
    have hDc := hD.part (X := [(hc, .inr (12, [.ref lb, .ref lr, v13_2, v13_3, v13_4, .ref la, .int (zI (z13_made))]))]) (cx := []) (pl := va_pl Lm_122 (pE Pm_121)) [] (by decide) rfl
    have hKc := hK.sub (tys' := [(cO, .object "java/lang/Object")]) [0] rfl
    have hFc := va_freeP (X := [(hc, .inr (12, [.ref lb, .ref lr, v13_2, v13_3, v13_4, .ref la, .int (zI (z13_made))]))]) (cx := []) (pl := va_pl Lm_122 (pE Pm_121)) hD hS hA [] rfl
    have hgl := ADC.gl hX_c
    refine va_calli (va_runV (As := [.ref q_99]) (rest := []) ⟨hx, hb, hml, hown, hts⟩ (c_PL_addAR l dC dI cO Lm_122 Pm_121 lb q_99 sx_ed hX_x hX_k (by omega) hX_c hX_y H.size sx_mi) (cwV 1 hts g_P13_blockI_PL_addAR rfl rfl rfl (by decide +kernel) ⟨(Nat.le_of_ble_eq_true rfl), (Nat.le_of_ble_eq_true rfl)⟩) ⟨fun a U g mk q => by obtain ⟨q0, q1, qP, qK, qD, e0, e1, e2, e3, e4, e5, e6, e7⟩ := q; exact ⟨q0, q1, qP, va_K.moved (u := U) (U := U.calling g mk a) (Vm.Alike.refl U.vm) qK, qD, va_Nw.same rfl (u := U) (U := U.calling g mk a) rfl e0, va_Nw.same rfl (u := U) (U := U.calling g mk a) rfl e1, va_Nw.same rfl (u := U) (U := U.calling g mk a) rfl e2, va_Dc.moved (u := U) (U := U.calling g mk a) (Vm.Alike.refl U.vm) e3, va_Mi.moved (u := U) (U := U.calling g mk a) (Vm.Alike.refl U.vm) e4, va_AO.moved (u := U) (U := U.calling g mk a) (Vm.Alike.refl U.vm) e5, va_T.moved (u := U) (U := U.calling g mk a) (Vm.Alike.refl U.vm) e6, va_Z.moved (u := U) (U := U.calling g mk a) (Vm.Alike.refl U.vm) e7⟩, recv_30 hKc hPc hq_131.1 hq_131.2, fun U hU hW => ⟨rfl, by rw [hU], by rw [hU]; exact hPc, va_K.moved hW.alike hKc, hDc.weaken (fun _ _ _ _ => trivial), va_Nw.warmC hW hp1, va_Nw.warmC hW hp2, va_Nw.warmC hW hp3, va_Dc.moved hW.alike hp4, va_Mi.moved hW.alike hp5, va_AO.moved hW.alike hp6, by rw [hU]; exact va_T.narrow (va_T.moved hW.alike (va_T.kept hp7 hS.2.1)) hFc, by rw [hU]; exact va_Z.narrow (va_Z.moved hW.alike (va_Z.kept hp8 hS.2.1)) hFc⟩⟩ rfl rfl hl.1 rfl (lv_room (Nat.le_of_ble_eq_true rfl)) dX13_block_25 ⟨(Nat.le_trans (show 4 + (Pm_121.gc lb) ≤ 5 by omega) (Nat.le_of_ble_eq_true rfl)), (Nat.le_trans (show 18 + (Pm_121.gs lb) ≤ 100018 by omega) (Nat.le_of_ble_eq_true rfl))⟩) hS (fun q _ h => hFc q h) hFc (fun r_144 z_145 t H1 locs ht hvm hw hB hz1 hk1 hS => ?_)
    obtain ⟨Ln_146, Pn_147, hxt_147, hP1, hK1, hD1⟩ := hB
    rw [ht] at hP1
    have hK1 := va_K.moved hvm.symm hK1
    obtain ⟨hP, hD⟩ := va_joinP (X := [(hc, .inr (12, [.ref lb, .ref lr, v13_2, v13_3, v13_4, .ref la, .int (zI (z13_made))]))]) (cx := []) (wr := [(hc, .inr (12, [.ref lb, .ref lr, v13_2, v13_3, v13_4, .ref la, .int (zI (z13_made))]))]) (rx := []) (pl := va_pl Lm_122 (pE Pm_121)) (pl1 := va_pl Ln_146 (pE Pn_147)) hP hD [] [0] rfl rfl (by decide) (by decide) hk1 hFc hP1 hD1
    have hK := (hK.sub (tys' := [(cI, .int), (cZ, .boolean)]) [1, 2] rfl).app hK1
    generalize H1 = H at hP hS ⊢
    have hP : va_P (dC, dI) vwQ ([(hc, .inr (12, [.ref lb, .ref lr, v13_2, v13_3, v13_4, .ref la, .int (zI (z13_made))]))] ++ va_pl Ln_146 (pE Pn_147)) H := hP
    have hD : va_D A ([(hc, .inr (12, [.ref lb, .ref lr, v13_2, v13_3, v13_4, .ref la, .int (zI (z13_made))]))] ++ va_pl Ln_146 (pE Pn_147)) := hD
    have hK : va_K (dC, dI) vwQ [(cI, .int), (cZ, .boolean), (cO, .object "java/lang/Object")] s := hK
    refine W.widen (k := (4 + (Pm_121.gc lb))) (n := (18 + (Pm_121.gs lb))) (by omega) (by omega) ?_
    obtain ⟨rfl, hzz_145⟩ := hw
    have hu_148 := hxt_147
    have hfx := hu_148.2.2.2.2.2.2.2
    have han := hu_148.2.2.2.1
    have hke_149 : KEG [la, lb] Lm_122 Pm_121 Ln_146 Pn_147 := hu_148.1.keg hak_125 hq_131.1 hq_131.2 hfx (Or.inr (by simp))
    have hak_150 : GLF Ln_146 Pn_147 cO cI cZ sx_ed := hak_125.add hu_148.1 hq_131.1 hq_131.2 hfx hek_136 hm_141 hk_142 hu_148.2.1 (by omega) hu_148.2.2.1 hu_148.2.2.2.1.1 (by have q9 := hak_125.adc40 hlk_143; omega) hu_148.2.2.2.2.1 hu_148.2.2.2.2.2.1 hu_148.2.2.2.2.2.2.1 (fun q9 => absurd q9 (by decide))
    have hgr9 := (gro_cap (P := Pm_121) (P' := Pn_147) (x := lb) (hak_125.adcl hlk_143) hu_148.1.1.2.2.2.2.2.2.2.2 hu_148.2.2.2.1.1 hu_148.2.2.2.1.2.2.1 hu_148.2.2.2.1.2.2.2 hu_148.2.2.2.1.2.1).1
    clear han
    have hst_151 := hu_148.1.chgo hak_125.owa hq_131.1 hq_131.2 hfx
    have hza := hu_148.2.1
    have hel_152 : ∀ i : Int, 0 ≤ i → i < P.lz la → Pn_147.el la i = P.el la i := (fun i i0 i1 => (hu_148.1.elO hak_125.owa hq_131.1 hq_131.2 hfx hq_130.1 hq_130.2 hX_ab i0 (by omega)).trans (hel_127 i i0 i1))
    have hel_153 : ∀ i : Int, 0 ≤ i → i < P.lz lb → Pn_147.el lb i = P.el lb i := (fun i i0 i1 => (hu_148.1.elx hu_148.2.2.2.2.2.2.1 i0 (by omega)).trans (hel_128 i i0 i1))
    have hel_154 : ∀ i : Int, 0 ≤ i → i < P.lz lr → Pn_147.el lr i = P.el lr i := (fun i i0 i1 => (hu_148.1.elO hak_125.owa hq_131.1 hq_131.2 hfx hq_132.1 hq_132.2 (ek_ne hek_138 hek_136 (by decide)) i0 (by omega)).trans (hel_129 i i0 i1))
    have hq_155 : la ∈ Ln_146 ∧ Pn_147.kd la = 30 := hke_149.mem hq_130.1 hq_130.2 (by decide)
    have hq_156 : lb ∈ Ln_146 ∧ Pn_147.kd lb = 30 := hke_149.mem hq_131.1 hq_131.2 (by decide)
    have hq_157 : lr ∈ Ln_146 ∧ Pn_147.kd lr = 30 := hke_149.mem hq_132.1 hq_132.2 (by decide)
    have hq_158 : q_99 ∈ Ln_146 ∧ Pn_147.kd q_99 = 12 := hke_149.mem hm_141 hk_142 (by decide)
    have ha_159 : Pn_147.be q_99 = q2_102 := hke_149.be hm_141 hk_142 hbe0
    have hA_160 : KEG [la, lb] L P Ln_146 Pn_147 := hA_133.trans hke_149
    have : Pn_147.lz la = Pm_121.lz la := (hu_148.1.chg la hq_130.1 (fun q9 => by rcases q9 with q9 | q9; exact hX_ab q9; exact hak_125.owa.nle hq_131.1 hq_131.2 hfx hq_130.1 (by rw [hq_130.2]; decide) q9)).2.1 0
    have : Pn_147.lz lr = Pm_121.lz lr := (hu_148.1.chg lr hq_132.1 (fun q9 => by rcases q9 with q9 | q9; exact (ek_ne hek_138 hek_136 (by decide)) q9; exact hak_125.owa.nle hq_131.1 hq_131.2 hfx hq_132.1 (by rw [hq_132.2]; decide) q9)).2.1 0
    have : Pn_147.cap la = Pm_121.cap la := hu_148.1.capO hak_125.owa hq_131.1 hq_131.2 hfx hq_130.1 hq_130.2 hX_ab
    have : Pn_147.cap lr = Pm_121.cap lr := hu_148.1.capO hak_125.owa hq_131.1 hq_131.2 hfx hq_132.1 hq_132.2 (ek_ne hek_138 hek_136 (by decide))
    have hza := hu_148.2.1
    have hek_161 : Pn_147.ek la = 12 := (by rw [hke_149.ek hq_130.1 hq_130.2 (by decide)]; exact hek_134)
    have how_162 : Pn_147.ow la = la := ((hke_149.1 la hq_130.1 (by rw [hq_130.2]; decide)).2.2.2.1 hq_130.2 how_135).1
    have hek_163 : Pn_147.ek lb = 12 := (by rw [hke_149.ek hq_131.1 hq_131.2 (by decide)]; exact hek_136)
    have how_164 : Pn_147.ow lb = lb := ((hke_149.1 lb hq_131.1 (by rw [hq_131.2]; decide)).2.2.2.1 hq_131.2 how_137).1
    have hek_165 : Pn_147.ek lr = 17 := (by rw [hke_149.ek hq_132.1 hq_132.2 (by decide)]; exact hek_138)
    have how_166 : Pn_147.ow lr = lr := ((hke_149.1 lr hq_132.1 (by rw [hq_132.2]; decide)).2.2.2.1 hq_132.2 how_139).1
    have hcz := (((hke_149.1 lr hq_132.1 (by rw [hq_132.2]; decide)).2.2.2.1 hq_132.2 how_139).2 (fun q9 => by have h9 := hek_138; simp at q9; rcases q9 with q9 | q9 <;> (rw [q9] at h9; omega))).1
    clear hfx
    have hlb9 : Pn_147.el lb (Pm_121.lz lb) = q_99 := hu_148.1.elast hu_148.2.2.2.2.2.1
    refine lv_pop hx hb dX13_block_28 rfl ?_
    refine lv_aload_n hx hb dX13_block_29 rfl (lv_at hl 0 rfl) ?_
    refine va_get (D := (dC, dI)) (ci := 12) (v := .ref lb) (C := RX13) (T := TX13) (N := 7) hx hb hts mem_P13_blockI_0 hown hK hP 0 rfl rfl 0 (by decide) (ow (k := 1) rfl) (fun _ h9 => h9) rfl dX13_block_30 ?_
    refine lv_aload_n hx hb dX13_block_33 rfl (lv_at hl 0 rfl) ?_
    refine va_get (D := (dC, dI)) (ci := 12) (v := .int (zI (z13_made))) (C := RX13) (T := TX13) (N := 7) hx hb hts mem_P13_blockI_0 hown hK hP 0 rfl rfl 6 (by decide) (ow (k := 0) rfl) (fun _ h9 => h9) rfl dX13_block_34 ?_
    have hlk_167 := (show LOK Ln_146 Pn_147 cO 12 lb from (by have q9 := (hak_150.gla lb hq_156.1 hq_156.2).1; rw [hek_163] at q9; exact q9))
    obtain ⟨x, ex⟩ : ∃ q9 : Nat, q9 = Pn_147.el lb (z13_made) := ⟨_, rfl⟩
    have hX_x := hlk_167.1
    have hX_k := hlk_167.2.1
    have hq9 := hlk_167.row (i := z13_made) (by omega) (by omega)
    have hX_q : Pn_147.le lb ∈ Ln_146 ∧ Pn_147.kd (Pn_147.le lb) = 31 ∧ Pn_147.ac (Pn_147.le lb) = cO := ⟨hq9.1, hq9.2.1, hq9.2.2.1⟩
    have hq8 := hq9.2.2.2
    have hX_e0 : Pn_147.oa (Pn_147.le lb) (z13_made).toNat = some x := (by rw [ex]; exact (hlk_167.2.2.2.2 (z13_made) (by omega) (by omega)).1)
    have hxm : x ∈ Ln_146 := (by rw [ex]; exact (hlk_167.2.2.2.2 (z13_made) (by omega) (by omega)).2.1)
    have hxk := (hlk_167.2.2.2.2 (z13_made) (by omega) (by omega)).2.2
    rw [← ex] at hxk
    have hPc := hP.part (X := [(hc, .inr (12, [.ref lb, .ref lr, v13_2, v13_3, v13_4, .ref la, .int (zI (z13_made))]))]) (cx := []) (pl := va_pl Ln_146 (pE Pn_147)) [] rfl
    have hDc := hD.part (X := [(hc, .inr (12, [.ref lb, .ref lr, v13_2, v13_3, v13_4, .ref la, .int (zI (z13_made))]))]) (cx := []) (pl := va_pl Ln_146 (pE Pn_147)) [] (by decide) rfl
    have hKc := hK.sub (tys' := [(cO, .object "java/lang/Object")]) [2] rfl
    have hFc := va_freeP (X := [(hc, .inr (12, [.ref lb, .ref lr, v13_2, v13_3, v13_4, .ref la, .int (zI (z13_made))]))]) (cx := []) (pl := va_pl Ln_146 (pE Pn_147)) hD hS hA [] rfl
    refine va_callr (va_runV (As := [.int (zI (z13_made))]) (rest := []) ⟨hx, hb, hml, hown, hts⟩ (c_PL_get l dC dI cO Ln_146 Pn_147 lb z13_made x hX_x hX_k hX_q (by omega) hX_e0 H.size) (cwV 1 hts g_P13_blockI_PL_get rfl rfl rfl (by decide +kernel) ⟨(Nat.le_of_ble_eq_true rfl), (Nat.le_of_ble_eq_true rfl)⟩) ⟨fun a U g mk q => by obtain ⟨q0, q1, qP, qK, qD⟩ := q; exact ⟨q0, q1, qP, va_K.moved (u := U) (U := U.calling g mk a) (Vm.Alike.refl U.vm) qK, qD⟩, recv_30 hKc hPc hq_156.1 hq_156.2, fun U hU hW => ⟨rfl, by rw [hU], by rw [hU]; exact hPc, va_K.moved hW.alike hKc, hDc.weaken (fun _ _ _ _ => trivial)⟩⟩ rfl rfl hl.1 rfl (lv_room (Nat.le_of_ble_eq_true rfl)) dX13_block_37 ⟨(Nat.le_trans (show (4 + (Pm_121.gc lb)) + 0 ≤ 5 by omega) (Nat.le_of_ble_eq_true rfl)), (Nat.le_trans (show (18 + (Pm_121.gs lb)) + 0 ≤ 100018 by omega) (Nat.le_of_ble_eq_true rfl))⟩) hS (fun q _ h => hFc q h) hFc (fun u q_168 t H1 locs ht hvm hw hB hz1 hk1 hS => ?_)
    obtain ⟨hxt_168, hP1, hK1, hD1⟩ := hB
    rw [ht] at hP1
    have hK1 := va_K.moved hvm.symm hK1
    obtain ⟨hP, hD⟩ := va_joinP (X := [(hc, .inr (12, [.ref lb, .ref lr, v13_2, v13_3, v13_4, .ref la, .int (zI (z13_made))]))]) (cx := []) (wr := [(hc, .inr (12, [.ref lb, .ref lr, v13_2, v13_3, v13_4, .ref la, .int (zI (z13_made))]))]) (rx := []) (pl := va_pl Ln_146 (pE Pn_147)) (pl1 := va_pl Ln_146 (pE Pn_147)) hP hD [] [0] rfl rfl (by decide) (by decide) hk1 hFc hP1 hD1
    have hK := (hK.sub (tys' := [(cI, .int), (cZ, .boolean)]) [0, 1] rfl).app hK1
    generalize H1 = H at hP hS ⊢
    have hP : va_P (dC, dI) vwQ ([(hc, .inr (12, [.ref lb, .ref lr, v13_2, v13_3, v13_4, .ref la, .int (zI (z13_made))]))] ++ va_pl Ln_146 (pE Pn_147)) H := hP
    have hD : va_D A ([(hc, .inr (12, [.ref lb, .ref lr, v13_2, v13_3, v13_4, .ref la, .int (zI (z13_made))]))] ++ va_pl Ln_146 (pE Pn_147)) := hD
    have hK : va_K (dC, dI) vwQ [(cI, .int), (cZ, .boolean), (cO, .object "java/lang/Object")] s := hK
    refine W.widen (k := (4 + (Pm_121.gc lb))) (n := (18 + (Pm_121.gs lb))) (by omega) (by omega) ?_
    rw [hxt_168]
    clear hX_e0
    obtain ⟨xb_169, h9⟩ : ∃ q9 : Nat, q9 = x := ⟨_, rfl⟩
    subst h9
    have hm_170 := hxm
    have hk_171 := hxk
    have hel9 := ex
    have hbq : xb_169 = q_99 := hel9.trans (by rw [show (z13_made : Int) = Pm_121.lz lb from (by omega)]; exact hlb9)
    have hxn9 : xb_169 ∉ L := (by rw [hbq]; exact hxnL)
    refine va_castY (C := "SsaForgeModel$Block") (nm := "SsaForgeModel$Block") hx hb hown (ow (k := 9) rfl) hp0 (recv_12 hK hP hm_170 hk_171) dX13_block_40 ?_
    refine lv_astore_n (lv' := [(1, .ref xb_169), (0, .ref hc)]) hx hb dX13_block_43 rfl hl (by decide) rfl (fun ls hl => ?_)
    refine lv_aload_n hx hb dX13_block_44 rfl (lv_at hl 1 rfl) ?_
    refine lv_dup hx hb dX13_block_45 rfl ?_
    refine va_get (D := (dC, dI)) (ci := 12) (v := .int (zI (z13_made))) (C := RX13) (T := TX13) (N := 7) hx hb hts mem_P13_blockI_0 hown hK hP 0 rfl rfl 6 (by decide) (ow (k := 0) rfl) (fun _ h9 => h9) rfl dX13_block_46 ?_
    refine lv_iconst (v := 1) hx hb dX13_block_49 (by decide) ?_
    refine lv_iadd hx hb dX13_block_50 ?_
    refine lv_topi (fun z ez => ?_)
    obtain rfl : z = zI (z13_made + 1) := ez.trans (zI_add (z13_made) (1))
    refine va_put (D := (dC, dI)) (ci := 12) (v := .int (zI (z13_made + 1))) (ty := .int) (C := RX13) (T := TX13) (N := 7) hx hb hts mem_P13_blockI_0 tyX13 tyX13_ok nmX13 hown hK hP hD hS 0 rfl rfl 6 (by decide) (ow (k := 0) rfl) (fun _ h9 => h9) rfl (by decide +kernel) rfl rfl (by first | exact Nat.le_of_ble_eq_true rfl | exact Nat.le_trans (show (4 + (Pm_121.gc lb)) ≤ 5 from (by omega)) (Nat.le_of_ble_eq_true rfl) | exact Nat.le_trans (show (18 + (Pm_121.gs lb)) ≤ 100018 from (by omega)) (Nat.le_of_ble_eq_true rfl)) dX13_block_51 (fun H locs hP hD hS => ?_)
    have hP : va_P (dC, dI) vwQ ([(hc, .inr (12, [.ref lb, .ref lr, v13_2, v13_3, v13_4, .ref la, .int (zI (z13_made + 1))]))] ++ va_pl Ln_146 (pE Pn_147)) H := hP
    have hD : va_D A ([(hc, .inr (12, [.ref lb, .ref lr, v13_2, v13_3, v13_4, .ref la, .int (zI (z13_made + 1))]))] ++ va_pl Ln_146 (pE Pn_147)) := hD
    obtain ⟨z_173, ez_173⟩ : ∃ z9 : Int, z9 = z13_made + 1 := ⟨_, rfl⟩
    rw [← ez_173] at hP hD
    have hP : va_P (dC, dI) vwQ ([(hc, .inr (12, [.ref lb, .ref lr, v13_2, v13_3, v13_4, .ref la, .int (zI (z_173))]))] ++ va_pl Ln_146 (pE Pn_147)) H := hP
    have hD : va_D A ([(hc, .inr (12, [.ref lb, .ref lr, v13_2, v13_3, v13_4, .ref la, .int (zI (z_173))]))] ++ va_pl Ln_146 (pE Pn_147)) := hD
    refine lv_aload_n hx hb dX13_block_54 rfl (lv_at hl 0 rfl) ?_
    have hfb := (hak_150.gb hm_170 hk_171).2
    obtain ⟨kp_174, hkp_174⟩ := va_pl_get (X := [(hc, .inr (12, [.ref lb, .ref lr, v13_2, v13_3, v13_4, .ref la, .int (zI (z_173))]))]) (f := pE Pn_147) hm_170
    rw [pE_block hk_171] at hkp_174
    refine va_get (D := (dC, dI)) (ci := 19) (v := .ref (Pn_147.bp xb_169)) (C := RX12) (T := TX12) (N := 5) hx hb hts mem_P13_blockI_3 hown hK hP kp_174 hkp_174 rfl 0 (by decide) (ow (k := 10) rfl) (fun _ h9 => h9) rfl dX13_block_55 ?_
    obtain ⟨pr_175, epr_175⟩ : ∃ q9 : Nat, q9 = Pn_147.bp xb_169 := ⟨_, rfl⟩
    rw [← epr_175]
    have hlk_176 : LOK Ln_146 Pn_147 cO 15 pr_175 := (by rw [epr_175]; exact hak_150.lbp hm_170 hk_171)
    have hlz9 := hlk_176.2.2.1
    have hek_177 : Pn_147.ek pr_175 = 15 := (by rw [epr_175]; exact (hak_150.owc xb_169 hm_170 hk_171).2.1)
    have hlk_178 := (show LOK Ln_146 Pn_147 cO 15 pr_175 from (by rw [← epr_175.symm]; exact hak_150.lbp hm_170 hk_171))
    have hX_x := hlk_178.1
    have hX_k := hlk_178.2.1
    have hlz9 := hlk_178.2.2.1
    have hX_c := hak_150.adc hlk_178
    have hPc := hP.part (X := [(hc, .inr (12, [.ref lb, .ref lr, v13_2, v13_3, v13_4, .ref la, .int (zI (z_173))]))]) (cx := []) (pl := va_pl Ln_146 (pE Pn_147)) [] rfl
    have hDc := hD.part (X := [(hc, .inr (12, [.ref lb, .ref lr, v13_2, v13_3, v13_4, .ref la, .int (zI (z_173))]))]) (cx := []) (pl := va_pl Ln_146 (pE Pn_147)) [] (by decide) rfl
    have hKc := hK.sub (tys' := [(cO, .object "java/lang/Object")]) [2] rfl
    have hFc := va_freeP (X := [(hc, .inr (12, [.ref lb, .ref lr, v13_2, v13_3, v13_4, .ref la, .int (zI (z_173))]))]) (cx := []) (pl := va_pl Ln_146 (pE Pn_147)) hD hS hA [] rfl
    refine va_callv (va_runV (As := []) (rest := []) ⟨hx, hb, hml, hown, hts⟩ (c_PL_clearA l dC dI cO Ln_146 Pn_147 pr_175 sx_ed hX_x hX_k (by omega) hX_c H.size) (cwV 0 hts g_P13_blockI_PL_clearA rfl rfl rfl (by decide +kernel) ⟨(Nat.le_of_ble_eq_true rfl), (Nat.le_of_ble_eq_true rfl)⟩) ⟨fun a U g mk q => by obtain ⟨q0, q1, qP, qK, qD⟩ := q; exact ⟨q0, q1, qP, va_K.moved (u := U) (U := U.calling g mk a) (Vm.Alike.refl U.vm) qK, qD⟩, recv_30 hKc hPc hlk_176.1 hlk_176.2.1, fun U hU hW => ⟨rfl, by rw [hU], by rw [hU]; exact hPc, va_K.moved hW.alike hKc, hDc.weaken (fun _ _ _ _ => trivial)⟩⟩ rfl rfl hl.1 rfl (lv_room (Nat.le_of_ble_eq_true rfl)) dX13_block_58 ⟨(Nat.le_trans (show (4 + (Pm_121.gc lb)) + 0 ≤ 5 by omega) (Nat.le_of_ble_eq_true rfl)), (Nat.le_trans (show (18 + (Pm_121.gs lb)) + 0 ≤ 100018 by omega) (Nat.le_of_ble_eq_true rfl))⟩) hS (fun q _ h => hFc q h) hFc (fun  u t H1 locs ht hvm hw hB hz1 hk1 hS => ?_)
    obtain ⟨Pn_179, hxt_179, hP1, hK1, hD1⟩ := hB
    rw [ht] at hP1
    have hK1 := va_K.moved hvm.symm hK1
    obtain ⟨hP, hD⟩ := va_joinP (X := [(hc, .inr (12, [.ref lb, .ref lr, v13_2, v13_3, v13_4, .ref la, .int (zI (z_173))]))]) (cx := []) (wr := [(hc, .inr (12, [.ref lb, .ref lr, v13_2, v13_3, v13_4, .ref la, .int (zI (z_173))]))]) (rx := []) (pl := va_pl Ln_146 (pE Pn_147)) (pl1 := va_pl Ln_146 (pE Pn_179)) hP hD [] [0] rfl rfl (by decide) (by decide) hk1 hFc hP1 hD1
    have hK := (hK.sub (tys' := [(cI, .int), (cZ, .boolean)]) [0, 1] rfl).app hK1
    generalize H1 = H at hP hS ⊢
    have hP : va_P (dC, dI) vwQ ([(hc, .inr (12, [.ref lb, .ref lr, v13_2, v13_3, v13_4, .ref la, .int (zI (z_173))]))] ++ va_pl Ln_146 (pE Pn_179)) H := hP
    have hD : va_D A ([(hc, .inr (12, [.ref lb, .ref lr, v13_2, v13_3, v13_4, .ref la, .int (zI (z_173))]))] ++ va_pl Ln_146 (pE Pn_179)) := hD
    have hK : va_K (dC, dI) vwQ [(cI, .int), (cZ, .boolean), (cO, .object "java/lang/Object")] s := hK
    refine W.widen (k := (4 + (Pm_121.gc lb))) (n := (18 + (Pm_121.gs lb))) (by omega) (by omega) ?_
    have hu_180 := hxt_179
    have hke_181 : KEG [la, lb] Ln_146 Pn_147 Ln_146 Pn_179 := hu_180.keg hak_150 hlk_176.1 hlk_176.2.1 (Or.inl (fun e9 => kd_ne hk_171 hlk_176.2.1 (by decide) (show xb_169 = pr_175 from (by have q9 := (hak_150.owc xb_169 hm_170 hk_171).2.2.1; rw [epr_175.symm, e9] at q9; exact q9.symm))))
    have hak_182 : GLF Ln_146 Pn_179 cO cI cZ sx_ed := hu_180.glf hak_150 hlk_176.1 hlk_176.2.1
    have hst_183 := hu_180.chgo hak_150.owa hlk_176.1 hlk_176.2.1
    have hel_184 : ∀ i : Int, 0 ≤ i → i < P.lz la → Pn_179.el la i = P.el la i := (fun i i0 i1 => (hu_180.elO hak_150.owa hlk_176.1 hlk_176.2.1 hq_155.1 hq_155.2 (ek_ne hek_161 hek_177 (by decide)) i0 (by omega)).trans (hel_152 i i0 i1))
    have hel_185 : ∀ i : Int, 0 ≤ i → i < P.lz lb → Pn_179.el lb i = P.el lb i := (fun i i0 i1 => (hu_180.elO hak_150.owa hlk_176.1 hlk_176.2.1 hq_156.1 hq_156.2 (ek_ne hek_163 hek_177 (by decide)) i0 (by omega)).trans (hel_153 i i0 i1))
    have hel_186 : ∀ i : Int, 0 ≤ i → i < P.lz lr → Pn_179.el lr i = P.el lr i := (fun i i0 i1 => (hu_180.elO hak_150.owa hlk_176.1 hlk_176.2.1 hq_157.1 hq_157.2 (ek_ne hek_165 hek_177 (by decide)) i0 (by omega)).trans (hel_154 i i0 i1))
    have hef_187 : Pn_179.el lb (z13_made) = xb_169 := (by have i0 : (0 : Int) ≤ z13_made := (by omega); exact (hu_180.elO hak_150.owa hlk_176.1 hlk_176.2.1 hq_156.1 hq_156.2 (ek_ne hek_163 hek_177 (by decide)) i0 (by omega)).trans hel9.symm)
    have hq_188 : la ∈ Ln_146 ∧ Pn_179.kd la = 30 := hke_181.mem hq_155.1 hq_155.2 (by decide)
    have hq_189 : lb ∈ Ln_146 ∧ Pn_179.kd lb = 30 := hke_181.mem hq_156.1 hq_156.2 (by decide)
    have hq_190 : lr ∈ Ln_146 ∧ Pn_179.kd lr = 30 := hke_181.mem hq_157.1 hq_157.2 (by decide)
    have hq_191 : q_99 ∈ Ln_146 ∧ Pn_179.kd q_99 = 12 := hke_181.mem hq_158.1 hq_158.2 (by decide)
    have hq_192 : xb_169 ∈ Ln_146 ∧ Pn_179.kd xb_169 = 12 := hke_181.mem hm_170 hk_171 (by decide)
    have hq_193 : pr_175 ∈ Ln_146 ∧ Pn_179.kd pr_175 = 30 := hke_181.mem hlk_176.1 hlk_176.2.1 (by decide)
    have ha_194 : Pn_179.be q_99 = q2_102 := hke_181.be hq_158.1 hq_158.2 ha_159
    have ha_195 : Pn_179.be xb_169 = q2_102 := hke_181.be hm_170 hk_171 (by rw [hbq]; exact ha_159)
    have ha_196 : Pn_179.bp xb_169 = pr_175 := hke_181.bp hm_170 hk_171 epr_175.symm
    have hA_197 : KEG [la, lb] L P Ln_146 Pn_179 := hA_160.trans hke_181
    have : Pn_179.lz pr_175 = 0 := hu_180.2.1
    have : Pn_179.lz la = Pn_147.lz la := hu_180.lz (ek_ne hek_161 hek_177 (by decide))
    have : Pn_179.lz lb = Pn_147.lz lb := hu_180.lz (ek_ne hek_163 hek_177 (by decide))
    have : Pn_179.lz lr = Pn_147.lz lr := hu_180.lz (ek_ne hek_165 hek_177 (by decide))
    have : Pn_179.cap la = Pn_147.cap la := hu_180.cap la
    have : Pn_179.cap lb = Pn_147.cap lb := hu_180.cap lb
    have : Pn_179.cap lr = Pn_147.cap lr := hu_180.cap lr
    have hek_198 : Pn_179.ek la = 12 := (by rw [hke_181.ek hq_155.1 hq_155.2 (by decide)]; exact hek_161)
    have how_199 : Pn_179.ow la = la := ((hke_181.1 la hq_155.1 (by rw [hq_155.2]; decide)).2.2.2.1 hq_155.2 how_162).1
    have hek_200 : Pn_179.ek lb = 12 := (by rw [hke_181.ek hq_156.1 hq_156.2 (by decide)]; exact hek_163)
    have how_201 : Pn_179.ow lb = lb := ((hke_181.1 lb hq_156.1 (by rw [hq_156.2]; decide)).2.2.2.1 hq_156.2 how_164).1
    have hek_202 : Pn_179.ek lr = 17 := (by rw [hke_181.ek hq_157.1 hq_157.2 (by decide)]; exact hek_165)
    have how_203 : Pn_179.ow lr = lr := ((hke_181.1 lr hq_157.1 (by rw [hq_157.2]; decide)).2.2.2.1 hq_157.2 how_166).1
    have hcz := (((hke_181.1 lr hq_157.1 (by rw [hq_157.2]; decide)).2.2.2.1 hq_157.2 how_166).2 (fun q9 => by have h9 := hek_165; simp at q9; rcases q9 with q9 | q9 <;> (rw [q9] at h9; omega))).1
    have hek_204 : Pn_179.ek pr_175 = 15 := (by rw [hke_181.ek hlk_176.1 hlk_176.2.1 (by decide)]; exact hek_177)
    refine lv_aload_n hx hb dX13_block_61 rfl (lv_at hl 0 rfl) ?_
    have hfb := (hak_182.gb hq_192.1 hq_192.2).2
    obtain ⟨kp_205, hkp_205⟩ := va_pl_get (X := [(hc, .inr (12, [.ref lb, .ref lr, v13_2, v13_3, v13_4, .ref la, .int (zI (z_173))]))]) (f := pE Pn_179) hq_192.1
    rw [pE_block hq_192.2] at hkp_205
    refine va_get (D := (dC, dI)) (ci := 19) (v := .ref (Pn_179.br xb_169)) (C := RX12) (T := TX12) (N := 5) hx hb hts mem_P13_blockI_3 hown hK hP kp_205 hkp_205 rfl 1 (by decide) (ow (k := 14) rfl) (fun _ h9 => h9) rfl dX13_block_62 ?_
    obtain ⟨pr_206, epr_206⟩ : ∃ q9 : Nat, q9 = Pn_179.br xb_169 := ⟨_, rfl⟩
    rw [← epr_206]
    have hlk_207 : LOK Ln_146 Pn_179 cO 17 pr_206 := (by rw [epr_206]; exact hak_182.lbr hq_192.1 hq_192.2)
    have hlz9 := hlk_207.2.2.1
    have hek_208 : Pn_179.ek pr_206 = 17 := (by rw [epr_206]; exact (hak_182.owc xb_169 hq_192.1 hq_192.2).1.1)
    have hlk_209 := (show LOK Ln_146 Pn_179 cO 17 pr_206 from (by rw [← epr_206.symm]; exact hak_182.lbr hq_192.1 hq_192.2))
    have hX_x := hlk_209.1
    have hX_k := hlk_209.2.1
    have hlz9 := hlk_209.2.2.1
    have hX_c := hak_182.adc hlk_209
    have hPc := hP.part (X := [(hc, .inr (12, [.ref lb, .ref lr, v13_2, v13_3, v13_4, .ref la, .int (zI (z_173))]))]) (cx := []) (pl := va_pl Ln_146 (pE Pn_179)) [] rfl
    have hDc := hD.part (X := [(hc, .inr (12, [.ref lb, .ref lr, v13_2, v13_3, v13_4, .ref la, .int (zI (z_173))]))]) (cx := []) (pl := va_pl Ln_146 (pE Pn_179)) [] (by decide) rfl
    have hKc := hK.sub (tys' := [(cO, .object "java/lang/Object")]) [2] rfl
    have hFc := va_freeP (X := [(hc, .inr (12, [.ref lb, .ref lr, v13_2, v13_3, v13_4, .ref la, .int (zI (z_173))]))]) (cx := []) (pl := va_pl Ln_146 (pE Pn_179)) hD hS hA [] rfl
    refine va_callv (va_runV (As := []) (rest := []) ⟨hx, hb, hml, hown, hts⟩ (c_PL_clearA l dC dI cO Ln_146 Pn_179 pr_206 sx_ed hX_x hX_k (by omega) hX_c H.size) (cwV 0 hts g_P13_blockI_PL_clearA rfl rfl rfl (by decide +kernel) ⟨(Nat.le_of_ble_eq_true rfl), (Nat.le_of_ble_eq_true rfl)⟩) ⟨fun a U g mk q => by obtain ⟨q0, q1, qP, qK, qD⟩ := q; exact ⟨q0, q1, qP, va_K.moved (u := U) (U := U.calling g mk a) (Vm.Alike.refl U.vm) qK, qD⟩, recv_30 hKc hPc hlk_207.1 hlk_207.2.1, fun U hU hW => ⟨rfl, by rw [hU], by rw [hU]; exact hPc, va_K.moved hW.alike hKc, hDc.weaken (fun _ _ _ _ => trivial)⟩⟩ rfl rfl hl.1 rfl (lv_room (Nat.le_of_ble_eq_true rfl)) dX13_block_65 ⟨(Nat.le_trans (show (4 + (Pm_121.gc lb)) + 0 ≤ 5 by omega) (Nat.le_of_ble_eq_true rfl)), (Nat.le_trans (show (18 + (Pm_121.gs lb)) + 0 ≤ 100018 by omega) (Nat.le_of_ble_eq_true rfl))⟩) hS (fun q _ h => hFc q h) hFc (fun  u t H1 locs ht hvm hw hB hz1 hk1 hS => ?_)
    obtain ⟨Pn_210, hxt_210, hP1, hK1, hD1⟩ := hB
    rw [ht] at hP1
    have hK1 := va_K.moved hvm.symm hK1
    obtain ⟨hP, hD⟩ := va_joinP (X := [(hc, .inr (12, [.ref lb, .ref lr, v13_2, v13_3, v13_4, .ref la, .int (zI (z_173))]))]) (cx := []) (wr := [(hc, .inr (12, [.ref lb, .ref lr, v13_2, v13_3, v13_4, .ref la, .int (zI (z_173))]))]) (rx := []) (pl := va_pl Ln_146 (pE Pn_179)) (pl1 := va_pl Ln_146 (pE Pn_210)) hP hD [] [0] rfl rfl (by decide) (by decide) hk1 hFc hP1 hD1
    have hK := (hK.sub (tys' := [(cI, .int), (cZ, .boolean)]) [0, 1] rfl).app hK1
    generalize H1 = H at hP hS ⊢
    have hP : va_P (dC, dI) vwQ ([(hc, .inr (12, [.ref lb, .ref lr, v13_2, v13_3, v13_4, .ref la, .int (zI (z_173))]))] ++ va_pl Ln_146 (pE Pn_210)) H := hP
    have hD : va_D A ([(hc, .inr (12, [.ref lb, .ref lr, v13_2, v13_3, v13_4, .ref la, .int (zI (z_173))]))] ++ va_pl Ln_146 (pE Pn_210)) := hD
    have hK : va_K (dC, dI) vwQ [(cI, .int), (cZ, .boolean), (cO, .object "java/lang/Object")] s := hK
    refine W.widen (k := (4 + (Pm_121.gc lb))) (n := (18 + (Pm_121.gs lb))) (by omega) (by omega) ?_
    have hu_211 := hxt_210
    have hke_212 : KEG [la, lb] Ln_146 Pn_179 Ln_146 Pn_210 := hu_211.keg hak_182 hlk_207.1 hlk_207.2.1 (Or.inl (fun e9 => kd_ne hq_192.2 hlk_207.2.1 (by decide) (show xb_169 = pr_206 from (by have q9 := (hak_182.owc xb_169 hq_192.1 hq_192.2).1.2.1; rw [epr_206.symm, e9] at q9; exact q9.symm))))
    have hak_213 : GLF Ln_146 Pn_210 cO cI cZ sx_ed := hu_211.glf hak_182 hlk_207.1 hlk_207.2.1
    have hst_214 := hu_211.chgo hak_182.owa hlk_207.1 hlk_207.2.1
    have hel_215 : ∀ i : Int, 0 ≤ i → i < P.lz la → Pn_210.el la i = P.el la i := (fun i i0 i1 => (hu_211.elO hak_182.owa hlk_207.1 hlk_207.2.1 hq_188.1 hq_188.2 (ek_ne hek_198 hek_208 (by decide)) i0 (by omega)).trans (hel_184 i i0 i1))
    have hel_216 : ∀ i : Int, 0 ≤ i → i < P.lz lb → Pn_210.el lb i = P.el lb i := (fun i i0 i1 => (hu_211.elO hak_182.owa hlk_207.1 hlk_207.2.1 hq_189.1 hq_189.2 (ek_ne hek_200 hek_208 (by decide)) i0 (by omega)).trans (hel_185 i i0 i1))
    have hel_217 : ∀ i : Int, 0 ≤ i → i < P.lz lr → Pn_210.el lr i = P.el lr i := (fun i i0 i1 => (hu_211.elO hak_182.owa hlk_207.1 hlk_207.2.1 hq_190.1 hq_190.2 (fun e9 => (show Pn_179.ow pr_206 ≠ pr_206 from (fun e9 => kd_ne hq_192.2 hlk_207.2.1 (by decide) (show xb_169 = pr_206 from (by have q9 := (hak_182.owc xb_169 hq_192.1 hq_192.2).1.2.1; rw [epr_206.symm, e9] at q9; exact q9.symm)))) (by rw [← e9]; exact how_203)) i0 (by omega)).trans (hel_186 i i0 i1))
    have hef_218 : Pn_210.el lb (z13_made) = xb_169 := (by have i0 : (0 : Int) ≤ z13_made := (by omega); exact (hu_211.elO hak_182.owa hlk_207.1 hlk_207.2.1 hq_189.1 hq_189.2 (ek_ne hek_200 hek_208 (by decide)) i0 (by omega)).trans hef_187)
    have hq_219 : la ∈ Ln_146 ∧ Pn_210.kd la = 30 := hke_212.mem hq_188.1 hq_188.2 (by decide)
    have hq_220 : lb ∈ Ln_146 ∧ Pn_210.kd lb = 30 := hke_212.mem hq_189.1 hq_189.2 (by decide)
    have hq_221 : lr ∈ Ln_146 ∧ Pn_210.kd lr = 30 := hke_212.mem hq_190.1 hq_190.2 (by decide)
    have hq_222 : q_99 ∈ Ln_146 ∧ Pn_210.kd q_99 = 12 := hke_212.mem hq_191.1 hq_191.2 (by decide)
    have hq_223 : xb_169 ∈ Ln_146 ∧ Pn_210.kd xb_169 = 12 := hke_212.mem hq_192.1 hq_192.2 (by decide)
    have hq_224 : pr_175 ∈ Ln_146 ∧ Pn_210.kd pr_175 = 30 := hke_212.mem hq_193.1 hq_193.2 (by decide)
    have hq_225 : pr_206 ∈ Ln_146 ∧ Pn_210.kd pr_206 = 30 := hke_212.mem hlk_207.1 hlk_207.2.1 (by decide)
    have ha_226 : Pn_210.be q_99 = q2_102 := hke_212.be hq_191.1 hq_191.2 ha_194
    have ha_227 : Pn_210.be xb_169 = q2_102 := hke_212.be hq_192.1 hq_192.2 ha_195
    have ha_228 : Pn_210.bp xb_169 = pr_175 := hke_212.bp hq_192.1 hq_192.2 ha_196
    have ha_229 : Pn_210.br xb_169 = pr_206 := hke_212.br hq_192.1 hq_192.2 epr_206.symm
    have hA_230 : KEG [la, lb] L P Ln_146 Pn_210 := hA_197.trans hke_212
    have : Pn_210.lz pr_206 = 0 := hu_211.2.1
    have : Pn_210.lz la = Pn_179.lz la := hu_211.lz (ek_ne hek_198 hek_208 (by decide))
    have : Pn_210.lz lb = Pn_179.lz lb := hu_211.lz (ek_ne hek_200 hek_208 (by decide))
    have : Pn_210.lz lr = Pn_179.lz lr := hu_211.lz (fun e9 => (show Pn_179.ow pr_206 ≠ pr_206 from (fun e9 => kd_ne hq_192.2 hlk_207.2.1 (by decide) (show xb_169 = pr_206 from (by have q9 := (hak_182.owc xb_169 hq_192.1 hq_192.2).1.2.1; rw [epr_206.symm, e9] at q9; exact q9.symm)))) (by rw [← e9]; exact how_203))
    have : Pn_210.lz pr_175 = Pn_179.lz pr_175 := hu_211.lz (ek_ne hek_204 hek_208 (by decide))
    have : Pn_210.cap la = Pn_179.cap la := hu_211.cap la
    have : Pn_210.cap lb = Pn_179.cap lb := hu_211.cap lb
    have : Pn_210.cap lr = Pn_179.cap lr := hu_211.cap lr
    have hek_231 : Pn_210.ek la = 12 := (by rw [hke_212.ek hq_188.1 hq_188.2 (by decide)]; exact hek_198)
    have how_232 : Pn_210.ow la = la := ((hke_212.1 la hq_188.1 (by rw [hq_188.2]; decide)).2.2.2.1 hq_188.2 how_199).1
    have hek_233 : Pn_210.ek lb = 12 := (by rw [hke_212.ek hq_189.1 hq_189.2 (by decide)]; exact hek_200)
    have how_234 : Pn_210.ow lb = lb := ((hke_212.1 lb hq_189.1 (by rw [hq_189.2]; decide)).2.2.2.1 hq_189.2 how_201).1
    have hek_235 : Pn_210.ek lr = 17 := (by rw [hke_212.ek hq_190.1 hq_190.2 (by decide)]; exact hek_202)
    have how_236 : Pn_210.ow lr = lr := ((hke_212.1 lr hq_190.1 (by rw [hq_190.2]; decide)).2.2.2.1 hq_190.2 how_203).1
    have hcz := (((hke_212.1 lr hq_190.1 (by rw [hq_190.2]; decide)).2.2.2.1 hq_190.2 how_203).2 (fun q9 => by have h9 := hek_202; simp at q9; rcases q9 with q9 | q9 <;> (rw [q9] at h9; omega))).1
    have hek_237 : Pn_210.ek pr_175 = 15 := (by rw [hke_212.ek hq_193.1 hq_193.2 (by decide)]; exact hek_204)
    have hek_238 : Pn_210.ek pr_206 = 17 := (by rw [hke_212.ek hlk_207.1 hlk_207.2.1 (by decide)]; exact hek_208)
    refine lv_aload_n hx hb dX13_block_68 rfl (lv_at hl 1 rfl) ?_
    refine va_get (D := (dC, dI)) (ci := 12) (v := .ref la) (C := RX13) (T := TX13) (N := 7) hx hb hts mem_P13_blockI_0 hown hK hP 0 rfl rfl 5 (by decide) (ow (k := 15) rfl) (fun _ h9 => h9) rfl dX13_block_69 ?_
    refine lv_aload_n hx hb dX13_block_72 rfl (lv_at hl 0 rfl) ?_
    have hlk_239 := (show LOK Ln_146 Pn_210 cO 12 la from (by have q9 := (hak_213.gla la hq_219.1 hq_219.2).1; rw [hek_231] at q9; exact q9))
    have hX_x := hlk_239.1
    have hX_k := hlk_239.2.1
    have hlz9 := hlk_239.2.2.1
    have hX_c := hak_213.adc hlk_239
    have hX_y : xb_169 ∈ Ln_146 ∧ OBK (Pn_210.kd xb_169) := ⟨hq_223.1, (by rw [hq_223.2]; unfold OBK; decide)⟩
    have hPc := hP.part (X := [(hc, .inr (12, [.ref lb, .ref lr, v13_2, v13_3, v13_4, .ref la, .int (zI (z_173))]))]) (cx := []) (pl := va_pl Ln_146 (pE Pn_210)) [] rfl
    have hDc := hD.part (X := [(hc, .inr (12, [.ref lb, .ref lr, v13_2, v13_3, v13_4, .ref la, .int (zI (z_173))]))]) (cx := []) (pl := va_pl Ln_146 (pE Pn_210)) [] (by decide) rfl
    have hKc := hK.sub (tys' := [(cO, .object "java/lang/Object")]) [2] rfl
    have hFc := va_freeP (X := [(hc, .inr (12, [.ref lb, .ref lr, v13_2, v13_3, v13_4, .ref la, .int (zI (z_173))]))]) (cx := []) (pl := va_pl Ln_146 (pE Pn_210)) hD hS hA [] rfl
    have hgl := ADC.gl hX_c
    refine va_calli (va_runV (As := [.ref xb_169]) (rest := []) ⟨hx, hb, hml, hown, hts⟩ (c_PL_addAR l dC dI cO Ln_146 Pn_210 la xb_169 sx_ed hX_x hX_k (by omega) hX_c hX_y H.size sx_mi) (cwV 1 hts g_P13_blockI_PL_addAR rfl rfl rfl (by decide +kernel) ⟨(Nat.le_of_ble_eq_true rfl), (Nat.le_of_ble_eq_true rfl)⟩) ⟨fun a U g mk q => by obtain ⟨q0, q1, qP, qK, qD, e0, e1, e2, e3, e4, e5, e6, e7⟩ := q; exact ⟨q0, q1, qP, va_K.moved (u := U) (U := U.calling g mk a) (Vm.Alike.refl U.vm) qK, qD, va_Nw.same rfl (u := U) (U := U.calling g mk a) rfl e0, va_Nw.same rfl (u := U) (U := U.calling g mk a) rfl e1, va_Nw.same rfl (u := U) (U := U.calling g mk a) rfl e2, va_Dc.moved (u := U) (U := U.calling g mk a) (Vm.Alike.refl U.vm) e3, va_Mi.moved (u := U) (U := U.calling g mk a) (Vm.Alike.refl U.vm) e4, va_AO.moved (u := U) (U := U.calling g mk a) (Vm.Alike.refl U.vm) e5, va_T.moved (u := U) (U := U.calling g mk a) (Vm.Alike.refl U.vm) e6, va_Z.moved (u := U) (U := U.calling g mk a) (Vm.Alike.refl U.vm) e7⟩, recv_30 hKc hPc hq_219.1 hq_219.2, fun U hU hW => ⟨rfl, by rw [hU], by rw [hU]; exact hPc, va_K.moved hW.alike hKc, hDc.weaken (fun _ _ _ _ => trivial), va_Nw.warmC hW hp1, va_Nw.warmC hW hp2, va_Nw.warmC hW hp3, va_Dc.moved hW.alike hp4, va_Mi.moved hW.alike hp5, va_AO.moved hW.alike hp6, by rw [hU]; exact va_T.narrow (va_T.moved hW.alike (va_T.kept hp7 hS.2.1)) hFc, by rw [hU]; exact va_Z.narrow (va_Z.moved hW.alike (va_Z.kept hp8 hS.2.1)) hFc⟩⟩ rfl rfl hl.1 rfl (lv_room (Nat.le_of_ble_eq_true rfl)) dX13_block_73 ⟨(Nat.le_trans (show (4 + (Pm_121.gc lb)) + (Pn_210.gc la) ≤ 6 by omega) (Nat.le_of_ble_eq_true rfl)), (Nat.le_trans (show (18 + (Pm_121.gs lb)) + (Pn_210.gs la) ≤ 200018 by omega) (Nat.le_of_ble_eq_true rfl))⟩) hS (fun q _ h => hFc q h) hFc (fun r_240 z_241 t H1 locs ht hvm hw hB hz1 hk1 hS => ?_)
    obtain ⟨Ln_242, Pn_243, hxt_243, hP1, hK1, hD1⟩ := hB
    rw [ht] at hP1
    have hK1 := va_K.moved hvm.symm hK1
    obtain ⟨hP, hD⟩ := va_joinP (X := [(hc, .inr (12, [.ref lb, .ref lr, v13_2, v13_3, v13_4, .ref la, .int (zI (z_173))]))]) (cx := []) (wr := [(hc, .inr (12, [.ref lb, .ref lr, v13_2, v13_3, v13_4, .ref la, .int (zI (z_173))]))]) (rx := []) (pl := va_pl Ln_146 (pE Pn_210)) (pl1 := va_pl Ln_242 (pE Pn_243)) hP hD [] [0] rfl rfl (by decide) (by decide) hk1 hFc hP1 hD1
    have hK := (hK.sub (tys' := [(cI, .int), (cZ, .boolean)]) [0, 1] rfl).app hK1
    generalize H1 = H at hP hS ⊢
    have hP : va_P (dC, dI) vwQ ([(hc, .inr (12, [.ref lb, .ref lr, v13_2, v13_3, v13_4, .ref la, .int (zI (z_173))]))] ++ va_pl Ln_242 (pE Pn_243)) H := hP
    have hD : va_D A ([(hc, .inr (12, [.ref lb, .ref lr, v13_2, v13_3, v13_4, .ref la, .int (zI (z_173))]))] ++ va_pl Ln_242 (pE Pn_243)) := hD
    have hK : va_K (dC, dI) vwQ [(cI, .int), (cZ, .boolean), (cO, .object "java/lang/Object")] s := hK
    refine W.widen (k := ((4 + (Pm_121.gc lb)) + (Pn_210.gc la))) (n := ((18 + (Pm_121.gs lb)) + (Pn_210.gs la))) (by omega) (by omega) ?_
    obtain ⟨rfl, hzz_241⟩ := hw
    have hu_244 := hxt_243
    have hfx := hu_244.2.2.2.2.2.2.2
    have han := hu_244.2.2.2.1
    have hke_245 : KEG [la, lb] Ln_146 Pn_210 Ln_242 Pn_243 := hu_244.1.keg hak_213 hq_219.1 hq_219.2 hfx (Or.inr (by simp))
    have hak_246 : GLF Ln_242 Pn_243 cO cI cZ sx_ed := hak_213.add hu_244.1 hq_219.1 hq_219.2 hfx hek_231 hq_223.1 hq_223.2 hu_244.2.1 (by omega) hu_244.2.2.1 hu_244.2.2.2.1.1 (by have q9 := hak_213.adc40 hlk_239; omega) hu_244.2.2.2.2.1 hu_244.2.2.2.2.2.1 hu_244.2.2.2.2.2.2.1 (fun q9 => absurd q9 (by decide))
    have hgr9 := (gro_cap (P := Pn_210) (P' := Pn_243) (x := la) (hak_213.adcl hlk_239) hu_244.1.1.2.2.2.2.2.2.2.2 hu_244.2.2.2.1.1 hu_244.2.2.2.1.2.2.1 hu_244.2.2.2.1.2.2.2 hu_244.2.2.2.1.2.1).1
    clear han
    have hst_247 := hu_244.1.chgo hak_213.owa hq_219.1 hq_219.2 hfx
    have hza := hu_244.2.1
    have hel_248 : ∀ i : Int, 0 ≤ i → i < P.lz la → Pn_243.el la i = P.el la i := (fun i i0 i1 => (hu_244.1.elx hu_244.2.2.2.2.2.2.1 i0 (by omega)).trans (hel_215 i i0 i1))
    have hel_249 : ∀ i : Int, 0 ≤ i → i < P.lz lb → Pn_243.el lb i = P.el lb i := (fun i i0 i1 => (hu_244.1.elO hak_213.owa hq_219.1 hq_219.2 hfx hq_220.1 hq_220.2 hX_ab.symm i0 (by omega)).trans (hel_216 i i0 i1))
    have hel_250 : ∀ i : Int, 0 ≤ i → i < P.lz lr → Pn_243.el lr i = P.el lr i := (fun i i0 i1 => (hu_244.1.elO hak_213.owa hq_219.1 hq_219.2 hfx hq_221.1 hq_221.2 (ek_ne hek_235 hek_231 (by decide)) i0 (by omega)).trans (hel_217 i i0 i1))
    have hef_251 : Pn_243.el lb (z13_made) = xb_169 := (by have i0 : (0 : Int) ≤ z13_made := (by omega); exact (hu_244.1.elO hak_213.owa hq_219.1 hq_219.2 hfx hq_220.1 hq_220.2 hX_ab.symm i0 (by omega)).trans hef_218)
    have hlast := hu_244.1.elast hu_244.2.2.2.2.2.1
    have hq_252 : la ∈ Ln_242 ∧ Pn_243.kd la = 30 := hke_245.mem hq_219.1 hq_219.2 (by decide)
    have hq_253 : lb ∈ Ln_242 ∧ Pn_243.kd lb = 30 := hke_245.mem hq_220.1 hq_220.2 (by decide)
    have hq_254 : lr ∈ Ln_242 ∧ Pn_243.kd lr = 30 := hke_245.mem hq_221.1 hq_221.2 (by decide)
    have hq_255 : q_99 ∈ Ln_242 ∧ Pn_243.kd q_99 = 12 := hke_245.mem hq_222.1 hq_222.2 (by decide)
    have hq_256 : xb_169 ∈ Ln_242 ∧ Pn_243.kd xb_169 = 12 := hke_245.mem hq_223.1 hq_223.2 (by decide)
    have hq_257 : pr_175 ∈ Ln_242 ∧ Pn_243.kd pr_175 = 30 := hke_245.mem hq_224.1 hq_224.2 (by decide)
    have hq_258 : pr_206 ∈ Ln_242 ∧ Pn_243.kd pr_206 = 30 := hke_245.mem hq_225.1 hq_225.2 (by decide)
    have ha_259 : Pn_243.be q_99 = q2_102 := hke_245.be hq_222.1 hq_222.2 ha_226
    have ha_260 : Pn_243.be xb_169 = q2_102 := hke_245.be hq_223.1 hq_223.2 ha_227
    have ha_261 : Pn_243.bp xb_169 = pr_175 := hke_245.bp hq_223.1 hq_223.2 ha_228
    have ha_262 : Pn_243.br xb_169 = pr_206 := hke_245.br hq_223.1 hq_223.2 ha_229
    have hA_263 : KEG [la, lb] L P Ln_242 Pn_243 := hA_230.trans hke_245
    have : Pn_243.lz lb = Pn_210.lz lb := (hu_244.1.chg lb hq_220.1 (fun q9 => by rcases q9 with q9 | q9; exact hX_ab.symm q9; exact hak_213.owa.nle hq_219.1 hq_219.2 hfx hq_220.1 (by rw [hq_220.2]; decide) q9)).2.1 0
    have : Pn_243.lz lr = Pn_210.lz lr := (hu_244.1.chg lr hq_221.1 (fun q9 => by rcases q9 with q9 | q9; exact (ek_ne hek_235 hek_231 (by decide)) q9; exact hak_213.owa.nle hq_219.1 hq_219.2 hfx hq_221.1 (by rw [hq_221.2]; decide) q9)).2.1 0
    have : Pn_243.lz pr_175 = Pn_210.lz pr_175 := (hu_244.1.chg pr_175 hq_224.1 (fun q9 => by rcases q9 with q9 | q9; exact (ek_ne hek_237 hek_231 (by decide)) q9; exact hak_213.owa.nle hq_219.1 hq_219.2 hfx hq_224.1 (by rw [hq_224.2]; decide) q9)).2.1 0
    have : Pn_243.lz pr_206 = Pn_210.lz pr_206 := (hu_244.1.chg pr_206 hq_225.1 (fun q9 => by rcases q9 with q9 | q9; exact (ek_ne hek_238 hek_231 (by decide)) q9; exact hak_213.owa.nle hq_219.1 hq_219.2 hfx hq_225.1 (by rw [hq_225.2]; decide) q9)).2.1 0
    have : Pn_243.cap lb = Pn_210.cap lb := hu_244.1.capO hak_213.owa hq_219.1 hq_219.2 hfx hq_220.1 hq_220.2 hX_ab.symm
    have : Pn_243.cap lr = Pn_210.cap lr := hu_244.1.capO hak_213.owa hq_219.1 hq_219.2 hfx hq_221.1 hq_221.2 (ek_ne hek_235 hek_231 (by decide))
    have hza := hu_244.2.1
    have hek_264 : Pn_243.ek la = 12 := (by rw [hke_245.ek hq_219.1 hq_219.2 (by decide)]; exact hek_231)
    have how_265 : Pn_243.ow la = la := ((hke_245.1 la hq_219.1 (by rw [hq_219.2]; decide)).2.2.2.1 hq_219.2 how_232).1
    have hek_266 : Pn_243.ek lb = 12 := (by rw [hke_245.ek hq_220.1 hq_220.2 (by decide)]; exact hek_233)
    have how_267 : Pn_243.ow lb = lb := ((hke_245.1 lb hq_220.1 (by rw [hq_220.2]; decide)).2.2.2.1 hq_220.2 how_234).1
    have hek_268 : Pn_243.ek lr = 17 := (by rw [hke_245.ek hq_221.1 hq_221.2 (by decide)]; exact hek_235)
    have how_269 : Pn_243.ow lr = lr := ((hke_245.1 lr hq_221.1 (by rw [hq_221.2]; decide)).2.2.2.1 hq_221.2 how_236).1
    have hcz := (((hke_245.1 lr hq_221.1 (by rw [hq_221.2]; decide)).2.2.2.1 hq_221.2 how_236).2 (fun q9 => by have h9 := hek_235; simp at q9; rcases q9 with q9 | q9 <;> (rw [q9] at h9; omega))).1
    have hek_270 : Pn_243.ek pr_175 = 15 := (by rw [hke_245.ek hq_224.1 hq_224.2 (by decide)]; exact hek_237)
    have hek_271 : Pn_243.ek pr_206 = 17 := (by rw [hke_245.ek hq_225.1 hq_225.2 (by decide)]; exact hek_238)
    clear hfx
    refine lv_pop hx hb dX13_block_76 rfl ?_
    refine lv_aload_n hx hb dX13_block_77 rfl (lv_at hl 0 rfl) ?_
    subst hQ
    have hK := hK.sub (tys' := [(cO, .object "java/lang/Object"), (cI, .int), (cZ, .boolean)]) [2, 0, 1] rfl
    refine W_knowS (fun hrm9 => ?_)
    refine W.widen (k := 6) (n := 200018) (by omega) (by omega) ?_
    exact W.aret (v := .ref xb_169) hx hb hr (Or.inl ⟨_, rfl⟩) (Or.inr ⟨_, rfl⟩) (fun t ht hW => ⟨⟨(), xb_169, rfl, trivial, z_173, Ln_242, Pn_243, ((4 + (Pm_121.gc lb)) + (Pn_210.gc la)), ((18 + (Pm_121.gs lb)) + (Pn_210.gs la)), ⟨⟨(by rw [ht, ← hp9]; exact hrm9), (by omega)⟩, ⟨(by omega), ⟨hA_263, hak_246, ⟨⟨hq_256.1, hq_256.2, hef_251.symm, (by have h9 := hlast; rw [show Pn_210.lz la = P.lz la from (by omega)] at h9; exact h9.symm), (by rw [ha_261]; omega), (by rw [ha_262]; omega)⟩, ⟨by omega, by omega, by omega⟩, hel_248, hel_249, ((((hex_140.chgo.step hst_151 (Or.inr (Or.inl rfl))).step hst_183 (Or.inr (Or.inr (Or.inl ha_261.symm)))).step hst_214 (Or.inr (Or.inr (Or.inr ha_262.symm)))).step hst_247 (Or.inl rfl))⟩, (hX_ds.blk hX_g hX_lb hA_263 hel_249 (Or.inr ⟨by omega, (by rw [show P.lz lb = z13_made from (by omega), hef_251]; exact hxn9), (by rw [show P.lz lb = z13_made from (by omega), hef_251, ha_260]; exact hbnL)⟩)), by omega, by omega, by omega⟩⟩⟩, by rw [ht]; exact hP, va_K.moved hW.alike hK, hD⟩, hS.F ht⟩) hS.2.2 dX13_block_78
