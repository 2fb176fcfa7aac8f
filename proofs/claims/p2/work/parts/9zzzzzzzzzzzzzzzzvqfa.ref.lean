def o_P13_copyQ : List Cond := [.methodLink RX13 88 yX13_begin, .instanceMethod yX13_begin, .selects RX13 yX13_begin yX13_begin, .initialized RX13, .methodLink RX13 84 yX13_size, .instanceMethod yX13_size, .selects RX13 yX13_size yX13_size, .methodLink RX13 85 yX13_get, .instanceMethod yX13_get, .selects RX13 yX13_get yX13_get, .methodLink RX13 90 yX13_block, .instanceMethod yX13_block, .selects RX13 yX13_block yX13_block, .fieldLink RX13 53 "SsaForgeModel$Block" "phis" "Ljava/util/ArrayList;", .methodLink RX13 38 yJx4a65c_size_8abf5, .instanceMethod yJx4a65c_size_8abf5, .selects RJx4a65c yJx4a65c_size_8abf5 yJx4a65c_size_8abf5, .initialized RJx4a65c, .fieldLink RX13 54 "SsaForgeModel$Block" "rows" "Ljava/util/ArrayList;", .fieldLink RX13 124 "SsaForgeModel$Block" "end" "LSsaForgeModel$Row;", .methodLink RX13 120 yX17_put, .instanceMethod yX17_put, .selects RX17 yX17_put yX17_put, .initialized RX17, .fieldLink RX13 128 "SsaForgeModel$Block" "first" "I", .fieldLink RX13 131 "SsaForgeModel$Block" "second" "I", .methodLink RX13 116 yX13_row, .instanceMethod yX13_row, .selects RX13 yX13_row yX13_row, .methodLink RX13 49 yJx4a65c_get_915e3, .instanceMethod yJx4a65c_get_915e3, .selects RJx4a65c yJx4a65c_get_915e3 yJx4a65c_get_915e3, .classLink RX13 55 "SsaForgeModel$Row", .methodLink RX13 45 yJx4a65c_add_9ea2d, .instanceMethod yJx4a65c_add_9ea2d, .selects RJx4a65c yJx4a65c_add_9ea2d yJx4a65c_add_9ea2d, .classLink RX13 77 "SsaForgeModel$Phi", .fieldLink RX13 94 "SsaForgeModel$Phi" "t" "I", .methodLink RX13 95 yX13_phi, .instanceMethod yX13_phi, .selects RX13 yX13_phi yX13_phi, .fieldLink RX13 99 "SsaForgeModel$Phi" "n" "I", .fieldLink RX13 102 "SsaForgeModel$Phi" "preds" "[I", .fieldLink RX13 106 "SsaForgeModel$Phi" "operands" "[I", .fieldLink RX13 109 "SsaForgeModel$Phi" "regs" "[Z", .methodLink RX13 113 yX15_add, .instanceMethod yX15_add, .selects RX15 yX15_add yX15_add, .initialized RX15]
def v_P13_copyQ : List Cond := .code yX13_copy cX13_copy 9 none :: (o_P13_copyQ ++ (v_P13_beginR ++ (v_PC_size ++ (v_PC_get ++ (v_P13_blockQ ++ (wsX120 ++ (v_PL_size ++ (v_PR_putX ++ (v_P13_rowQ ++ (v_PL_get ++ (v_PL_addAX ++ (wsX150 ++ (v_P13_phiQ ++ (v_PP_addQ ++ []))))))))))))))
theorem mow_P13_copyQ : ∀ w ∈ o_P13_copyQ, w ∈ v_P13_copyQ := fun _ h => List.mem_cons_of_mem _ (List.mem_append_left _ h)
theorem mem_P13_copyQ_0 : ∀ w ∈ v_P13_beginR, w ∈ v_P13_copyQ := fun _ h => List.mem_cons_of_mem _ (List.mem_append_right _ (List.mem_append_left _ h))
theorem mem_P13_copyQ_1 : ∀ w ∈ v_PC_size, w ∈ v_P13_copyQ := fun _ h => List.mem_cons_of_mem _ (List.mem_append_right _ (List.mem_append_right _ (List.mem_append_left _ h)))
theorem mem_P13_copyQ_2 : ∀ w ∈ v_PC_get, w ∈ v_P13_copyQ := fun _ h => List.mem_cons_of_mem _ (List.mem_append_right _ (List.mem_append_right _ (List.mem_append_right _ (List.mem_append_left _ h))))
theorem mem_P13_copyQ_3 : ∀ w ∈ v_P13_blockQ, w ∈ v_P13_copyQ := fun _ h => List.mem_cons_of_mem _ (List.mem_append_right _ (List.mem_append_right _ (List.mem_append_right _ (List.mem_append_right _ (List.mem_append_left _ h)))))
theorem mem_P13_copyQ_4 : ∀ w ∈ wsX120, w ∈ v_P13_copyQ := fun _ h => List.mem_cons_of_mem _ (List.mem_append_right _ (List.mem_append_right _ (List.mem_append_right _ (List.mem_append_right _ (List.mem_append_right _ (List.mem_append_left _ h))))))
theorem mem_P13_copyQ_5 : ∀ w ∈ v_PL_size, w ∈ v_P13_copyQ := fun _ h => List.mem_cons_of_mem _ (List.mem_append_right _ (List.mem_append_right _ (List.mem_append_right _ (List.mem_append_right _ (List.mem_append_right _ (List.mem_append_right _ (List.mem_append_left _ h)))))))
theorem mem_P13_copyQ_6 : ∀ w ∈ v_PR_putX, w ∈ v_P13_copyQ := fun _ h => List.mem_cons_of_mem _ (List.mem_append_right _ (List.mem_append_right _ (List.mem_append_right _ (List.mem_append_right _ (List.mem_append_right _ (List.mem_append_right _ (List.mem_append_right _ (List.mem_append_left _ h))))))))
theorem mem_P13_copyQ_7 : ∀ w ∈ v_P13_rowQ, w ∈ v_P13_copyQ := fun _ h => List.mem_cons_of_mem _ (List.mem_append_right _ (List.mem_append_right _ (List.mem_append_right _ (List.mem_append_right _ (List.mem_append_right _ (List.mem_append_right _ (List.mem_append_right _ (List.mem_append_right _ (List.mem_append_left _ h)))))))))
theorem mem_P13_copyQ_8 : ∀ w ∈ v_PL_get, w ∈ v_P13_copyQ := fun _ h => List.mem_cons_of_mem _ (List.mem_append_right _ (List.mem_append_right _ (List.mem_append_right _ (List.mem_append_right _ (List.mem_append_right _ (List.mem_append_right _ (List.mem_append_right _ (List.mem_append_right _ (List.mem_append_right _ (List.mem_append_left _ h))))))))))
theorem mem_P13_copyQ_9 : ∀ w ∈ v_PL_addAX, w ∈ v_P13_copyQ := fun _ h => List.mem_cons_of_mem _ (List.mem_append_right _ (List.mem_append_right _ (List.mem_append_right _ (List.mem_append_right _ (List.mem_append_right _ (List.mem_append_right _ (List.mem_append_right _ (List.mem_append_right _ (List.mem_append_right _ (List.mem_append_right _ (List.mem_append_left _ h)))))))))))
theorem mem_P13_copyQ_10 : ∀ w ∈ wsX150, w ∈ v_P13_copyQ := fun _ h => List.mem_cons_of_mem _ (List.mem_append_right _ (List.mem_append_right _ (List.mem_append_right _ (List.mem_append_right _ (List.mem_append_right _ (List.mem_append_right _ (List.mem_append_right _ (List.mem_append_right _ (List.mem_append_right _ (List.mem_append_right _ (List.mem_append_right _ (List.mem_append_left _ h))))))))))))
theorem mem_P13_copyQ_11 : ∀ w ∈ v_P13_phiQ, w ∈ v_P13_copyQ := fun _ h => List.mem_cons_of_mem _ (List.mem_append_right _ (List.mem_append_right _ (List.mem_append_right _ (List.mem_append_right _ (List.mem_append_right _ (List.mem_append_right _ (List.mem_append_right _ (List.mem_append_right _ (List.mem_append_right _ (List.mem_append_right _ (List.mem_append_right _ (List.mem_append_right _ (List.mem_append_left _ h)))))))))))))
theorem mem_P13_copyQ_12 : ∀ w ∈ v_PP_addQ, w ∈ v_P13_copyQ := fun _ h => List.mem_cons_of_mem _ (List.mem_append_right _ (List.mem_append_right _ (List.mem_append_right _ (List.mem_append_right _ (List.mem_append_right _ (List.mem_append_right _ (List.mem_append_right _ (List.mem_append_right _ (List.mem_append_right _ (List.mem_append_right _ (List.mem_append_right _ (List.mem_append_right _ (List.mem_append_right _ (List.mem_append_left _ h))))))))))))))
set_option maxRecDepth 20000 in
theorem gw_P13_copyQ : v_P13_copyQ.all goodWord = true := by decide +kernel
set_option maxRecDepth 20000 in
theorem g_P13_copyQ_P13_beginR : GoodIn v_P13_copyQ (wsV RX13 88 RX13 yX13_begin v_P13_beginR) := goodIn_app (goodIn_sub (fun w h => mow_P13_copyQ w (by revert w h; decide +kernel)) (by decide +kernel)) (goodIn_sub mem_P13_copyQ_0 gw_P13_beginR)
set_option maxRecDepth 20000 in
theorem g_P13_copyQ_PC_size : GoodIn v_P13_copyQ (wsV RX13 84 RX13 yX13_size v_PC_size) := goodIn_app (goodIn_sub (fun w h => mow_P13_copyQ w (by revert w h; decide +kernel)) (by decide +kernel)) (goodIn_sub mem_P13_copyQ_1 gw_PC_size)
set_option maxRecDepth 20000 in
theorem g_P13_copyQ_PC_get : GoodIn v_P13_copyQ (wsV RX13 85 RX13 yX13_get v_PC_get) := goodIn_app (goodIn_sub (fun w h => mow_P13_copyQ w (by revert w h; decide +kernel)) (by decide +kernel)) (goodIn_sub mem_P13_copyQ_2 gw_PC_get)
set_option maxRecDepth 20000 in
theorem g_P13_copyQ_P13_blockQ : GoodIn v_P13_copyQ (wsV RX13 90 RX13 yX13_block v_P13_blockQ) := goodIn_app (goodIn_sub (fun w h => mow_P13_copyQ w (by revert w h; decide +kernel)) (by decide +kernel)) (goodIn_sub mem_P13_copyQ_3 gw_P13_blockQ)
set_option maxRecDepth 20000 in
theorem g_P13_copyQ_PL_size : GoodIn v_P13_copyQ (wsV RX13 38 RJx4a65c yJx4a65c_size_8abf5 v_PL_size) := goodIn_app (goodIn_sub (fun w h => mow_P13_copyQ w (by revert w h; decide +kernel)) (by decide +kernel)) (goodIn_sub mem_P13_copyQ_5 gw_PL_size)
set_option maxRecDepth 20000 in
theorem g_P13_copyQ_PR_putX : GoodIn v_P13_copyQ (wsV RX13 120 RX17 yX17_put v_PR_putX) := goodIn_app (goodIn_sub (fun w h => mow_P13_copyQ w (by revert w h; decide +kernel)) (by decide +kernel)) (goodIn_sub mem_P13_copyQ_6 gw_PR_putX)
set_option maxRecDepth 20000 in
theorem g_P13_copyQ_P13_rowQ : GoodIn v_P13_copyQ (wsV RX13 116 RX13 yX13_row v_P13_rowQ) := goodIn_app (goodIn_sub (fun w h => mow_P13_copyQ w (by revert w h; decide +kernel)) (by decide +kernel)) (goodIn_sub mem_P13_copyQ_7 gw_P13_rowQ)
set_option maxRecDepth 20000 in
theorem g_P13_copyQ_PL_get : GoodIn v_P13_copyQ (wsV RX13 49 RJx4a65c yJx4a65c_get_915e3 v_PL_get) := goodIn_app (goodIn_sub (fun w h => mow_P13_copyQ w (by revert w h; decide +kernel)) (by decide +kernel)) (goodIn_sub mem_P13_copyQ_8 gw_PL_get)
set_option maxRecDepth 20000 in
theorem g_P13_copyQ_PL_addAX : GoodIn v_P13_copyQ (wsV RX13 45 RJx4a65c yJx4a65c_add_9ea2d v_PL_addAX) := goodIn_app (goodIn_sub (fun w h => mow_P13_copyQ w (by revert w h; decide +kernel)) (by decide +kernel)) (goodIn_sub mem_P13_copyQ_9 gw_PL_addAX)
set_option maxRecDepth 20000 in
theorem g_P13_copyQ_P13_phiQ : GoodIn v_P13_copyQ (wsV RX13 95 RX13 yX13_phi v_P13_phiQ) := goodIn_app (goodIn_sub (fun w h => mow_P13_copyQ w (by revert w h; decide +kernel)) (by decide +kernel)) (goodIn_sub mem_P13_copyQ_11 gw_P13_phiQ)
set_option maxRecDepth 20000 in
theorem g_P13_copyQ_PP_addQ : GoodIn v_P13_copyQ (wsV RX13 113 RX15 yX15_add v_PP_addQ) := goodIn_app (goodIn_sub (fun w h => mow_P13_copyQ w (by revert w h; decide +kernel)) (by decide +kernel)) (goodIn_sub mem_P13_copyQ_12 gw_PP_addQ)
set_option maxHeartbeats 40000000 in
set_option maxRecDepth 100000 in
theorem key134_P13_copyQ (l : Launch) (dC : Nat → ClassId) (dI : Nat → Nat → Nat) (hd : Nat) (v18_0 : Value) (v18_1 : Value) (v18_2 : Value) (v18_3 : Value) (v18_4 : Value) (v18_6 : Value) (lq : Nat) (cI : ClassId) (cZ : ClassId) (hc : Nat) (z13_rowN : Int) (z13_phiN : Int) (z13_made : Int) (la : Nat) (lb : Nat) (lr : Nat) (lp : Nat) (cO : ClassId) (L : List Nat) (P : PO) (sx_ed : Nat) (LS : List Nat) (PS : PO) (hNz13_rowN : 0 ≤ z13_rowN ∧ z13_rowN ≤ 19000) (hNz13_phiN : 0 ≤ z13_phiN ∧ z13_phiN ≤ 19000) (hNz13_made : 0 ≤ z13_made ∧ z13_made ≤ 9000) (hX_g : GLR L P cO cI cZ sx_ed) (hX_la : la ∈ L ∧ P.kd la = 30 ∧ P.ek la = 12 ∧ P.ow la = la) (hX_lb : lb ∈ L ∧ P.kd lb = 30 ∧ P.ek lb = 12 ∧ P.ow lb = lb) (hX_lr : lr ∈ L ∧ P.kd lr = 30 ∧ P.ek lr = 17 ∧ P.ow lr = lr) (hX_lp : lp ∈ L ∧ P.kd lp = 30 ∧ P.ek lp = 15 ∧ P.ow lp = lp) (hX_ab : la ≠ lb) (hX_dt : DST P lb) (hX_dr : DSL P lr) (hX_dp : DSL P lp) (hX_s : ALP LS PS cO cI cZ sx_ed lq) (hNr : P.lz lb ≤ 9000 ∧ P.lz lr ≤ 19000 ∧ P.lz lp ≤ 19000 ∧ PS.tot 2 lq ≤ 18000 ∧ PS.tot 1 lq ≤ 18000) (hX_Vc : LVA L P) (hX_m : LMT L P la lb lr lp) (hX_n : SRC9 PS lq) (HU : Heap) (sx_mi : Nat) (p : _) (e : _) (s : _) (m : _) (below : _) (meth : _) (c : _) (s₁ : _) (B : BodyLoose p l yX13_copy (headSpec v_P13_copyQ (({ frames := 8, cells := ((2000 + (8735704 - PSI wCE L P) / 40).toNat), slots := ((1990000 - PSI wSL L P).toNat), locals := 213 }))) cX13_copy 9 (none) e s m (([.ref hc, .ref hd] : List Value).toArray) below meth c s₁) (hml : c.maxLocals = 9) (A : Nat → Prop) (hA : ∀ q : Nat, s.heap.size ≤ q → A q) (hp0 : s.heap = HU) (hp1 : va_Nw (.castable "SsaForgeModel$Block" "SsaForgeModel$Block") s) (hp2 : va_Nw (.castable "SsaForgeModel$Row" "java/lang/Object") s) (hp3 : va_Nw (.castable "SsaForgeModel$Phi" "java/lang/Object") s) (hp4 : va_Nw (.castable "SsaForgeModel$Block" "java/lang/Object") s) (hp5 : va_Dc s) (hp6 : va_Mi "[Ljava/lang/Object;" sx_mi s) (hp7 : va_AO "java/lang/Object" s) (hp8 : va_T (.object "java/lang/Object") sx_ed 0 (fun _ => .null) A s s.heap) (hp9 : va_Z "java/util/ArrayList" "DEFAULTCAPACITY_EMPTY_ELEMENTDATA" "[Ljava/lang/Object;" (.ref sx_ed) A s s.heap) (hp10 : va_Nw (.methodLinkNest RX12 23 yX17_init "SsaForgeModel") s) (hp11 : va_Nw (.methodLinkNest RX13 44 yX12_init "SsaForgeModel") s) (hp12 : va_Nw (.castable "SsaForgeModel$Row" "SsaForgeModel$Row") s) (hp13 : va_Nw (.methodLinkNest RX13 57 yX17_init "SsaForgeModel") s) (hp14 : va_Nw (.castable "SsaForgeModel$Phi" "SsaForgeModel$Phi") s) (hp15 : va_Nw (.methodLinkNest RX13 79 yX15_init "SsaForgeModel") s) (Q : State → Prop) (hQ : Q = MQ below (va_Qv (fun _ : Unit => True) (fun (_ : Unit) (t : State) => ∃ (z0_9 : Int) (z1_9 : Int) (z2_9 : Int) (Ln_9 : List Nat) (Pn_9 : PO) (kc_9 : Nat) (ks_9 : Nat), ((RM HU t.heap kc_9 ks_9 ∧ ((ks_9 : Int) ≤ PSI wSL Ln_9 Pn_9 - PSI wSL L P ∧ 40 * (kc_9 : Int) ≤ PSI wCE Ln_9 Pn_9 - PSI wCE L P)) ∧ ((0 ≤ z0_9 ∧ z0_9 ≤ 19001) ∧ (0 ≤ z1_9 ∧ z1_9 ≤ 19001) ∧ (0 ≤ z2_9 ∧ z2_9 ≤ 9001) ∧ (KEG [la, lb, lr, lp] L P Ln_9 Pn_9 ∧ GLR Ln_9 Pn_9 cO cI cZ sx_ed ∧ CPI Pn_9 PS lb lr lp lq (PS.lz lq) (PS.tot 2 lq) (PS.tot 1 lq) ∧ (DST Pn_9 lb ∧ DSL Pn_9 lr ∧ DSL Pn_9 lp) ∧ (LVA Ln_9 Pn_9 ∧ LMT Ln_9 Pn_9 la lb lr lp ∧ Pn_9.lz la ≤ Pn_9.lz lb) ∧ (Pn_9.lz la = PS.lz lq ∧ ∀ b : Int, 0 ≤ b → b < Pn_9.lz la → Pn_9.el la b = Pn_9.el lb b)))) ∧ va_P (dC, dI) vwQ ([(hd, .inr (12, [v18_0, v18_1, v18_2, v18_3, v18_4, .ref lq, v18_6])), (hc, .inr (12, [.ref lb, .ref lr, .ref lp, .int (zI (z0_9)), .int (zI (z1_9)), .ref la, .int (zI (z2_9))]))] ++ (va_pl Ln_9 (pE Pn_9) ++ va_pl LS (pE PS))) t.heap ∧ va_K (dC, dI) vwQ [(cO, .object "java/lang/Object"), (cI, .int), (cZ, .boolean)] t ∧ va_D A ([(hd, .inr (12, [v18_0, v18_1, v18_2, v18_3, v18_4, .ref lq, v18_6])), (hc, .inr (12, [.ref lb, .ref lr, .ref lp, .int (zI (z0_9)), .int (zI (z1_9)), .ref la, .int (zI (z2_9))]))] ++ (va_pl Ln_9 (pE Pn_9) ++ va_pl LS (pE PS)))) A) (([.ref hc, .ref hd] : List Value).toArray) s ((2000 + (8735704 - PSI wCE L P) / 40).toNat) ((1990000 - PSI wSL L P).toNat) A) (Pn_4 : PO) (n6 : Nat) (d6_2 : Int) (e6_1_3 : Int) (e6_1_4 : Int) (e6_1_6 : Int) (L6 : List Nat) (P6 : PO) (kc6 : Nat) (ks6 : Nat) (xb_51 : Nat) (q_56 : Nat) (z0_57 : Int) (d29_5 : Int) (e29_1_4 : Int) (L29 : List Nat) (P29 : PO) (kc29 : Nat) (ks29 : Nat) (pr_115 : Nat) (hot2 : OFS 2 PS lq (PS.lz lq) = PS.tot 2 lq) (ih6 : ∀ (d6_2 : Int) (e6_1_3 : Int) (e6_1_4 : Int) (e6_1_6 : Int) (L6 : List Nat) (P6 : PO) (kc6 : Nat) (ks6 : Nat) (ls : Array Slot) (H : Heap) (locs : List Loc), (KEG [la, lb, lr, lp] L Pn_4 L6 P6) → (GLR L6 P6 cO cI cZ sx_ed) → (0 ≤ d6_2 ∧ d6_2 ≤ PS.lz lq) → (0 ≤ e6_1_3 ∧ e6_1_3 ≤ 19001) → (0 ≤ e6_1_4 ∧ e6_1_4 ≤ 19001) → (0 ≤ e6_1_6 ∧ e6_1_6 ≤ 9001) → (LVA L6 P6) → (LMT L6 P6 la lb lr lp) → (CPI P6 PS lb lr lp lq (d6_2) (OFS 2 PS lq (d6_2)) (OFS 1 PS lq (d6_2))) → (DSL P6 lr) → (DSL P6 lp) → (DST P6 lb) → (∀ b : Int, 0 ≤ b → b < P6.lz la → P6.el la b = P6.el lb b) → (e6_1_6 = d6_2 ∧ e6_1_3 = OFS 2 PS lq (d6_2) ∧ e6_1_4 = OFS 1 PS lq (d6_2) ∧ P6.lz la = d6_2 ∧ e6_1_6 ≤ P6.lz lb ∧ e6_1_3 ≤ P6.lz lr ∧ e6_1_4 ≤ P6.lz lp) → (LGM (P6.lz lb) (P.lz lb) (e6_1_6) ∧ LGM (P6.lz lr) (P.lz lr) (e6_1_3) ∧ LGM (P6.lz lp) (P.lz lp) (e6_1_4)) → ((ks6 : Int) ≤ PSI wSL L6 P6 - PSI wSL L P ∧ 40 * (kc6 : Int) ≤ PSI wCE L6 P6 - PSI wCE L P) → ((PS.lz lq - d6_2 : Int).toNat) < n6 → lv_has ls 9 [(0, .ref hc), (1, .ref hd), (2, .int (zI (d6_2)))] → va_P (dC, dI) vwQ ([(hd, .inr (12, [v18_0, v18_1, v18_2, v18_3, v18_4, .ref lq, v18_6])), (hc, .inr (12, [.ref lb, .ref lr, .ref lp, .int (zI (e6_1_3)), .int (zI (e6_1_4)), .ref la, .int (zI (e6_1_6))]))] ++ (va_pl L6 (pE P6) ++ va_pl LS (pE PS))) H → va_D A ([(hd, .inr (12, [v18_0, v18_1, v18_2, v18_3, v18_4, .ref lq, v18_6])), (hc, .inr (12, [.ref lb, .ref lr, .ref lp, .int (zI (e6_1_3)), .int (zI (e6_1_4)), .ref la, .int (zI (e6_1_6))]))] ++ (va_pl L6 (pE P6) ++ va_pl LS (pE PS))) → va_S A s.heap H locs → W p l e (headSpec v_P13_copyQ ({ frames := 8, cells := ((2000 + (8735704 - PSI wCE L P) / 40).toNat), slots := ((1990000 - PSI wSL L P).toNat), locals := 213 })).room s m ([.ref hc, .ref hd] : List Value).toArray below meth c H locs (kc6) (ks6) Q (F0 m 6 ls [])) (kP6 : (KEG [la, lb, lr, lp] L Pn_4 L6 P6)) (jd6_2 : (0 ≤ d6_2 ∧ d6_2 ≤ PS.lz lq)) (hm6 : ((PS.lz lq - d6_2 : Int).toNat) < n6 + 1) (hcx6 : OFS 1 PS lq (d6_2) ≤ OFS 1 PS lq (PS.lz lq)) (hcx7 : OFS 2 PS lq (d6_2) ≤ OFS 2 PS lq (PS.lz lq)) (hon1 : 0 ≤ OFS 1 PS lq (d6_2)) (hon2 : 0 ≤ OFS 2 PS lq (d6_2)) (yb11 : ¬ (PS.lz lq : Int) ≤ (d6_2 : Int)) (ex : xb_51 = PS.el lq (d6_2)) (hi_52 : INB PS lq xb_51) (hom1 : OFS 1 PS lq (d6_2) + PS.lz (PS.bp (PS.el lq (d6_2))) ≤ OFS 1 PS lq (PS.lz lq)) (hom2 : OFS 2 PS lq (d6_2) + PS.lz (PS.br (PS.el lq (d6_2))) ≤ OFS 2 PS lq (PS.lz lq)) (hos1 : OFS 1 PS lq (d6_2 + 1) = OFS 1 PS lq (d6_2) + PS.lz (PS.bp (PS.el lq (d6_2)))) (hos2 : OFS 2 PS lq (d6_2 + 1) = OFS 2 PS lq (d6_2) + PS.lz (PS.br (PS.el lq (d6_2)))) (hgs7 : (0 ≤ PS.bf xb_51 ∧ PS.bf xb_51 ≤ 299) ∧ (0 ≤ PS.bs xb_51 ∧ PS.bs xb_51 ≤ 299)) (hsrR : 1 ≤ d6_2 → PS.lz (PS.br (PS.el lq (d6_2))) ≤ 1800) (hsrP : PS.lz (PS.bp (PS.el lq (d6_2))) ≤ 700) (hsr6 : 60 ≤ d6_2 → PS.lz (PS.bp (PS.el lq (d6_2))) = 0) (hb1 : 0 ≤ PS.lz (PS.bp (PS.el lq (d6_2)))) (hb2 : 0 ≤ PS.lz (PS.br (PS.el lq (d6_2)))) (jd29_5 : (0 ≤ d29_5 ∧ d29_5 ≤ PS.lz (PS.bp (PS.el lq (d6_2))))) (je29_1_4 : (0 ≤ e29_1_4 ∧ e29_1_4 ≤ 19001)) (jn29 : (z0_57 = d6_2 + 1 ∧ e6_1_3 = OFS 2 PS lq (d6_2) ∧ e29_1_4 = OFS 1 PS lq (d6_2) + d29_5 ∧ P29.lz la = d6_2 + 1 ∧ z0_57 ≤ P29.lz lb ∧ e6_1_3 ≤ P29.lz lr ∧ e29_1_4 ≤ P29.lz lp)) (jy29 : (q_56 = P29.el lb (d6_2))) (hkr29 : ((ks29 : Int) ≤ PSI wSL L29 P29 - PSI wSL L P ∧ 40 * (kc29 : Int) ≤ PSI wCE L29 P29 - PSI wCE L P)) (hq_98 : HID (la ∈ L29 ∧ P29.kd la = 30)) (hq_99 : HID (lb ∈ L29 ∧ P29.kd lb = 30)) (hq_100 : HID (lr ∈ L29 ∧ P29.kd lr = 30)) (hq_101 : HID (lp ∈ L29 ∧ P29.kd lp = 30)) (hq_102 : HID (q_56 ∈ L29 ∧ P29.kd q_56 = 12)) (hA_103 : KEG [la, lb, lr, lp] L P L29 P29) (hA_104 : KEG [la, lb, lr, lp] L6 P6 L29 P29) (hek_105 : HID (P29.ek la = 12)) (how_106 : HID (P29.ow la = la)) (hek_107 : HID (P29.ek lb = 12)) (how_108 : HID (P29.ow lb = lb)) (hek_109 : HID (P29.ek lr = 17)) (how_110 : HID (P29.ow lr = lr)) (hek_111 : HID (P29.ek lp = 15)) (how_112 : HID (P29.ow lp = lp)) (hlq : PS.lz pr_115 = PS.lz (PS.bp (PS.el lq (d6_2)))) (yb38 : (PS.lz pr_115 : Int) ≤ (d29_5 : Int)) (hK : va_K (dC, dI) vwQ [(cI, .int), (cZ, .boolean), (cO, .object "java/lang/Object")] s) : ∀ n134 : Nat, ∀ (d134_5 : Int) (e134_1_3 : Int) (L134 : List Nat) (P134 : PO) (kc134 : Nat) (ks134 : Nat) (ls : Array Slot) (H : Heap) (locs : List Loc), (KEG [la, lb, lr, lp] L29 P29 L134 P134) → (GLR L134 P134 cO cI cZ sx_ed) → (0 ≤ d134_5 ∧ d134_5 ≤ PS.lz (PS.br (PS.el lq (d6_2)))) → (0 ≤ e134_1_3 ∧ e134_1_3 ≤ 19001) → (LVA L134 P134) → (LMT L134 P134 la lb lr lp) → (CPI P134 PS lb lr lp lq (d6_2) (OFS 2 PS lq (d6_2) + d134_5) (OFS 1 PS lq (d6_2) + d29_5)) → (DSL P134 lr) → (DSL P134 lp) → (DST P134 lb) → (∀ b : Int, 0 ≤ b → b < P134.lz la → P134.el la b = P134.el lb b) → (z0_57 = d6_2 + 1 ∧ e134_1_3 = OFS 2 PS lq (d6_2) + d134_5 ∧ e29_1_4 = OFS 1 PS lq (d6_2) + d29_5 ∧ P134.lz la = d6_2 + 1 ∧ z0_57 ≤ P134.lz lb ∧ e134_1_3 ≤ P134.lz lr ∧ e29_1_4 ≤ P134.lz lp) → (LGM (P134.lz lb) (P.lz lb) (z0_57) ∧ LGM (P134.lz lr) (P.lz lr) (e134_1_3) ∧ LGM (P134.lz lp) (P.lz lp) (e29_1_4)) → (CUR P134 PS lb lr lp lq (d6_2) (d29_5) (d134_5)) → (q_56 = P134.el lb (d6_2)) → ((ks134 : Int) ≤ PSI wSL L134 P134 - PSI wSL L P ∧ 40 * (kc134 : Int) ≤ PSI wCE L134 P134 - PSI wCE L P) → ((PS.lz (PS.br (PS.el lq (d6_2))) - d134_5 : Int).toNat) < n134 → lv_has ls 9 [(0, .ref hc), (1, .ref hd), (2, .int (zI (d6_2))), (3, .ref xb_51), (4, .ref q_56), (5, .int (zI (d134_5)))] → va_P (dC, dI) vwQ ([(hd, .inr (12, [v18_0, v18_1, v18_2, v18_3, v18_4, .ref lq, v18_6])), (hc, .inr (12, [.ref lb, .ref lr, .ref lp, .int (zI (e134_1_3)), .int (zI (e29_1_4)), .ref la, .int (zI (z0_57))]))] ++ (va_pl L134 (pE P134) ++ va_pl LS (pE PS))) H → va_D A ([(hd, .inr (12, [v18_0, v18_1, v18_2, v18_3, v18_4, .ref lq, v18_6])), (hc, .inr (12, [.ref lb, .ref lr, .ref lp, .int (zI (e134_1_3)), .int (zI (e29_1_4)), .ref la, .int (zI (z0_57))]))] ++ (va_pl L134 (pE P134) ++ va_pl LS (pE PS))) → va_S A s.heap H locs → W p l e (headSpec v_P13_copyQ ({ frames := 8, cells := ((2000 + (8735704 - PSI wCE L P) / 40).toNat), slots := ((1990000 - PSI wSL L P).toNat), locals := 213 })).room s m ([.ref hc, .ref hd] : List Value).toArray below meth c H locs (kc134) (ks134) Q (F0 m 134 ls []) := by
  have hx := B.exec
  have hb := B.bytes
  have hr := B.returns
  have hts := atoms_spec (ws := v_P13_copyQ) B.pre
  have hown : s.vm.findClass RX13 = some m.cls := findClass_of_methodNamed B.named
  have hlocks := B.notSynchronized
  have ow : ∀ {k : Nat} {w : Cond}, o_P13_copyQ[k]? = some w → w.before ([.ref hc, .ref hd] : List Value).toArray s = true := fun h => hts _ (mow_P13_copyQ _ (List.mem_of_getElem? h))
  have hX_g9 := hX_g
  have hC_la := hX_la
  have hC_lb := hX_lb
  have hC_lr := hX_lr
  have hC_lp := hX_lp
  have hln_la := (hX_g.lk (show CLF L P la 12 from hC_la)).2.2.1
  have hln_lb := (hX_g.lk (show CLF L P lb 12 from hC_lb)).2.2.1
  have hln_lr := (hX_g.lk (show CLF L P lr 17 from hC_lr)).2.2.1
  have hln_lp := (hX_g.lk (show CLF L P lp 15 from hC_lp)).2.2.1
  have hLn1 : LNN 1 PS lq := (fun c c0 c1 => (hX_s.inb ⟨c, c0, c1, rfl⟩).2.2.1.2.2.1.1)
  have hLn2 : LNN 2 PS lq := (fun c c0 c1 => (hX_s.inb ⟨c, c0, c1, rfl⟩).2.1.2.2.1.1)
  have hls9 := hX_s.lok.2.2.1
  have hls8 := hX_s.1.1.2.1
  have hof1 : OFS 1 PS lq 0 = 0 := rfl
  have hof2 : OFS 2 PS lq 0 = 0 := rfl
  have hsr1 : PS.lz lq ≤ 180 ∧ PS.tot 2 lq ≤ 4164 ∧ PS.tot 1 lq ≤ 1936 := hX_n.1
  have hlm0 := hX_m.2.2.2.1
  have hot1 : OFS 1 PS lq (PS.lz lq) = PS.tot 1 lq := rfl
  have hx_54_v59 := ex
  have hx_54 := hx_54_v59
  have hB_53_v60 := hX_s.inb hi_52
  have hB_53 := hB_53_v60
  intro n134
  induction n134 with
  | zero => intro d134_5 e134_1_3 L134 P134 kc134 ks134 ls H locs kP134 aP134 jd134_5 je134_1_3 jv134 jm134 jc134 jr134 jp134 js134 ja134 jn134 jl134 ju134 jy134 hkr134 hm134; exact absurd hm134 (by omega)
  | succ n134 ih134 =>
    intro d134_5 e134_1_3 L134 P134 kc134 ks134 ls H locs kP134 aP134 jd134_5 je134_1_3 jv134 jm134 jc134 jr134 jp134 js134 ja134 jn134 jl134 ju134 jy134 hkr134 hm134 hl hP hD hS
    have hq_119 : HID (la ∈ L134 ∧ P134.kd la = 30) := kP134.mem hq_98.1 hq_98.2 (by decide)
    have hq_120 : HID (lb ∈ L134 ∧ P134.kd lb = 30) := kP134.mem hq_99.1 hq_99.2 (by decide)
    have hq_121 : HID (lr ∈ L134 ∧ P134.kd lr = 30) := kP134.mem hq_100.1 hq_100.2 (by decide)
    have hq_122 : HID (lp ∈ L134 ∧ P134.kd lp = 30) := kP134.mem hq_101.1 hq_101.2 (by decide)
    have hq_123 : HID (q_56 ∈ L134 ∧ P134.kd q_56 = 12) := kP134.mem hq_102.1 hq_102.2 (by decide)
    have hA_124 : KEG [la, lb, lr, lp] L P L134 P134 := hA_103.trans kP134
    have hA_125 : KEG [la, lb, lr, lp] L6 P6 L134 P134 := hA_104.trans kP134
    have hA_126 : KEG [la, lb, lr, lp] L29 P29 L134 P134 := (KEG.refl [la, lb, lr, lp] L29 P29).trans kP134
    have hek_127 : HID (P134.ek la = 12) := (by rw [kP134.ek hq_98.1 hq_98.2 (by decide)]; exact hek_105.out)
    have how_128 : HID (P134.ow la = la) := ((kP134.1 la hq_98.1 (by rw [hq_98.2]; decide)).2.2.2.1 hq_98.2 how_106.out).1
    have hek_129 : HID (P134.ek lb = 12) := (by rw [kP134.ek hq_99.1 hq_99.2 (by decide)]; exact hek_107.out)
    have how_130 : HID (P134.ow lb = lb) := ((kP134.1 lb hq_99.1 (by rw [hq_99.2]; decide)).2.2.2.1 hq_99.2 how_108.out).1
    have hek_131 : HID (P134.ek lr = 17) := (by rw [kP134.ek hq_100.1 hq_100.2 (by decide)]; exact hek_109.out)
    have how_132 : HID (P134.ow lr = lr) := ((kP134.1 lr hq_100.1 (by rw [hq_100.2]; decide)).2.2.2.1 hq_100.2 how_110.out).1
    have hek_133 : HID (P134.ek lp = 15) := (by rw [kP134.ek hq_101.1 hq_101.2 (by decide)]; exact hek_111.out)
    have how_134 : HID (P134.ow lp = lp) := ((kP134.1 lp hq_101.1 (by rw [hq_101.2]; decide)).2.2.2.1 hq_101.2 how_112.out).1
    have hj134 := kP134
    have hm1 := jl134.1.max (m := 9000) (by omega) (by omega)
    have hm2 := jl134.2.1.max (m := 19000) (by omega) (by omega)
    have hm3 := jl134.2.2.max (m := 19000) (by omega) (by omega)
    have hnd_135 : L134.Nodup := (by first | exact pl_nd hD | exact pl_nd (pl_leftD (pk_ascD hD)))
    have hlm9 := jm134.2.2.2.1
    have hnz_lb := (aP134.lk (show CLF L134 P134 lb 12 from ⟨hq_120.1, hq_120.2, hek_129.out, how_130.out⟩)).2.2.1
    have hnz_lr := (aP134.lk (show CLF L134 P134 lr 17 from ⟨hq_121.1, hq_121.2, hek_131.out, how_132.out⟩)).2.2.1
    have hnz_lp := (aP134.lk (show CLF L134 P134 lp 15 from ⟨hq_122.1, hq_122.2, hek_133.out, how_134.out⟩)).2.2.1
    have htp9 := jm134.topS hnd_135 hnz_lb.1 hnz_lr.1 hnz_lp.1
    have htq9 := jm134.topC hnd_135 hnz_lb.1 hnz_lr.1 hnz_lp.1
    skip
    refine lv_iload hx hb dX13_copy_134 (lv_at hl 5 rfl) ?_
    refine lv_aload_n hx hb dX13_copy_136 rfl (lv_at hl 3 rfl) ?_
    replace hP := pk_sw hP
    replace hD := pk_swD hD
    obtain ⟨kp_136, hkp_136⟩ := pk_getA (T := va_pl L134 (pE P134)) (X := [(hd, .inr (12, [v18_0, v18_1, v18_2, v18_3, v18_4, .ref lq, v18_6])), (hc, .inr (12, [.ref lb, .ref lr, .ref lp, .int (zI (e134_1_3)), .int (zI (e29_1_4)), .ref la, .int (zI (z0_57))]))]) (f := pE PS) hB_53.1.1
    rw [pE_block hB_53.1.2] at hkp_136
    refine va_get (D := (dC, dI)) (ci := 19) (v := .ref (PS.br xb_51)) (C := RX12) (T := TX12) (N := 5) hx hb hts mem_P13_copyQ_4 hown hK hP kp_136 hkp_136 rfl 1 (by decide) (ow (k := 18) rfl) (fun _ h9 => h9) rfl dX13_copy_137 ?_
    obtain ⟨pr_137, epr_137⟩ : ∃ q9 : Nat, q9 = PS.br xb_51 := ⟨_, rfl⟩
    rw [← epr_137]
    have hlk_138 : LOK LS PS cO 17 pr_137 := (by rw [epr_137]; exact (hX_s.inb hi_52).2.1)
    have hlz9 := hlk_138.2.2.1
    replace hP := pk_sw hP
    replace hD := pk_swD hD
    have hlq : PS.lz pr_137 = PS.lz (PS.br (PS.el lq (d6_2))) := (by rw [← hx_54, epr_137.symm])
    replace hP := pk_sw hP
    replace hD := pk_swD hD
    have hPT := pk_asc hP
    have hDT := pk_ascD hD
    replace hP := pl_left hPT
    replace hD := pl_leftD hDT
    have hlk_139 := (show LOK LS PS cO 17 pr_137 from (by rw [← epr_137.symm]; exact (hX_s.inb hi_52).2.1))
    have hX_x := hlk_139.1
    have hX_k := hlk_139.2.1
    have hlz9 := hlk_139.2.2.1
    have hPc := hP.part (X := [(hd, .inr (12, [v18_0, v18_1, v18_2, v18_3, v18_4, .ref lq, v18_6])), (hc, .inr (12, [.ref lb, .ref lr, .ref lp, .int (zI (e134_1_3)), .int (zI (e29_1_4)), .ref la, .int (zI (z0_57))]))]) (cx := []) (pl := va_pl LS (pE PS)) [] rfl
    have hDc := hD.part (X := [(hd, .inr (12, [v18_0, v18_1, v18_2, v18_3, v18_4, .ref lq, v18_6])), (hc, .inr (12, [.ref lb, .ref lr, .ref lp, .int (zI (e134_1_3)), .int (zI (e29_1_4)), .ref la, .int (zI (z0_57))]))]) (cx := []) (pl := va_pl LS (pE PS)) [] (by decide) rfl
    have hKc := hK.sub (tys' := [(cO, .object "java/lang/Object")]) [2] rfl
    have hFc := va_freeP (X := [(hd, .inr (12, [v18_0, v18_1, v18_2, v18_3, v18_4, .ref lq, v18_6])), (hc, .inr (12, [.ref lb, .ref lr, .ref lp, .int (zI (e134_1_3)), .int (zI (e29_1_4)), .ref la, .int (zI (z0_57))]))]) (cx := []) (pl := va_pl LS (pE PS)) hD hS hA [] rfl
    refine va_calli (va_runV (As := []) (rest := [.int (zI (d134_5))]) ⟨hx, hb, hml, hown, hts⟩ (c_PL_size l dC dI cO LS PS pr_137 hX_x hX_k (by omega) H.size) (cwV 0 hts g_P13_copyQ_PL_size rfl rfl rfl (by decide +kernel) ⟨(Nat.le_of_ble_eq_true rfl), (Nat.le_of_ble_eq_true rfl)⟩) ⟨fun a U g mk q => by obtain ⟨q0, q1, qP, qK, qD⟩ := q; exact ⟨q0, q1, qP, va_K.moved (u := U) (U := U.calling g mk a) (Vm.Alike.refl U.vm) qK, qD⟩, recv_30 hKc hPc hlk_138.1 hlk_138.2.1, fun U hU hW => ⟨rfl, by rw [hU], by rw [hU]; exact hPc, va_K.moved hW.alike hKc, hDc.weaken (fun _ _ _ _ => trivial)⟩⟩ rfl rfl hl.1 rfl (lv_room (Nat.le_of_ble_eq_true rfl)) dX13_copy_140 ⟨(show (kc134) + 0 ≤ (2000 + (8735704 - PSI wCE L P) / 40).toNat from (by omega)), (show (ks134) + 0 ≤ (1990000 - PSI wSL L P).toNat from (by omega))⟩) hS (fun q _ h => hFc q h) hFc (fun r_140 u t H1 locs ht hvm hw hB hz1 hk1 hS => ?_)
    obtain ⟨hP1, hK1, hD1⟩ := hB
    rw [ht] at hP1
    have hK1 := va_K.moved hvm.symm hK1
    obtain ⟨hP, hD⟩ := va_joinPT (X := [(hd, .inr (12, [v18_0, v18_1, v18_2, v18_3, v18_4, .ref lq, v18_6])), (hc, .inr (12, [.ref lb, .ref lr, .ref lp, .int (zI (e134_1_3)), .int (zI (e29_1_4)), .ref la, .int (zI (z0_57))]))]) (cx := []) (wr := [(hd, .inr (12, [v18_0, v18_1, v18_2, v18_3, v18_4, .ref lq, v18_6])), (hc, .inr (12, [.ref lb, .ref lr, .ref lp, .int (zI (e134_1_3)), .int (zI (e29_1_4)), .ref la, .int (zI (z0_57))]))]) (rx := []) (pl := va_pl LS (pE PS)) (pl1 := va_pl LS (pE PS)) (T := va_pl L134 (pE P134)) hPT hDT [] [0, 1] rfl rfl (by decide) (by decide) hk1 hFc hP1 hD1
    replace hP := pk_back hP
    replace hD := pk_backD hD
    replace hK := (hK.sub (tys' := [(cI, .int), (cZ, .boolean)]) [0, 1] rfl).app hK1
    generalize H1 = H at hP hS ⊢
    clear hPc hDc hKc hFc hk1 hz1 hPT hDT
    replace hP : va_P (dC, dI) vwQ ([(hd, .inr (12, [v18_0, v18_1, v18_2, v18_3, v18_4, .ref lq, v18_6])), (hc, .inr (12, [.ref lb, .ref lr, .ref lp, .int (zI (e134_1_3)), .int (zI (e29_1_4)), .ref la, .int (zI (z0_57))]))] ++ (va_pl LS (pE PS) ++ va_pl L134 (pE P134))) H := hP
    replace hD : va_D A ([(hd, .inr (12, [v18_0, v18_1, v18_2, v18_3, v18_4, .ref lq, v18_6])), (hc, .inr (12, [.ref lb, .ref lr, .ref lp, .int (zI (e134_1_3)), .int (zI (e29_1_4)), .ref la, .int (zI (z0_57))]))] ++ (va_pl LS (pE PS) ++ va_pl L134 (pE P134))) := hD
    replace hK : va_K (dC, dI) vwQ [(cI, .int), (cZ, .boolean), (cO, .object "java/lang/Object")] s := hK
    refine W.widen (k := (kc134)) (n := (ks134)) (by omega) (by omega) ?_
    obtain rfl : r_140 = (zI (PS.lz pr_137)) := hw
    replace hP := pk_sw hP
    replace hD := pk_swD hD
    refine lv_icmp_ge (tgt := 186) hx hb dX13_copy_143 (by decide) (fun b143 => ?_) (fun b143 => ?_)
    · have yb143 : (PS.lz pr_137 : Int) ≤ (d134_5 : Int) := (zI_le (a := PS.lz pr_137) (b := d134_5) (by omega) (by omega) (by omega) (by omega)).mp b143
      refine lv_aload hx hb dX13_copy_186 (lv_at hl 4 rfl) ?_
      have hfb := (aP134.gb hq_123.1 hq_123.2).2
      obtain ⟨kp_141, hkp_141⟩ := pk_getA (T := va_pl LS (pE PS)) (X := [(hd, .inr (12, [v18_0, v18_1, v18_2, v18_3, v18_4, .ref lq, v18_6])), (hc, .inr (12, [.ref lb, .ref lr, .ref lp, .int (zI (e134_1_3)), .int (zI (e29_1_4)), .ref la, .int (zI (z0_57))]))]) (f := pE P134) hq_123.1
      rw [pE_block hq_123.2] at hkp_141
      refine va_get (D := (dC, dI)) (ci := 19) (v := .ref (P134.be q_56)) (C := RX12) (T := TX12) (N := 5) hx hb hts mem_P13_copyQ_4 hown hK hP kp_141 hkp_141 rfl 2 (by decide) (ow (k := 19) rfl) (fun _ h9 => h9) rfl dX13_copy_188 ?_
      obtain ⟨pr_142, epr_142⟩ : ∃ q9 : Nat, q9 = P134.be q_56 := ⟨_, rfl⟩
      rw [← epr_142]
      have hbe_143 : pr_142 ∈ L134 ∧ P134.kd pr_142 = 17 ∧ P134.ek pr_142 = 1 := (by rw [epr_142]; exact (aP134.gb hq_123.1 hq_123.2).1)
      have hE_144 : HID (P134.ek pr_142 = 1) := hbe_143.2.2
      skip
      refine lv_aload_n hx hb dX13_copy_191 rfl (lv_at hl 3 rfl) ?_
      replace hP := pk_sw hP
      replace hD := pk_swD hD
      obtain ⟨kp_145, hkp_145⟩ := pk_getA (T := va_pl L134 (pE P134)) (X := [(hd, .inr (12, [v18_0, v18_1, v18_2, v18_3, v18_4, .ref lq, v18_6])), (hc, .inr (12, [.ref lb, .ref lr, .ref lp, .int (zI (e134_1_3)), .int (zI (e29_1_4)), .ref la, .int (zI (z0_57))]))]) (f := pE PS) hB_53.1.1
      rw [pE_block hB_53.1.2] at hkp_145
      refine va_get (D := (dC, dI)) (ci := 19) (v := .ref (PS.be xb_51)) (C := RX12) (T := TX12) (N := 5) hx hb hts mem_P13_copyQ_4 hown hK hP kp_145 hkp_145 rfl 2 (by decide) (ow (k := 19) rfl) (fun _ h9 => h9) rfl dX13_copy_192 ?_
      obtain ⟨pr_146, epr_146⟩ : ∃ q9 : Nat, q9 = PS.be xb_51 := ⟨_, rfl⟩
      rw [← epr_146]
      have hbe_147 : pr_146 ∈ LS ∧ PS.kd pr_146 = 17 := (by rw [epr_146]; exact (hX_s.inb hi_52).2.2.2.1)
      replace hP := pk_sw hP
      replace hD := pk_swD hD
      have hrk9 := hX_s.rk9 hbe_147.1 hbe_147.2
      have ⟨hs1, hs2, hs3, hs4, hs5, hs6, hs7, hs8, hs9⟩ := hrk9
      have hPT := pl_Pp (pk_out (X := [(hd, .inr (12, [v18_0, v18_1, v18_2, v18_3, v18_4, .ref lq, v18_6])), (hc, .inr (12, [.ref lb, .ref lr, .ref lp, .int (zI (e134_1_3)), .int (zI (e29_1_4)), .ref la, .int (zI (z0_57))]))]) (a := va_pl L134 (pE P134)) (f := pE PS) hbe_147.1) hP
      have hDT := pl_Dp (pk_out (X := [(hd, .inr (12, [v18_0, v18_1, v18_2, v18_3, v18_4, .ref lq, v18_6])), (hc, .inr (12, [.ref lb, .ref lr, .ref lp, .int (zI (e134_1_3)), .int (zI (e29_1_4)), .ref la, .int (zI (z0_57))]))]) (a := va_pl L134 (pE P134)) (f := pE PS) hbe_147.1) hD
      rw [pE_row hbe_147.2] at hPT hDT
      replace hP := pl_left hPT
      replace hD := pl_leftD hDT
      replace hP : va_P (dC, dI) vwQ ([(hd, .inr (12, [v18_0, v18_1, v18_2, v18_3, v18_4, .ref lq, v18_6])), (hc, .inr (12, [.ref lb, .ref lr, .ref lp, .int (zI (e134_1_3)), .int (zI (e29_1_4)), .ref la, .int (zI (z0_57))])), (pr_146, .inr (21, [.int (zI (PS.ro pr_146)), .int (zI (PS.rt pr_146)), .int (zI (PS.ra pr_146)), .int (zI (PS.rb pr_146)), .int (zI (PS.rA pr_146)), .int (zI (PS.rB pr_146)), .int (zI (PS.rg pr_146))]))] ++ va_pl L134 (pE P134)) H := hP
      replace hD : va_D A ([(hd, .inr (12, [v18_0, v18_1, v18_2, v18_3, v18_4, .ref lq, v18_6])), (hc, .inr (12, [.ref lb, .ref lr, .ref lp, .int (zI (e134_1_3)), .int (zI (e29_1_4)), .ref la, .int (zI (z0_57))])), (pr_146, .inr (21, [.int (zI (PS.ro pr_146)), .int (zI (PS.rt pr_146)), .int (zI (PS.ra pr_146)), .int (zI (PS.rb pr_146)), .int (zI (PS.rA pr_146)), .int (zI (PS.rB pr_146)), .int (zI (PS.rg pr_146))]))] ++ va_pl L134 (pE P134)) := hD
      have hX_x := hbe_143.1
      have hX_k := hbe_143.2.1
      have hPc := hP.part (X := [(hd, .inr (12, [v18_0, v18_1, v18_2, v18_3, v18_4, .ref lq, v18_6])), (hc, .inr (12, [.ref lb, .ref lr, .ref lp, .int (zI (e134_1_3)), .int (zI (e29_1_4)), .ref la, .int (zI (z0_57))])), (pr_146, .inr (21, [.int (zI (PS.ro pr_146)), .int (zI (PS.rt pr_146)), .int (zI (PS.ra pr_146)), .int (zI (PS.rb pr_146)), .int (zI (PS.rA pr_146)), .int (zI (PS.rB pr_146)), .int (zI (PS.rg pr_146))]))]) (cx := [(pr_146, .inr (21, [.int (zI (PS.ro pr_146)), .int (zI (PS.rt pr_146)), .int (zI (PS.ra pr_146)), .int (zI (PS.rb pr_146)), .int (zI (PS.rA pr_146)), .int (zI (PS.rB pr_146)), .int (zI (PS.rg pr_146))]))]) (pl := va_pl L134 (pE P134)) [2] rfl
      have hDc := hD.part (X := [(hd, .inr (12, [v18_0, v18_1, v18_2, v18_3, v18_4, .ref lq, v18_6])), (hc, .inr (12, [.ref lb, .ref lr, .ref lp, .int (zI (e134_1_3)), .int (zI (e29_1_4)), .ref la, .int (zI (z0_57))])), (pr_146, .inr (21, [.int (zI (PS.ro pr_146)), .int (zI (PS.rt pr_146)), .int (zI (PS.ra pr_146)), .int (zI (PS.rb pr_146)), .int (zI (PS.rA pr_146)), .int (zI (PS.rB pr_146)), .int (zI (PS.rg pr_146))]))]) (cx := [(pr_146, .inr (21, [.int (zI (PS.ro pr_146)), .int (zI (PS.rt pr_146)), .int (zI (PS.ra pr_146)), .int (zI (PS.rb pr_146)), .int (zI (PS.rA pr_146)), .int (zI (PS.rB pr_146)), .int (zI (PS.rg pr_146))]))]) (pl := va_pl L134 (pE P134)) [2] (by decide) rfl
      have hKc := hK.sub (tys' := [(cO, .object "java/lang/Object")]) [2] rfl
      have hFc := va_freeP (X := [(hd, .inr (12, [v18_0, v18_1, v18_2, v18_3, v18_4, .ref lq, v18_6])), (hc, .inr (12, [.ref lb, .ref lr, .ref lp, .int (zI (e134_1_3)), .int (zI (e29_1_4)), .ref la, .int (zI (z0_57))])), (pr_146, .inr (21, [.int (zI (PS.ro pr_146)), .int (zI (PS.rt pr_146)), .int (zI (PS.ra pr_146)), .int (zI (PS.rb pr_146)), .int (zI (PS.rA pr_146)), .int (zI (PS.rB pr_146)), .int (zI (PS.rg pr_146))]))]) (cx := [(pr_146, .inr (21, [.int (zI (PS.ro pr_146)), .int (zI (PS.rt pr_146)), .int (zI (PS.ra pr_146)), .int (zI (PS.rb pr_146)), .int (zI (PS.rA pr_146)), .int (zI (PS.rB pr_146)), .int (zI (PS.rg pr_146))]))]) (pl := va_pl L134 (pE P134)) hD hS hA [2] rfl
      refine va_callv (va_runV (As := [.ref pr_146]) (rest := []) ⟨hx, hb, hml, hown, hts⟩ (c_PR_putX l dC dI pr_146 (PS.ro pr_146) (PS.rt pr_146) (PS.ra pr_146) (PS.rb pr_146) (PS.rA pr_146) (PS.rB pr_146) (.int (zI (PS.rg pr_146))) cO L134 P134 pr_142 (by omega) (by omega) (by omega) (by omega) (by omega) (by omega) hX_x hX_k H.size) (cwV 1 hts g_P13_copyQ_PR_putX rfl rfl rfl (by decide +kernel) ⟨(Nat.le_of_ble_eq_true rfl), (Nat.le_of_ble_eq_true rfl)⟩) ⟨fun a U g mk q => by obtain ⟨q0, q1, qP, qK, qD⟩ := q; exact ⟨q0, q1, qP, va_K.moved (u := U) (U := U.calling g mk a) (Vm.Alike.refl U.vm) qK, qD⟩, recv_17 hKc hPc hbe_143.1 hbe_143.2.1, fun U hU hW => ⟨rfl, by rw [hU], by rw [hU]; exact hPc, va_K.moved hW.alike hKc, hDc.weaken (fun _ _ _ _ => trivial)⟩⟩ rfl rfl hl.1 rfl (lv_room (Nat.le_of_ble_eq_true rfl)) dX13_copy_195 ⟨(show (kc134) + 0 ≤ (2000 + (8735704 - PSI wCE L P) / 40).toNat from (by omega)), (show (ks134) + 0 ≤ (1990000 - PSI wSL L P).toNat from (by omega))⟩) hS (fun q _ h => hFc q h) hFc (fun  u t H1 locs ht hvm hw hB hz1 hk1 hS => ?_)
      obtain ⟨Pn_148, hxt_148, hP1, hK1, hD1⟩ := hB
      rw [ht] at hP1
      have hK1 := va_K.moved hvm.symm hK1
      obtain ⟨hP, hD⟩ := va_joinPT (X := [(hd, .inr (12, [v18_0, v18_1, v18_2, v18_3, v18_4, .ref lq, v18_6])), (hc, .inr (12, [.ref lb, .ref lr, .ref lp, .int (zI (e134_1_3)), .int (zI (e29_1_4)), .ref la, .int (zI (z0_57))])), (pr_146, .inr (21, [.int (zI (PS.ro pr_146)), .int (zI (PS.rt pr_146)), .int (zI (PS.ra pr_146)), .int (zI (PS.rb pr_146)), .int (zI (PS.rA pr_146)), .int (zI (PS.rB pr_146)), .int (zI (PS.rg pr_146))]))]) (cx := [(pr_146, .inr (21, [.int (zI (PS.ro pr_146)), .int (zI (PS.rt pr_146)), .int (zI (PS.ra pr_146)), .int (zI (PS.rb pr_146)), .int (zI (PS.rA pr_146)), .int (zI (PS.rB pr_146)), .int (zI (PS.rg pr_146))]))]) (wr := [(hd, .inr (12, [v18_0, v18_1, v18_2, v18_3, v18_4, .ref lq, v18_6])), (hc, .inr (12, [.ref lb, .ref lr, .ref lp, .int (zI (e134_1_3)), .int (zI (e29_1_4)), .ref la, .int (zI (z0_57))]))]) (rx := [(pr_146, .inr (21, [.int (zI (PS.ro pr_146)), .int (zI (PS.rt pr_146)), .int (zI (PS.ra pr_146)), .int (zI (PS.rb pr_146)), .int (zI (PS.rA pr_146)), .int (zI (PS.rB pr_146)), .int (zI (PS.rg pr_146))]))]) (pl := va_pl L134 (pE P134)) (pl1 := va_pl L134 (pE Pn_148)) (T := va_pl (LS.erase pr_146) (pE PS)) hPT hDT [2] [0, 1] rfl rfl (by decide) (by decide) hk1 hFc hP1 hD1
      replace hP := pl_Pp (pk_out (X := [(hd, .inr (12, [v18_0, v18_1, v18_2, v18_3, v18_4, .ref lq, v18_6])), (hc, .inr (12, [.ref lb, .ref lr, .ref lp, .int (zI (e134_1_3)), .int (zI (e29_1_4)), .ref la, .int (zI (z0_57))]))]) (a := va_pl L134 (pE Pn_148)) (f := pE PS) hbe_147.1).symm (by rw [pE_row hbe_147.2]; exact hP)
      replace hD := pl_Dp (pk_out (X := [(hd, .inr (12, [v18_0, v18_1, v18_2, v18_3, v18_4, .ref lq, v18_6])), (hc, .inr (12, [.ref lb, .ref lr, .ref lp, .int (zI (e134_1_3)), .int (zI (e29_1_4)), .ref la, .int (zI (z0_57))]))]) (a := va_pl L134 (pE Pn_148)) (f := pE PS) hbe_147.1).symm (by rw [pE_row hbe_147.2]; exact hD)
      replace hK := (hK.sub (tys' := [(cI, .int), (cZ, .boolean)]) [0, 1] rfl).app hK1
      generalize H1 = H at hP hS ⊢
      clear hPc hDc hKc hFc hk1 hz1 hPT hDT
      replace hP : va_P (dC, dI) vwQ ([(hd, .inr (12, [v18_0, v18_1, v18_2, v18_3, v18_4, .ref lq, v18_6])), (hc, .inr (12, [.ref lb, .ref lr, .ref lp, .int (zI (e134_1_3)), .int (zI (e29_1_4)), .ref la, .int (zI (z0_57))]))] ++ (va_pl L134 (pE Pn_148) ++ va_pl LS (pE PS))) H := hP
      replace hD : va_D A ([(hd, .inr (12, [v18_0, v18_1, v18_2, v18_3, v18_4, .ref lq, v18_6])), (hc, .inr (12, [.ref lb, .ref lr, .ref lp, .int (zI (e134_1_3)), .int (zI (e29_1_4)), .ref la, .int (zI (z0_57))]))] ++ (va_pl L134 (pE Pn_148) ++ va_pl LS (pE PS))) := hD
      replace hK : va_K (dC, dI) vwQ [(cI, .int), (cZ, .boolean), (cO, .object "java/lang/Object")] s := hK
      refine W.widen (k := (kc134)) (n := (ks134)) (by omega) (by omega) ?_
      have hu_149 := HID.mk (hxt_148)
      replace hxt_148 := HID.mk hxt_148
      have hk0_150 := RW1.kegR (E := []) (la := la) hu_149.1 L134 hq_119.2 (by rw [hbe_143.2.1]; decide)
      have hwk_151 := RW1.kegR (E := [la, lb, lr, lp]) (la := la) hu_149.1 L134 hq_119.2 (by rw [hbe_143.2.1]; decide)
      have hcw_152 : CRW Pn_148 pr_142 PS pr_146 := ⟨hu_149.2.1, hu_149.2.2.1, hu_149.2.2.2.1, hu_149.2.2.2.2.1, hu_149.2.2.2.2.2.1, hu_149.2.2.2.2.2.2.1⟩
      have hkl_154 := hk0_150.lst (show CLF L134 P134 la 12 from ⟨hq_119.1, hq_119.2, hek_127.out, how_128.out⟩) (by simp)
      have hkl_155 := hk0_150.lst (show CLF L134 P134 lb 12 from ⟨hq_120.1, hq_120.2, hek_129.out, how_130.out⟩) (by simp)
      have hkl_156 := hk0_150.lst (show CLF L134 P134 lr 17 from ⟨hq_121.1, hq_121.2, hek_131.out, how_132.out⟩) (by simp)
      have hkl_157 := hk0_150.lst (show CLF L134 P134 lp 15 from ⟨hq_122.1, hq_122.2, hek_133.out, how_134.out⟩) (by simp)
      have hak_153 : GLR L134 Pn_148 cO cI cZ sx_ed := aP134.row hu_149.1 hbe_143.2.1 ((hX_s.rok hbe_147.1 hbe_147.2).cpR hcw_152 hu_149.2.2.2.2.2.2.2) (fun e9 => absurd hbe_143.2.2 e9)
      have hns_158 := hns_oneR (i := d6_2) (n := OFS 2 PS lq (d6_2) + d134_5) (p := OFS 1 PS lq (d6_2) + d29_5) (x := pr_142) aP134 (aP134.lk (show CLF L134 P134 lb 12 from ⟨hq_120.1, hq_120.2, hek_129.out, how_130.out⟩)) (aP134.lk (show CLF L134 P134 lr 17 from ⟨hq_121.1, hq_121.2, hek_131.out, how_132.out⟩)) hek_131.out (aP134.lk (show CLF L134 P134 lp 15 from ⟨hq_122.1, hq_122.2, hek_133.out, how_134.out⟩)) (by omega) (by omega) (by omega) (Or.inr (Or.inl ⟨hbe_143.2.1, hbe_143.2.2, fun b9 b0 b1 e9 => (js134 b9 (d6_2) b0 (by omega) (by omega)).2 (by rw [← jy134, epr_142.symm]; exact e9.symm)⟩))
      have hci_159 : CPI Pn_148 PS lb lr lp lq (d6_2) (OFS 2 PS lq (d6_2) + d134_5) (OFS 1 PS lq (d6_2) + d29_5) := jc134.frR aP134 (hu_149.1.chg _).c8 (aP134.lk (show CLF L134 P134 lb 12 from ⟨hq_120.1, hq_120.2, hek_129.out, how_130.out⟩)) (aP134.lk (show CLF L134 P134 lr 17 from ⟨hq_121.1, hq_121.2, hek_131.out, how_132.out⟩)) (aP134.lk (show CLF L134 P134 lp 15 from ⟨hq_122.1, hq_122.2, hek_133.out, how_134.out⟩)) (by omega) (by omega) (by omega) hLn1 hLn2 (by omega) (fun k9 k0 k1 => hkl_155.2 k9 k0 (by omega)) (fun k9 k0 k1 => hkl_156.2 k9 k0 (by omega)) (fun k9 k0 k1 => hkl_157.2 k9 k0 (by omega)) hns_158
      have hcu_160 : CUR Pn_148 PS lb lr lp lq (d6_2) (d29_5) (d134_5) := ju134.rw1R hu_149.1 aP134 (show CLF L134 P134 lb 12 from ⟨hq_120.1, hq_120.2, hek_129.out, how_130.out⟩) (by omega) (by omega) (by rw [hbe_143.2.1]; decide)
      have hyb_161 : q_56 = Pn_148.el lb (d6_2) := jy134.trans (hkl_155.2 (d6_2) (by omega) (by omega)).symm
      have hds_162 := js134.kegR aP134 ⟨hq_120.1, hq_120.2, hek_129.out, how_130.out⟩ hk0_150 (by simp)
      have hdl_163 := jr134.same hkl_156.1 hkl_156.2
      have hdl_164 := jp134.same hkl_157.1 hkl_157.2
      have hal_165 : ∀ b : Int, 0 ≤ b → b < Pn_148.lz la → Pn_148.el la b = Pn_148.el lb b := (fun b b0 b1 => by rw [hkl_154.1] at b1; rw [hkl_154.2 b b0 b1, hkl_155.2 b b0 (by omega)]; exact ja134 b b0 b1)
      have hq_166 : HID (la ∈ L134 ∧ Pn_148.kd la = 30) := hwk_151.mem hq_119.1 hq_119.2 (by decide)
      have hq_167 : HID (lb ∈ L134 ∧ Pn_148.kd lb = 30) := hwk_151.mem hq_120.1 hq_120.2 (by decide)
      have hq_168 : HID (lr ∈ L134 ∧ Pn_148.kd lr = 30) := hwk_151.mem hq_121.1 hq_121.2 (by decide)
      have hq_169 : HID (lp ∈ L134 ∧ Pn_148.kd lp = 30) := hwk_151.mem hq_122.1 hq_122.2 (by decide)
      have hq_170 : HID (q_56 ∈ L134 ∧ Pn_148.kd q_56 = 12) := hwk_151.mem hq_123.1 hq_123.2 (by decide)
      have hq_171 : HID (pr_142 ∈ L134 ∧ Pn_148.kd pr_142 = 17) := hwk_151.mem hbe_143.1 hbe_143.2.1 (by decide)
      have ha_172 : HID (Pn_148.be q_56 = pr_142) := hwk_151.be hq_123.1 hq_123.2 epr_142.symm
      have hA_173 : KEG [la, lb, lr, lp] L P L134 Pn_148 := hA_124.trans hwk_151
      have hA_174 : KEG [la, lb, lr, lp] L6 P6 L134 Pn_148 := hA_125.trans hwk_151
      have hA_175 : KEG [la, lb, lr, lp] L29 P29 L134 Pn_148 := hA_126.trans hwk_151
      have hA_176 : KEG [la, lb, lr, lp] L134 P134 L134 Pn_148 := (KEG.refl [la, lb, lr, lp] L134 P134).trans hwk_151
      have : Pn_148.lz la = P134.lz la := hkl_154.1
      have : Pn_148.lz lb = P134.lz lb := hkl_155.1
      have : Pn_148.lz lr = P134.lz lr := hkl_156.1
      have : Pn_148.lz lp = P134.lz lp := hkl_157.1
      have hek_177 : HID (Pn_148.ek la = 12) := (by rw [hwk_151.ek hq_119.1 hq_119.2 (by decide)]; exact hek_127.out)
      have how_178 : HID (Pn_148.ow la = la) := ((hwk_151.1 la hq_119.1 (by rw [hq_119.2]; decide)).2.2.2.1 hq_119.2 how_128.out).1
      have hek_179 : HID (Pn_148.ek lb = 12) := (by rw [hwk_151.ek hq_120.1 hq_120.2 (by decide)]; exact hek_129.out)
      have how_180 : HID (Pn_148.ow lb = lb) := ((hwk_151.1 lb hq_120.1 (by rw [hq_120.2]; decide)).2.2.2.1 hq_120.2 how_130.out).1
      have hek_181 : HID (Pn_148.ek lr = 17) := (by rw [hwk_151.ek hq_121.1 hq_121.2 (by decide)]; exact hek_131.out)
      have how_182 : HID (Pn_148.ow lr = lr) := ((hwk_151.1 lr hq_121.1 (by rw [hq_121.2]; decide)).2.2.2.1 hq_121.2 how_132.out).1
      have hek_183 : HID (Pn_148.ek lp = 15) := (by rw [hwk_151.ek hq_122.1 hq_122.2 (by decide)]; exact hek_133.out)
      have how_184 : HID (Pn_148.ow lp = lp) := ((hwk_151.1 lp hq_122.1 (by rw [hq_122.2]; decide)).2.2.2.1 hq_122.2 how_134.out).1
      have hE_185 : HID (Pn_148.ek pr_142 = 1) := (by rw [hwk_151.ek hbe_143.1 hbe_143.2.1 (by decide)]; exact hE_144.out)
      have hps := PSI.same (w := wSL) (L := L134) (congrArg Prod.fst hu_149.1.1)
      have hpc := PSI.same (w := wCE) (L := L134) (congrArg Prod.fst hu_149.1.1)
      have hlva_186 : LVA L134 Pn_148 := LVA.same jv134 (congrArg Prod.fst hu_149.1.1)
      have hlmt_187 : LMT L134 Pn_148 la lb lr lp := LMT.rwk jm134 hu_149.1 (Or.inl hbe_143.2.1)
      refine lv_aload hx hb dX13_copy_198 (lv_at hl 4 rfl) ?_
      refine lv_aload_n hx hb dX13_copy_200 rfl (lv_at hl 3 rfl) ?_
      replace hP := pk_sw hP
      replace hD := pk_swD hD
      obtain ⟨kp_188, hkp_188⟩ := pk_getA (T := va_pl L134 (pE Pn_148)) (X := [(hd, .inr (12, [v18_0, v18_1, v18_2, v18_3, v18_4, .ref lq, v18_6])), (hc, .inr (12, [.ref lb, .ref lr, .ref lp, .int (zI (e134_1_3)), .int (zI (e29_1_4)), .ref la, .int (zI (z0_57))]))]) (f := pE PS) hB_53.1.1
      rw [pE_block hB_53.1.2] at hkp_188
      refine va_get (D := (dC, dI)) (ci := 19) (v := .int (zI (PS.bf xb_51))) (C := RX12) (T := TX12) (N := 5) hx hb hts mem_P13_copyQ_4 hown hK hP kp_188 hkp_188 rfl 3 (by decide) (ow (k := 24) rfl) (fun _ h9 => h9) rfl dX13_copy_201 ?_
      replace hP := pk_sw hP
      replace hD := pk_swD hD
      have hfb := (hak_153.gb hq_170.1 hq_170.2).2
      obtain ⟨kp_189, gkp_189⟩ := va_pl_get (X := [(hd, .inr (12, [v18_0, v18_1, v18_2, v18_3, v18_4, .ref lq, v18_6])), (hc, .inr (12, [.ref lb, .ref lr, .ref lp, .int (zI (e134_1_3)), .int (zI (e29_1_4)), .ref la, .int (zI (z0_57))]))]) (f := pE Pn_148) hq_170.1
      have hkp_189 := pk_up (b := va_pl LS (pE PS)) gkp_189
      rw [pE_block hq_170.2] at hkp_189
      have hD0 := pl_leftD (pk_ascD hD)
      refine va_put (D := (dC, dI)) (ci := 19) (v := .int (zI (PS.bf xb_51))) (ty := .int) (C := RX12) (T := TX12) (N := 5) hx hb hts mem_P13_copyQ_4 tyX12 tyX12_ok nmX12 hown hK hP hD hS kp_189 hkp_189 rfl 3 (by decide) (ow (k := 24) rfl) (fun _ h9 => h9) rfl (by decide +kernel) rfl rfl (by first | exact Nat.le_of_ble_eq_true rfl | exact (show (kc134) ≤ (2000 + (8735704 - PSI wCE L P) / 40).toNat from (by omega)) | exact (show (ks134) ≤ (1990000 - PSI wSL L P).toNat from (by omega))) dX13_copy_204 (fun H locs hP9 hD9 hS9 => ?_)
      replace hP := hP9; replace hD := hD9; replace hS := hS9; clear hP9 hD9 hS9
      obtain ⟨Pw_190, ePw_190⟩ : ∃ q9 : PO, q9 = Pn_148.rw9 0 q_56 (PS.bf xb_51) := ⟨_, rfl⟩
      have eU : (([(hd, .inr (12, [v18_0, v18_1, v18_2, v18_3, v18_4, .ref lq, v18_6])), (hc, .inr (12, [.ref lb, .ref lr, .ref lp, .int (zI (e134_1_3)), .int (zI (e29_1_4)), .ref la, .int (zI (z0_57))]))] : va_W) ++ va_pl L134 (pE Pn_148)).set kp_189 (q_56, blockE (Pn_148.bp q_56) (Pn_148.br q_56) (Pn_148.be q_56) (PS.bf xb_51) (Pn_148.bs q_56)) = ([(hd, .inr (12, [v18_0, v18_1, v18_2, v18_3, v18_4, .ref lq, v18_6])), (hc, .inr (12, [.ref lb, .ref lr, .ref lp, .int (zI (e134_1_3)), .int (zI (e29_1_4)), .ref la, .int (zI (z0_57))]))] : va_W) ++ va_pl L134 (pE Pw_190) := (by rw [va_pl_set hD0 hq_170.1 gkp_189, ePw_190]; exact congrArg (fun f9 => ([(hd, .inr (12, [v18_0, v18_1, v18_2, v18_3, v18_4, .ref lq, v18_6])), (hc, .inr (12, [.ref lb, .ref lr, .ref lp, .int (zI (e134_1_3)), .int (zI (e29_1_4)), .ref la, .int (zI (z0_57))]))] : va_W) ++ va_pl L134 f9) (put12_0 hq_170.2))
      have eV := pk_set (b := va_pl LS (pE PS)) gkp_189 eU
      replace hP : va_P (dC, dI) vwQ ([(hd, .inr (12, [v18_0, v18_1, v18_2, v18_3, v18_4, .ref lq, v18_6])), (hc, .inr (12, [.ref lb, .ref lr, .ref lp, .int (zI (e134_1_3)), .int (zI (e29_1_4)), .ref la, .int (zI (z0_57))]))] ++ (va_pl L134 (pE Pw_190) ++ va_pl LS (pE PS))) H := (by rw [← eV]; exact hP)
      replace hD : va_D A ([(hd, .inr (12, [v18_0, v18_1, v18_2, v18_3, v18_4, .ref lq, v18_6])), (hc, .inr (12, [.ref lb, .ref lr, .ref lp, .int (zI (e134_1_3)), .int (zI (e29_1_4)), .ref la, .int (zI (z0_57))]))] ++ (va_pl L134 (pE Pw_190) ++ va_pl LS (pE PS))) := (by rw [← eV]; exact hD)
      clear eU eV hD0 gkp_189 hkp_189
      have wPw_190 : RW1 q_56 Pn_148 Pw_190 := (by rw [ePw_190]; exact RW1.put _ _ _ _)
      have hy_191 : Pw_190.kd la = 30 := (by rw [ePw_190]; exact hq_166.2)
      have hy_192 : Pw_190.kd lb = 30 := (by rw [ePw_190]; exact hq_167.2)
      have hy_193 : Pw_190.kd lr = 30 := (by rw [ePw_190]; exact hq_168.2)
      have hy_194 : Pw_190.kd lp = 30 := (by rw [ePw_190]; exact hq_169.2)
      have hy_195 : Pw_190.kd q_56 = 12 := (by rw [ePw_190]; exact hq_170.2)
      have : Pw_190.bf q_56 = PS.bf xb_51 := (by rw [ePw_190]; exact rw9_at _ _ _ _)
      have : Pw_190.bs q_56 = Pn_148.bs q_56 := (by rw [ePw_190]; exact rw9_of _ (by decide))
      have hy_196 : Pw_190.kd pr_142 = 17 := (by rw [ePw_190]; exact hq_171.2)
      have : Pw_190.ro pr_142 = Pn_148.ro pr_142 := wPw_190.2 _ (kd_ne hq_171.2 hq_170.2 (by decide)) _
      have : Pw_190.rt pr_142 = Pn_148.rt pr_142 := wPw_190.2 _ (kd_ne hq_171.2 hq_170.2 (by decide)) _
      have : Pw_190.ra pr_142 = Pn_148.ra pr_142 := wPw_190.2 _ (kd_ne hq_171.2 hq_170.2 (by decide)) _
      have : Pw_190.rb pr_142 = Pn_148.rb pr_142 := wPw_190.2 _ (kd_ne hq_171.2 hq_170.2 (by decide)) _
      have : Pw_190.rA pr_142 = Pn_148.rA pr_142 := wPw_190.2 _ (kd_ne hq_171.2 hq_170.2 (by decide)) _
      have : Pw_190.rB pr_142 = Pn_148.rB pr_142 := wPw_190.2 _ (kd_ne hq_171.2 hq_170.2 (by decide)) _
      have : Pw_190.rg pr_142 = Pn_148.rg pr_142 := wPw_190.2 _ (kd_ne hq_171.2 hq_170.2 (by decide)) _
      have ha_197 : HID (Pw_190.be q_56 = pr_142) := (by rw [ePw_190]; exact ha_172.out)
      have hW_198 : RW1 q_56 Pn_148 Pw_190 := wPw_190
      have hak_200 : GLR L134 Pw_190 cO cI cZ sx_ed := hak_153.goal hW_198 hq_170.2 (by omega)
      have hke_199 : KEG [la, lb, lr, lp] L134 Pn_148 L134 Pw_190 := hW_198.kegR _ hq_166.2 (by rw [hq_170.2]; decide)
      have hq_202 : HID (la ∈ L134 ∧ Pw_190.kd la = 30) := hke_199.mem hq_166.1 hq_166.2 (by decide)
      have hq_203 : HID (lb ∈ L134 ∧ Pw_190.kd lb = 30) := hke_199.mem hq_167.1 hq_167.2 (by decide)
      have hq_204 : HID (lr ∈ L134 ∧ Pw_190.kd lr = 30) := hke_199.mem hq_168.1 hq_168.2 (by decide)
      have hq_205 : HID (lp ∈ L134 ∧ Pw_190.kd lp = 30) := hke_199.mem hq_169.1 hq_169.2 (by decide)
      have hq_206 : HID (q_56 ∈ L134 ∧ Pw_190.kd q_56 = 12) := hke_199.mem hq_170.1 hq_170.2 (by decide)
      have hq_207 : HID (pr_142 ∈ L134 ∧ Pw_190.kd pr_142 = 17) := hke_199.mem hq_171.1 hq_171.2 (by decide)
      have ha_208 : HID (Pw_190.be q_56 = pr_142) := hke_199.be hq_170.1 hq_170.2 ha_172.out
      have hA_209 : KEG [la, lb, lr, lp] L P L134 Pw_190 := hA_173.trans hke_199
      have hA_210 : KEG [la, lb, lr, lp] L6 P6 L134 Pw_190 := hA_174.trans hke_199
      have hA_211 : KEG [la, lb, lr, lp] L29 P29 L134 Pw_190 := hA_175.trans hke_199
      have hA_212 : KEG [la, lb, lr, lp] L134 P134 L134 Pw_190 := hA_176.trans hke_199
      have : Pw_190.cap la = Pn_148.cap la := hW_198.cap la
      have : Pw_190.cap lb = Pn_148.cap lb := hW_198.cap lb
      have : Pw_190.cap lr = Pn_148.cap lr := hW_198.cap lr
      have : Pw_190.cap lp = Pn_148.cap lp := hW_198.cap lp
      have hek_213 : HID (Pw_190.ek la = 12) := (by rw [hke_199.ek hq_166.1 hq_166.2 (by decide)]; exact hek_177.out)
      have how_214 : HID (Pw_190.ow la = la) := ((hke_199.1 la hq_166.1 (by rw [hq_166.2]; decide)).2.2.2.1 hq_166.2 how_178.out).1
      have hek_215 : HID (Pw_190.ek lb = 12) := (by rw [hke_199.ek hq_167.1 hq_167.2 (by decide)]; exact hek_179.out)
      have how_216 : HID (Pw_190.ow lb = lb) := ((hke_199.1 lb hq_167.1 (by rw [hq_167.2]; decide)).2.2.2.1 hq_167.2 how_180.out).1
      have hek_217 : HID (Pw_190.ek lr = 17) := (by rw [hke_199.ek hq_168.1 hq_168.2 (by decide)]; exact hek_181.out)
      have how_218 : HID (Pw_190.ow lr = lr) := ((hke_199.1 lr hq_168.1 (by rw [hq_168.2]; decide)).2.2.2.1 hq_168.2 how_182.out).1
      have hek_219 : HID (Pw_190.ek lp = 15) := (by rw [hke_199.ek hq_169.1 hq_169.2 (by decide)]; exact hek_183.out)
      have how_220 : HID (Pw_190.ow lp = lp) := ((hke_199.1 lp hq_169.1 (by rw [hq_169.2]; decide)).2.2.2.1 hq_169.2 how_184.out).1
      have hE_221 : HID (Pw_190.ek pr_142 = 1) := (by rw [hke_199.ek hq_171.1 hq_171.2 (by decide)]; exact hE_185.out)
      have hk0_222 := RW1.kegR (E := []) (la := la) hW_198 L134 hq_166.2 (by rw [hq_170.2]; decide)
      have hkl_223 := hk0_222.lst (show CLF L134 Pn_148 la 12 from ⟨hq_166.1, hq_166.2, hek_177.out, how_178.out⟩) (by simp)
      have hkl_224 := hk0_222.lst (show CLF L134 Pn_148 lb 12 from ⟨hq_167.1, hq_167.2, hek_179.out, how_180.out⟩) (by simp)
      have hkl_225 := hk0_222.lst (show CLF L134 Pn_148 lr 17 from ⟨hq_168.1, hq_168.2, hek_181.out, how_182.out⟩) (by simp)
      have hkl_226 := hk0_222.lst (show CLF L134 Pn_148 lp 15 from ⟨hq_169.1, hq_169.2, hek_183.out, how_184.out⟩) (by simp)
      have hns_227 := hns_oneR (i := d6_2) (n := OFS 2 PS lq (d6_2) + d134_5) (p := OFS 1 PS lq (d6_2) + d29_5) (x := q_56) hak_153 (hak_153.lk (show CLF L134 Pn_148 lb 12 from ⟨hq_167.1, hq_167.2, hek_179.out, how_180.out⟩)) (hak_153.lk (show CLF L134 Pn_148 lr 17 from ⟨hq_168.1, hq_168.2, hek_181.out, how_182.out⟩)) hek_181.out (hak_153.lk (show CLF L134 Pn_148 lp 15 from ⟨hq_169.1, hq_169.2, hek_183.out, how_184.out⟩)) (by omega) (by omega) (by omega) (Or.inr (Or.inr ⟨hq_170.2, fun b9 b0 b1 e9 => (hds_162 b9 (d6_2) b0 (by omega) (by omega)).1 (by rw [← hyb_161]; exact e9.symm)⟩))
      have hci_228 : CPI Pw_190 PS lb lr lp lq (d6_2) (OFS 2 PS lq (d6_2) + d134_5) (OFS 1 PS lq (d6_2) + d29_5) := hci_159.frR hak_153 (hW_198.chg _).c8 (hak_153.lk (show CLF L134 Pn_148 lb 12 from ⟨hq_167.1, hq_167.2, hek_179.out, how_180.out⟩)) (hak_153.lk (show CLF L134 Pn_148 lr 17 from ⟨hq_168.1, hq_168.2, hek_181.out, how_182.out⟩)) (hak_153.lk (show CLF L134 Pn_148 lp 15 from ⟨hq_169.1, hq_169.2, hek_183.out, how_184.out⟩)) (by omega) (by omega) (by omega) hLn1 hLn2 (by omega) (fun k9 k0 k1 => hkl_224.2 k9 k0 (by omega)) (fun k9 k0 k1 => hkl_225.2 k9 k0 (by omega)) (fun k9 k0 k1 => hkl_226.2 k9 k0 (by omega)) hns_227
      have hcu_229 : CUR Pw_190 PS lb lr lp lq (d6_2) (d29_5) (d134_5) := hcu_160.rw1R hW_198 hak_153 (show CLF L134 Pn_148 lb 12 from ⟨hq_167.1, hq_167.2, hek_179.out, how_180.out⟩) (by omega) (by omega) (by rw [hq_170.2]; decide)
      have hyb_230 : q_56 = Pw_190.el lb (d6_2) := hyb_161.trans (hkl_224.2 (d6_2) (by omega) (by omega)).symm
      have hds_231 := hds_162.kegR hak_153 ⟨hq_167.1, hq_167.2, hek_179.out, how_180.out⟩ hk0_222 (by simp)
      have hdl_232 := hdl_163.same hkl_225.1 hkl_225.2
      have hdl_233 := hdl_164.same hkl_226.1 hkl_226.2
      have hal_234 : ∀ b : Int, 0 ≤ b → b < Pw_190.lz la → Pw_190.el la b = Pw_190.el lb b := (fun b b0 b1 => by rw [hkl_223.1] at b1; rw [hkl_223.2 b b0 b1, hkl_224.2 b b0 (by omega)]; exact hal_165 b b0 b1)
      have : Pw_190.lz la = Pn_148.lz la := hkl_223.1
      have : Pw_190.lz lb = Pn_148.lz lb := hkl_224.1
      have : Pw_190.lz lr = Pn_148.lz lr := hkl_225.1
      have : Pw_190.lz lp = Pn_148.lz lp := hkl_226.1
      have hcw_235 : CRW Pw_190 pr_142 PS pr_146 := hcw_152.num (fun f9 => hW_198.2 pr_142 (fun e9 => kd_ne hq_170.2 hq_171.2 (by decide) e9.symm) f9)
      have hps := PSI.same (w := wSL) (L := L134) (congrArg Prod.fst hW_198.1)
      have hpc := PSI.same (w := wCE) (L := L134) (congrArg Prod.fst hW_198.1)
      have hlva_236 : LVA L134 Pw_190 := LVA.same hlva_186 (congrArg Prod.fst hW_198.1)
      have hlmt_237 : LMT L134 Pw_190 la lb lr lp := LMT.rwk hlmt_187 hW_198 (Or.inr (Or.inl hq_170.2))
      refine lv_aload hx hb dX13_copy_207 (lv_at hl 4 rfl) ?_
      refine lv_aload_n hx hb dX13_copy_209 rfl (lv_at hl 3 rfl) ?_
      replace hP := pk_sw hP
      replace hD := pk_swD hD
      obtain ⟨kp_238, hkp_238⟩ := pk_getA (T := va_pl L134 (pE Pw_190)) (X := [(hd, .inr (12, [v18_0, v18_1, v18_2, v18_3, v18_4, .ref lq, v18_6])), (hc, .inr (12, [.ref lb, .ref lr, .ref lp, .int (zI (e134_1_3)), .int (zI (e29_1_4)), .ref la, .int (zI (z0_57))]))]) (f := pE PS) hB_53.1.1
      rw [pE_block hB_53.1.2] at hkp_238
      refine va_get (D := (dC, dI)) (ci := 19) (v := .int (zI (PS.bs xb_51))) (C := RX12) (T := TX12) (N := 5) hx hb hts mem_P13_copyQ_4 hown hK hP kp_238 hkp_238 rfl 4 (by decide) (ow (k := 25) rfl) (fun _ h9 => h9) rfl dX13_copy_210 ?_
      replace hP := pk_sw hP
      replace hD := pk_swD hD
      have hfb := (hak_200.gb hq_206.1 hq_206.2).2
      obtain ⟨kp_239, gkp_239⟩ := va_pl_get (X := [(hd, .inr (12, [v18_0, v18_1, v18_2, v18_3, v18_4, .ref lq, v18_6])), (hc, .inr (12, [.ref lb, .ref lr, .ref lp, .int (zI (e134_1_3)), .int (zI (e29_1_4)), .ref la, .int (zI (z0_57))]))]) (f := pE Pw_190) hq_206.1
      have hkp_239 := pk_up (b := va_pl LS (pE PS)) gkp_239
      rw [pE_block hq_206.2] at hkp_239
      have hD0 := pl_leftD (pk_ascD hD)
      refine va_put (D := (dC, dI)) (ci := 19) (v := .int (zI (PS.bs xb_51))) (ty := .int) (C := RX12) (T := TX12) (N := 5) hx hb hts mem_P13_copyQ_4 tyX12 tyX12_ok nmX12 hown hK hP hD hS kp_239 hkp_239 rfl 4 (by decide) (ow (k := 25) rfl) (fun _ h9 => h9) rfl (by decide +kernel) rfl rfl (by first | exact Nat.le_of_ble_eq_true rfl | exact (show (kc134) ≤ (2000 + (8735704 - PSI wCE L P) / 40).toNat from (by omega)) | exact (show (ks134) ≤ (1990000 - PSI wSL L P).toNat from (by omega))) dX13_copy_213 (fun H locs hP9 hD9 hS9 => ?_)
      replace hP := hP9; replace hD := hD9; replace hS := hS9; clear hP9 hD9 hS9
      obtain ⟨Pw_240, ePw_240⟩ : ∃ q9 : PO, q9 = Pw_190.rw9 1 q_56 (PS.bs xb_51) := ⟨_, rfl⟩
      have eU : (([(hd, .inr (12, [v18_0, v18_1, v18_2, v18_3, v18_4, .ref lq, v18_6])), (hc, .inr (12, [.ref lb, .ref lr, .ref lp, .int (zI (e134_1_3)), .int (zI (e29_1_4)), .ref la, .int (zI (z0_57))]))] : va_W) ++ va_pl L134 (pE Pw_190)).set kp_239 (q_56, blockE (Pw_190.bp q_56) (Pw_190.br q_56) (Pw_190.be q_56) (Pw_190.bf q_56) (PS.bs xb_51)) = ([(hd, .inr (12, [v18_0, v18_1, v18_2, v18_3, v18_4, .ref lq, v18_6])), (hc, .inr (12, [.ref lb, .ref lr, .ref lp, .int (zI (e134_1_3)), .int (zI (e29_1_4)), .ref la, .int (zI (z0_57))]))] : va_W) ++ va_pl L134 (pE Pw_240) := (by rw [va_pl_set hD0 hq_206.1 gkp_239, ePw_240]; exact congrArg (fun f9 => ([(hd, .inr (12, [v18_0, v18_1, v18_2, v18_3, v18_4, .ref lq, v18_6])), (hc, .inr (12, [.ref lb, .ref lr, .ref lp, .int (zI (e134_1_3)), .int (zI (e29_1_4)), .ref la, .int (zI (z0_57))]))] : va_W) ++ va_pl L134 f9) (put12_1 hq_206.2))
      have eV := pk_set (b := va_pl LS (pE PS)) gkp_239 eU
      replace hP : va_P (dC, dI) vwQ ([(hd, .inr (12, [v18_0, v18_1, v18_2, v18_3, v18_4, .ref lq, v18_6])), (hc, .inr (12, [.ref lb, .ref lr, .ref lp, .int (zI (e134_1_3)), .int (zI (e29_1_4)), .ref la, .int (zI (z0_57))]))] ++ (va_pl L134 (pE Pw_240) ++ va_pl LS (pE PS))) H := (by rw [← eV]; exact hP)
      replace hD : va_D A ([(hd, .inr (12, [v18_0, v18_1, v18_2, v18_3, v18_4, .ref lq, v18_6])), (hc, .inr (12, [.ref lb, .ref lr, .ref lp, .int (zI (e134_1_3)), .int (zI (e29_1_4)), .ref la, .int (zI (z0_57))]))] ++ (va_pl L134 (pE Pw_240) ++ va_pl LS (pE PS))) := (by rw [← eV]; exact hD)
      clear eU eV hD0 gkp_239 hkp_239
      have wPw_240 : RW1 q_56 Pw_190 Pw_240 := (by rw [ePw_240]; exact RW1.put _ _ _ _)
      have hy_241 : Pw_240.kd la = 30 := (by rw [ePw_240]; exact hq_202.2)
      have hy_242 : Pw_240.kd lb = 30 := (by rw [ePw_240]; exact hq_203.2)
      have hy_243 : Pw_240.kd lr = 30 := (by rw [ePw_240]; exact hq_204.2)
      have hy_244 : Pw_240.kd lp = 30 := (by rw [ePw_240]; exact hq_205.2)
      have hy_245 : Pw_240.kd q_56 = 12 := (by rw [ePw_240]; exact hq_206.2)
      have : Pw_240.bf q_56 = Pw_190.bf q_56 := (by rw [ePw_240]; exact rw9_of _ (by decide))
      have : Pw_240.bs q_56 = PS.bs xb_51 := (by rw [ePw_240]; exact rw9_at _ _ _ _)
      have hy_246 : Pw_240.kd pr_142 = 17 := (by rw [ePw_240]; exact hq_207.2)
      have : Pw_240.ro pr_142 = Pw_190.ro pr_142 := wPw_240.2 _ (kd_ne hq_207.2 hq_206.2 (by decide)) _
      have : Pw_240.rt pr_142 = Pw_190.rt pr_142 := wPw_240.2 _ (kd_ne hq_207.2 hq_206.2 (by decide)) _
      have : Pw_240.ra pr_142 = Pw_190.ra pr_142 := wPw_240.2 _ (kd_ne hq_207.2 hq_206.2 (by decide)) _
      have : Pw_240.rb pr_142 = Pw_190.rb pr_142 := wPw_240.2 _ (kd_ne hq_207.2 hq_206.2 (by decide)) _
      have : Pw_240.rA pr_142 = Pw_190.rA pr_142 := wPw_240.2 _ (kd_ne hq_207.2 hq_206.2 (by decide)) _
      have : Pw_240.rB pr_142 = Pw_190.rB pr_142 := wPw_240.2 _ (kd_ne hq_207.2 hq_206.2 (by decide)) _
      have : Pw_240.rg pr_142 = Pw_190.rg pr_142 := wPw_240.2 _ (kd_ne hq_207.2 hq_206.2 (by decide)) _
      have ha_247 : HID (Pw_240.be q_56 = pr_142) := (by rw [ePw_240]; exact ha_208.out)
      have hW_248 : RW1 q_56 Pw_190 Pw_240 := wPw_240
      have hak_250 : GLR L134 Pw_240 cO cI cZ sx_ed := hak_200.goal hW_248 hq_206.2 (by omega)
      have hke_249 : KEG [la, lb, lr, lp] L134 Pw_190 L134 Pw_240 := hW_248.kegR _ hq_202.2 (by rw [hq_206.2]; decide)
      have hq_252 : HID (la ∈ L134 ∧ Pw_240.kd la = 30) := hke_249.mem hq_202.1 hq_202.2 (by decide)
      have hq_253 : HID (lb ∈ L134 ∧ Pw_240.kd lb = 30) := hke_249.mem hq_203.1 hq_203.2 (by decide)
      have hq_254 : HID (lr ∈ L134 ∧ Pw_240.kd lr = 30) := hke_249.mem hq_204.1 hq_204.2 (by decide)
      have hq_255 : HID (lp ∈ L134 ∧ Pw_240.kd lp = 30) := hke_249.mem hq_205.1 hq_205.2 (by decide)
      have hq_256 : HID (q_56 ∈ L134 ∧ Pw_240.kd q_56 = 12) := hke_249.mem hq_206.1 hq_206.2 (by decide)
      have hq_257 : HID (pr_142 ∈ L134 ∧ Pw_240.kd pr_142 = 17) := hke_249.mem hq_207.1 hq_207.2 (by decide)
      have ha_258 : HID (Pw_240.be q_56 = pr_142) := hke_249.be hq_206.1 hq_206.2 ha_208.out
      have hA_259 : KEG [la, lb, lr, lp] L P L134 Pw_240 := hA_209.trans hke_249
      have hA_260 : KEG [la, lb, lr, lp] L6 P6 L134 Pw_240 := hA_210.trans hke_249
      have hA_261 : KEG [la, lb, lr, lp] L29 P29 L134 Pw_240 := hA_211.trans hke_249
      have hA_262 : KEG [la, lb, lr, lp] L134 P134 L134 Pw_240 := hA_212.trans hke_249
      have : Pw_240.cap la = Pw_190.cap la := hW_248.cap la
      have : Pw_240.cap lb = Pw_190.cap lb := hW_248.cap lb
      have : Pw_240.cap lr = Pw_190.cap lr := hW_248.cap lr
      have : Pw_240.cap lp = Pw_190.cap lp := hW_248.cap lp
      have hek_263 : HID (Pw_240.ek la = 12) := (by rw [hke_249.ek hq_202.1 hq_202.2 (by decide)]; exact hek_213.out)
      have how_264 : HID (Pw_240.ow la = la) := ((hke_249.1 la hq_202.1 (by rw [hq_202.2]; decide)).2.2.2.1 hq_202.2 how_214.out).1
      have hek_265 : HID (Pw_240.ek lb = 12) := (by rw [hke_249.ek hq_203.1 hq_203.2 (by decide)]; exact hek_215.out)
      have how_266 : HID (Pw_240.ow lb = lb) := ((hke_249.1 lb hq_203.1 (by rw [hq_203.2]; decide)).2.2.2.1 hq_203.2 how_216.out).1
      have hek_267 : HID (Pw_240.ek lr = 17) := (by rw [hke_249.ek hq_204.1 hq_204.2 (by decide)]; exact hek_217.out)
      have how_268 : HID (Pw_240.ow lr = lr) := ((hke_249.1 lr hq_204.1 (by rw [hq_204.2]; decide)).2.2.2.1 hq_204.2 how_218.out).1
      have hek_269 : HID (Pw_240.ek lp = 15) := (by rw [hke_249.ek hq_205.1 hq_205.2 (by decide)]; exact hek_219.out)
      have how_270 : HID (Pw_240.ow lp = lp) := ((hke_249.1 lp hq_205.1 (by rw [hq_205.2]; decide)).2.2.2.1 hq_205.2 how_220.out).1
      have hE_271 : HID (Pw_240.ek pr_142 = 1) := (by rw [hke_249.ek hq_207.1 hq_207.2 (by decide)]; exact hE_221.out)
      have hk0_272 := RW1.kegR (E := []) (la := la) hW_248 L134 hq_202.2 (by rw [hq_206.2]; decide)
      have hkl_273 := hk0_272.lst (show CLF L134 Pw_190 la 12 from ⟨hq_202.1, hq_202.2, hek_213.out, how_214.out⟩) (by simp)
      have hkl_274 := hk0_272.lst (show CLF L134 Pw_190 lb 12 from ⟨hq_203.1, hq_203.2, hek_215.out, how_216.out⟩) (by simp)
      have hkl_275 := hk0_272.lst (show CLF L134 Pw_190 lr 17 from ⟨hq_204.1, hq_204.2, hek_217.out, how_218.out⟩) (by simp)
      have hkl_276 := hk0_272.lst (show CLF L134 Pw_190 lp 15 from ⟨hq_205.1, hq_205.2, hek_219.out, how_220.out⟩) (by simp)
      have hns_277 := hns_oneR (i := d6_2) (n := OFS 2 PS lq (d6_2) + d134_5) (p := OFS 1 PS lq (d6_2) + d29_5) (x := q_56) hak_200 (hak_200.lk (show CLF L134 Pw_190 lb 12 from ⟨hq_203.1, hq_203.2, hek_215.out, how_216.out⟩)) (hak_200.lk (show CLF L134 Pw_190 lr 17 from ⟨hq_204.1, hq_204.2, hek_217.out, how_218.out⟩)) hek_217.out (hak_200.lk (show CLF L134 Pw_190 lp 15 from ⟨hq_205.1, hq_205.2, hek_219.out, how_220.out⟩)) (by omega) (by omega) (by omega) (Or.inr (Or.inr ⟨hq_206.2, fun b9 b0 b1 e9 => (hds_231 b9 (d6_2) b0 (by omega) (by omega)).1 (by rw [← hyb_230]; exact e9.symm)⟩))
      have hci_278 : CPI Pw_240 PS lb lr lp lq (d6_2) (OFS 2 PS lq (d6_2) + d134_5) (OFS 1 PS lq (d6_2) + d29_5) := hci_228.frR hak_200 (hW_248.chg _).c8 (hak_200.lk (show CLF L134 Pw_190 lb 12 from ⟨hq_203.1, hq_203.2, hek_215.out, how_216.out⟩)) (hak_200.lk (show CLF L134 Pw_190 lr 17 from ⟨hq_204.1, hq_204.2, hek_217.out, how_218.out⟩)) (hak_200.lk (show CLF L134 Pw_190 lp 15 from ⟨hq_205.1, hq_205.2, hek_219.out, how_220.out⟩)) (by omega) (by omega) (by omega) hLn1 hLn2 (by omega) (fun k9 k0 k1 => hkl_274.2 k9 k0 (by omega)) (fun k9 k0 k1 => hkl_275.2 k9 k0 (by omega)) (fun k9 k0 k1 => hkl_276.2 k9 k0 (by omega)) hns_277
      have hcu_279 : CUR Pw_240 PS lb lr lp lq (d6_2) (d29_5) (d134_5) := hcu_229.rw1R hW_248 hak_200 (show CLF L134 Pw_190 lb 12 from ⟨hq_203.1, hq_203.2, hek_215.out, how_216.out⟩) (by omega) (by omega) (by rw [hq_206.2]; decide)
      have hyb_280 : q_56 = Pw_240.el lb (d6_2) := hyb_230.trans (hkl_274.2 (d6_2) (by omega) (by omega)).symm
      have hds_281 := hds_231.kegR hak_200 ⟨hq_203.1, hq_203.2, hek_215.out, how_216.out⟩ hk0_272 (by simp)
      have hdl_282 := hdl_232.same hkl_275.1 hkl_275.2
      have hdl_283 := hdl_233.same hkl_276.1 hkl_276.2
      have hal_284 : ∀ b : Int, 0 ≤ b → b < Pw_240.lz la → Pw_240.el la b = Pw_240.el lb b := (fun b b0 b1 => by rw [hkl_273.1] at b1; rw [hkl_273.2 b b0 b1, hkl_274.2 b b0 (by omega)]; exact hal_234 b b0 b1)
      have : Pw_240.lz la = Pw_190.lz la := hkl_273.1
      have : Pw_240.lz lb = Pw_190.lz lb := hkl_274.1
      have : Pw_240.lz lr = Pw_190.lz lr := hkl_275.1
      have : Pw_240.lz lp = Pw_190.lz lp := hkl_276.1
      have hcw_285 : CRW Pw_240 pr_142 PS pr_146 := hcw_235.num (fun f9 => hW_248.2 pr_142 (fun e9 => kd_ne hq_206.2 hq_207.2 (by decide) e9.symm) f9)
      have hps := PSI.same (w := wSL) (L := L134) (congrArg Prod.fst hW_248.1)
      have hpc := PSI.same (w := wCE) (L := L134) (congrArg Prod.fst hW_248.1)
      have hlva_286 : LVA L134 Pw_240 := LVA.same hlva_236 (congrArg Prod.fst hW_248.1)
      have hlmt_287 : LMT L134 Pw_240 la lb lr lp := LMT.rwk hlmt_237 hW_248 (Or.inr (Or.inl hq_206.2))
      have hci6 : CPI Pw_240 PS lb lr lp lq (d6_2 + 1) (OFS 2 PS lq (d6_2) + d134_5) (OFS 1 PS lq (d6_2) + d29_5) := hci_278.blk (by omega) (hcu_279.to (by omega) (by omega)) (by omega) (by omega) (by rw [← hyb_280, ha_258.out, ← hx_54, epr_146.symm]; exact hcw_285) (by rw [← hyb_280, ← hx_54]; omega) (by rw [← hyb_280, ← hx_54]; omega)
      skip
      refine lv_iinc (v := zI (d6_2 + 1)) (lv' := [(2, .int (zI (d6_2 + 1))), (0, .ref hc), (1, .ref hd), (3, .ref xb_51), (4, .ref q_56), (5, .int (zI (d134_5)))]) hx hb dX13_copy_216 hl (k := 2) rfl (zI_add (d6_2) (1)) (by decide) rfl (fun ls hl => ?_)
      refine lv_goto (tgt := 6) hx hb dX13_copy_219 (by decide) ?_
      exact ih6 (d6_2 + 1) e134_1_3 e29_1_4 z0_57 L134 Pw_240 ((kc134)) ((ks134)) ls H _ (kP6.trans hA_260) hak_250 (by omega) (by omega) (by omega) (by omega) hlva_286 hlmt_287 (hci6.to (by omega) (by omega)) hdl_282 hdl_283 hds_281 hal_284 (by omega) ⟨((jl134.1.to2 (by omega) rfl).to (by omega)), ((jl134.2.1.to2 (by omega) rfl).to (by omega)), ((jl134.2.2.to2 (by omega) rfl).to (by omega))⟩ (by omega) (mea_lt hm6 (by omega) (by omega)) (lv_sub hl [1, 2, 0] rfl) hP hD hS
    · have yb143 : ¬ (PS.lz pr_137 : Int) ≤ (d134_5 : Int) := fun q => b143 ((zI_le (a := PS.lz pr_137) (b := d134_5) (by omega) (by omega) (by omega) (by omega)).mpr q)
      refine lv_aload_n hx hb dX13_copy_146 rfl (lv_at hl 0 rfl) ?_
      skip
      have hPT := pk_asc hP
      have hDT := pk_ascD hD
      replace hP := pl_left hPT
      replace hD := pl_leftD hDT
      have hX_V := jv134
      have hX_g := aP134
      have hX_la : HID (la ∈ L134 ∧ P134.kd la = 30 ∧ P134.ek la = 12 ∧ P134.ow la = la) := HID.mk ⟨hq_119.1, hq_119.2, hek_127.out, how_128.out⟩
      have hX_lr : HID (lr ∈ L134 ∧ P134.kd lr = 30 ∧ P134.ek lr = 17 ∧ P134.ow lr = lr) := HID.mk ⟨hq_121.1, hq_121.2, hek_131.out, how_132.out⟩
      have hnd_288 : L134.Nodup := (by first | exact pl_nd hD | exact pl_nd (pl_leftD (pk_ascD hD)))
      have hPc := hP.part (X := [(hd, .inr (12, [v18_0, v18_1, v18_2, v18_3, v18_4, .ref lq, v18_6])), (hc, .inr (12, [.ref lb, .ref lr, .ref lp, .int (zI (e134_1_3)), .int (zI (e29_1_4)), .ref la, .int (zI (z0_57))]))]) (cx := [(hc, .inr (12, [.ref lb, .ref lr, .ref lp, .int (zI (e134_1_3)), .int (zI (e29_1_4)), .ref la, .int (zI (z0_57))]))]) (pl := va_pl L134 (pE P134)) [1] rfl
      have hDc := hD.part (X := [(hd, .inr (12, [v18_0, v18_1, v18_2, v18_3, v18_4, .ref lq, v18_6])), (hc, .inr (12, [.ref lb, .ref lr, .ref lp, .int (zI (e134_1_3)), .int (zI (e29_1_4)), .ref la, .int (zI (z0_57))]))]) (cx := [(hc, .inr (12, [.ref lb, .ref lr, .ref lp, .int (zI (e134_1_3)), .int (zI (e29_1_4)), .ref la, .int (zI (z0_57))]))]) (pl := va_pl L134 (pE P134)) [1] (by decide) rfl
      have hKc := hK.sub (tys' := [(cO, .object "java/lang/Object"), (cI, .int), (cZ, .boolean)]) [2, 0, 1] rfl
      have hFc := va_freeP (X := [(hd, .inr (12, [v18_0, v18_1, v18_2, v18_3, v18_4, .ref lq, v18_6])), (hc, .inr (12, [.ref lb, .ref lr, .ref lp, .int (zI (e134_1_3)), .int (zI (e29_1_4)), .ref la, .int (zI (z0_57))]))]) (cx := [(hc, .inr (12, [.ref lb, .ref lr, .ref lp, .int (zI (e134_1_3)), .int (zI (e29_1_4)), .ref la, .int (zI (z0_57))]))]) (pl := va_pl L134 (pE P134)) hD hS hA [1] rfl
      refine W_knowS (fun hrmA => ?_)
      refine va_callr (va_runV (As := []) (rest := []) ⟨hx, hb, hml, hown, hts⟩ (c_P13_rowQ l dC dI cI cZ hc (.ref lb) (.ref lp) e134_1_3 (.int (zI (e29_1_4))) (.int (zI (z0_57))) la lr cO L134 P134 sx_ed (by omega) hX_g hX_la hX_lr (by omega) hX_V H.size H sx_mi) (cwV 0 hts g_P13_copyQ_P13_rowQ rfl rfl rfl (by decide +kernel) ⟨(Nat.le_of_ble_eq_true rfl), (Nat.le_of_ble_eq_true rfl)⟩) ⟨fun a U g mk q => by obtain ⟨q0, q1, qP, qK, qD, e0, e1, e2, e3, e4, e5, e6, e7, e8, e9, e10⟩ := q; exact ⟨q0, q1, qP, va_K.moved (u := U) (U := U.calling g mk a) (Vm.Alike.refl U.vm) qK, qD, va_Nw.same rfl (u := U) (U := U.calling g mk a) rfl e0, e1, va_Nw.same rfl (u := U) (U := U.calling g mk a) rfl e2, va_Nw.same rfl (u := U) (U := U.calling g mk a) rfl e3, va_Nw.same rfl (u := U) (U := U.calling g mk a) rfl e4, va_Nw.same rfl (u := U) (U := U.calling g mk a) rfl e5, va_Dc.moved (u := U) (U := U.calling g mk a) (Vm.Alike.refl U.vm) e6, va_Mi.moved (u := U) (U := U.calling g mk a) (Vm.Alike.refl U.vm) e7, va_AO.moved (u := U) (U := U.calling g mk a) (Vm.Alike.refl U.vm) e8, va_T.moved (u := U) (U := U.calling g mk a) (Vm.Alike.refl U.vm) e9, va_Z.moved (u := U) (U := U.calling g mk a) (Vm.Alike.refl U.vm) e10⟩, va_recv hKc hPc (ci := 12) (q0 := 0) rfl rfl, fun U hU hW => ⟨rfl, by rw [hU], by rw [hU]; exact hPc, va_K.moved hW.alike hKc, hDc.weaken (fun _ _ _ _ => trivial), va_Nw.warmC hW hp12, hU, va_Nw.warmM hW hp13, va_Nw.warmC hW hp2, va_Nw.warmC hW hp3, va_Nw.warmC hW hp4, va_Dc.moved hW.alike hp5, va_Mi.moved hW.alike hp6, va_AO.moved hW.alike hp7, by rw [hU]; exact va_T.narrow (va_T.moved hW.alike (va_T.kept hp8 hS.2.1)) hFc, by rw [hU]; exact va_Z.narrow (va_Z.moved hW.alike (va_Z.kept hp9 hS.2.1)) hFc⟩⟩ rfl rfl hl.1 rfl (lv_room (Nat.le_of_ble_eq_true rfl)) dX13_copy_147 ⟨(show (kc134) + 2 ≤ (2000 + (8735704 - PSI wCE L P) / 40).toNat from (by omega)), (show (ks134) + 6253 ≤ (1990000 - PSI wSL L P).toNat from (by omega))⟩) hS (fun q _ h => hFc q h) hFc (fun u q_289 t H1 locs ht hvm hw hB hz1 hk1 hS => ?_)
      obtain ⟨z0_290, Ln_291, Pn_292, kc_293, ks_294, hxt_294, hP1, hK1, hD1⟩ := hB
      rw [ht] at hP1
      have hK1 := va_K.moved hvm.symm hK1
      obtain ⟨hP, hD⟩ := va_joinPT (X := [(hd, .inr (12, [v18_0, v18_1, v18_2, v18_3, v18_4, .ref lq, v18_6])), (hc, .inr (12, [.ref lb, .ref lr, .ref lp, .int (zI (e134_1_3)), .int (zI (e29_1_4)), .ref la, .int (zI (z0_57))]))]) (cx := [(hc, .inr (12, [.ref lb, .ref lr, .ref lp, .int (zI (e134_1_3)), .int (zI (e29_1_4)), .ref la, .int (zI (z0_57))]))]) (wr := [(hd, .inr (12, [v18_0, v18_1, v18_2, v18_3, v18_4, .ref lq, v18_6]))]) (rx := [(hc, .inr (12, [.ref lb, .ref lr, .ref lp, .int (zI (z0_290)), .int (zI (e29_1_4)), .ref la, .int (zI (z0_57))]))]) (pl := va_pl L134 (pE P134)) (pl1 := va_pl Ln_291 (pE Pn_292)) (T := va_pl LS (pE PS)) hPT hDT [1] [0] rfl rfl (by decide) (by decide) hk1 hFc hP1 hD1
      replace hP := pk_back hP
      replace hD := pk_backD hD
      replace hK := (hK.sub (tys' := []) [] rfl).app hK1
      have hrmC := hxt_294.1.1
      rw [ht] at hrmC
      refine W_tightS (hrmA.trans hrmC) ?_
      have hrb := hxt_294.1.2
      generalize H1 = H at hP hS ⊢
      clear hPc hDc hKc hFc hk1 hz1 hPT hDT
      replace hP : va_P (dC, dI) vwQ ([(hd, .inr (12, [v18_0, v18_1, v18_2, v18_3, v18_4, .ref lq, v18_6])), (hc, .inr (12, [.ref lb, .ref lr, .ref lp, .int (zI (z0_290)), .int (zI (e29_1_4)), .ref la, .int (zI (z0_57))]))] ++ (va_pl Ln_291 (pE Pn_292) ++ va_pl LS (pE PS))) H := hP
      replace hD : va_D A ([(hd, .inr (12, [v18_0, v18_1, v18_2, v18_3, v18_4, .ref lq, v18_6])), (hc, .inr (12, [.ref lb, .ref lr, .ref lp, .int (zI (z0_290)), .int (zI (e29_1_4)), .ref la, .int (zI (z0_57))]))] ++ (va_pl Ln_291 (pE Pn_292) ++ va_pl LS (pE PS))) := hD
      replace hK : va_K (dC, dI) vwQ [(cO, .object "java/lang/Object"), (cI, .int), (cZ, .boolean)] s := hK
      refine W.widen (k := ((kc134) + kc_293)) (n := ((ks134) + ks_294)) (by omega) (by omega) ?_
      obtain ⟨rk_295, hu_295⟩ := hxt_294.2
      have hu_296 := HID.mk (hxt_294.2.2)
      replace hxt_294 := HID.mk hxt_294
      replace hu_295 := HID.mk hu_295
      have hwk_297 := hu_296.1.wk (E' := [la, lb, lr, lp]) (fun _ h9 => CPI.mem4 (Or.inr (Or.inr (Or.inl rfl))) h9)
      have hkl_298 := hu_296.1.lst (show CLF L134 P134 la 12 from ⟨hq_119.1, hq_119.2, hek_127.out, how_128.out⟩) (by intro q9; simp at q9; exact absurd q9 (ek_ne hek_127.out hek_131.out (by decide)))
      have hkl_299 := hu_296.1.lst (show CLF L134 P134 lb 12 from ⟨hq_120.1, hq_120.2, hek_129.out, how_130.out⟩) (by intro q9; simp at q9; exact absurd q9 (ek_ne hek_129.out hek_131.out (by decide)))
      have hkl_300 := hu_296.1.lst (show CLF L134 P134 lp 15 from ⟨hq_122.1, hq_122.2, hek_133.out, how_134.out⟩) (by intro q9; simp at q9; exact absurd q9 (ek_ne hek_133.out hek_131.out (by decide)))
      have hfr_301 := row_fresh jr134 (aP134.lk (show CLF L134 P134 lr 17 from ⟨hq_121.1, hq_121.2, hek_131.out, how_132.out⟩)) (by omega) (by have q9 := hu_296.2.2.1.2.1.1; omega) hu_296.2.2.2.1.1 hu_296.2.2.2.1.2.1 hu_296.2.2.2.1.2.2
      have hns_302 := hns_rowR (i := d6_2 + 1) (n := OFS 2 PS lq (d6_2) + d134_5) (p := OFS 1 PS lq (d6_2) + d29_5) aP134 (aP134.lk (show CLF L134 P134 lb 12 from ⟨hq_120.1, hq_120.2, hek_129.out, how_130.out⟩)) (aP134.lk (show CLF L134 P134 lr 17 from ⟨hq_121.1, hq_121.2, hek_131.out, how_132.out⟩)) hek_131.out how_132.out (aP134.lk (show CLF L134 P134 lp 15 from ⟨hq_122.1, hq_122.2, hek_133.out, how_134.out⟩)) (by omega) (by omega) (by omega) (fun m9 => ⟨hu_296.2.2.1.2.2.2.2.2 m9, fun k9 k0 k1 => hfr_301.1 m9 k9 k0 (by omega)⟩)
      have hci_303 : CPI Pn_292 PS lb lr lp lq (d6_2) (OFS 2 PS lq (d6_2) + d134_5) (OFS 1 PS lq (d6_2) + d29_5) := jc134.frR aP134 hu_296.2.2.1.2.2.2.1.c8 (aP134.lk (show CLF L134 P134 lb 12 from ⟨hq_120.1, hq_120.2, hek_129.out, how_130.out⟩)) (aP134.lk (show CLF L134 P134 lr 17 from ⟨hq_121.1, hq_121.2, hek_131.out, how_132.out⟩)) (aP134.lk (show CLF L134 P134 lp 15 from ⟨hq_122.1, hq_122.2, hek_133.out, how_134.out⟩)) (by omega) (by omega) (by omega) hLn1 hLn2 (by omega) (fun k9 k0 k1 => hkl_299.2 k9 k0 (by omega)) (fun k9 k0 k1 => hu_296.2.2.2.1.2.1 k9 k0 (by omega)) (fun k9 k0 k1 => hkl_300.2 k9 k0 (by omega)) (hns_302.wk (by omega) (by omega) (by omega))
      have hcu_304 : CUR Pn_292 PS lb lr lp lq (d6_2) (d29_5) (d134_5) := ju134.frR aP134 hu_296.2.2.1.2.2.2.1.c8 (show CLF L134 P134 lb 12 from ⟨hq_120.1, hq_120.2, hek_129.out, how_130.out⟩) (by omega) (by omega) (by omega) (by omega) (hkl_299.2 (d6_2) (by omega) (by omega)) (fun k9 k0 k1 => hu_296.2.2.2.1.2.1 k9 k0 (by omega)) (fun k9 k0 k1 => hkl_300.2 k9 k0 (by omega)) (hns_302.1 (d6_2) (by omega) (by omega)).1 (hns_302.1 (d6_2) (by omega) (by omega)).2.2.1 (hns_302.1 (d6_2) (by omega) (by omega)).2.2.2
      have hyb_305 : q_56 = Pn_292.el lb (d6_2) := jy134.trans (hkl_299.2 (d6_2) (by omega) (by omega)).symm
      have hds_306 := js134.kegR aP134 ⟨hq_120.1, hq_120.2, hek_129.out, how_130.out⟩ hu_296.1 (by intro q9; simp at q9; exact absurd q9 (ek_ne hek_129.out hek_131.out (by decide)))
      have hdl_307 := jp134.same hkl_300.1 hkl_300.2
      have hal_308 : ∀ b : Int, 0 ≤ b → b < Pn_292.lz la → Pn_292.el la b = Pn_292.el lb b := (fun b b0 b1 => by rw [hkl_298.1] at b1; rw [hkl_298.2 b b0 b1, hkl_299.2 b b0 (by omega)]; exact ja134 b b0 b1)
      have hq_310 : HID (la ∈ Ln_291 ∧ Pn_292.kd la = 30) := hwk_297.mem hq_119.1 hq_119.2 (by decide)
      have hq_311 : HID (lb ∈ Ln_291 ∧ Pn_292.kd lb = 30) := hwk_297.mem hq_120.1 hq_120.2 (by decide)
      have hq_312 : HID (lr ∈ Ln_291 ∧ Pn_292.kd lr = 30) := hwk_297.mem hq_121.1 hq_121.2 (by decide)
      have hq_313 : HID (lp ∈ Ln_291 ∧ Pn_292.kd lp = 30) := hwk_297.mem hq_122.1 hq_122.2 (by decide)
      have hq_314 : HID (q_56 ∈ Ln_291 ∧ Pn_292.kd q_56 = 12) := hwk_297.mem hq_123.1 hq_123.2 (by decide)
      have hA_315 : KEG [la, lb, lr, lp] L P Ln_291 Pn_292 := hA_124.trans hwk_297
      have hA_316 : KEG [la, lb, lr, lp] L6 P6 Ln_291 Pn_292 := hA_125.trans hwk_297
      have hA_317 : KEG [la, lb, lr, lp] L29 P29 Ln_291 Pn_292 := hA_126.trans hwk_297
      have hA_318 : KEG [la, lb, lr, lp] L134 P134 Ln_291 Pn_292 := (KEG.refl [la, lb, lr, lp] L134 P134).trans hwk_297
      have hlg_309 : LG9 (Pn_292.lz lr) (P134.lz lr) (e134_1_3) := hu_296.2.2.1.2.1.2
      have := hlg_309.le
      have := hu_296.2.2.1.2.1.1
      have := hu_296.2.2.2.2
      have : Pn_292.lz la = P134.lz la := hkl_298.1
      have : Pn_292.lz lb = P134.lz lb := hkl_299.1
      have : Pn_292.lz lp = P134.lz lp := hkl_300.1
      have hek_319 : HID (Pn_292.ek la = 12) := (by rw [hwk_297.ek hq_119.1 hq_119.2 (by decide)]; exact hek_127.out)
      have how_320 : HID (Pn_292.ow la = la) := ((hwk_297.1 la hq_119.1 (by rw [hq_119.2]; decide)).2.2.2.1 hq_119.2 how_128.out).1
      have hek_321 : HID (Pn_292.ek lb = 12) := (by rw [hwk_297.ek hq_120.1 hq_120.2 (by decide)]; exact hek_129.out)
      have how_322 : HID (Pn_292.ow lb = lb) := ((hwk_297.1 lb hq_120.1 (by rw [hq_120.2]; decide)).2.2.2.1 hq_120.2 how_130.out).1
      have hek_323 : HID (Pn_292.ek lr = 17) := (by rw [hwk_297.ek hq_121.1 hq_121.2 (by decide)]; exact hek_131.out)
      have how_324 : HID (Pn_292.ow lr = lr) := ((hwk_297.1 lr hq_121.1 (by rw [hq_121.2]; decide)).2.2.2.1 hq_121.2 how_132.out).1
      have hek_325 : HID (Pn_292.ek lp = 15) := (by rw [hwk_297.ek hq_122.1 hq_122.2 (by decide)]; exact hek_133.out)
      have how_326 : HID (Pn_292.ow lp = lp) := ((hwk_297.1 lp hq_122.1 (by rw [hq_122.2]; decide)).2.2.2.1 hq_122.2 how_134.out).1
      have hakq_327 : GLR Ln_291 Pn_292 cO cI cZ sx_ed := hu_296.2.1
      have hmq_328 : q_289 ∈ Ln_291 := hu_296.2.2.1.1.1
      have hkq_329 : Pn_292.kd q_289 = 17 := hu_296.2.2.1.1.2.1
      have heq_330 : Pn_292.ek q_289 ≠ 1 := hu_296.2.2.1.1.2.2
      have hdq_331 : DST Pn_292 lb := hds_306
      have hdq_332 : DSL Pn_292 lr := hfr_301.2
      have hdq_333 : DSL Pn_292 lp := hdl_307
      have hps := hu_296.2.2.2.2.2.2.2.1.1
      have hpc := hu_296.2.2.2.2.2.2.2.1.2
      have hlva_334 : LVA Ln_291 Pn_292 := hu_296.2.2.2.2.2.1
      have hlmt_335 : LMT Ln_291 Pn_292 la lb lr lp := LMT.row jm134 aP134 hakq_327 (show CLF L134 P134 la 12 from ⟨hq_119.1, hq_119.2, hek_127.out, how_128.out⟩) (show CLF L134 P134 lb 12 from ⟨hq_120.1, hq_120.2, hek_129.out, how_130.out⟩) (show CLF L134 P134 lr 17 from ⟨hq_121.1, hq_121.2, hek_131.out, how_132.out⟩) (show CLF L134 P134 lp 15 from ⟨hq_122.1, hq_122.2, hek_133.out, how_134.out⟩) hu_296.1 hu_296.2.2.1 hu_296.2.2.2.1 hu_296.2.2.2.2.2.2.2.2 (by omega) (by omega)
      have hnd_336 : Ln_291.Nodup := (by first | exact pl_nd hD | exact pl_nd (pl_leftD (pk_ascD hD)))
      have htp9 := hlmt_335.topS hnd_336 (hakq_327.lk (show CLF Ln_291 Pn_292 lb 12 from ⟨hq_311.1, hq_311.2, hek_321.out, how_322.out⟩)).2.2.1.1 (hakq_327.lk (show CLF Ln_291 Pn_292 lr 17 from ⟨hq_312.1, hq_312.2, hek_323.out, how_324.out⟩)).2.2.1.1 (hakq_327.lk (show CLF Ln_291 Pn_292 lp 15 from ⟨hq_313.1, hq_313.2, hek_325.out, how_326.out⟩)).2.2.1.1
      have htq9 := hlmt_335.topC hnd_336 (hakq_327.lk (show CLF Ln_291 Pn_292 lb 12 from ⟨hq_311.1, hq_311.2, hek_321.out, how_322.out⟩)).2.2.1.1 (hakq_327.lk (show CLF Ln_291 Pn_292 lr 17 from ⟨hq_312.1, hq_312.2, hek_323.out, how_324.out⟩)).2.2.1.1 (hakq_327.lk (show CLF Ln_291 Pn_292 lp 15 from ⟨hq_313.1, hq_313.2, hek_325.out, how_326.out⟩)).2.2.1.1
      have hxr0 : q_289 = Pn_292.el lr (OFS 2 PS lq (d6_2) + d134_5) := (by have q9 := hu_296.2.2.2.1.1; rw [show (e134_1_3 : Int) = OFS 2 PS lq (d6_2) + d134_5 from (by omega)] at q9; exact q9)
      skip
      refine lv_astore (lv' := [(6, .ref q_289), (0, .ref hc), (1, .ref hd), (2, .int (zI (d6_2))), (3, .ref xb_51), (4, .ref q_56), (5, .int (zI (d134_5)))]) hx hb dX13_copy_150 hl (by decide) rfl (fun ls hl => ?_)
      refine lv_aload hx hb dX13_copy_152 (lv_at hl 0 rfl) ?_
      refine lv_aload_n hx hb dX13_copy_154 rfl (lv_at hl 4 rfl) ?_
      replace hP := pk_sw hP
      replace hD := pk_swD hD
      obtain ⟨kp_337, hkp_337⟩ := pk_getA (T := va_pl Ln_291 (pE Pn_292)) (X := [(hd, .inr (12, [v18_0, v18_1, v18_2, v18_3, v18_4, .ref lq, v18_6])), (hc, .inr (12, [.ref lb, .ref lr, .ref lp, .int (zI (z0_290)), .int (zI (e29_1_4)), .ref la, .int (zI (z0_57))]))]) (f := pE PS) hB_53.1.1
      rw [pE_block hB_53.1.2] at hkp_337
      refine va_get (D := (dC, dI)) (ci := 19) (v := .ref (PS.br xb_51)) (C := RX12) (T := TX12) (N := 5) hx hb hts mem_P13_copyQ_4 hown hK hP kp_337 hkp_337 rfl 1 (by decide) (ow (k := 18) rfl) (fun _ h9 => h9) rfl dX13_copy_155 ?_
      obtain ⟨pr_338, epr_338⟩ : ∃ q9 : Nat, q9 = PS.br xb_51 := ⟨_, rfl⟩
      rw [← epr_338]
      obtain rfl : pr_137 = pr_338 := (by rw [epr_338]; exact epr_137.symm.symm)
      replace hP := pk_sw hP
      replace hD := pk_swD hD
      refine lv_iload hx hb dX13_copy_158 (lv_at hl 6 rfl) ?_
      replace hP := pk_sw hP
      replace hD := pk_swD hD
      have hPT := pk_asc hP
      have hDT := pk_ascD hD
      replace hP := pl_left hPT
      replace hD := pl_leftD hDT
      have hlk_339 := (show LOK LS PS cO 17 pr_137 from (by rw [← epr_137.symm]; exact (hX_s.inb hi_52).2.1))
      obtain ⟨x, ex⟩ : ∃ q9 : Nat, q9 = PS.el pr_137 (d134_5) := ⟨_, rfl⟩
      have hX_x := hlk_339.1
      have hX_k := hlk_339.2.1
      have hq9 := hlk_339.row (i := d134_5) (by omega) (by omega)
      have hX_q : PS.le pr_137 ∈ LS ∧ PS.kd (PS.le pr_137) = 31 ∧ PS.ac (PS.le pr_137) = cO := ⟨hq9.1, hq9.2.1, hq9.2.2.1⟩
      have hq8 := hq9.2.2.2
      have hX_e0 : PS.oa (PS.le pr_137) (d134_5).toNat = some x := (by rw [ex]; exact (hlk_339.2.2.2.2 (d134_5) (by omega) (by omega)).1)
      have hxm : x ∈ LS := (by rw [ex]; exact (hlk_339.2.2.2.2 (d134_5) (by omega) (by omega)).2.1)
      have hxk := (hlk_339.2.2.2.2 (d134_5) (by omega) (by omega)).2.2
      rw [← ex] at hxk
      have hPc := hP.part (X := [(hd, .inr (12, [v18_0, v18_1, v18_2, v18_3, v18_4, .ref lq, v18_6])), (hc, .inr (12, [.ref lb, .ref lr, .ref lp, .int (zI (z0_290)), .int (zI (e29_1_4)), .ref la, .int (zI (z0_57))]))]) (cx := []) (pl := va_pl LS (pE PS)) [] rfl
      have hDc := hD.part (X := [(hd, .inr (12, [v18_0, v18_1, v18_2, v18_3, v18_4, .ref lq, v18_6])), (hc, .inr (12, [.ref lb, .ref lr, .ref lp, .int (zI (z0_290)), .int (zI (e29_1_4)), .ref la, .int (zI (z0_57))]))]) (cx := []) (pl := va_pl LS (pE PS)) [] (by decide) rfl
      have hKc := hK.sub (tys' := [(cO, .object "java/lang/Object")]) [0] rfl
      have hFc := va_freeP (X := [(hd, .inr (12, [v18_0, v18_1, v18_2, v18_3, v18_4, .ref lq, v18_6])), (hc, .inr (12, [.ref lb, .ref lr, .ref lp, .int (zI (z0_290)), .int (zI (e29_1_4)), .ref la, .int (zI (z0_57))]))]) (cx := []) (pl := va_pl LS (pE PS)) hD hS hA [] rfl
      refine va_callr (va_runV (As := [.int (zI (d134_5))]) (rest := [.ref q_289]) ⟨hx, hb, hml, hown, hts⟩ (c_PL_get l dC dI cO LS PS pr_137 d134_5 x hX_x hX_k hX_q (by omega) hX_e0 H.size) (cwV 1 hts g_P13_copyQ_PL_get rfl rfl rfl (by decide +kernel) ⟨(Nat.le_of_ble_eq_true rfl), (Nat.le_of_ble_eq_true rfl)⟩) ⟨fun a U g mk q => by obtain ⟨q0, q1, qP, qK, qD⟩ := q; exact ⟨q0, q1, qP, va_K.moved (u := U) (U := U.calling g mk a) (Vm.Alike.refl U.vm) qK, qD⟩, recv_30 hKc hPc hlk_138.1 hlk_138.2.1, fun U hU hW => ⟨rfl, by rw [hU], by rw [hU]; exact hPc, va_K.moved hW.alike hKc, hDc.weaken (fun _ _ _ _ => trivial)⟩⟩ rfl rfl hl.1 rfl (lv_room (Nat.le_of_ble_eq_true rfl)) dX13_copy_160 ⟨(show ((kc134) + kc_293) + 0 ≤ (2000 + (8735704 - PSI wCE L P) / 40).toNat from (by omega)), (show ((ks134) + ks_294) + 0 ≤ (1990000 - PSI wSL L P).toNat from (by omega))⟩) hS (fun q _ h => hFc q h) hFc (fun u q_340 t H1 locs ht hvm hw hB hz1 hk1 hS => ?_)
      obtain ⟨hxt_340, hP1, hK1, hD1⟩ := hB
      rw [ht] at hP1
      have hK1 := va_K.moved hvm.symm hK1
      obtain ⟨hP, hD⟩ := va_joinPT (X := [(hd, .inr (12, [v18_0, v18_1, v18_2, v18_3, v18_4, .ref lq, v18_6])), (hc, .inr (12, [.ref lb, .ref lr, .ref lp, .int (zI (z0_290)), .int (zI (e29_1_4)), .ref la, .int (zI (z0_57))]))]) (cx := []) (wr := [(hd, .inr (12, [v18_0, v18_1, v18_2, v18_3, v18_4, .ref lq, v18_6])), (hc, .inr (12, [.ref lb, .ref lr, .ref lp, .int (zI (z0_290)), .int (zI (e29_1_4)), .ref la, .int (zI (z0_57))]))]) (rx := []) (pl := va_pl LS (pE PS)) (pl1 := va_pl LS (pE PS)) (T := va_pl Ln_291 (pE Pn_292)) hPT hDT [] [0, 1] rfl rfl (by decide) (by decide) hk1 hFc hP1 hD1
      replace hP := pk_back hP
      replace hD := pk_backD hD
      replace hK := (hK.sub (tys' := [(cI, .int), (cZ, .boolean)]) [1, 2] rfl).app hK1
      generalize H1 = H at hP hS ⊢
      clear hPc hDc hKc hFc hk1 hz1 hPT hDT
      replace hP : va_P (dC, dI) vwQ ([(hd, .inr (12, [v18_0, v18_1, v18_2, v18_3, v18_4, .ref lq, v18_6])), (hc, .inr (12, [.ref lb, .ref lr, .ref lp, .int (zI (z0_290)), .int (zI (e29_1_4)), .ref la, .int (zI (z0_57))]))] ++ (va_pl LS (pE PS) ++ va_pl Ln_291 (pE Pn_292))) H := hP
      replace hD : va_D A ([(hd, .inr (12, [v18_0, v18_1, v18_2, v18_3, v18_4, .ref lq, v18_6])), (hc, .inr (12, [.ref lb, .ref lr, .ref lp, .int (zI (z0_290)), .int (zI (e29_1_4)), .ref la, .int (zI (z0_57))]))] ++ (va_pl LS (pE PS) ++ va_pl Ln_291 (pE Pn_292))) := hD
      replace hK : va_K (dC, dI) vwQ [(cI, .int), (cZ, .boolean), (cO, .object "java/lang/Object")] s := hK
      refine W.widen (k := ((kc134) + kc_293)) (n := ((ks134) + ks_294)) (by omega) (by omega) ?_
      rw [hxt_340]
      clear hX_e0
      obtain ⟨xr_341, h9⟩ : ∃ q9 : Nat, q9 = x := ⟨_, rfl⟩
      subst h9
      have hm_342 := hxm
      have hk_343 := hxk
      have hE_344 : HID (PS.ek xr_341 ≠ 1) := (by rw [ex, ← epr_137.symm]; exact (hX_s.2.2.2.1 _ (hX_s.2.1.2.2.1 xb_51 hB_53.1.1 hB_53.1.2).1.2.2.1 (hX_s.2.1.2.2.1 xb_51 hB_53.1.1 hB_53.1.2).1.2.2.2).2.2 (hX_s.2.1.2.2.1 xb_51 hB_53.1.1 hB_53.1.2).1.1 _ (by omega) (by rw [epr_137.symm]; omega))
      replace hP := pk_sw hP
      replace hD := pk_swD hD
      have hrs : xr_341 = PS.el (PS.br (PS.el lq (d6_2))) (d134_5) := (by rw [← hx_54, epr_137.symm]; exact ex)
      replace hP := pk_sw hP
      replace hD := pk_swD hD
      refine va_castY (C := "SsaForgeModel$Row") (nm := "SsaForgeModel$Row") hx hb hown (ow (k := 32) rfl) hp12 (recv_17 hK (pk_A hP) hm_342 hk_343) dX13_copy_163 ?_
      replace hP := pk_sw hP
      replace hD := pk_swD hD
      have hrk9 := hX_s.rk9 hm_342 hk_343
      have ⟨hs1, hs2, hs3, hs4, hs5, hs6, hs7, hs8, hs9⟩ := hrk9
      have hPT := pl_Pp (pk_out (X := [(hd, .inr (12, [v18_0, v18_1, v18_2, v18_3, v18_4, .ref lq, v18_6])), (hc, .inr (12, [.ref lb, .ref lr, .ref lp, .int (zI (z0_290)), .int (zI (e29_1_4)), .ref la, .int (zI (z0_57))]))]) (a := va_pl Ln_291 (pE Pn_292)) (f := pE PS) hm_342) hP
      have hDT := pl_Dp (pk_out (X := [(hd, .inr (12, [v18_0, v18_1, v18_2, v18_3, v18_4, .ref lq, v18_6])), (hc, .inr (12, [.ref lb, .ref lr, .ref lp, .int (zI (z0_290)), .int (zI (e29_1_4)), .ref la, .int (zI (z0_57))]))]) (a := va_pl Ln_291 (pE Pn_292)) (f := pE PS) hm_342) hD
      rw [pE_row hk_343] at hPT hDT
      replace hP := pl_left hPT
      replace hD := pl_leftD hDT
      replace hP : va_P (dC, dI) vwQ ([(hd, .inr (12, [v18_0, v18_1, v18_2, v18_3, v18_4, .ref lq, v18_6])), (hc, .inr (12, [.ref lb, .ref lr, .ref lp, .int (zI (z0_290)), .int (zI (e29_1_4)), .ref la, .int (zI (z0_57))])), (xr_341, .inr (21, [.int (zI (PS.ro xr_341)), .int (zI (PS.rt xr_341)), .int (zI (PS.ra xr_341)), .int (zI (PS.rb xr_341)), .int (zI (PS.rA xr_341)), .int (zI (PS.rB xr_341)), .int (zI (PS.rg xr_341))]))] ++ va_pl Ln_291 (pE Pn_292)) H := hP
      replace hD : va_D A ([(hd, .inr (12, [v18_0, v18_1, v18_2, v18_3, v18_4, .ref lq, v18_6])), (hc, .inr (12, [.ref lb, .ref lr, .ref lp, .int (zI (z0_290)), .int (zI (e29_1_4)), .ref la, .int (zI (z0_57))])), (xr_341, .inr (21, [.int (zI (PS.ro xr_341)), .int (zI (PS.rt xr_341)), .int (zI (PS.ra xr_341)), .int (zI (PS.rb xr_341)), .int (zI (PS.rA xr_341)), .int (zI (PS.rB xr_341)), .int (zI (PS.rg xr_341))]))] ++ va_pl Ln_291 (pE Pn_292)) := hD
      have hX_x := hmq_328
      have hX_k := hkq_329
      have hPc := hP.part (X := [(hd, .inr (12, [v18_0, v18_1, v18_2, v18_3, v18_4, .ref lq, v18_6])), (hc, .inr (12, [.ref lb, .ref lr, .ref lp, .int (zI (z0_290)), .int (zI (e29_1_4)), .ref la, .int (zI (z0_57))])), (xr_341, .inr (21, [.int (zI (PS.ro xr_341)), .int (zI (PS.rt xr_341)), .int (zI (PS.ra xr_341)), .int (zI (PS.rb xr_341)), .int (zI (PS.rA xr_341)), .int (zI (PS.rB xr_341)), .int (zI (PS.rg xr_341))]))]) (cx := [(xr_341, .inr (21, [.int (zI (PS.ro xr_341)), .int (zI (PS.rt xr_341)), .int (zI (PS.ra xr_341)), .int (zI (PS.rb xr_341)), .int (zI (PS.rA xr_341)), .int (zI (PS.rB xr_341)), .int (zI (PS.rg xr_341))]))]) (pl := va_pl Ln_291 (pE Pn_292)) [2] rfl
      have hDc := hD.part (X := [(hd, .inr (12, [v18_0, v18_1, v18_2, v18_3, v18_4, .ref lq, v18_6])), (hc, .inr (12, [.ref lb, .ref lr, .ref lp, .int (zI (z0_290)), .int (zI (e29_1_4)), .ref la, .int (zI (z0_57))])), (xr_341, .inr (21, [.int (zI (PS.ro xr_341)), .int (zI (PS.rt xr_341)), .int (zI (PS.ra xr_341)), .int (zI (PS.rb xr_341)), .int (zI (PS.rA xr_341)), .int (zI (PS.rB xr_341)), .int (zI (PS.rg xr_341))]))]) (cx := [(xr_341, .inr (21, [.int (zI (PS.ro xr_341)), .int (zI (PS.rt xr_341)), .int (zI (PS.ra xr_341)), .int (zI (PS.rb xr_341)), .int (zI (PS.rA xr_341)), .int (zI (PS.rB xr_341)), .int (zI (PS.rg xr_341))]))]) (pl := va_pl Ln_291 (pE Pn_292)) [2] (by decide) rfl
      have hKc := hK.sub (tys' := [(cO, .object "java/lang/Object")]) [2] rfl
      have hFc := va_freeP (X := [(hd, .inr (12, [v18_0, v18_1, v18_2, v18_3, v18_4, .ref lq, v18_6])), (hc, .inr (12, [.ref lb, .ref lr, .ref lp, .int (zI (z0_290)), .int (zI (e29_1_4)), .ref la, .int (zI (z0_57))])), (xr_341, .inr (21, [.int (zI (PS.ro xr_341)), .int (zI (PS.rt xr_341)), .int (zI (PS.ra xr_341)), .int (zI (PS.rb xr_341)), .int (zI (PS.rA xr_341)), .int (zI (PS.rB xr_341)), .int (zI (PS.rg xr_341))]))]) (cx := [(xr_341, .inr (21, [.int (zI (PS.ro xr_341)), .int (zI (PS.rt xr_341)), .int (zI (PS.ra xr_341)), .int (zI (PS.rb xr_341)), .int (zI (PS.rA xr_341)), .int (zI (PS.rB xr_341)), .int (zI (PS.rg xr_341))]))]) (pl := va_pl Ln_291 (pE Pn_292)) hD hS hA [2] rfl
      refine va_callv (va_runV (As := [.ref xr_341]) (rest := []) ⟨hx, hb, hml, hown, hts⟩ (c_PR_putX l dC dI xr_341 (PS.ro xr_341) (PS.rt xr_341) (PS.ra xr_341) (PS.rb xr_341) (PS.rA xr_341) (PS.rB xr_341) (.int (zI (PS.rg xr_341))) cO Ln_291 Pn_292 q_289 (by omega) (by omega) (by omega) (by omega) (by omega) (by omega) hX_x hX_k H.size) (cwV 1 hts g_P13_copyQ_PR_putX rfl rfl rfl (by decide +kernel) ⟨(Nat.le_of_ble_eq_true rfl), (Nat.le_of_ble_eq_true rfl)⟩) ⟨fun a U g mk q => by obtain ⟨q0, q1, qP, qK, qD⟩ := q; exact ⟨q0, q1, qP, va_K.moved (u := U) (U := U.calling g mk a) (Vm.Alike.refl U.vm) qK, qD⟩, recv_17 hKc hPc hmq_328 hkq_329, fun U hU hW => ⟨rfl, by rw [hU], by rw [hU]; exact hPc, va_K.moved hW.alike hKc, hDc.weaken (fun _ _ _ _ => trivial)⟩⟩ rfl rfl hl.1 rfl (lv_room (Nat.le_of_ble_eq_true rfl)) dX13_copy_166 ⟨(show ((kc134) + kc_293) + 0 ≤ (2000 + (8735704 - PSI wCE L P) / 40).toNat from (by omega)), (show ((ks134) + ks_294) + 0 ≤ (1990000 - PSI wSL L P).toNat from (by omega))⟩) hS (fun q _ h => hFc q h) hFc (fun  u t H1 locs ht hvm hw hB hz1 hk1 hS => ?_)
      obtain ⟨Pn_345, hxt_345, hP1, hK1, hD1⟩ := hB
      rw [ht] at hP1
      have hK1 := va_K.moved hvm.symm hK1
      obtain ⟨hP, hD⟩ := va_joinPT (X := [(hd, .inr (12, [v18_0, v18_1, v18_2, v18_3, v18_4, .ref lq, v18_6])), (hc, .inr (12, [.ref lb, .ref lr, .ref lp, .int (zI (z0_290)), .int (zI (e29_1_4)), .ref la, .int (zI (z0_57))])), (xr_341, .inr (21, [.int (zI (PS.ro xr_341)), .int (zI (PS.rt xr_341)), .int (zI (PS.ra xr_341)), .int (zI (PS.rb xr_341)), .int (zI (PS.rA xr_341)), .int (zI (PS.rB xr_341)), .int (zI (PS.rg xr_341))]))]) (cx := [(xr_341, .inr (21, [.int (zI (PS.ro xr_341)), .int (zI (PS.rt xr_341)), .int (zI (PS.ra xr_341)), .int (zI (PS.rb xr_341)), .int (zI (PS.rA xr_341)), .int (zI (PS.rB xr_341)), .int (zI (PS.rg xr_341))]))]) (wr := [(hd, .inr (12, [v18_0, v18_1, v18_2, v18_3, v18_4, .ref lq, v18_6])), (hc, .inr (12, [.ref lb, .ref lr, .ref lp, .int (zI (z0_290)), .int (zI (e29_1_4)), .ref la, .int (zI (z0_57))]))]) (rx := [(xr_341, .inr (21, [.int (zI (PS.ro xr_341)), .int (zI (PS.rt xr_341)), .int (zI (PS.ra xr_341)), .int (zI (PS.rb xr_341)), .int (zI (PS.rA xr_341)), .int (zI (PS.rB xr_341)), .int (zI (PS.rg xr_341))]))]) (pl := va_pl Ln_291 (pE Pn_292)) (pl1 := va_pl Ln_291 (pE Pn_345)) (T := va_pl (LS.erase xr_341) (pE PS)) hPT hDT [2] [0, 1] rfl rfl (by decide) (by decide) hk1 hFc hP1 hD1
      replace hP := pl_Pp (pk_out (X := [(hd, .inr (12, [v18_0, v18_1, v18_2, v18_3, v18_4, .ref lq, v18_6])), (hc, .inr (12, [.ref lb, .ref lr, .ref lp, .int (zI (z0_290)), .int (zI (e29_1_4)), .ref la, .int (zI (z0_57))]))]) (a := va_pl Ln_291 (pE Pn_345)) (f := pE PS) hm_342).symm (by rw [pE_row hk_343]; exact hP)
      replace hD := pl_Dp (pk_out (X := [(hd, .inr (12, [v18_0, v18_1, v18_2, v18_3, v18_4, .ref lq, v18_6])), (hc, .inr (12, [.ref lb, .ref lr, .ref lp, .int (zI (z0_290)), .int (zI (e29_1_4)), .ref la, .int (zI (z0_57))]))]) (a := va_pl Ln_291 (pE Pn_345)) (f := pE PS) hm_342).symm (by rw [pE_row hk_343]; exact hD)
      replace hK := (hK.sub (tys' := [(cI, .int), (cZ, .boolean)]) [0, 1] rfl).app hK1
      generalize H1 = H at hP hS ⊢
      clear hPc hDc hKc hFc hk1 hz1 hPT hDT
      replace hP : va_P (dC, dI) vwQ ([(hd, .inr (12, [v18_0, v18_1, v18_2, v18_3, v18_4, .ref lq, v18_6])), (hc, .inr (12, [.ref lb, .ref lr, .ref lp, .int (zI (z0_290)), .int (zI (e29_1_4)), .ref la, .int (zI (z0_57))]))] ++ (va_pl Ln_291 (pE Pn_345) ++ va_pl LS (pE PS))) H := hP
      replace hD : va_D A ([(hd, .inr (12, [v18_0, v18_1, v18_2, v18_3, v18_4, .ref lq, v18_6])), (hc, .inr (12, [.ref lb, .ref lr, .ref lp, .int (zI (z0_290)), .int (zI (e29_1_4)), .ref la, .int (zI (z0_57))]))] ++ (va_pl Ln_291 (pE Pn_345) ++ va_pl LS (pE PS))) := hD
      replace hK : va_K (dC, dI) vwQ [(cI, .int), (cZ, .boolean), (cO, .object "java/lang/Object")] s := hK
      refine W.widen (k := ((kc134) + kc_293)) (n := ((ks134) + ks_294)) (by omega) (by omega) ?_
      have hu_346 := HID.mk (hxt_345)
      replace hxt_345 := HID.mk hxt_345
      have hk0_347 := RW1.kegR (E := []) (la := la) hu_346.1 Ln_291 hq_310.2 (by rw [hkq_329]; decide)
      have hwk_348 := RW1.kegR (E := [la, lb, lr, lp]) (la := la) hu_346.1 Ln_291 hq_310.2 (by rw [hkq_329]; decide)
      have hcw_349 : CRW Pn_345 q_289 PS xr_341 := ⟨hu_346.2.1, hu_346.2.2.1, hu_346.2.2.2.1, hu_346.2.2.2.2.1, hu_346.2.2.2.2.2.1, hu_346.2.2.2.2.2.2.1⟩
      have hkl_351 := hk0_347.lst (show CLF Ln_291 Pn_292 la 12 from ⟨hq_310.1, hq_310.2, hek_319.out, how_320.out⟩) (by simp)
      have hkl_352 := hk0_347.lst (show CLF Ln_291 Pn_292 lb 12 from ⟨hq_311.1, hq_311.2, hek_321.out, how_322.out⟩) (by simp)
      have hkl_353 := hk0_347.lst (show CLF Ln_291 Pn_292 lr 17 from ⟨hq_312.1, hq_312.2, hek_323.out, how_324.out⟩) (by simp)
      have hkl_354 := hk0_347.lst (show CLF Ln_291 Pn_292 lp 15 from ⟨hq_313.1, hq_313.2, hek_325.out, how_326.out⟩) (by simp)
      have hak_350 : GLR Ln_291 Pn_345 cO cI cZ sx_ed := hakq_327.row hu_346.1 hkq_329 ((hX_s.rok hm_342 hk_343).cpR hcw_349 hu_346.2.2.2.2.2.2.2) (fun e9 => by rw [hcw_349.1]; exact hX_s.op21 hm_342 hk_343 hE_344.out)
      have hns_355 := hns_oneR (i := d6_2 + 1) (n := OFS 2 PS lq (d6_2) + d134_5) (p := OFS 1 PS lq (d6_2) + d29_5) (x := q_289) hakq_327 (hakq_327.lk (show CLF Ln_291 Pn_292 lb 12 from ⟨hq_311.1, hq_311.2, hek_321.out, how_322.out⟩)) (hakq_327.lk (show CLF Ln_291 Pn_292 lr 17 from ⟨hq_312.1, hq_312.2, hek_323.out, how_324.out⟩)) hek_323.out (hakq_327.lk (show CLF Ln_291 Pn_292 lp 15 from ⟨hq_313.1, hq_313.2, hek_325.out, how_326.out⟩)) (by omega) (by omega) (by omega) (Or.inl ⟨hkq_329, heq_330, fun k9 k0 k1 e9 => hdq_332 k9 (OFS 2 PS lq (d6_2) + d134_5) k0 (by omega) (by omega) (by rw [← hxr0]; exact e9.symm)⟩)
      have hci_356 : CPI Pn_345 PS lb lr lp lq (d6_2) (OFS 2 PS lq (d6_2) + d134_5) (OFS 1 PS lq (d6_2) + d29_5) := hci_303.frR hakq_327 (hu_346.1.chg _).c8 (hakq_327.lk (show CLF Ln_291 Pn_292 lb 12 from ⟨hq_311.1, hq_311.2, hek_321.out, how_322.out⟩)) (hakq_327.lk (show CLF Ln_291 Pn_292 lr 17 from ⟨hq_312.1, hq_312.2, hek_323.out, how_324.out⟩)) (hakq_327.lk (show CLF Ln_291 Pn_292 lp 15 from ⟨hq_313.1, hq_313.2, hek_325.out, how_326.out⟩)) (by omega) (by omega) (by omega) hLn1 hLn2 (by omega) (fun k9 k0 k1 => hkl_352.2 k9 k0 (by omega)) (fun k9 k0 k1 => hkl_353.2 k9 k0 (by omega)) (fun k9 k0 k1 => hkl_354.2 k9 k0 (by omega)) (hns_355.wk (by omega) (by omega) (by omega))
      have hcu_357 : CUR Pn_345 PS lb lr lp lq (d6_2) (d29_5) (d134_5) := hcu_304.rw1R hu_346.1 hakq_327 (show CLF Ln_291 Pn_292 lb 12 from ⟨hq_311.1, hq_311.2, hek_321.out, how_322.out⟩) (by omega) (by omega) (by rw [hkq_329]; decide)
      have hyb_358 : q_56 = Pn_345.el lb (d6_2) := hyb_305.trans (hkl_352.2 (d6_2) (by omega) (by omega)).symm
      have hds_359 := hdq_331.kegR hakq_327 ⟨hq_311.1, hq_311.2, hek_321.out, how_322.out⟩ hk0_347 (by simp)
      have hdl_360 := hdq_332.same hkl_353.1 hkl_353.2
      have hdl_361 := hdq_333.same hkl_354.1 hkl_354.2
      have hal_362 : ∀ b : Int, 0 ≤ b → b < Pn_345.lz la → Pn_345.el la b = Pn_345.el lb b := (fun b b0 b1 => by rw [hkl_351.1] at b1; rw [hkl_351.2 b b0 b1, hkl_352.2 b b0 (by omega)]; exact hal_308 b b0 b1)
      have hxi_363 : q_289 = Pn_345.el lr (OFS 2 PS lq (d6_2) + d134_5) := hxr0.trans (hkl_353.2 (OFS 2 PS lq (d6_2) + d134_5) (by omega) (by omega)).symm
      have hq_364 : HID (la ∈ Ln_291 ∧ Pn_345.kd la = 30) := hwk_348.mem hq_310.1 hq_310.2 (by decide)
      have hq_365 : HID (lb ∈ Ln_291 ∧ Pn_345.kd lb = 30) := hwk_348.mem hq_311.1 hq_311.2 (by decide)
      have hq_366 : HID (lr ∈ Ln_291 ∧ Pn_345.kd lr = 30) := hwk_348.mem hq_312.1 hq_312.2 (by decide)
      have hq_367 : HID (lp ∈ Ln_291 ∧ Pn_345.kd lp = 30) := hwk_348.mem hq_313.1 hq_313.2 (by decide)
      have hq_368 : HID (q_56 ∈ Ln_291 ∧ Pn_345.kd q_56 = 12) := hwk_348.mem hq_314.1 hq_314.2 (by decide)
      have hq_369 : HID (q_289 ∈ Ln_291 ∧ Pn_345.kd q_289 = 17) := hwk_348.mem hmq_328 hkq_329 (by decide)
      have hE_370 : HID (Pn_345.ek q_289 ≠ 1) := (by rw [hwk_348.ek hmq_328 hkq_329 (by decide)]; exact heq_330)
      have hA_371 : KEG [la, lb, lr, lp] L P Ln_291 Pn_345 := hA_315.trans hwk_348
      have hA_372 : KEG [la, lb, lr, lp] L6 P6 Ln_291 Pn_345 := hA_316.trans hwk_348
      have hA_373 : KEG [la, lb, lr, lp] L29 P29 Ln_291 Pn_345 := hA_317.trans hwk_348
      have hA_374 : KEG [la, lb, lr, lp] L134 P134 Ln_291 Pn_345 := hA_318.trans hwk_348
      have : Pn_345.lz la = Pn_292.lz la := hkl_351.1
      have : Pn_345.lz lb = Pn_292.lz lb := hkl_352.1
      have : Pn_345.lz lr = Pn_292.lz lr := hkl_353.1
      have : Pn_345.lz lp = Pn_292.lz lp := hkl_354.1
      have hek_375 : HID (Pn_345.ek la = 12) := (by rw [hwk_348.ek hq_310.1 hq_310.2 (by decide)]; exact hek_319.out)
      have how_376 : HID (Pn_345.ow la = la) := ((hwk_348.1 la hq_310.1 (by rw [hq_310.2]; decide)).2.2.2.1 hq_310.2 how_320.out).1
      have hek_377 : HID (Pn_345.ek lb = 12) := (by rw [hwk_348.ek hq_311.1 hq_311.2 (by decide)]; exact hek_321.out)
      have how_378 : HID (Pn_345.ow lb = lb) := ((hwk_348.1 lb hq_311.1 (by rw [hq_311.2]; decide)).2.2.2.1 hq_311.2 how_322.out).1
      have hek_379 : HID (Pn_345.ek lr = 17) := (by rw [hwk_348.ek hq_312.1 hq_312.2 (by decide)]; exact hek_323.out)
      have how_380 : HID (Pn_345.ow lr = lr) := ((hwk_348.1 lr hq_312.1 (by rw [hq_312.2]; decide)).2.2.2.1 hq_312.2 how_324.out).1
      have hek_381 : HID (Pn_345.ek lp = 15) := (by rw [hwk_348.ek hq_313.1 hq_313.2 (by decide)]; exact hek_325.out)
      have how_382 : HID (Pn_345.ow lp = lp) := ((hwk_348.1 lp hq_313.1 (by rw [hq_313.2]; decide)).2.2.2.1 hq_313.2 how_326.out).1
      have hps := PSI.same (w := wSL) (L := Ln_291) (congrArg Prod.fst hu_346.1.1)
      have hpc := PSI.same (w := wCE) (L := Ln_291) (congrArg Prod.fst hu_346.1.1)
      have hlva_383 : LVA Ln_291 Pn_345 := LVA.same hlva_334 (congrArg Prod.fst hu_346.1.1)
      have hlmt_384 : LMT Ln_291 Pn_345 la lb lr lp := LMT.rwk hlmt_335 hu_346.1 (Or.inl hkq_329)
      have hci5 : CPI Pn_345 PS lb lr lp lq (d6_2) (OFS 2 PS lq (d6_2) + d134_5 + 1) (OFS 1 PS lq (d6_2) + d29_5) := hci_356.row hLn2 (by omega) (by omega) (by omega) (by omega) rfl (by rw [← hxi_363, ← hrs]; exact hcw_349)
      skip
      refine lv_aload hx hb dX13_copy_169 (lv_at hl 5 rfl) ?_
      have hfb := (hak_350.gb hq_368.1 hq_368.2).2
      obtain ⟨kp_385, hkp_385⟩ := pk_getA (T := va_pl LS (pE PS)) (X := [(hd, .inr (12, [v18_0, v18_1, v18_2, v18_3, v18_4, .ref lq, v18_6])), (hc, .inr (12, [.ref lb, .ref lr, .ref lp, .int (zI (z0_290)), .int (zI (e29_1_4)), .ref la, .int (zI (z0_57))]))]) (f := pE Pn_345) hq_368.1
      rw [pE_block hq_368.2] at hkp_385
      refine va_get (D := (dC, dI)) (ci := 19) (v := .ref (Pn_345.br q_56)) (C := RX12) (T := TX12) (N := 5) hx hb hts mem_P13_copyQ_4 hown hK hP kp_385 hkp_385 rfl 1 (by decide) (ow (k := 18) rfl) (fun _ h9 => h9) rfl dX13_copy_171 ?_
      obtain ⟨pr_386, epr_386⟩ : ∃ q9 : Nat, q9 = Pn_345.br q_56 := ⟨_, rfl⟩
      rw [← epr_386]
      have hlk_387 : LOK Ln_291 Pn_345 cO 17 pr_386 := (by rw [epr_386]; exact hak_350.lbr hq_368.1 hq_368.2)
      have hlz9 := hlk_387.2.2.1
      have hek_388 : HID (Pn_345.ek pr_386 = 17) := (by rw [epr_386]; exact (hak_350.owc q_56 hq_368.1 hq_368.2).1.1)
      refine lv_aload hx hb dX13_copy_174 (lv_at hl 0 rfl) ?_
      have hPT := pk_asc hP
      have hDT := pk_ascD hD
      replace hP := pl_left hPT
      replace hD := pl_leftD hDT
      have hlz21 : Pn_345.lz pr_386 = d134_5 := (by have q9 := hcu_357.2.1; rw [← hyb_358, epr_386.symm] at q9; exact q9)
      have hlk_389 := (show LOK Ln_291 Pn_345 cO 17 pr_386 from (by rw [← epr_386.symm]; exact hak_350.lbr hq_368.1 hq_368.2))
      have hX_x := hlk_389.1
      have hX_k := hlk_389.2.1
      have hlz9 := hlk_389.2.2.1
      have hX_c := hak_350.adc hlk_389
      have hX_y : q_289 ∈ Ln_291 ∧ OBK (Pn_345.kd q_289) := ⟨hq_369.1, (by rw [hq_369.2]; unfold OBK; decide)⟩
      have hvv_390 := hlva_383 pr_386 hlk_389.1 hlk_389.2.1
      have hX_v := hvv_390.1
      have hnd_391 : Ln_291.Nodup := (by first | exact pl_nd hD | exact pl_nd (pl_leftD (pk_ascD hD)))
      have had_392 := hX_c
      have hPc := hP.part (X := [(hd, .inr (12, [v18_0, v18_1, v18_2, v18_3, v18_4, .ref lq, v18_6])), (hc, .inr (12, [.ref lb, .ref lr, .ref lp, .int (zI (z0_290)), .int (zI (e29_1_4)), .ref la, .int (zI (z0_57))]))]) (cx := []) (pl := va_pl Ln_291 (pE Pn_345)) [] rfl
      have hDc := hD.part (X := [(hd, .inr (12, [v18_0, v18_1, v18_2, v18_3, v18_4, .ref lq, v18_6])), (hc, .inr (12, [.ref lb, .ref lr, .ref lp, .int (zI (z0_290)), .int (zI (e29_1_4)), .ref la, .int (zI (z0_57))]))]) (cx := []) (pl := va_pl Ln_291 (pE Pn_345)) [] (by decide) rfl
      have hKc := hK.sub (tys' := [(cO, .object "java/lang/Object")]) [2] rfl
      have hFc := va_freeP (X := [(hd, .inr (12, [v18_0, v18_1, v18_2, v18_3, v18_4, .ref lq, v18_6])), (hc, .inr (12, [.ref lb, .ref lr, .ref lp, .int (zI (z0_290)), .int (zI (e29_1_4)), .ref la, .int (zI (z0_57))]))]) (cx := []) (pl := va_pl Ln_291 (pE Pn_345)) hD hS hA [] rfl
      have hgl := ADC.gl6 hX_c (by omega)
      refine va_calli (va_runV (As := [.ref q_289]) (rest := []) ⟨hx, hb, hml, hown, hts⟩ (c_PL_addAX l dC dI cO Ln_291 Pn_345 pr_386 q_289 sx_ed hX_x hX_k (by omega) hX_c hX_y hX_v H.size sx_mi) (cwV 1 hts g_P13_copyQ_PL_addAX rfl rfl rfl (by decide +kernel) ⟨(Nat.le_of_ble_eq_true rfl), (Nat.le_of_ble_eq_true rfl)⟩) ⟨fun a U g mk q => by obtain ⟨q0, q1, qP, qK, qD, e0, e1, e2, e3, e4, e5, e6, e7⟩ := q; exact ⟨q0, q1, qP, va_K.moved (u := U) (U := U.calling g mk a) (Vm.Alike.refl U.vm) qK, qD, va_Nw.same rfl (u := U) (U := U.calling g mk a) rfl e0, va_Nw.same rfl (u := U) (U := U.calling g mk a) rfl e1, va_Nw.same rfl (u := U) (U := U.calling g mk a) rfl e2, va_Dc.moved (u := U) (U := U.calling g mk a) (Vm.Alike.refl U.vm) e3, va_Mi.moved (u := U) (U := U.calling g mk a) (Vm.Alike.refl U.vm) e4, va_AO.moved (u := U) (U := U.calling g mk a) (Vm.Alike.refl U.vm) e5, va_T.moved (u := U) (U := U.calling g mk a) (Vm.Alike.refl U.vm) e6, va_Z.moved (u := U) (U := U.calling g mk a) (Vm.Alike.refl U.vm) e7⟩, recv_30 hKc hPc hlk_387.1 hlk_387.2.1, fun U hU hW => ⟨rfl, by rw [hU], by rw [hU]; exact hPc, va_K.moved hW.alike hKc, hDc.weaken (fun _ _ _ _ => trivial), va_Nw.warmC hW hp2, va_Nw.warmC hW hp3, va_Nw.warmC hW hp4, va_Dc.moved hW.alike hp5, va_Mi.moved hW.alike hp6, va_AO.moved hW.alike hp7, by rw [hU]; exact va_T.narrow (va_T.moved hW.alike (va_T.kept hp8 hS.2.1)) hFc, by rw [hU]; exact va_Z.narrow (va_Z.moved hW.alike (va_Z.kept hp9 hS.2.1)) hFc⟩⟩ rfl rfl hl.1 rfl (lv_room (Nat.le_of_ble_eq_true rfl)) dX13_copy_176 ⟨(show ((kc134) + kc_293) + (Pn_345.gc pr_386) ≤ (2000 + (8735704 - PSI wCE L P) / 40).toNat from (by omega)), (show ((ks134) + ks_294) + (Pn_345.gx pr_386) ≤ (1990000 - PSI wSL L P).toNat from (by omega))⟩) hS (fun q _ h => hFc q h) hFc (fun r_393 z_394 t H1 locs ht hvm hw hB hz1 hk1 hS => ?_)
      obtain ⟨Ln_395, Pn_396, hxt_396, hP1, hK1, hD1⟩ := hB
      rw [ht] at hP1
      have hK1 := va_K.moved hvm.symm hK1
      obtain ⟨hP, hD⟩ := va_joinPT (X := [(hd, .inr (12, [v18_0, v18_1, v18_2, v18_3, v18_4, .ref lq, v18_6])), (hc, .inr (12, [.ref lb, .ref lr, .ref lp, .int (zI (z0_290)), .int (zI (e29_1_4)), .ref la, .int (zI (z0_57))]))]) (cx := []) (wr := [(hd, .inr (12, [v18_0, v18_1, v18_2, v18_3, v18_4, .ref lq, v18_6])), (hc, .inr (12, [.ref lb, .ref lr, .ref lp, .int (zI (z0_290)), .int (zI (e29_1_4)), .ref la, .int (zI (z0_57))]))]) (rx := []) (pl := va_pl Ln_291 (pE Pn_345)) (pl1 := va_pl Ln_395 (pE Pn_396)) (T := va_pl LS (pE PS)) hPT hDT [] [0, 1] rfl rfl (by decide) (by decide) hk1 hFc hP1 hD1
      replace hP := pk_back hP
      replace hD := pk_backD hD
      replace hK := (hK.sub (tys' := [(cI, .int), (cZ, .boolean)]) [0, 1] rfl).app hK1
      generalize H1 = H at hP hS ⊢
      clear hPc hDc hKc hFc hk1 hz1 hPT hDT
      replace hP : va_P (dC, dI) vwQ ([(hd, .inr (12, [v18_0, v18_1, v18_2, v18_3, v18_4, .ref lq, v18_6])), (hc, .inr (12, [.ref lb, .ref lr, .ref lp, .int (zI (z0_290)), .int (zI (e29_1_4)), .ref la, .int (zI (z0_57))]))] ++ (va_pl Ln_395 (pE Pn_396) ++ va_pl LS (pE PS))) H := hP
      replace hD : va_D A ([(hd, .inr (12, [v18_0, v18_1, v18_2, v18_3, v18_4, .ref lq, v18_6])), (hc, .inr (12, [.ref lb, .ref lr, .ref lp, .int (zI (z0_290)), .int (zI (e29_1_4)), .ref la, .int (zI (z0_57))]))] ++ (va_pl Ln_395 (pE Pn_396) ++ va_pl LS (pE PS))) := hD
      replace hK : va_K (dC, dI) vwQ [(cI, .int), (cZ, .boolean), (cO, .object "java/lang/Object")] s := hK
      refine W.widen (k := (((kc134) + kc_293) + (Pn_345.gc pr_386))) (n := (((ks134) + ks_294) + (Pn_345.gx pr_386))) (by omega) (by omega) ?_
      obtain ⟨rfl, hzz_394⟩ := hw
      have hu_397 := HID.mk (hxt_396)
      replace hxt_396 := HID.mk hxt_396
      have hfx := hu_397.2.2.2.2.2.2.2
      have hk0_398 : KEG [] Ln_291 Pn_345 Ln_395 Pn_396 := hu_397.1.kegR hak_350 hlk_387.1 hlk_387.2.1 hfx (Or.inl (fun e9 => kd_ne hq_368.2 hlk_387.2.1 (by decide) (show q_56 = pr_386 from (by have q9 := (hak_350.owc q_56 hq_368.1 hq_368.2).1.2.1; rw [epr_386.symm, e9] at q9; exact q9.symm))))
      have hwk_399 : KEG [la, lb, lr, lp] Ln_291 Pn_345 Ln_395 Pn_396 := hu_397.1.kegR hak_350 hlk_387.1 hlk_387.2.1 hfx (Or.inl (fun e9 => kd_ne hq_368.2 hlk_387.2.1 (by decide) (show q_56 = pr_386 from (by have q9 := (hak_350.owc q_56 hq_368.1 hq_368.2).1.2.1; rw [epr_386.symm, e9] at q9; exact q9.symm))))
      have hlz20 : Pn_345.lz pr_386 = d134_5 := (by have q9 := hcu_357.2.1; rw [← hyb_358, epr_386.symm] at q9; exact q9)
      have hak_400 : GLR Ln_395 Pn_396 cO cI cZ sx_ed := hak_350.add hu_397.1 hlk_387.1 hlk_387.2.1 hfx hek_388.out hq_369.1 hq_369.2 hu_397.2.1 (by omega) hu_397.2.2.1 hu_397.2.2.2.1.1 (by have q9 := hak_350.adc40 hlk_389; have q8 := hu_397.2.2.2.1; omega) hu_397.2.2.2.2.1 hu_397.2.2.2.2.2.1 hu_397.2.2.2.2.2.2.1 (fun _ => hE_370.out)
      have hkl_401 := hk0_398.lst (show CLF Ln_291 Pn_345 la 12 from ⟨hq_364.1, hq_364.2, hek_375.out, how_376.out⟩) (by simp)
      have hkl_402 := hk0_398.lst (show CLF Ln_291 Pn_345 lb 12 from ⟨hq_365.1, hq_365.2, hek_377.out, how_378.out⟩) (by simp)
      have hkl_403 := hk0_398.lst (show CLF Ln_291 Pn_345 lr 17 from ⟨hq_366.1, hq_366.2, hek_379.out, how_380.out⟩) (by simp)
      have hkl_404 := hk0_398.lst (show CLF Ln_291 Pn_345 lp 15 from ⟨hq_367.1, hq_367.2, hek_381.out, how_382.out⟩) (by simp)
      have how9 : Pn_345.ow pr_386 = q_56 := (by have q9 := (hak_350.owc q_56 hq_368.1 hq_368.2).1.2.1; rw [epr_386.symm] at q9; exact q9)
      have hns_405 := hns_addR (i := d6_2) (n := OFS 2 PS lq (d6_2) + d134_5 + 1) (p := OFS 1 PS lq (d6_2) + d29_5) hak_350 (hak_350.lk (show CLF Ln_291 Pn_345 lb 12 from ⟨hq_365.1, hq_365.2, hek_377.out, how_378.out⟩)) (hak_350.lk (show CLF Ln_291 Pn_345 lr 17 from ⟨hq_366.1, hq_366.2, hek_379.out, how_380.out⟩)) hek_379.out (hak_350.lk (show CLF Ln_291 Pn_345 lp 15 from ⟨hq_367.1, hq_367.2, hek_381.out, how_382.out⟩)) (by omega) (by omega) (by omega) hlk_387.2.1 how9 (fun b9 b0 b1 e9 => (hds_359 b9 (d6_2) b0 (by omega) (by omega)).1 (by rw [← hyb_358]; exact e9.symm))
      have hci_406 : CPI Pn_396 PS lb lr lp lq (d6_2) (OFS 2 PS lq (d6_2) + d134_5 + 1) (OFS 1 PS lq (d6_2) + d29_5) := hci5.frR hak_350 (hu_397.1.chgo hak_350.owa hlk_387.1 hlk_387.2.1 hfx).c8 (hak_350.lk (show CLF Ln_291 Pn_345 lb 12 from ⟨hq_365.1, hq_365.2, hek_377.out, how_378.out⟩)) (hak_350.lk (show CLF Ln_291 Pn_345 lr 17 from ⟨hq_366.1, hq_366.2, hek_379.out, how_380.out⟩)) (hak_350.lk (show CLF Ln_291 Pn_345 lp 15 from ⟨hq_367.1, hq_367.2, hek_381.out, how_382.out⟩)) (by omega) (by omega) (by omega) hLn1 hLn2 (by omega) (fun k9 k0 k1 => hkl_402.2 k9 k0 (by omega)) (fun k9 k0 k1 => hkl_403.2 k9 k0 (by omega)) (fun k9 k0 k1 => hkl_404.2 k9 k0 (by omega)) hns_405
      have hob9 : Pn_396.lz (Pn_345.bp q_56) = Pn_345.lz (Pn_345.bp q_56) ∧ ∀ k : Int, 0 ≤ k → k < Pn_345.lz (Pn_345.bp q_56) → Pn_396.el (Pn_345.bp q_56) k = Pn_345.el (Pn_345.bp q_56) k := (by have o9 := hak_350.owc q_56 hq_368.1 hq_368.2; have q9 := (hu_397.1.chgo hak_350.owa hlk_387.1 hlk_387.2.1 hfx).c8.lst hak_350.owa o9.2.2.2.1 o9.2.2.2.2 (fun e9 => by rcases e9 with e9 | e9; (have w9 := o9.2.1; rw [e9, hek_388.out] at w9; have v9 := o9.2.1; omega); (have v9 := o9.2.2.2.2; have w9 := e9.1; omega)) (fun f9 e9 => by have r9 := (hak_350.owa _ o9.2.2.2.1 o9.2.2.2.2).2 f9; rcases e9 with e9 | e9; (have w9 := r9.2.1; rw [e9, hlk_387.2.1] at w9; omega); (have w9 := e9.2; rw [r9.2.2.1] at w9; have v9 := o9.2.1; rw [w9, hek_388.out] at v9; have z9 := o9.2.1; omega)); exact ⟨q9.1, q9.2.1⟩)
      have hli9 : Pn_396.lz (Pn_345.br q_56) = Pn_345.lz (Pn_345.br q_56) + 1 ∧ (∀ k : Int, 0 ≤ k → k < Pn_345.lz (Pn_345.br q_56) → Pn_396.el (Pn_345.br q_56) k = Pn_345.el (Pn_345.br q_56) k) ∧ Pn_396.el (Pn_345.br q_56) (Pn_345.lz (Pn_345.br q_56)) = q_289 := (by rw [epr_386.symm]; exact ⟨hu_397.2.1, fun k k0 k1 => hu_397.1.elx hu_397.2.2.2.2.2.2.1 k0 k1, hu_397.1.elast hu_397.2.2.2.2.2.1⟩)
      have hb29 := hk0_398.2 q_56 hq_368.1 hq_368.2
      rw [hyb_358] at hob9 hli9 hb29
      have hcu_407 : CUR Pn_396 PS lb lr lp lq (d6_2) (d29_5) (d134_5 + 1) := hcu_357.addr (hkl_402.2 (d6_2) (by omega) (by omega)) hb29.1 hb29.2.1 (by omega) (by omega) (by omega) hob9 hli9 (fun k9 k0 k1 => hkl_403.2 k9 k0 (by omega)) (fun k9 k0 k1 => hkl_404.2 k9 k0 (by omega)) (hxi_363.trans (by rw [hkl_403.2 (OFS 2 PS lq (d6_2) + d134_5) (by omega) (by omega)]))
      have hyb_408 : q_56 = Pn_396.el lb (d6_2) := hyb_358.trans (hkl_402.2 (d6_2) (by omega) (by omega)).symm
      have hds_409 := hds_359.kegR hak_350 ⟨hq_365.1, hq_365.2, hek_377.out, how_378.out⟩ hk0_398 (by simp)
      have hdl_410 := hdl_360.same hkl_403.1 hkl_403.2
      have hdl_411 := hdl_361.same hkl_404.1 hkl_404.2
      have hal_412 : ∀ b : Int, 0 ≤ b → b < Pn_396.lz la → Pn_396.el la b = Pn_396.el lb b := (fun b b0 b1 => by rw [hkl_401.1] at b1; rw [hkl_401.2 b b0 b1, hkl_402.2 b b0 (by omega)]; exact hal_362 b b0 b1)
      have hxi_413 : q_289 = Pn_396.el lr (OFS 2 PS lq (d6_2) + d134_5) := hxi_363.trans (hkl_403.2 (OFS 2 PS lq (d6_2) + d134_5) (by omega) (by omega)).symm
      have hq_414 : HID (la ∈ Ln_395 ∧ Pn_396.kd la = 30) := hwk_399.mem hq_364.1 hq_364.2 (by decide)
      have hq_415 : HID (lb ∈ Ln_395 ∧ Pn_396.kd lb = 30) := hwk_399.mem hq_365.1 hq_365.2 (by decide)
      have hq_416 : HID (lr ∈ Ln_395 ∧ Pn_396.kd lr = 30) := hwk_399.mem hq_366.1 hq_366.2 (by decide)
      have hq_417 : HID (lp ∈ Ln_395 ∧ Pn_396.kd lp = 30) := hwk_399.mem hq_367.1 hq_367.2 (by decide)
      have hq_418 : HID (q_56 ∈ Ln_395 ∧ Pn_396.kd q_56 = 12) := hwk_399.mem hq_368.1 hq_368.2 (by decide)
      have hq_419 : HID (q_289 ∈ Ln_395 ∧ Pn_396.kd q_289 = 17) := hwk_399.mem hq_369.1 hq_369.2 (by decide)
      have hq_420 : HID (pr_386 ∈ Ln_395 ∧ Pn_396.kd pr_386 = 30) := hwk_399.mem hlk_387.1 hlk_387.2.1 (by decide)
      have hE_421 : HID (Pn_396.ek q_289 ≠ 1) := (by rw [hwk_399.ek hq_369.1 hq_369.2 (by decide)]; exact hE_370.out)
      have ha_422 : HID (Pn_396.br q_56 = pr_386) := hwk_399.br hq_368.1 hq_368.2 epr_386.symm
      have hA_423 : KEG [la, lb, lr, lp] L P Ln_395 Pn_396 := hA_371.trans hwk_399
      have hA_424 : KEG [la, lb, lr, lp] L6 P6 Ln_395 Pn_396 := hA_372.trans hwk_399
      have hA_425 : KEG [la, lb, lr, lp] L29 P29 Ln_395 Pn_396 := hA_373.trans hwk_399
      have hA_426 : KEG [la, lb, lr, lp] L134 P134 Ln_395 Pn_396 := hA_374.trans hwk_399
      have hza := hu_397.2.1
      have : Pn_396.lz la = Pn_345.lz la := hkl_401.1
      have : Pn_396.lz lb = Pn_345.lz lb := hkl_402.1
      have : Pn_396.lz lr = Pn_345.lz lr := hkl_403.1
      have : Pn_396.lz lp = Pn_345.lz lp := hkl_404.1
      have hek_427 : HID (Pn_396.ek la = 12) := (by rw [hwk_399.ek hq_364.1 hq_364.2 (by decide)]; exact hek_375.out)
      have how_428 : HID (Pn_396.ow la = la) := ((hwk_399.1 la hq_364.1 (by rw [hq_364.2]; decide)).2.2.2.1 hq_364.2 how_376.out).1
      have hek_429 : HID (Pn_396.ek lb = 12) := (by rw [hwk_399.ek hq_365.1 hq_365.2 (by decide)]; exact hek_377.out)
      have how_430 : HID (Pn_396.ow lb = lb) := ((hwk_399.1 lb hq_365.1 (by rw [hq_365.2]; decide)).2.2.2.1 hq_365.2 how_378.out).1
      have hek_431 : HID (Pn_396.ek lr = 17) := (by rw [hwk_399.ek hq_366.1 hq_366.2 (by decide)]; exact hek_379.out)
      have how_432 : HID (Pn_396.ow lr = lr) := ((hwk_399.1 lr hq_366.1 (by rw [hq_366.2]; decide)).2.2.2.1 hq_366.2 how_380.out).1
      have hek_433 : HID (Pn_396.ek lp = 15) := (by rw [hwk_399.ek hq_367.1 hq_367.2 (by decide)]; exact hek_381.out)
      have how_434 : HID (Pn_396.ow lp = lp) := ((hwk_399.1 lp hq_367.1 (by rw [hq_367.2]; decide)).2.2.2.1 hq_367.2 how_382.out).1
      have hek_435 : HID (Pn_396.ek pr_386 = 17) := (by rw [hwk_399.ek hlk_387.1 hlk_387.2.1 (by decide)]; exact hek_388.out)
      clear hfx
      have hnd_436 : Ln_395.Nodup := (by first | exact pl_nd hD | exact pl_nd (pl_leftD (pk_ascD hD)))
      have hpp_437 := PSI.putR hnd_391 hnd_436 hak_350 hu_397.1 hlk_387.1 hlk_387.2.1 hu_397.2.2.2.2.2.2.2 hvv_390.1 (by omega) hu_397.2.2.2.1.2.2.1 hu_397.2.2.2.1.2.2.2 had_392 hvv_390.2
      have hps := hpp_437.1
      have hpc := hpp_437.2.1
      have hlva_438 : LVA Ln_395 Pn_396 := LVA.gl1R hlva_383 hak_350 hu_397.1 hlk_387.1 hlk_387.2.1 hu_397.2.2.2.2.2.2.2 hpp_437.2.2
      have hlmt_439 : LMT Ln_395 Pn_396 la lb lr lp := LMT.brI hlmt_384 hds_359 hu_397.1 hlk_387.1 hlk_387.2.1 hu_397.2.2.2.2.2.2.2 (by omega) (by omega) hyb_358 epr_386.symm hq_368.2 (fun h9 => cap1851 hvv_390.1 hpp_437.2.2.1 (by rw [← epr_386.symm, hyb_358]; exact (hlmt_384.2.2.2.2 (d6_2) (by omega) (by omega)).1 h9) (LGW.of hu_397.1 hu_397.2.2.2.1.2.2.1 hu_397.2.2.2.1.2.2.2) (by have q9 := hsrR h9; omega))
      have hnd_440 : Ln_395.Nodup := (by first | exact pl_nd hD | exact pl_nd (pl_leftD (pk_ascD hD)))
      have htp9 := hlmt_439.topS hnd_440 (hak_400.lk (show CLF Ln_395 Pn_396 lb 12 from ⟨hq_415.1, hq_415.2, hek_429.out, how_430.out⟩)).2.2.1.1 (hak_400.lk (show CLF Ln_395 Pn_396 lr 17 from ⟨hq_416.1, hq_416.2, hek_431.out, how_432.out⟩)).2.2.1.1 (hak_400.lk (show CLF Ln_395 Pn_396 lp 15 from ⟨hq_417.1, hq_417.2, hek_433.out, how_434.out⟩)).2.2.1.1
      have htq9 := hlmt_439.topC hnd_440 (hak_400.lk (show CLF Ln_395 Pn_396 lb 12 from ⟨hq_415.1, hq_415.2, hek_429.out, how_430.out⟩)).2.2.1.1 (hak_400.lk (show CLF Ln_395 Pn_396 lr 17 from ⟨hq_416.1, hq_416.2, hek_431.out, how_432.out⟩)).2.2.1.1 (hak_400.lk (show CLF Ln_395 Pn_396 lp 15 from ⟨hq_417.1, hq_417.2, hek_433.out, how_434.out⟩)).2.2.1.1
      refine lv_pop hx hb dX13_copy_179 rfl ?_
      refine lv_iinc (v := zI (d134_5 + 1)) (lv' := [(5, .int (zI (d134_5 + 1))), (6, .ref q_289), (0, .ref hc), (1, .ref hd), (2, .int (zI (d6_2))), (3, .ref xb_51), (4, .ref q_56)]) hx hb dX13_copy_180 hl (k := 6) rfl (zI_add (d134_5) (1)) (by decide) rfl (fun ls hl => ?_)
      refine lv_goto (tgt := 134) hx hb dX13_copy_183 (by decide) ?_
      exact ih134 (d134_5 + 1) z0_290 Ln_395 Pn_396 ((((kc134) + kc_293) + (Pn_345.gc pr_386))) ((((ks134) + ks_294) + (Pn_345.gx pr_386))) ls H _ (kP134.trans hA_426) hak_400 (by omega) (by omega) hlva_438 hlmt_439 (hci_406.to (by omega) (by omega)) hdl_410 hdl_411 hds_409 hal_412 (by omega) ⟨((jl134.1.to2 (by omega) rfl).to (by omega)), (((jl134.2.1.step hlg_309).to2 (by omega) rfl).to (by omega)), ((jl134.2.2.to2 (by omega) rfl).to (by omega))⟩ (hcu_407.to (by omega) (by omega)) hyb_408 (by omega) (mea_lt hm134 (by omega) (by omega)) (lv_sub hl [2, 3, 4, 5, 6, 0] rfl) hP hD hS
