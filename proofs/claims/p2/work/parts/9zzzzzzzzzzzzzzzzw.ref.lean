def o_P13_copyR : List Cond := [.methodLink RX13 88 yX13_begin, .instanceMethod yX13_begin, .selects RX13 yX13_begin yX13_begin, .initialized RX13, .methodLink RX13 84 yX13_size, .instanceMethod yX13_size, .selects RX13 yX13_size yX13_size, .methodLink RX13 85 yX13_get, .instanceMethod yX13_get, .selects RX13 yX13_get yX13_get, .methodLink RX13 90 yX13_block, .instanceMethod yX13_block, .selects RX13 yX13_block yX13_block, .fieldLink RX13 53 "SsaForgeModel$Block" "phis" "Ljava/util/ArrayList;", .methodLink RX13 38 yJx4a65c_size_8abf5, .instanceMethod yJx4a65c_size_8abf5, .selects RJx4a65c yJx4a65c_size_8abf5 yJx4a65c_size_8abf5, .initialized RJx4a65c, .fieldLink RX13 54 "SsaForgeModel$Block" "rows" "Ljava/util/ArrayList;", .fieldLink RX13 124 "SsaForgeModel$Block" "end" "LSsaForgeModel$Row;", .methodLink RX13 120 yX17_put, .instanceMethod yX17_put, .selects RX17 yX17_put yX17_put, .initialized RX17, .fieldLink RX13 128 "SsaForgeModel$Block" "first" "I", .fieldLink RX13 131 "SsaForgeModel$Block" "second" "I", .methodLink RX13 116 yX13_row, .instanceMethod yX13_row, .selects RX13 yX13_row yX13_row, .methodLink RX13 49 yJx4a65c_get_915e3, .instanceMethod yJx4a65c_get_915e3, .selects RJx4a65c yJx4a65c_get_915e3 yJx4a65c_get_915e3, .classLink RX13 55 "SsaForgeModel$Row", .methodLink RX13 45 yJx4a65c_add_9ea2d, .instanceMethod yJx4a65c_add_9ea2d, .selects RJx4a65c yJx4a65c_add_9ea2d yJx4a65c_add_9ea2d, .classLink RX13 77 "SsaForgeModel$Phi", .fieldLink RX13 94 "SsaForgeModel$Phi" "t" "I", .methodLink RX13 95 yX13_phi, .instanceMethod yX13_phi, .selects RX13 yX13_phi yX13_phi, .fieldLink RX13 99 "SsaForgeModel$Phi" "n" "I", .fieldLink RX13 102 "SsaForgeModel$Phi" "preds" "[I", .fieldLink RX13 106 "SsaForgeModel$Phi" "operands" "[I", .fieldLink RX13 109 "SsaForgeModel$Phi" "regs" "[Z", .methodLink RX13 113 yX15_add, .instanceMethod yX15_add, .selects RX15 yX15_add yX15_add, .initialized RX15]
def v_P13_copyR : List Cond := .code yX13_copy cX13_copy 9 none :: (o_P13_copyR ++ (v_P13_beginR ++ (v_PC_size ++ (v_PC_get ++ (v_P13_blockR ++ (wsX120 ++ (v_PL_size ++ (v_PR_putX ++ (v_P13_rowR ++ (v_PL_get ++ (v_PL_addAR ++ (wsX150 ++ (v_P13_phiR ++ (v_PP_add ++ []))))))))))))))
theorem mow_P13_copyR : ∀ w ∈ o_P13_copyR, w ∈ v_P13_copyR := fun _ h => List.mem_cons_of_mem _ (List.mem_append_left _ h)
theorem mem_P13_copyR_0 : ∀ w ∈ v_P13_beginR, w ∈ v_P13_copyR := fun _ h => List.mem_cons_of_mem _ (List.mem_append_right _ (List.mem_append_left _ h))
theorem mem_P13_copyR_1 : ∀ w ∈ v_PC_size, w ∈ v_P13_copyR := fun _ h => List.mem_cons_of_mem _ (List.mem_append_right _ (List.mem_append_right _ (List.mem_append_left _ h)))
theorem mem_P13_copyR_2 : ∀ w ∈ v_PC_get, w ∈ v_P13_copyR := fun _ h => List.mem_cons_of_mem _ (List.mem_append_right _ (List.mem_append_right _ (List.mem_append_right _ (List.mem_append_left _ h))))
theorem mem_P13_copyR_3 : ∀ w ∈ v_P13_blockR, w ∈ v_P13_copyR := fun _ h => List.mem_cons_of_mem _ (List.mem_append_right _ (List.mem_append_right _ (List.mem_append_right _ (List.mem_append_right _ (List.mem_append_left _ h)))))
theorem mem_P13_copyR_4 : ∀ w ∈ wsX120, w ∈ v_P13_copyR := fun _ h => List.mem_cons_of_mem _ (List.mem_append_right _ (List.mem_append_right _ (List.mem_append_right _ (List.mem_append_right _ (List.mem_append_right _ (List.mem_append_left _ h))))))
theorem mem_P13_copyR_5 : ∀ w ∈ v_PL_size, w ∈ v_P13_copyR := fun _ h => List.mem_cons_of_mem _ (List.mem_append_right _ (List.mem_append_right _ (List.mem_append_right _ (List.mem_append_right _ (List.mem_append_right _ (List.mem_append_right _ (List.mem_append_left _ h)))))))
theorem mem_P13_copyR_6 : ∀ w ∈ v_PR_putX, w ∈ v_P13_copyR := fun _ h => List.mem_cons_of_mem _ (List.mem_append_right _ (List.mem_append_right _ (List.mem_append_right _ (List.mem_append_right _ (List.mem_append_right _ (List.mem_append_right _ (List.mem_append_right _ (List.mem_append_left _ h))))))))
theorem mem_P13_copyR_7 : ∀ w ∈ v_P13_rowR, w ∈ v_P13_copyR := fun _ h => List.mem_cons_of_mem _ (List.mem_append_right _ (List.mem_append_right _ (List.mem_append_right _ (List.mem_append_right _ (List.mem_append_right _ (List.mem_append_right _ (List.mem_append_right _ (List.mem_append_right _ (List.mem_append_left _ h)))))))))
theorem mem_P13_copyR_8 : ∀ w ∈ v_PL_get, w ∈ v_P13_copyR := fun _ h => List.mem_cons_of_mem _ (List.mem_append_right _ (List.mem_append_right _ (List.mem_append_right _ (List.mem_append_right _ (List.mem_append_right _ (List.mem_append_right _ (List.mem_append_right _ (List.mem_append_right _ (List.mem_append_right _ (List.mem_append_left _ h))))))))))
theorem mem_P13_copyR_9 : ∀ w ∈ v_PL_addAR, w ∈ v_P13_copyR := fun _ h => List.mem_cons_of_mem _ (List.mem_append_right _ (List.mem_append_right _ (List.mem_append_right _ (List.mem_append_right _ (List.mem_append_right _ (List.mem_append_right _ (List.mem_append_right _ (List.mem_append_right _ (List.mem_append_right _ (List.mem_append_right _ (List.mem_append_left _ h)))))))))))
theorem mem_P13_copyR_10 : ∀ w ∈ wsX150, w ∈ v_P13_copyR := fun _ h => List.mem_cons_of_mem _ (List.mem_append_right _ (List.mem_append_right _ (List.mem_append_right _ (List.mem_append_right _ (List.mem_append_right _ (List.mem_append_right _ (List.mem_append_right _ (List.mem_append_right _ (List.mem_append_right _ (List.mem_append_right _ (List.mem_append_right _ (List.mem_append_left _ h))))))))))))
theorem mem_P13_copyR_11 : ∀ w ∈ v_P13_phiR, w ∈ v_P13_copyR := fun _ h => List.mem_cons_of_mem _ (List.mem_append_right _ (List.mem_append_right _ (List.mem_append_right _ (List.mem_append_right _ (List.mem_append_right _ (List.mem_append_right _ (List.mem_append_right _ (List.mem_append_right _ (List.mem_append_right _ (List.mem_append_right _ (List.mem_append_right _ (List.mem_append_right _ (List.mem_append_left _ h)))))))))))))
theorem mem_P13_copyR_12 : ∀ w ∈ v_PP_add, w ∈ v_P13_copyR := fun _ h => List.mem_cons_of_mem _ (List.mem_append_right _ (List.mem_append_right _ (List.mem_append_right _ (List.mem_append_right _ (List.mem_append_right _ (List.mem_append_right _ (List.mem_append_right _ (List.mem_append_right _ (List.mem_append_right _ (List.mem_append_right _ (List.mem_append_right _ (List.mem_append_right _ (List.mem_append_right _ (List.mem_append_left _ h))))))))))))))
set_option maxRecDepth 20000 in
theorem gw_P13_copyR : v_P13_copyR.all goodWord = true := by decide +kernel
set_option maxRecDepth 20000 in
theorem g_P13_copyR_P13_beginR : GoodIn v_P13_copyR (wsV RX13 88 RX13 yX13_begin v_P13_beginR) := goodIn_app (goodIn_sub (fun w h => mow_P13_copyR w (by revert w h; decide +kernel)) (by decide +kernel)) (goodIn_sub mem_P13_copyR_0 gw_P13_beginR)
set_option maxRecDepth 20000 in
theorem g_P13_copyR_PC_size : GoodIn v_P13_copyR (wsV RX13 84 RX13 yX13_size v_PC_size) := goodIn_app (goodIn_sub (fun w h => mow_P13_copyR w (by revert w h; decide +kernel)) (by decide +kernel)) (goodIn_sub mem_P13_copyR_1 gw_PC_size)
set_option maxRecDepth 20000 in
theorem g_P13_copyR_PC_get : GoodIn v_P13_copyR (wsV RX13 85 RX13 yX13_get v_PC_get) := goodIn_app (goodIn_sub (fun w h => mow_P13_copyR w (by revert w h; decide +kernel)) (by decide +kernel)) (goodIn_sub mem_P13_copyR_2 gw_PC_get)
set_option maxRecDepth 20000 in
theorem g_P13_copyR_P13_blockR : GoodIn v_P13_copyR (wsV RX13 90 RX13 yX13_block v_P13_blockR) := goodIn_app (goodIn_sub (fun w h => mow_P13_copyR w (by revert w h; decide +kernel)) (by decide +kernel)) (goodIn_sub mem_P13_copyR_3 gw_P13_blockR)
set_option maxRecDepth 20000 in
theorem g_P13_copyR_PL_size : GoodIn v_P13_copyR (wsV RX13 38 RJx4a65c yJx4a65c_size_8abf5 v_PL_size) := goodIn_app (goodIn_sub (fun w h => mow_P13_copyR w (by revert w h; decide +kernel)) (by decide +kernel)) (goodIn_sub mem_P13_copyR_5 gw_PL_size)
set_option maxRecDepth 20000 in
theorem g_P13_copyR_PR_putX : GoodIn v_P13_copyR (wsV RX13 120 RX17 yX17_put v_PR_putX) := goodIn_app (goodIn_sub (fun w h => mow_P13_copyR w (by revert w h; decide +kernel)) (by decide +kernel)) (goodIn_sub mem_P13_copyR_6 gw_PR_putX)
set_option maxRecDepth 20000 in
theorem g_P13_copyR_P13_rowR : GoodIn v_P13_copyR (wsV RX13 116 RX13 yX13_row v_P13_rowR) := goodIn_app (goodIn_sub (fun w h => mow_P13_copyR w (by revert w h; decide +kernel)) (by decide +kernel)) (goodIn_sub mem_P13_copyR_7 gw_P13_rowR)
set_option maxRecDepth 20000 in
theorem g_P13_copyR_PL_get : GoodIn v_P13_copyR (wsV RX13 49 RJx4a65c yJx4a65c_get_915e3 v_PL_get) := goodIn_app (goodIn_sub (fun w h => mow_P13_copyR w (by revert w h; decide +kernel)) (by decide +kernel)) (goodIn_sub mem_P13_copyR_8 gw_PL_get)
set_option maxRecDepth 20000 in
theorem g_P13_copyR_PL_addAR : GoodIn v_P13_copyR (wsV RX13 45 RJx4a65c yJx4a65c_add_9ea2d v_PL_addAR) := goodIn_app (goodIn_sub (fun w h => mow_P13_copyR w (by revert w h; decide +kernel)) (by decide +kernel)) (goodIn_sub mem_P13_copyR_9 gw_PL_addAR)
set_option maxRecDepth 20000 in
theorem g_P13_copyR_P13_phiR : GoodIn v_P13_copyR (wsV RX13 95 RX13 yX13_phi v_P13_phiR) := goodIn_app (goodIn_sub (fun w h => mow_P13_copyR w (by revert w h; decide +kernel)) (by decide +kernel)) (goodIn_sub mem_P13_copyR_11 gw_P13_phiR)
set_option maxRecDepth 20000 in
theorem g_P13_copyR_PP_add : GoodIn v_P13_copyR (wsV RX13 113 RX15 yX15_add v_PP_add) := goodIn_app (goodIn_sub (fun w h => mow_P13_copyR w (by revert w h; decide +kernel)) (by decide +kernel)) (goodIn_sub mem_P13_copyR_12 gw_PP_add)
set_option maxHeartbeats 40000000 in
set_option maxRecDepth 100000 in
theorem c_P13_copyR (l : Launch) (dC : Nat → ClassId) (dI : Nat → Nat → Nat) (hd : Nat) (v18_0 : Value) (v18_1 : Value) (v18_2 : Value) (v18_3 : Value) (v18_4 : Value) (v18_6 : Value) (lq : Nat) (cI : ClassId) (cZ : ClassId) (hc : Nat) (z13_rowN : Int) (z13_phiN : Int) (z13_made : Int) (la : Nat) (lb : Nat) (lr : Nat) (lp : Nat) (cO : ClassId) (L : List Nat) (P : PO) (sx_ed : Nat) (LS : List Nat) (PS : PO) (hNz13_rowN : 0 ≤ z13_rowN ∧ z13_rowN ≤ 19000) (hNz13_phiN : 0 ≤ z13_phiN ∧ z13_phiN ≤ 19000) (hNz13_made : 0 ≤ z13_made ∧ z13_made ≤ 9000) (hX_g : GLR L P cO cI cZ sx_ed) (hX_la : la ∈ L ∧ P.kd la = 30 ∧ P.ek la = 12 ∧ P.ow la = la) (hX_lb : lb ∈ L ∧ P.kd lb = 30 ∧ P.ek lb = 12 ∧ P.ow lb = lb) (hX_lr : lr ∈ L ∧ P.kd lr = 30 ∧ P.ek lr = 17 ∧ P.ow lr = lr) (hX_lp : lp ∈ L ∧ P.kd lp = 30 ∧ P.ek lp = 15 ∧ P.ow lp = lp) (hX_ab : la ≠ lb) (hX_ds : DST P lb) (hX_dr : DSL P lr) (hX_dp : DSL P lp) (hX_s : ALP LS PS cO cI cZ sx_ed lq) (hNr : P.lz lb ≤ 9000 ∧ P.lz lr ≤ 19000 ∧ P.lz lp ≤ 19000 ∧ PS.tot 2 lq ≤ 18000 ∧ PS.tot 1 lq ≤ 18000) (sz : Nat) (HU : Heap) (sx_mi : Nat) : Met l yX13_copy v_P13_copyR ({ frames := 8, cells := (20000000), slots := (40000000000), locals := 213 }) (va_Pc [.ref hc, .ref hd] (fun U => U.heap.size = sz ∧ va_P (dC, dI) vwQ ([(hd, .inr (12, [v18_0, v18_1, v18_2, v18_3, v18_4, .ref lq, v18_6])), (hc, .inr (12, [.ref lb, .ref lr, .ref lp, .int (zI (z13_rowN)), .int (zI (z13_phiN)), .ref la, .int (zI (z13_made))]))] ++ (va_pl L (pE P) ++ va_pl LS (pE PS))) U.heap ∧ va_K (dC, dI) vwQ [(cO, .object "java/lang/Object"), (cI, .int), (cZ, .boolean)] U ∧ va_D (fun _ => True) ([(hd, .inr (12, [v18_0, v18_1, v18_2, v18_3, v18_4, .ref lq, v18_6])), (hc, .inr (12, [.ref lb, .ref lr, .ref lp, .int (zI (z13_rowN)), .int (zI (z13_phiN)), .ref la, .int (zI (z13_made))]))] ++ (va_pl L (pE P) ++ va_pl LS (pE PS))) ∧ U.heap = HU ∧ va_Nw (.castable "SsaForgeModel$Block" "SsaForgeModel$Block") U ∧ va_Nw (.castable "SsaForgeModel$Row" "java/lang/Object") U ∧ va_Nw (.castable "SsaForgeModel$Phi" "java/lang/Object") U ∧ va_Nw (.castable "SsaForgeModel$Block" "java/lang/Object") U ∧ va_Dc U ∧ va_Mi "[Ljava/lang/Object;" sx_mi U ∧ va_AO "java/lang/Object" U ∧ va_T (.object "java/lang/Object") sx_ed 0 (fun _ => .null) (va_A ([(hd, .inr (12, [v18_0, v18_1, v18_2, v18_3, v18_4, .ref lq, v18_6])), (hc, .inr (12, [.ref lb, .ref lr, .ref lp, .int (zI (z13_rowN)), .int (zI (z13_phiN)), .ref la, .int (zI (z13_made))]))] ++ (va_pl L (pE P) ++ va_pl LS (pE PS))) sz) U U.heap ∧ va_Z "java/util/ArrayList" "DEFAULTCAPACITY_EMPTY_ELEMENTDATA" "[Ljava/lang/Object;" (.ref sx_ed) (va_A ([(hd, .inr (12, [v18_0, v18_1, v18_2, v18_3, v18_4, .ref lq, v18_6])), (hc, .inr (12, [.ref lb, .ref lr, .ref lp, .int (zI (z13_rowN)), .int (zI (z13_phiN)), .ref la, .int (zI (z13_made))]))] ++ (va_pl L (pE P) ++ va_pl LS (pE PS))) sz) U U.heap ∧ va_Nw (.methodLinkNest RX12 23 yX17_init "SsaForgeModel") U ∧ va_Nw (.methodLinkNest RX13 44 yX12_init "SsaForgeModel") U ∧ va_Nw (.castable "SsaForgeModel$Row" "SsaForgeModel$Row") U ∧ va_Nw (.methodLinkNest RX13 57 yX17_init "SsaForgeModel") U ∧ va_Nw (.castable "SsaForgeModel$Phi" "SsaForgeModel$Phi") U ∧ va_Nw (.methodLinkNest RX13 79 yX15_init "SsaForgeModel") U)) (va_Qv (fun _ : Unit => True) (fun (_ : Unit) (t : State) => ∃ (z0_9 : Int) (z1_9 : Int) (z2_9 : Int) (Ln_9 : List Nat) (Pn_9 : PO) (kc_9 : Nat) (ks_9 : Nat), ((RM HU t.heap kc_9 ks_9 ∧ ((ks_9 : Int) ≤ 40000000000 ∧ (kc_9 : Int) ≤ 20000000)) ∧ ((0 ≤ z0_9 ∧ z0_9 ≤ 19001) ∧ (0 ≤ z1_9 ∧ z1_9 ≤ 19001) ∧ (0 ≤ z2_9 ∧ z2_9 ≤ 9001) ∧ (KEG [la, lb, lr, lp] L P Ln_9 Pn_9 ∧ GLR Ln_9 Pn_9 cO cI cZ sx_ed ∧ CPI Pn_9 PS lb lr lp lq (PS.lz lq) (PS.tot 2 lq) (PS.tot 1 lq) ∧ (DST Pn_9 lb ∧ DSL Pn_9 lr ∧ DSL Pn_9 lp) ∧ (Pn_9.lz la = PS.lz lq ∧ ∀ b : Int, 0 ≤ b → b < Pn_9.lz la → Pn_9.el la b = Pn_9.el lb b)))) ∧ va_P (dC, dI) vwQ ([(hd, .inr (12, [v18_0, v18_1, v18_2, v18_3, v18_4, .ref lq, v18_6])), (hc, .inr (12, [.ref lb, .ref lr, .ref lp, .int (zI (z0_9)), .int (zI (z1_9)), .ref la, .int (zI (z2_9))]))] ++ (va_pl Ln_9 (pE Pn_9) ++ va_pl LS (pE PS))) t.heap ∧ va_K (dC, dI) vwQ [(cO, .object "java/lang/Object"), (cI, .int), (cZ, .boolean)] t ∧ va_D (va_A ([(hd, .inr (12, [v18_0, v18_1, v18_2, v18_3, v18_4, .ref lq, v18_6])), (hc, .inr (12, [.ref lb, .ref lr, .ref lp, .int (zI (z13_rowN)), .int (zI (z13_phiN)), .ref la, .int (zI (z13_made))]))] ++ (va_pl L (pE P) ++ va_pl LS (pE PS))) sz) ([(hd, .inr (12, [v18_0, v18_1, v18_2, v18_3, v18_4, .ref lq, v18_6])), (hc, .inr (12, [.ref lb, .ref lr, .ref lp, .int (zI (z0_9)), .int (zI (z1_9)), .ref la, .int (zI (z2_9))]))] ++ (va_pl Ln_9 (pE Pn_9) ++ va_pl LS (pE PS)))) (va_A ([(hd, .inr (12, [v18_0, v18_1, v18_2, v18_3, v18_4, .ref lq, v18_6])), (hc, .inr (12, [.ref lb, .ref lr, .ref lp, .int (zI (z13_rowN)), .int (zI (z13_phiN)), .ref la, .int (zI (z13_made))]))] ++ (va_pl L (pE P) ++ va_pl LS (pE PS))) sz)) (20000000) (40000000000) (va_A ([(hd, .inr (12, [v18_0, v18_1, v18_2, v18_3, v18_4, .ref lq, v18_6])), (hc, .inr (12, [.ref lb, .ref lr, .ref lp, .int (zI (z13_rowN)), .int (zI (z13_phiN)), .ref la, .int (zI (z13_made))]))] ++ (va_pl L (pE P) ++ va_pl LS (pE PS))) sz) := by
  refine Met.ofW (cc := cX13_copy) (maxL := 9) (ret := none) (by decide) rfl ?_
  intro p e s m args below meth c s₁ B hml hv
  obtain ⟨rfl, hsz, hP, hK, hD0, hp0, hp1, hp2, hp3, hp4, hp5, hp6, hp7, hp8, hp9, hp10, hp11, hp12, hp13, hp14, hp15⟩ := hv
  have hx := B.exec
  have hb := B.bytes
  have hr := B.returns
  have hts := atoms_spec (ws := v_P13_copyR) B.pre
  have hown : s.vm.findClass RX13 = some m.cls := findClass_of_methodNamed B.named
  have hlocks := B.notSynchronized
  have ow : ∀ {k : Nat} {w : Cond}, o_P13_copyR[k]? = some w → w.before ([.ref hc, .ref hd] : List Value).toArray s = true := fun h => hts _ (mow_P13_copyR _ (List.mem_of_getElem? h))
  subst hsz
  replace hD := hD0.self (sz := s.heap.size)
  generalize hAe : va_A ([(hd, .inr (12, [v18_0, v18_1, v18_2, v18_3, v18_4, .ref lq, v18_6])), (hc, .inr (12, [.ref lb, .ref lr, .ref lp, .int (zI (z13_rowN)), .int (zI (z13_phiN)), .ref la, .int (zI (z13_made))]))] ++ (va_pl L (pE P) ++ va_pl LS (pE PS))) s.heap.size = A at hD hp7 hp8 hp9 ⊢
  have hA : ∀ q : Nat, s.heap.size ≤ q → A q := fun q h => by rw [← hAe]; exact Or.inr h
  have hS : va_S A s.heap s.heap [] := va_S.rf
  replace hP : va_P (dC, dI) vwQ ([(hd, .inr (12, [v18_0, v18_1, v18_2, v18_3, v18_4, .ref lq, v18_6])), (hc, .inr (12, [.ref lb, .ref lr, .ref lp, .int (zI (z13_rowN)), .int (zI (z13_phiN)), .ref la, .int (zI (z13_made))]))] ++ (va_pl L (pE P) ++ va_pl LS (pE PS))) s.heap := hP
  have hl := lv_entry ([.ref hc, .ref hd]) (n := 9) (Nat.le_of_ble_eq_true rfl)
  rw [lg_entry_eq]
  generalize (lg_sl ([.ref hc, .ref hd]) ++ List.replicate (9 - (lg_sl ([.ref hc, .ref hd])).length) Slot.unset).toArray = ls at hl ⊢
  have hl : lv_has ls 9 [(0, .ref hc), (1, .ref hd)] := hl
  obtain ⟨H, hH⟩ : ∃ H, H = s.heap := ⟨_, rfl⟩
  rw [← hH] at hP
  have hS : va_S A s.heap H [] := by rw [hH]; exact hS
  rw [← hH]
  refine zW_cap (fun Q hQ => ?_)
  have hX_g9 := hX_g
  have hC_la := hX_la
  have hC_lb := hX_lb
  have hC_lr := hX_lr
  have hC_lp := hX_lp
  have hln_la := (hX_g.lk (show CLF L P la 12 from hC_la)).2.2.1
  have hln_lb := (hX_g.lk (show CLF L P lb 12 from hC_lb)).2.2.1
  have hln_lr := (hX_g.lk (show CLF L P lr 17 from hC_lr)).2.2.1
  have hln_lp := (hX_g.lk (show CLF L P lp 15 from hC_lp)).2.2.1
  have hLn1 : LNN 1 PS lq := (fun c c0 c1 => (hX_s.inb ⟨c, c0, c1, rfl⟩).2.2.1.2.2.1.1)
  have hLn2 : LNN 2 PS lq := (fun c c0 c1 => (hX_s.inb ⟨c, c0, c1, rfl⟩).2.1.2.2.1.1)
  have hls9 := hX_s.lok.2.2.1
  have hls8 := hX_s.1.1.2.1
  have hof1 : OFS 1 PS lq 0 = 0 := rfl
  have hof2 : OFS 2 PS lq 0 = 0 := rfl
  have hot1 : OFS 1 PS lq (PS.lz lq) = PS.tot 1 lq := rfl
  have hot2 : OFS 2 PS lq (PS.lz lq) = PS.tot 2 lq := rfl
  refine lv_aload_n hx hb dX13_copy_0 rfl (lv_at hl 0 rfl) ?_
  have hPT := pk_asc hP
  have hDT := pk_ascD hD
  replace hP := pl_left hPT
  replace hD := pl_leftD hDT
  have hX_g := hX_g9
  have hX_la : HID (la ∈ L ∧ P.kd la = 30 ∧ P.ek la = 12 ∧ P.ow la = la) := HID.mk ⟨hC_la.1, hC_la.2.1, hC_la.2.2.1, hC_la.2.2.2⟩
  have hPc := hP.part (X := [(hd, .inr (12, [v18_0, v18_1, v18_2, v18_3, v18_4, .ref lq, v18_6])), (hc, .inr (12, [.ref lb, .ref lr, .ref lp, .int (zI (z13_rowN)), .int (zI (z13_phiN)), .ref la, .int (zI (z13_made))]))]) (cx := [(hc, .inr (12, [.ref lb, .ref lr, .ref lp, .int (zI (z13_rowN)), .int (zI (z13_phiN)), .ref la, .int (zI (z13_made))]))]) (pl := va_pl L (pE P)) [1] rfl
  have hDc := hD.part (X := [(hd, .inr (12, [v18_0, v18_1, v18_2, v18_3, v18_4, .ref lq, v18_6])), (hc, .inr (12, [.ref lb, .ref lr, .ref lp, .int (zI (z13_rowN)), .int (zI (z13_phiN)), .ref la, .int (zI (z13_made))]))]) (cx := [(hc, .inr (12, [.ref lb, .ref lr, .ref lp, .int (zI (z13_rowN)), .int (zI (z13_phiN)), .ref la, .int (zI (z13_made))]))]) (pl := va_pl L (pE P)) [1] (by decide) rfl
  have hKc := hK.sub (tys' := [(cO, .object "java/lang/Object"), (cI, .int), (cZ, .boolean)]) [0, 1, 2] rfl
  have hFc := va_freeP (X := [(hd, .inr (12, [v18_0, v18_1, v18_2, v18_3, v18_4, .ref lq, v18_6])), (hc, .inr (12, [.ref lb, .ref lr, .ref lp, .int (zI (z13_rowN)), .int (zI (z13_phiN)), .ref la, .int (zI (z13_made))]))]) (cx := [(hc, .inr (12, [.ref lb, .ref lr, .ref lp, .int (zI (z13_rowN)), .int (zI (z13_phiN)), .ref la, .int (zI (z13_made))]))]) (pl := va_pl L (pE P)) hD hS hA [1] rfl
  refine va_callv (va_runV (As := []) (rest := []) ⟨hx, hb, hml, hown, hts⟩ (c_P13_beginR l dC dI cI cZ hc (.ref lb) (.ref lr) (.ref lp) z13_rowN z13_phiN z13_made la cO L P sx_ed (by omega) (by omega) (by omega) hX_g hX_la H.size) (cwV 0 hts g_P13_copyR_P13_beginR rfl rfl rfl (by decide +kernel) ⟨(Nat.le_of_ble_eq_true rfl), (Nat.le_of_ble_eq_true rfl)⟩) ⟨fun a U g mk q => by obtain ⟨q0, q1, qP, qK, qD⟩ := q; exact ⟨q0, q1, qP, va_K.moved (u := U) (U := U.calling g mk a) (Vm.Alike.refl U.vm) qK, qD⟩, va_recv hKc hPc (ci := 12) (q0 := 0) rfl rfl, fun U hU hW => ⟨rfl, by rw [hU], by rw [hU]; exact hPc, va_K.moved hW.alike hKc, hDc.weaken (fun _ _ _ _ => trivial)⟩⟩ rfl rfl hl.1 rfl (lv_room (Nat.le_of_ble_eq_true rfl)) dX13_copy_1 ⟨(Nat.zero_le _), (Nat.zero_le _)⟩) hS (fun q _ h => hFc q h) hFc (fun  u t H1 locs ht hvm hw hB hz1 hk1 hS => ?_)
  obtain ⟨z0_1, z1_2, z2_3, Pn_4, hxt_4, hP1, hK1, hD1⟩ := hB
  rw [ht] at hP1
  have hK1 := va_K.moved hvm.symm hK1
  obtain ⟨hP, hD⟩ := va_joinPT (X := [(hd, .inr (12, [v18_0, v18_1, v18_2, v18_3, v18_4, .ref lq, v18_6])), (hc, .inr (12, [.ref lb, .ref lr, .ref lp, .int (zI (z13_rowN)), .int (zI (z13_phiN)), .ref la, .int (zI (z13_made))]))]) (cx := [(hc, .inr (12, [.ref lb, .ref lr, .ref lp, .int (zI (z13_rowN)), .int (zI (z13_phiN)), .ref la, .int (zI (z13_made))]))]) (wr := [(hd, .inr (12, [v18_0, v18_1, v18_2, v18_3, v18_4, .ref lq, v18_6]))]) (rx := [(hc, .inr (12, [.ref lb, .ref lr, .ref lp, .int (zI (z0_1)), .int (zI (z1_2)), .ref la, .int (zI (z2_3))]))]) (pl := va_pl L (pE P)) (pl1 := va_pl L (pE Pn_4)) (T := va_pl LS (pE PS)) hPT hDT [1] [0] rfl rfl (by decide) (by decide) hk1 hFc hP1 hD1
  replace hP := pk_back hP
  replace hD := pk_backD hD
  replace hK := (hK.sub (tys' := []) [] rfl).app hK1
  generalize H1 = H at hP hS ⊢
  clear hPc hDc hKc hFc hk1 hz1 hPT hDT
  replace hP : va_P (dC, dI) vwQ ([(hd, .inr (12, [v18_0, v18_1, v18_2, v18_3, v18_4, .ref lq, v18_6])), (hc, .inr (12, [.ref lb, .ref lr, .ref lp, .int (zI (z0_1)), .int (zI (z1_2)), .ref la, .int (zI (z2_3))]))] ++ (va_pl L (pE Pn_4) ++ va_pl LS (pE PS))) H := hP
  replace hD : va_D A ([(hd, .inr (12, [v18_0, v18_1, v18_2, v18_3, v18_4, .ref lq, v18_6])), (hc, .inr (12, [.ref lb, .ref lr, .ref lp, .int (zI (z0_1)), .int (zI (z1_2)), .ref la, .int (zI (z2_3))]))] ++ (va_pl L (pE Pn_4) ++ va_pl LS (pE PS))) := hD
  replace hK : va_K (dC, dI) vwQ [(cO, .object "java/lang/Object"), (cI, .int), (cZ, .boolean)] s := hK
  refine W.widen (k := 0) (n := 0) (Nat.le_of_ble_eq_true rfl) (Nat.le_of_ble_eq_true rfl) ?_
  obtain ⟨rk_5, rk_6, rk_7, hu_7⟩ := hxt_4
  have hu_8 := HID.mk (hu_7)
  replace hu_7 := HID.mk hu_7
  have hwk_9 := hu_8.1.wk (E' := [la, lb, lr, lp]) (fun _ h9 => CPI.mem4 (Or.inl rfl) h9)
  have hkl_10 := hu_8.1.lst (show CLF L P lb 12 from ⟨hC_lb.1, hC_lb.2.1, hC_lb.2.2.1, hC_lb.2.2.2⟩) (by intro q9; simp at q9; exact absurd q9 hX_ab.symm)
  have hkl_11 := hu_8.1.lst (show CLF L P lr 17 from ⟨hC_lr.1, hC_lr.2.1, hC_lr.2.2.1, hC_lr.2.2.2⟩) (by intro q9; simp at q9; exact absurd q9 (ek_ne hC_lr.2.2.1 hC_la.2.2.1 (by decide)))
  have hkl_12 := hu_8.1.lst (show CLF L P lp 15 from ⟨hC_lp.1, hC_lp.2.1, hC_lp.2.2.1, hC_lp.2.2.2⟩) (by intro q9; simp at q9; exact absurd q9 (ek_ne hC_lp.2.2.1 hC_la.2.2.1 (by decide)))
  have hds_13 := hX_ds.kegR hX_g9 ⟨hC_lb.1, hC_lb.2.1, hC_lb.2.2.1, hC_lb.2.2.2⟩ hu_8.1 (by intro q9; simp at q9; exact absurd q9 hX_ab.symm)
  have hdl_14 := hX_dr.same hkl_11.1 hkl_11.2
  have hdl_15 := hX_dp.same hkl_12.1 hkl_12.2
  have hq_16 : HID (la ∈ L ∧ Pn_4.kd la = 30) := hwk_9.mem hC_la.1 hC_la.2.1 (by decide)
  have hq_17 : HID (lb ∈ L ∧ Pn_4.kd lb = 30) := hwk_9.mem hC_lb.1 hC_lb.2.1 (by decide)
  have hq_18 : HID (lr ∈ L ∧ Pn_4.kd lr = 30) := hwk_9.mem hC_lr.1 hC_lr.2.1 (by decide)
  have hq_19 : HID (lp ∈ L ∧ Pn_4.kd lp = 30) := hwk_9.mem hC_lp.1 hC_lp.2.1 (by decide)
  have hA_20 : KEG [la, lb, lr, lp] L P L Pn_4 := (KEG.refl [la, lb, lr, lp] L P).trans hwk_9
  have hla0 : Pn_4.lz la = 0 := hu_8.2.2.1.2.1
  have hbe9 := hu_8.2.2.2
  have : Pn_4.lz lb = P.lz lb := hkl_10.1
  have : Pn_4.lz lr = P.lz lr := hkl_11.1
  have : Pn_4.lz lp = P.lz lp := hkl_12.1
  have : Pn_4.cap la = P.cap la := hu_8.2.2.1.cap la
  have : Pn_4.cap lb = P.cap lb := hu_8.2.2.1.cap lb
  have : Pn_4.cap lr = P.cap lr := hu_8.2.2.1.cap lr
  have : Pn_4.cap lp = P.cap lp := hu_8.2.2.1.cap lp
  have hek_21 : HID (Pn_4.ek la = 12) := (by rw [hwk_9.ek hC_la.1 hC_la.2.1 (by decide)]; exact hC_la.2.2.1)
  have how_22 : HID (Pn_4.ow la = la) := ((hwk_9.1 la hC_la.1 (by rw [hC_la.2.1]; decide)).2.2.2.1 hC_la.2.1 hC_la.2.2.2).1
  have hek_23 : HID (Pn_4.ek lb = 12) := (by rw [hwk_9.ek hC_lb.1 hC_lb.2.1 (by decide)]; exact hC_lb.2.2.1)
  have how_24 : HID (Pn_4.ow lb = lb) := ((hwk_9.1 lb hC_lb.1 (by rw [hC_lb.2.1]; decide)).2.2.2.1 hC_lb.2.1 hC_lb.2.2.2).1
  have hek_25 : HID (Pn_4.ek lr = 17) := (by rw [hwk_9.ek hC_lr.1 hC_lr.2.1 (by decide)]; exact hC_lr.2.2.1)
  have how_26 : HID (Pn_4.ow lr = lr) := ((hwk_9.1 lr hC_lr.1 (by rw [hC_lr.2.1]; decide)).2.2.2.1 hC_lr.2.1 hC_lr.2.2.2).1
  have hek_27 : HID (Pn_4.ek lp = 15) := (by rw [hwk_9.ek hC_lp.1 hC_lp.2.1 (by decide)]; exact hC_lp.2.2.1)
  have how_28 : HID (Pn_4.ow lp = lp) := ((hwk_9.1 lp hC_lp.1 (by rw [hC_lp.2.1]; decide)).2.2.2.1 hC_lp.2.1 hC_lp.2.2.2).1
  have hci0 := CPI.zero Pn_4 PS lb lr lp lq hLn1 hLn2
  have hal0 : ∀ b : Int, 0 ≤ b → b < Pn_4.lz la → Pn_4.el la b = Pn_4.el lb b := (fun b b0 b1 => by omega)
  refine lv_iconst (v := 0) hx hb dX13_copy_4 (by decide) ?_
  refine lv_istore_n (lv' := [(2, .int 0), (0, .ref hc), (1, .ref hd)]) hx hb dX13_copy_5 rfl hl (by decide) rfl (fun ls hl => ?_)
  have key6 : ∀ n6 : Nat, ∀ (d6_2 : Int) (e6_1_3 : Int) (e6_1_4 : Int) (e6_1_6 : Int) (L6 : List Nat) (P6 : PO) (kc6 : Nat) (ks6 : Nat) (ls : Array Slot) (H : Heap) (locs : List Loc), (KEG [la, lb, lr, lp] L Pn_4 L6 P6) → (GLR L6 P6 cO cI cZ sx_ed) → (0 ≤ d6_2 ∧ d6_2 ≤ PS.lz lq) → (0 ≤ e6_1_3 ∧ e6_1_3 ≤ 19001) → (0 ≤ e6_1_4 ∧ e6_1_4 ≤ 19001) → (0 ≤ e6_1_6 ∧ e6_1_6 ≤ 9001) → (CPI P6 PS lb lr lp lq (d6_2) (OFS 2 PS lq (d6_2)) (OFS 1 PS lq (d6_2))) → (DSL P6 lr) → (DSL P6 lp) → (DST P6 lb) → (∀ b : Int, 0 ≤ b → b < P6.lz la → P6.el la b = P6.el lb b) → (e6_1_6 = d6_2 ∧ e6_1_3 = OFS 2 PS lq (d6_2) ∧ e6_1_4 = OFS 1 PS lq (d6_2) ∧ P6.lz la = d6_2 ∧ e6_1_6 ≤ P6.lz lb ∧ e6_1_3 ≤ P6.lz lr ∧ e6_1_4 ≤ P6.lz lp) → (LGM (P6.lz lb) (P.lz lb) (e6_1_6) ∧ LGM (P6.lz lr) (P.lz lr) (e6_1_3) ∧ LGM (P6.lz lp) (P.lz lp) (e6_1_4)) → ((ks6 : Int) ≤ 300000 * d6_2 + 250000 * e6_1_3 + 1300000 * e6_1_4 ∧ (kc6 : Int) ≤ 10 * d6_2 + 5 * e6_1_3 + 1000 * e6_1_4) → ((PS.lz lq - d6_2 : Int).toNat) < n6 → lv_has ls 9 [(0, .ref hc), (1, .ref hd), (2, .int (zI (d6_2)))] → va_P (dC, dI) vwQ ([(hd, .inr (12, [v18_0, v18_1, v18_2, v18_3, v18_4, .ref lq, v18_6])), (hc, .inr (12, [.ref lb, .ref lr, .ref lp, .int (zI (e6_1_3)), .int (zI (e6_1_4)), .ref la, .int (zI (e6_1_6))]))] ++ (va_pl L6 (pE P6) ++ va_pl LS (pE PS))) H → va_D A ([(hd, .inr (12, [v18_0, v18_1, v18_2, v18_3, v18_4, .ref lq, v18_6])), (hc, .inr (12, [.ref lb, .ref lr, .ref lp, .int (zI (e6_1_3)), .int (zI (e6_1_4)), .ref la, .int (zI (e6_1_6))]))] ++ (va_pl L6 (pE P6) ++ va_pl LS (pE PS))) → va_S A s.heap H locs → W p l e (headSpec v_P13_copyR ({ frames := 8, cells := (20000000), slots := (40000000000), locals := 213 })).room s m ([.ref hc, .ref hd] : List Value).toArray below meth c H locs (kc6) (ks6) Q (F0 m 6 ls []) := by
    intro n6
    induction n6 with
    | zero => intro d6_2 e6_1_3 e6_1_4 e6_1_6 L6 P6 kc6 ks6 ls H locs kP6 aP6 jd6_2 je6_1_3 je6_1_4 je6_1_6 jc6 jr6 jp6 js6 ja6 jn6 jl6 hkr6 hm6; exact absurd hm6 (by omega)
    | succ n6 ih6 =>
      intro d6_2 e6_1_3 e6_1_4 e6_1_6 L6 P6 kc6 ks6 ls H locs kP6 aP6 jd6_2 je6_1_3 je6_1_4 je6_1_6 jc6 jr6 jp6 js6 ja6 jn6 jl6 hkr6 hm6 hl hP hD hS
      have hq_29 : HID (la ∈ L6 ∧ P6.kd la = 30) := kP6.mem hq_16.1 hq_16.2 (by decide)
      have hq_30 : HID (lb ∈ L6 ∧ P6.kd lb = 30) := kP6.mem hq_17.1 hq_17.2 (by decide)
      have hq_31 : HID (lr ∈ L6 ∧ P6.kd lr = 30) := kP6.mem hq_18.1 hq_18.2 (by decide)
      have hq_32 : HID (lp ∈ L6 ∧ P6.kd lp = 30) := kP6.mem hq_19.1 hq_19.2 (by decide)
      have hA_33 : KEG [la, lb, lr, lp] L P L6 P6 := hA_20.trans kP6
      have hek_34 : HID (P6.ek la = 12) := (by rw [kP6.ek hq_16.1 hq_16.2 (by decide)]; exact hek_21.out)
      have how_35 : HID (P6.ow la = la) := ((kP6.1 la hq_16.1 (by rw [hq_16.2]; decide)).2.2.2.1 hq_16.2 how_22.out).1
      have hek_36 : HID (P6.ek lb = 12) := (by rw [kP6.ek hq_17.1 hq_17.2 (by decide)]; exact hek_23.out)
      have how_37 : HID (P6.ow lb = lb) := ((kP6.1 lb hq_17.1 (by rw [hq_17.2]; decide)).2.2.2.1 hq_17.2 how_24.out).1
      have hek_38 : HID (P6.ek lr = 17) := (by rw [kP6.ek hq_18.1 hq_18.2 (by decide)]; exact hek_25.out)
      have how_39 : HID (P6.ow lr = lr) := ((kP6.1 lr hq_18.1 (by rw [hq_18.2]; decide)).2.2.2.1 hq_18.2 how_26.out).1
      have hek_40 : HID (P6.ek lp = 15) := (by rw [kP6.ek hq_19.1 hq_19.2 (by decide)]; exact hek_27.out)
      have how_41 : HID (P6.ow lp = lp) := ((kP6.1 lp hq_19.1 (by rw [hq_19.2]; decide)).2.2.2.1 hq_19.2 how_28.out).1
      have hj6 := kP6
      have hcx6 := OFS.le hLn1 (b := d6_2) (c := PS.lz lq) (by omega) (by omega) (Int.le_refl _)
      have hcx7 := OFS.le hLn2 (b := d6_2) (c := PS.lz lq) (by omega) (by omega) (Int.le_refl _)
      have hon1 := OFS.nn hLn1 (b := d6_2) (by omega)
      have hon2 := OFS.nn hLn2 (b := d6_2) (by omega)
      have hm1 := jl6.1.max (m := 9000) (by omega) (by omega)
      have hm2 := jl6.2.1.max (m := 19000) (by omega) (by omega)
      have hm3 := jl6.2.2.max (m := 19000) (by omega) (by omega)
      skip
      refine lv_iload_n hx hb dX13_copy_6 rfl (lv_at hl 2 rfl) ?_
      refine lv_aload_n hx hb dX13_copy_7 rfl (lv_at hl 1 rfl) ?_
      replace hP := pk_sw hP
      replace hD := pk_swD hD
      have hPT := pk_asc hP
      have hDT := pk_ascD hD
      replace hP := pl_left hPT
      replace hD := pl_leftD hDT
      have hX_l := hX_s.lok
      have hlz9 := hX_l.2.2.1
      have hPc := hP.part (X := [(hd, .inr (12, [v18_0, v18_1, v18_2, v18_3, v18_4, .ref lq, v18_6])), (hc, .inr (12, [.ref lb, .ref lr, .ref lp, .int (zI (e6_1_3)), .int (zI (e6_1_4)), .ref la, .int (zI (e6_1_6))]))]) (cx := [(hd, .inr (12, [v18_0, v18_1, v18_2, v18_3, v18_4, .ref lq, v18_6]))]) (pl := va_pl LS (pE PS)) [0] rfl
      have hDc := hD.part (X := [(hd, .inr (12, [v18_0, v18_1, v18_2, v18_3, v18_4, .ref lq, v18_6])), (hc, .inr (12, [.ref lb, .ref lr, .ref lp, .int (zI (e6_1_3)), .int (zI (e6_1_4)), .ref la, .int (zI (e6_1_6))]))]) (cx := [(hd, .inr (12, [v18_0, v18_1, v18_2, v18_3, v18_4, .ref lq, v18_6]))]) (pl := va_pl LS (pE PS)) [0] (by decide) rfl
      have hKc := hK.sub (tys' := [(cO, .object "java/lang/Object")]) [0] rfl
      have hFc := va_freeP (X := [(hd, .inr (12, [v18_0, v18_1, v18_2, v18_3, v18_4, .ref lq, v18_6])), (hc, .inr (12, [.ref lb, .ref lr, .ref lp, .int (zI (e6_1_3)), .int (zI (e6_1_4)), .ref la, .int (zI (e6_1_6))]))]) (cx := [(hd, .inr (12, [v18_0, v18_1, v18_2, v18_3, v18_4, .ref lq, v18_6]))]) (pl := va_pl LS (pE PS)) hD hS hA [0] rfl
      refine va_calli (va_runV (As := []) (rest := [.int (zI (d6_2))]) ⟨hx, hb, hml, hown, hts⟩ (c_PC_size l dC dI hd v18_0 v18_1 v18_2 v18_3 v18_4 v18_6 lq cO LS PS hX_l H.size) (cwV 0 hts g_P13_copyR_PC_size rfl rfl rfl (by decide +kernel) ⟨(Nat.le_of_ble_eq_true rfl), (Nat.le_of_ble_eq_true rfl)⟩) ⟨fun a U g mk q => by obtain ⟨q0, q1, qP, qK, qD⟩ := q; exact ⟨q0, q1, qP, va_K.moved (u := U) (U := U.calling g mk a) (Vm.Alike.refl U.vm) qK, qD⟩, va_recv hKc hPc (ci := 12) (q0 := 0) rfl rfl, fun U hU hW => ⟨rfl, by rw [hU], by rw [hU]; exact hPc, va_K.moved hW.alike hKc, hDc.weaken (fun _ _ _ _ => trivial)⟩⟩ rfl rfl hl.1 rfl (lv_room (Nat.le_of_ble_eq_true rfl)) dX13_copy_8 ⟨(show (kc6) + 0 ≤ 20000000 from (by omega)), (show (ks6) + 0 ≤ 40000000000 from (by omega))⟩) hS (fun q _ h => hFc q h) hFc (fun r_42 u t H1 locs ht hvm hw hB hz1 hk1 hS => ?_)
      obtain ⟨hP1, hK1, hD1⟩ := hB
      rw [ht] at hP1
      have hK1 := va_K.moved hvm.symm hK1
      obtain ⟨hP, hD⟩ := va_joinPT (X := [(hd, .inr (12, [v18_0, v18_1, v18_2, v18_3, v18_4, .ref lq, v18_6])), (hc, .inr (12, [.ref lb, .ref lr, .ref lp, .int (zI (e6_1_3)), .int (zI (e6_1_4)), .ref la, .int (zI (e6_1_6))]))]) (cx := [(hd, .inr (12, [v18_0, v18_1, v18_2, v18_3, v18_4, .ref lq, v18_6]))]) (wr := [(hc, .inr (12, [.ref lb, .ref lr, .ref lp, .int (zI (e6_1_3)), .int (zI (e6_1_4)), .ref la, .int (zI (e6_1_6))]))]) (rx := [(hd, .inr (12, [v18_0, v18_1, v18_2, v18_3, v18_4, .ref lq, v18_6]))]) (pl := va_pl LS (pE PS)) (pl1 := va_pl LS (pE PS)) (T := va_pl L6 (pE P6)) hPT hDT [0] [1] rfl rfl (by decide) (by decide) hk1 hFc hP1 hD1
      replace hP := pk_back hP
      replace hD := pk_backD hD
      replace hK := (hK.sub (tys' := [(cI, .int), (cZ, .boolean)]) [1, 2] rfl).app hK1
      generalize H1 = H at hP hS ⊢
      clear hPc hDc hKc hFc hk1 hz1 hPT hDT
      replace hP : va_P (dC, dI) vwQ ([(hc, .inr (12, [.ref lb, .ref lr, .ref lp, .int (zI (e6_1_3)), .int (zI (e6_1_4)), .ref la, .int (zI (e6_1_6))])), (hd, .inr (12, [v18_0, v18_1, v18_2, v18_3, v18_4, .ref lq, v18_6]))] ++ (va_pl LS (pE PS) ++ va_pl L6 (pE P6))) H := hP
      replace hD : va_D A ([(hc, .inr (12, [.ref lb, .ref lr, .ref lp, .int (zI (e6_1_3)), .int (zI (e6_1_4)), .ref la, .int (zI (e6_1_6))])), (hd, .inr (12, [v18_0, v18_1, v18_2, v18_3, v18_4, .ref lq, v18_6]))] ++ (va_pl LS (pE PS) ++ va_pl L6 (pE P6))) := hD
      replace hK : va_K (dC, dI) vwQ [(cI, .int), (cZ, .boolean), (cO, .object "java/lang/Object")] s := hK
      refine W.widen (k := (kc6)) (n := (ks6)) (by omega) (by omega) ?_
      obtain rfl : r_42 = (zI (PS.lz lq)) := hw
      replace hP := pk_sw hP
      replace hD := pk_swD hD
      refine lv_icmp_ge (tgt := 222) hx hb dX13_copy_11 (by decide) (fun b11 => ?_) (fun b11 => ?_)
      · have yb11 : (PS.lz lq : Int) ≤ (d6_2 : Int) := (zI_le (a := PS.lz lq) (b := d6_2) (by omega) (by omega) (by omega) (by omega)).mp b11
        subst hQ
        replace hP := hP.part (X := [(hc, .inr (12, [.ref lb, .ref lr, .ref lp, .int (zI (e6_1_3)), .int (zI (e6_1_4)), .ref la, .int (zI (e6_1_6))])), (hd, .inr (12, [v18_0, v18_1, v18_2, v18_3, v18_4, .ref lq, v18_6]))]) (cx := [(hd, .inr (12, [v18_0, v18_1, v18_2, v18_3, v18_4, .ref lq, v18_6])), (hc, .inr (12, [.ref lb, .ref lr, .ref lp, .int (zI (e6_1_3)), .int (zI (e6_1_4)), .ref la, .int (zI (e6_1_6))]))]) (pl := (va_pl L6 (pE P6) ++ va_pl LS (pE PS))) [1, 0] rfl
        replace hD := hD.part (X := [(hc, .inr (12, [.ref lb, .ref lr, .ref lp, .int (zI (e6_1_3)), .int (zI (e6_1_4)), .ref la, .int (zI (e6_1_6))])), (hd, .inr (12, [v18_0, v18_1, v18_2, v18_3, v18_4, .ref lq, v18_6]))]) (cx := [(hd, .inr (12, [v18_0, v18_1, v18_2, v18_3, v18_4, .ref lq, v18_6])), (hc, .inr (12, [.ref lb, .ref lr, .ref lp, .int (zI (e6_1_3)), .int (zI (e6_1_4)), .ref la, .int (zI (e6_1_6))]))]) (pl := (va_pl L6 (pE P6) ++ va_pl LS (pE PS))) [1, 0] (by decide) rfl
        replace hK := hK.sub (tys' := [(cO, .object "java/lang/Object"), (cI, .int), (cZ, .boolean)]) [2, 0, 1] rfl
        refine W_knowS (fun hrm9 => ?_)
        refine W.widen (k := (20000000)) (n := (40000000000)) (by omega) (by omega) ?_
        exact W.vret hx hb hr (fun t ht hW => ⟨⟨(), rfl, trivial, e6_1_3, e6_1_4, e6_1_6, L6, P6, (kc6), (ks6), ⟨⟨(by rw [ht, ← hp0]; exact hrm9), (by omega)⟩, ⟨(by omega), (by omega), (by omega), ⟨hA_33, aP6, (by have q9 := jc6.to9 (show PS.lz lq = d6_2 from (by omega)); rw [show d6_2 = PS.lz lq from (by omega), hot1, hot2] at q9; exact q9), ⟨js6, jr6, jp6⟩, (by omega), ja6⟩⟩⟩, by rw [ht]; exact hP, va_K.moved hW.alike hK, hD⟩, hS.F ht⟩) hS.2.2 dX13_copy_222
      · have yb11 : ¬ (PS.lz lq : Int) ≤ (d6_2 : Int) := fun q => b11 ((zI_le (a := PS.lz lq) (b := d6_2) (by omega) (by omega) (by omega) (by omega)).mpr q)
        refine lv_aload_n hx hb dX13_copy_14 rfl (lv_at hl 1 rfl) ?_
        refine lv_iload_n hx hb dX13_copy_15 rfl (lv_at hl 2 rfl) ?_
        replace hP := pk_sw hP
        replace hD := pk_swD hD
        have hPT := pk_asc hP
        have hDT := pk_ascD hD
        replace hP := pl_left hPT
        replace hD := pl_leftD hDT
        have hX_l := hX_s.lok
        obtain ⟨x, ex⟩ : ∃ q9 : Nat, q9 = PS.el lq (d6_2) := ⟨_, rfl⟩
        have hX_el := ex
        have hPc := hP.part (X := [(hc, .inr (12, [.ref lb, .ref lr, .ref lp, .int (zI (e6_1_3)), .int (zI (e6_1_4)), .ref la, .int (zI (e6_1_6))])), (hd, .inr (12, [v18_0, v18_1, v18_2, v18_3, v18_4, .ref lq, v18_6]))]) (cx := [(hd, .inr (12, [v18_0, v18_1, v18_2, v18_3, v18_4, .ref lq, v18_6]))]) (pl := va_pl LS (pE PS)) [1] rfl
        have hDc := hD.part (X := [(hc, .inr (12, [.ref lb, .ref lr, .ref lp, .int (zI (e6_1_3)), .int (zI (e6_1_4)), .ref la, .int (zI (e6_1_6))])), (hd, .inr (12, [v18_0, v18_1, v18_2, v18_3, v18_4, .ref lq, v18_6]))]) (cx := [(hd, .inr (12, [v18_0, v18_1, v18_2, v18_3, v18_4, .ref lq, v18_6]))]) (pl := va_pl LS (pE PS)) [1] (by decide) rfl
        have hKc := hK.sub (tys' := [(cO, .object "java/lang/Object")]) [2] rfl
        have hFc := va_freeP (X := [(hc, .inr (12, [.ref lb, .ref lr, .ref lp, .int (zI (e6_1_3)), .int (zI (e6_1_4)), .ref la, .int (zI (e6_1_6))])), (hd, .inr (12, [v18_0, v18_1, v18_2, v18_3, v18_4, .ref lq, v18_6]))]) (cx := [(hd, .inr (12, [v18_0, v18_1, v18_2, v18_3, v18_4, .ref lq, v18_6]))]) (pl := va_pl LS (pE PS)) hD hS hA [1] rfl
        refine va_callr (va_runV (As := [.int (zI (d6_2))]) (rest := []) ⟨hx, hb, hml, hown, hts⟩ (c_PC_get l dC dI hd v18_0 v18_1 v18_2 v18_3 v18_4 v18_6 lq cO LS PS d6_2 x hX_l (by omega) hX_el H.size) (cwV 1 hts g_P13_copyR_PC_get rfl rfl rfl (by decide +kernel) ⟨(Nat.le_of_ble_eq_true rfl), (Nat.le_of_ble_eq_true rfl)⟩) ⟨fun a U g mk q => by obtain ⟨q0, q1, qP, qK, qD, e0⟩ := q; exact ⟨q0, q1, qP, va_K.moved (u := U) (U := U.calling g mk a) (Vm.Alike.refl U.vm) qK, qD, va_Nw.same rfl (u := U) (U := U.calling g mk a) rfl e0⟩, va_recv hKc hPc (ci := 12) (q0 := 0) rfl rfl, fun U hU hW => ⟨rfl, by rw [hU], by rw [hU]; exact hPc, va_K.moved hW.alike hKc, hDc.weaken (fun _ _ _ _ => trivial), va_Nw.warmC hW hp1⟩⟩ rfl rfl hl.1 rfl (lv_room (Nat.le_of_ble_eq_true rfl)) dX13_copy_16 ⟨(show (kc6) + 0 ≤ 20000000 from (by omega)), (show (ks6) + 0 ≤ 40000000000 from (by omega))⟩) hS (fun q _ h => hFc q h) hFc (fun u q_43 t H1 locs ht hvm hw hB hz1 hk1 hS => ?_)
        obtain ⟨hxt_43, hP1, hK1, hD1⟩ := hB
        rw [ht] at hP1
        have hK1 := va_K.moved hvm.symm hK1
        obtain ⟨hP, hD⟩ := va_joinPT (X := [(hc, .inr (12, [.ref lb, .ref lr, .ref lp, .int (zI (e6_1_3)), .int (zI (e6_1_4)), .ref la, .int (zI (e6_1_6))])), (hd, .inr (12, [v18_0, v18_1, v18_2, v18_3, v18_4, .ref lq, v18_6]))]) (cx := [(hd, .inr (12, [v18_0, v18_1, v18_2, v18_3, v18_4, .ref lq, v18_6]))]) (wr := [(hc, .inr (12, [.ref lb, .ref lr, .ref lp, .int (zI (e6_1_3)), .int (zI (e6_1_4)), .ref la, .int (zI (e6_1_6))]))]) (rx := [(hd, .inr (12, [v18_0, v18_1, v18_2, v18_3, v18_4, .ref lq, v18_6]))]) (pl := va_pl LS (pE PS)) (pl1 := va_pl LS (pE PS)) (T := va_pl L6 (pE P6)) hPT hDT [1] [0] rfl rfl (by decide) (by decide) hk1 hFc hP1 hD1
        replace hP := pk_back hP
        replace hD := pk_backD hD
        replace hK := (hK.sub (tys' := [(cI, .int), (cZ, .boolean)]) [0, 1] rfl).app hK1
        generalize H1 = H at hP hS ⊢
        clear hPc hDc hKc hFc hk1 hz1 hPT hDT
        replace hP : va_P (dC, dI) vwQ ([(hc, .inr (12, [.ref lb, .ref lr, .ref lp, .int (zI (e6_1_3)), .int (zI (e6_1_4)), .ref la, .int (zI (e6_1_6))])), (hd, .inr (12, [v18_0, v18_1, v18_2, v18_3, v18_4, .ref lq, v18_6]))] ++ (va_pl LS (pE PS) ++ va_pl L6 (pE P6))) H := hP
        replace hD : va_D A ([(hc, .inr (12, [.ref lb, .ref lr, .ref lp, .int (zI (e6_1_3)), .int (zI (e6_1_4)), .ref la, .int (zI (e6_1_6))])), (hd, .inr (12, [v18_0, v18_1, v18_2, v18_3, v18_4, .ref lq, v18_6]))] ++ (va_pl LS (pE PS) ++ va_pl L6 (pE P6))) := hD
        replace hK : va_K (dC, dI) vwQ [(cI, .int), (cZ, .boolean), (cO, .object "java/lang/Object")] s := hK
        refine W.widen (k := (kc6)) (n := (ks6)) (by omega) (by omega) ?_
        rw [hxt_43]
        obtain ⟨xb_44, h9⟩ : ∃ q9 : Nat, q9 = x := ⟨_, rfl⟩
        subst h9
        have hi_45 : INB PS lq xb_44 := ⟨d6_2, by omega, by omega, ex⟩
        clear hX_el
        have hx_47 := ex
        have hB_46 := hX_s.inb hi_45
        have hfb := hB_46.2.2.2.2
        replace hP := pk_sw hP
        replace hD := pk_swD hD
        have hom1 : OFS 1 PS lq (d6_2) + PS.lz (PS.bp (PS.el lq (d6_2))) ≤ OFS 1 PS lq (PS.lz lq) := OFS.mono hLn1 (by omega) (by omega) (Int.le_refl _)
        have hom2 : OFS 2 PS lq (d6_2) + PS.lz (PS.br (PS.el lq (d6_2))) ≤ OFS 2 PS lq (PS.lz lq) := OFS.mono hLn2 (by omega) (by omega) (Int.le_refl _)
        have hos1 : OFS 1 PS lq (d6_2 + 1) = OFS 1 PS lq (d6_2) + PS.lz (PS.bp (PS.el lq (d6_2))) := OFS.succ (by omega)
        have hos2 : OFS 2 PS lq (d6_2 + 1) = OFS 2 PS lq (d6_2) + PS.lz (PS.br (PS.el lq (d6_2))) := OFS.succ (by omega)
        have hb1 : 0 ≤ PS.lz (PS.bp (PS.el lq (d6_2))) := hLn1 (d6_2) (by omega) (by omega)
        have hb2 : 0 ≤ PS.lz (PS.br (PS.el lq (d6_2))) := hLn2 (d6_2) (by omega) (by omega)
        skip
        refine lv_astore_n (lv' := [(3, .ref xb_44), (0, .ref hc), (1, .ref hd), (2, .int (zI (d6_2)))]) hx hb dX13_copy_19 rfl hl (by decide) rfl (fun ls hl => ?_)
        refine lv_aload_n hx hb dX13_copy_20 rfl (lv_at hl 1 rfl) ?_
        skip
        have hPT := pk_asc hP
        have hDT := pk_ascD hD
        replace hP := pl_left hPT
        replace hD := pl_leftD hDT
        have hX_g := aP6
        have hX_la : HID (la ∈ L6 ∧ P6.kd la = 30 ∧ P6.ek la = 12 ∧ P6.ow la = la) := HID.mk ⟨hq_29.1, hq_29.2, hek_34.out, how_35.out⟩
        have hX_lb : HID (lb ∈ L6 ∧ P6.kd lb = 30 ∧ P6.ek lb = 12 ∧ P6.ow lb = lb) := HID.mk ⟨hq_30.1, hq_30.2, hek_36.out, how_37.out⟩
        have hX_lr : HID (lr ∈ L6 ∧ P6.kd lr = 30 ∧ P6.ek lr = 17 ∧ P6.ow lr = lr) := HID.mk ⟨hq_31.1, hq_31.2, hek_38.out, how_39.out⟩
        have hX_ds := js6
        have hPc := hP.part (X := [(hc, .inr (12, [.ref lb, .ref lr, .ref lp, .int (zI (e6_1_3)), .int (zI (e6_1_4)), .ref la, .int (zI (e6_1_6))])), (hd, .inr (12, [v18_0, v18_1, v18_2, v18_3, v18_4, .ref lq, v18_6]))]) (cx := [(hc, .inr (12, [.ref lb, .ref lr, .ref lp, .int (zI (e6_1_3)), .int (zI (e6_1_4)), .ref la, .int (zI (e6_1_6))]))]) (pl := va_pl L6 (pE P6)) [0] rfl
        have hDc := hD.part (X := [(hc, .inr (12, [.ref lb, .ref lr, .ref lp, .int (zI (e6_1_3)), .int (zI (e6_1_4)), .ref la, .int (zI (e6_1_6))])), (hd, .inr (12, [v18_0, v18_1, v18_2, v18_3, v18_4, .ref lq, v18_6]))]) (cx := [(hc, .inr (12, [.ref lb, .ref lr, .ref lp, .int (zI (e6_1_3)), .int (zI (e6_1_4)), .ref la, .int (zI (e6_1_6))]))]) (pl := va_pl L6 (pE P6)) [0] (by decide) rfl
        have hKc := hK.sub (tys' := [(cO, .object "java/lang/Object"), (cI, .int), (cZ, .boolean)]) [2, 0, 1] rfl
        have hFc := va_freeP (X := [(hc, .inr (12, [.ref lb, .ref lr, .ref lp, .int (zI (e6_1_3)), .int (zI (e6_1_4)), .ref la, .int (zI (e6_1_6))])), (hd, .inr (12, [v18_0, v18_1, v18_2, v18_3, v18_4, .ref lq, v18_6]))]) (cx := [(hc, .inr (12, [.ref lb, .ref lr, .ref lp, .int (zI (e6_1_3)), .int (zI (e6_1_4)), .ref la, .int (zI (e6_1_6))]))]) (pl := va_pl L6 (pE P6)) hD hS hA [0] rfl
        refine W_knowS (fun hrmA => ?_)
        refine va_callr (va_runV (As := []) (rest := []) ⟨hx, hb, hml, hown, hts⟩ (c_P13_blockR l dC dI cI cZ hc (.ref lp) (.int (zI (e6_1_3))) (.int (zI (e6_1_4))) e6_1_6 la lb lr cO L6 P6 sx_ed (by omega) hX_g hX_la hX_lb hX_lr hX_ab hX_ds (by omega) H.size sx_mi H) (cwV 0 hts g_P13_copyR_P13_blockR rfl rfl rfl (by decide +kernel) ⟨(Nat.le_of_ble_eq_true rfl), (Nat.le_of_ble_eq_true rfl)⟩) ⟨fun a U g mk q => by obtain ⟨q0, q1, qP, qK, qD, e0, e1, e2, e3, e4, e5, e6, e7, e8, e9, e10, e11⟩ := q; exact ⟨q0, q1, qP, va_K.moved (u := U) (U := U.calling g mk a) (Vm.Alike.refl U.vm) qK, qD, va_Nw.same rfl (u := U) (U := U.calling g mk a) rfl e0, va_Nw.same rfl (u := U) (U := U.calling g mk a) rfl e1, va_Nw.same rfl (u := U) (U := U.calling g mk a) rfl e2, va_Nw.same rfl (u := U) (U := U.calling g mk a) rfl e3, va_Dc.moved (u := U) (U := U.calling g mk a) (Vm.Alike.refl U.vm) e4, va_Mi.moved (u := U) (U := U.calling g mk a) (Vm.Alike.refl U.vm) e5, va_AO.moved (u := U) (U := U.calling g mk a) (Vm.Alike.refl U.vm) e6, va_T.moved (u := U) (U := U.calling g mk a) (Vm.Alike.refl U.vm) e7, va_Z.moved (u := U) (U := U.calling g mk a) (Vm.Alike.refl U.vm) e8, e9, va_Nw.same rfl (u := U) (U := U.calling g mk a) rfl e10, va_Nw.same rfl (u := U) (U := U.calling g mk a) rfl e11⟩, va_recv hKc hPc (ci := 12) (q0 := 0) rfl rfl, fun U hU hW => ⟨rfl, by rw [hU], by rw [hU]; exact hPc, va_K.moved hW.alike hKc, hDc.weaken (fun _ _ _ _ => trivial), va_Nw.warmC hW hp1, va_Nw.warmC hW hp2, va_Nw.warmC hW hp3, va_Nw.warmC hW hp4, va_Dc.moved hW.alike hp5, va_Mi.moved hW.alike hp6, va_AO.moved hW.alike hp7, by rw [hU]; exact va_T.narrow (va_T.moved hW.alike (va_T.kept hp8 hS.2.1)) hFc, by rw [hU]; exact va_Z.narrow (va_Z.moved hW.alike (va_Z.kept hp9 hS.2.1)) hFc, hU, va_Nw.warmM hW hp10, va_Nw.warmM hW hp11⟩⟩ rfl rfl hl.1 rfl (lv_room (Nat.le_of_ble_eq_true rfl)) dX13_copy_21 ⟨(show (kc6) + 6 ≤ 20000000 from (by omega)), (show (ks6) + 200018 ≤ 40000000000 from (by omega))⟩) hS (fun q _ h => hFc q h) hFc (fun u q_48 t H1 locs ht hvm hw hB hz1 hk1 hS => ?_)
        obtain ⟨z0_49, Ln_50, Pn_51, kc_52, ks_53, hxt_53, hP1, hK1, hD1⟩ := hB
        rw [ht] at hP1
        have hK1 := va_K.moved hvm.symm hK1
        obtain ⟨hP, hD⟩ := va_joinPT (X := [(hc, .inr (12, [.ref lb, .ref lr, .ref lp, .int (zI (e6_1_3)), .int (zI (e6_1_4)), .ref la, .int (zI (e6_1_6))])), (hd, .inr (12, [v18_0, v18_1, v18_2, v18_3, v18_4, .ref lq, v18_6]))]) (cx := [(hc, .inr (12, [.ref lb, .ref lr, .ref lp, .int (zI (e6_1_3)), .int (zI (e6_1_4)), .ref la, .int (zI (e6_1_6))]))]) (wr := [(hd, .inr (12, [v18_0, v18_1, v18_2, v18_3, v18_4, .ref lq, v18_6]))]) (rx := [(hc, .inr (12, [.ref lb, .ref lr, .ref lp, .int (zI (e6_1_3)), .int (zI (e6_1_4)), .ref la, .int (zI (z0_49))]))]) (pl := va_pl L6 (pE P6)) (pl1 := va_pl Ln_50 (pE Pn_51)) (T := va_pl LS (pE PS)) hPT hDT [0] [1] rfl rfl (by decide) (by decide) hk1 hFc hP1 hD1
        replace hP := pk_back hP
        replace hD := pk_backD hD
        replace hK := (hK.sub (tys' := []) [] rfl).app hK1
        have hrmC := hxt_53.1.1
        rw [ht] at hrmC
        refine W_tightS (hrmA.trans hrmC) ?_
        have hrb := hxt_53.1.2
        generalize H1 = H at hP hS ⊢
        clear hPc hDc hKc hFc hk1 hz1 hPT hDT
        replace hP : va_P (dC, dI) vwQ ([(hd, .inr (12, [v18_0, v18_1, v18_2, v18_3, v18_4, .ref lq, v18_6])), (hc, .inr (12, [.ref lb, .ref lr, .ref lp, .int (zI (e6_1_3)), .int (zI (e6_1_4)), .ref la, .int (zI (z0_49))]))] ++ (va_pl Ln_50 (pE Pn_51) ++ va_pl LS (pE PS))) H := hP
        replace hD : va_D A ([(hd, .inr (12, [v18_0, v18_1, v18_2, v18_3, v18_4, .ref lq, v18_6])), (hc, .inr (12, [.ref lb, .ref lr, .ref lp, .int (zI (e6_1_3)), .int (zI (e6_1_4)), .ref la, .int (zI (z0_49))]))] ++ (va_pl Ln_50 (pE Pn_51) ++ va_pl LS (pE PS))) := hD
        replace hK : va_K (dC, dI) vwQ [(cO, .object "java/lang/Object"), (cI, .int), (cZ, .boolean)] s := hK
        refine W.widen (k := ((kc6) + kc_52)) (n := ((ks6) + ks_53)) (by omega) (by omega) ?_
        obtain ⟨rk_54, hu_54⟩ := hxt_53.2
        have hu_55 := HID.mk (hxt_53.2.2)
        replace hxt_53 := HID.mk hxt_53
        replace hu_54 := HID.mk hu_54
        have hwk_56 := hu_55.1.wk (E' := [la, lb, lr, lp]) (fun _ h9 => CPI.mem4 (Or.inr (Or.inl rfl)) h9)
        have hkl_57 := hu_55.1.lst (show CLF L6 P6 lr 17 from ⟨hq_31.1, hq_31.2, hek_38.out, how_39.out⟩) (by intro q9; simp at q9; rcases q9 with q9 | q9; exact absurd q9 (ek_ne hek_38.out hek_34.out (by decide)); exact absurd q9 (ek_ne hek_38.out hek_36.out (by decide)))
        have hkl_58 := hu_55.1.lst (show CLF L6 P6 lp 15 from ⟨hq_32.1, hq_32.2, hek_40.out, how_41.out⟩) (by intro q9; simp at q9; rcases q9 with q9 | q9; exact absurd q9 (ek_ne hek_40.out hek_34.out (by decide)); exact absurd q9 (ek_ne hek_40.out hek_36.out (by decide)))
        have hns_59 := hns_newR (i := d6_2) (n := OFS 2 PS lq (d6_2)) (p := OFS 1 PS lq (d6_2)) aP6 hu_55.2.1 hu_55.1 hu_55.2.2.1 hu_55.2.2.2.1 (by omega) (by omega) (show CLF L6 P6 la 12 from ⟨hq_29.1, hq_29.2, hek_34.out, how_35.out⟩) (show CLF L6 P6 lb 12 from ⟨hq_30.1, hq_30.2, hek_36.out, how_37.out⟩) (show CLF L6 P6 lr 17 from ⟨hq_31.1, hq_31.2, hek_38.out, how_39.out⟩) (show CLF L6 P6 lp 15 from ⟨hq_32.1, hq_32.2, hek_40.out, how_41.out⟩) (by omega) (by omega)
        have hci_60 : CPI Pn_51 PS lb lr lp lq (d6_2) (OFS 2 PS lq (d6_2)) (OFS 1 PS lq (d6_2)) := jc6.frR aP6 hu_55.2.2.1.2.2.2.2.c8 (aP6.lk (show CLF L6 P6 lb 12 from ⟨hq_30.1, hq_30.2, hek_36.out, how_37.out⟩)) (aP6.lk (show CLF L6 P6 lr 17 from ⟨hq_31.1, hq_31.2, hek_38.out, how_39.out⟩)) (aP6.lk (show CLF L6 P6 lp 15 from ⟨hq_32.1, hq_32.2, hek_40.out, how_41.out⟩)) (by omega) (by omega) (by omega) hLn1 hLn2 (by omega) (fun k9 k0 k1 => hu_55.2.2.1.2.2.2.1 k9 k0 (by omega)) (fun k9 k0 k1 => hkl_57.2 k9 k0 (by omega)) (fun k9 k0 k1 => hkl_58.2 k9 k0 (by omega)) hns_59
        have hdl_61 := jr6.same hkl_57.1 hkl_57.2
        have hdl_62 := jp6.same hkl_58.1 hkl_58.2
        have hal_63 := hu_55.2.2.1.alb ja6 (by omega) (by omega)
        have hcu_64 : CUR Pn_51 PS lb lr lp lq (d6_2) (0) (0) := (by have q9 := CUR.new (Q := PS) (lr := lr) (lp := lp) (ls := lq) hu_55.2.2.1; rw [show (e6_1_6 : Int) = d6_2 from (by omega)] at q9; exact q9)
        have hyb_65 : q_48 = Pn_51.el lb (d6_2) := (by have q9 := hu_55.2.2.1.1.2.2.1; rw [show (e6_1_6 : Int) = d6_2 from (by omega)] at q9; exact q9)
        have hq_67 : HID (la ∈ Ln_50 ∧ Pn_51.kd la = 30) := hwk_56.mem hq_29.1 hq_29.2 (by decide)
        have hq_68 : HID (lb ∈ Ln_50 ∧ Pn_51.kd lb = 30) := hwk_56.mem hq_30.1 hq_30.2 (by decide)
        have hq_69 : HID (lr ∈ Ln_50 ∧ Pn_51.kd lr = 30) := hwk_56.mem hq_31.1 hq_31.2 (by decide)
        have hq_70 : HID (lp ∈ Ln_50 ∧ Pn_51.kd lp = 30) := hwk_56.mem hq_32.1 hq_32.2 (by decide)
        have hA_71 : KEG [la, lb, lr, lp] L P Ln_50 Pn_51 := hA_33.trans hwk_56
        have hA_72 : KEG [la, lb, lr, lp] L6 P6 Ln_50 Pn_51 := (KEG.refl [la, lb, lr, lp] L6 P6).trans hwk_56
        have := hu_55.2.2.1.2.1.1
        have := hu_55.2.2.1.2.1.2.1
        have hlg_66 : LG9 (Pn_51.lz lb) (P6.lz lb) (e6_1_6) := hu_55.2.2.1.2.1.2.2
        have := hlg_66.le
        have := hu_55.2.2.2.2
        have : Pn_51.lz lr = P6.lz lr := hkl_57.1
        have : Pn_51.lz lp = P6.lz lp := hkl_58.1
        have hek_73 : HID (Pn_51.ek la = 12) := (by rw [hwk_56.ek hq_29.1 hq_29.2 (by decide)]; exact hek_34.out)
        have how_74 : HID (Pn_51.ow la = la) := ((hwk_56.1 la hq_29.1 (by rw [hq_29.2]; decide)).2.2.2.1 hq_29.2 how_35.out).1
        have hek_75 : HID (Pn_51.ek lb = 12) := (by rw [hwk_56.ek hq_30.1 hq_30.2 (by decide)]; exact hek_36.out)
        have how_76 : HID (Pn_51.ow lb = lb) := ((hwk_56.1 lb hq_30.1 (by rw [hq_30.2]; decide)).2.2.2.1 hq_30.2 how_37.out).1
        have hek_77 : HID (Pn_51.ek lr = 17) := (by rw [hwk_56.ek hq_31.1 hq_31.2 (by decide)]; exact hek_38.out)
        have how_78 : HID (Pn_51.ow lr = lr) := ((hwk_56.1 lr hq_31.1 (by rw [hq_31.2]; decide)).2.2.2.1 hq_31.2 how_39.out).1
        have hek_79 : HID (Pn_51.ek lp = 15) := (by rw [hwk_56.ek hq_32.1 hq_32.2 (by decide)]; exact hek_40.out)
        have how_80 : HID (Pn_51.ow lp = lp) := ((hwk_56.1 lp hq_32.1 (by rw [hq_32.2]; decide)).2.2.2.1 hq_32.2 how_41.out).1
        skip
        refine lv_astore (lv' := [(4, .ref q_48), (3, .ref xb_44), (0, .ref hc), (1, .ref hd), (2, .int (zI (d6_2)))]) hx hb dX13_copy_24 hl (by decide) rfl (fun ls hl => ?_)
        refine lv_iconst (v := 0) hx hb dX13_copy_26 (by decide) ?_
        refine lv_istore (lv' := [(5, .int 0), (4, .ref q_48), (3, .ref xb_44), (0, .ref hc), (1, .ref hd), (2, .int (zI (d6_2)))]) hx hb dX13_copy_27 hl (by decide) rfl (fun ls hl => ?_)
        have key29 : ∀ n29 : Nat, ∀ (d29_5 : Int) (e29_1_4 : Int) (L29 : List Nat) (P29 : PO) (kc29 : Nat) (ks29 : Nat) (ls : Array Slot) (H : Heap) (locs : List Loc), (KEG [la, lb, lr, lp] Ln_50 Pn_51 L29 P29) → (GLR L29 P29 cO cI cZ sx_ed) → (0 ≤ d29_5 ∧ d29_5 ≤ PS.lz (PS.bp (PS.el lq (d6_2)))) → (0 ≤ e29_1_4 ∧ e29_1_4 ≤ 19001) → (CPI P29 PS lb lr lp lq (d6_2) (OFS 2 PS lq (d6_2)) (OFS 1 PS lq (d6_2) + d29_5)) → (DSL P29 lr) → (DSL P29 lp) → (DST P29 lb) → (∀ b : Int, 0 ≤ b → b < P29.lz la → P29.el la b = P29.el lb b) → (z0_49 = d6_2 + 1 ∧ e6_1_3 = OFS 2 PS lq (d6_2) ∧ e29_1_4 = OFS 1 PS lq (d6_2) + d29_5 ∧ P29.lz la = d6_2 + 1 ∧ z0_49 ≤ P29.lz lb ∧ e6_1_3 ≤ P29.lz lr ∧ e29_1_4 ≤ P29.lz lp) → (LGM (P29.lz lb) (P.lz lb) (z0_49) ∧ LGM (P29.lz lr) (P.lz lr) (e6_1_3) ∧ LGM (P29.lz lp) (P.lz lp) (e29_1_4)) → (CUR P29 PS lb lr lp lq (d6_2) (d29_5) (0)) → (q_48 = P29.el lb (d6_2)) → ((ks29 : Int) ≤ 300000 * d6_2 + 250000 * e6_1_3 + 1300000 * e29_1_4 + 300000 ∧ (kc29 : Int) ≤ 10 * d6_2 + 5 * e6_1_3 + 1000 * e29_1_4 + 10) → ((PS.lz (PS.bp (PS.el lq (d6_2))) - d29_5 : Int).toNat) < n29 → lv_has ls 9 [(0, .ref hc), (1, .ref hd), (2, .int (zI (d6_2))), (3, .ref xb_44), (4, .ref q_48), (5, .int (zI (d29_5)))] → va_P (dC, dI) vwQ ([(hd, .inr (12, [v18_0, v18_1, v18_2, v18_3, v18_4, .ref lq, v18_6])), (hc, .inr (12, [.ref lb, .ref lr, .ref lp, .int (zI (e6_1_3)), .int (zI (e29_1_4)), .ref la, .int (zI (z0_49))]))] ++ (va_pl L29 (pE P29) ++ va_pl LS (pE PS))) H → va_D A ([(hd, .inr (12, [v18_0, v18_1, v18_2, v18_3, v18_4, .ref lq, v18_6])), (hc, .inr (12, [.ref lb, .ref lr, .ref lp, .int (zI (e6_1_3)), .int (zI (e29_1_4)), .ref la, .int (zI (z0_49))]))] ++ (va_pl L29 (pE P29) ++ va_pl LS (pE PS))) → va_S A s.heap H locs → W p l e (headSpec v_P13_copyR ({ frames := 8, cells := (20000000), slots := (40000000000), locals := 213 })).room s m ([.ref hc, .ref hd] : List Value).toArray below meth c H locs (kc29) (ks29) Q (F0 m 29 ls []) := by
          intro n29
          induction n29 with
          | zero => intro d29_5 e29_1_4 L29 P29 kc29 ks29 ls H locs kP29 aP29 jd29_5 je29_1_4 jc29 jr29 jp29 js29 ja29 jn29 jl29 ju29 jy29 hkr29 hm29; exact absurd hm29 (by omega)
          | succ n29 ih29 =>
            intro d29_5 e29_1_4 L29 P29 kc29 ks29 ls H locs kP29 aP29 jd29_5 je29_1_4 jc29 jr29 jp29 js29 ja29 jn29 jl29 ju29 jy29 hkr29 hm29 hl hP hD hS
            have hq_81 : HID (la ∈ L29 ∧ P29.kd la = 30) := kP29.mem hq_67.1 hq_67.2 (by decide)
            have hq_82 : HID (lb ∈ L29 ∧ P29.kd lb = 30) := kP29.mem hq_68.1 hq_68.2 (by decide)
            have hq_83 : HID (lr ∈ L29 ∧ P29.kd lr = 30) := kP29.mem hq_69.1 hq_69.2 (by decide)
            have hq_84 : HID (lp ∈ L29 ∧ P29.kd lp = 30) := kP29.mem hq_70.1 hq_70.2 (by decide)
            have hq_85 : HID (q_48 ∈ L29 ∧ P29.kd q_48 = 12) := kP29.mem hu_55.2.2.1.1.1 hu_55.2.2.1.1.2.1 (by decide)
            have hA_86 : KEG [la, lb, lr, lp] L P L29 P29 := hA_71.trans kP29
            have hA_87 : KEG [la, lb, lr, lp] L6 P6 L29 P29 := hA_72.trans kP29
            have hek_88 : HID (P29.ek la = 12) := (by rw [kP29.ek hq_67.1 hq_67.2 (by decide)]; exact hek_73.out)
            have how_89 : HID (P29.ow la = la) := ((kP29.1 la hq_67.1 (by rw [hq_67.2]; decide)).2.2.2.1 hq_67.2 how_74.out).1
            have hek_90 : HID (P29.ek lb = 12) := (by rw [kP29.ek hq_68.1 hq_68.2 (by decide)]; exact hek_75.out)
            have how_91 : HID (P29.ow lb = lb) := ((kP29.1 lb hq_68.1 (by rw [hq_68.2]; decide)).2.2.2.1 hq_68.2 how_76.out).1
            have hek_92 : HID (P29.ek lr = 17) := (by rw [kP29.ek hq_69.1 hq_69.2 (by decide)]; exact hek_77.out)
            have how_93 : HID (P29.ow lr = lr) := ((kP29.1 lr hq_69.1 (by rw [hq_69.2]; decide)).2.2.2.1 hq_69.2 how_78.out).1
            have hek_94 : HID (P29.ek lp = 15) := (by rw [kP29.ek hq_70.1 hq_70.2 (by decide)]; exact hek_79.out)
            have how_95 : HID (P29.ow lp = lp) := ((kP29.1 lp hq_70.1 (by rw [hq_70.2]; decide)).2.2.2.1 hq_70.2 how_80.out).1
            have hj29 := kP29
            have hm1 := jl29.1.max (m := 9000) (by omega) (by omega)
            have hm2 := jl29.2.1.max (m := 19000) (by omega) (by omega)
            have hm3 := jl29.2.2.max (m := 19000) (by omega) (by omega)
            skip
            refine lv_iload hx hb dX13_copy_29 (lv_at hl 5 rfl) ?_
            refine lv_aload_n hx hb dX13_copy_31 rfl (lv_at hl 3 rfl) ?_
            replace hP := pk_sw hP
            replace hD := pk_swD hD
            obtain ⟨kp_96, hkp_96⟩ := pk_getA (T := va_pl L29 (pE P29)) (X := [(hd, .inr (12, [v18_0, v18_1, v18_2, v18_3, v18_4, .ref lq, v18_6])), (hc, .inr (12, [.ref lb, .ref lr, .ref lp, .int (zI (e6_1_3)), .int (zI (e29_1_4)), .ref la, .int (zI (z0_49))]))]) (f := pE PS) hB_46.1.1
            rw [pE_block hB_46.1.2] at hkp_96
            refine va_get (D := (dC, dI)) (ci := 19) (v := .ref (PS.bp xb_44)) (C := RX12) (T := TX12) (N := 5) hx hb hts mem_P13_copyR_4 hown hK hP kp_96 hkp_96 rfl 0 (by decide) (ow (k := 13) rfl) (fun _ h9 => h9) rfl dX13_copy_32 ?_
            obtain ⟨pr_97, epr_97⟩ : ∃ q9 : Nat, q9 = PS.bp xb_44 := ⟨_, rfl⟩
            rw [← epr_97]
            have hlk_98 : LOK LS PS cO 15 pr_97 := (by rw [epr_97]; exact (hX_s.inb hi_45).2.2.1)
            have hlz9 := hlk_98.2.2.1
            replace hP := pk_sw hP
            replace hD := pk_swD hD
            have hlq : PS.lz pr_97 = PS.lz (PS.bp (PS.el lq (d6_2))) := (by rw [← hx_47, epr_97.symm])
            replace hP := pk_sw hP
            replace hD := pk_swD hD
            have hPT := pk_asc hP
            have hDT := pk_ascD hD
            replace hP := pl_left hPT
            replace hD := pl_leftD hDT
            have hlk_99 := (show LOK LS PS cO 15 pr_97 from (by rw [← epr_97.symm]; exact (hX_s.inb hi_45).2.2.1))
            have hX_x := hlk_99.1
            have hX_k := hlk_99.2.1
            have hlz9 := hlk_99.2.2.1
            have hPc := hP.part (X := [(hd, .inr (12, [v18_0, v18_1, v18_2, v18_3, v18_4, .ref lq, v18_6])), (hc, .inr (12, [.ref lb, .ref lr, .ref lp, .int (zI (e6_1_3)), .int (zI (e29_1_4)), .ref la, .int (zI (z0_49))]))]) (cx := []) (pl := va_pl LS (pE PS)) [] rfl
            have hDc := hD.part (X := [(hd, .inr (12, [v18_0, v18_1, v18_2, v18_3, v18_4, .ref lq, v18_6])), (hc, .inr (12, [.ref lb, .ref lr, .ref lp, .int (zI (e6_1_3)), .int (zI (e29_1_4)), .ref la, .int (zI (z0_49))]))]) (cx := []) (pl := va_pl LS (pE PS)) [] (by decide) rfl
            have hKc := hK.sub (tys' := [(cO, .object "java/lang/Object")]) [0] rfl
            have hFc := va_freeP (X := [(hd, .inr (12, [v18_0, v18_1, v18_2, v18_3, v18_4, .ref lq, v18_6])), (hc, .inr (12, [.ref lb, .ref lr, .ref lp, .int (zI (e6_1_3)), .int (zI (e29_1_4)), .ref la, .int (zI (z0_49))]))]) (cx := []) (pl := va_pl LS (pE PS)) hD hS hA [] rfl
            refine va_calli (va_runV (As := []) (rest := [.int (zI (d29_5))]) ⟨hx, hb, hml, hown, hts⟩ (c_PL_size l dC dI cO LS PS pr_97 hX_x hX_k (by omega) H.size) (cwV 0 hts g_P13_copyR_PL_size rfl rfl rfl (by decide +kernel) ⟨(Nat.le_of_ble_eq_true rfl), (Nat.le_of_ble_eq_true rfl)⟩) ⟨fun a U g mk q => by obtain ⟨q0, q1, qP, qK, qD⟩ := q; exact ⟨q0, q1, qP, va_K.moved (u := U) (U := U.calling g mk a) (Vm.Alike.refl U.vm) qK, qD⟩, recv_30 hKc hPc hlk_98.1 hlk_98.2.1, fun U hU hW => ⟨rfl, by rw [hU], by rw [hU]; exact hPc, va_K.moved hW.alike hKc, hDc.weaken (fun _ _ _ _ => trivial)⟩⟩ rfl rfl hl.1 rfl (lv_room (Nat.le_of_ble_eq_true rfl)) dX13_copy_35 ⟨(show (kc29) + 0 ≤ 20000000 from (by omega)), (show (ks29) + 0 ≤ 40000000000 from (by omega))⟩) hS (fun q _ h => hFc q h) hFc (fun r_100 u t H1 locs ht hvm hw hB hz1 hk1 hS => ?_)
            obtain ⟨hP1, hK1, hD1⟩ := hB
            rw [ht] at hP1
            have hK1 := va_K.moved hvm.symm hK1
            obtain ⟨hP, hD⟩ := va_joinPT (X := [(hd, .inr (12, [v18_0, v18_1, v18_2, v18_3, v18_4, .ref lq, v18_6])), (hc, .inr (12, [.ref lb, .ref lr, .ref lp, .int (zI (e6_1_3)), .int (zI (e29_1_4)), .ref la, .int (zI (z0_49))]))]) (cx := []) (wr := [(hd, .inr (12, [v18_0, v18_1, v18_2, v18_3, v18_4, .ref lq, v18_6])), (hc, .inr (12, [.ref lb, .ref lr, .ref lp, .int (zI (e6_1_3)), .int (zI (e29_1_4)), .ref la, .int (zI (z0_49))]))]) (rx := []) (pl := va_pl LS (pE PS)) (pl1 := va_pl LS (pE PS)) (T := va_pl L29 (pE P29)) hPT hDT [] [0, 1] rfl rfl (by decide) (by decide) hk1 hFc hP1 hD1
            replace hP := pk_back hP
            replace hD := pk_backD hD
            replace hK := (hK.sub (tys' := [(cI, .int), (cZ, .boolean)]) [1, 2] rfl).app hK1
            generalize H1 = H at hP hS ⊢
            clear hPc hDc hKc hFc hk1 hz1 hPT hDT
            replace hP : va_P (dC, dI) vwQ ([(hd, .inr (12, [v18_0, v18_1, v18_2, v18_3, v18_4, .ref lq, v18_6])), (hc, .inr (12, [.ref lb, .ref lr, .ref lp, .int (zI (e6_1_3)), .int (zI (e29_1_4)), .ref la, .int (zI (z0_49))]))] ++ (va_pl LS (pE PS) ++ va_pl L29 (pE P29))) H := hP
            replace hD : va_D A ([(hd, .inr (12, [v18_0, v18_1, v18_2, v18_3, v18_4, .ref lq, v18_6])), (hc, .inr (12, [.ref lb, .ref lr, .ref lp, .int (zI (e6_1_3)), .int (zI (e29_1_4)), .ref la, .int (zI (z0_49))]))] ++ (va_pl LS (pE PS) ++ va_pl L29 (pE P29))) := hD
            replace hK : va_K (dC, dI) vwQ [(cI, .int), (cZ, .boolean), (cO, .object "java/lang/Object")] s := hK
            refine W.widen (k := (kc29)) (n := (ks29)) (by omega) (by omega) ?_
            obtain rfl : r_100 = (zI (PS.lz pr_97)) := hw
            replace hP := pk_sw hP
            replace hD := pk_swD hD
            refine lv_icmp_ge (tgt := 131) hx hb dX13_copy_38 (by decide) (fun b38 => ?_) (fun b38 => ?_)
            · have yb38 : (PS.lz pr_97 : Int) ≤ (d29_5 : Int) := (zI_le (a := PS.lz pr_97) (b := d29_5) (by omega) (by omega) (by omega) (by omega)).mp b38
              refine lv_iconst (v := 0) hx hb dX13_copy_131 (by decide) ?_
              refine lv_istore (lv' := [(5, .int 0), (0, .ref hc), (1, .ref hd), (2, .int (zI (d6_2))), (3, .ref xb_44), (4, .ref q_48)]) hx hb dX13_copy_132 hl (by decide) rfl (fun ls hl => ?_)
              have key134 : ∀ n134 : Nat, ∀ (d134_5 : Int) (e134_1_3 : Int) (L134 : List Nat) (P134 : PO) (kc134 : Nat) (ks134 : Nat) (ls : Array Slot) (H : Heap) (locs : List Loc), (KEG [la, lb, lr, lp] L29 P29 L134 P134) → (GLR L134 P134 cO cI cZ sx_ed) → (0 ≤ d134_5 ∧ d134_5 ≤ PS.lz (PS.br (PS.el lq (d6_2)))) → (0 ≤ e134_1_3 ∧ e134_1_3 ≤ 19001) → (CPI P134 PS lb lr lp lq (d6_2) (OFS 2 PS lq (d6_2) + d134_5) (OFS 1 PS lq (d6_2) + d29_5)) → (DSL P134 lr) → (DSL P134 lp) → (DST P134 lb) → (∀ b : Int, 0 ≤ b → b < P134.lz la → P134.el la b = P134.el lb b) → (z0_49 = d6_2 + 1 ∧ e134_1_3 = OFS 2 PS lq (d6_2) + d134_5 ∧ e29_1_4 = OFS 1 PS lq (d6_2) + d29_5 ∧ P134.lz la = d6_2 + 1 ∧ z0_49 ≤ P134.lz lb ∧ e134_1_3 ≤ P134.lz lr ∧ e29_1_4 ≤ P134.lz lp) → (LGM (P134.lz lb) (P.lz lb) (z0_49) ∧ LGM (P134.lz lr) (P.lz lr) (e134_1_3) ∧ LGM (P134.lz lp) (P.lz lp) (e29_1_4)) → (CUR P134 PS lb lr lp lq (d6_2) (d29_5) (d134_5)) → (q_48 = P134.el lb (d6_2)) → ((ks134 : Int) ≤ 300000 * d6_2 + 250000 * e134_1_3 + 1300000 * e29_1_4 + 300000 ∧ (kc134 : Int) ≤ 10 * d6_2 + 5 * e134_1_3 + 1000 * e29_1_4 + 10) → ((PS.lz (PS.br (PS.el lq (d6_2))) - d134_5 : Int).toNat) < n134 → lv_has ls 9 [(0, .ref hc), (1, .ref hd), (2, .int (zI (d6_2))), (3, .ref xb_44), (4, .ref q_48), (5, .int (zI (d134_5)))] → va_P (dC, dI) vwQ ([(hd, .inr (12, [v18_0, v18_1, v18_2, v18_3, v18_4, .ref lq, v18_6])), (hc, .inr (12, [.ref lb, .ref lr, .ref lp, .int (zI (e134_1_3)), .int (zI (e29_1_4)), .ref la, .int (zI (z0_49))]))] ++ (va_pl L134 (pE P134) ++ va_pl LS (pE PS))) H → va_D A ([(hd, .inr (12, [v18_0, v18_1, v18_2, v18_3, v18_4, .ref lq, v18_6])), (hc, .inr (12, [.ref lb, .ref lr, .ref lp, .int (zI (e134_1_3)), .int (zI (e29_1_4)), .ref la, .int (zI (z0_49))]))] ++ (va_pl L134 (pE P134) ++ va_pl LS (pE PS))) → va_S A s.heap H locs → W p l e (headSpec v_P13_copyR ({ frames := 8, cells := (20000000), slots := (40000000000), locals := 213 })).room s m ([.ref hc, .ref hd] : List Value).toArray below meth c H locs (kc134) (ks134) Q (F0 m 134 ls []) := by
                intro n134
                induction n134 with
                | zero => intro d134_5 e134_1_3 L134 P134 kc134 ks134 ls H locs kP134 aP134 jd134_5 je134_1_3 jc134 jr134 jp134 js134 ja134 jn134 jl134 ju134 jy134 hkr134 hm134; exact absurd hm134 (by omega)
                | succ n134 ih134 =>
                  intro d134_5 e134_1_3 L134 P134 kc134 ks134 ls H locs kP134 aP134 jd134_5 je134_1_3 jc134 jr134 jp134 js134 ja134 jn134 jl134 ju134 jy134 hkr134 hm134 hl hP hD hS
                  have hq_101 : HID (la ∈ L134 ∧ P134.kd la = 30) := kP134.mem hq_81.1 hq_81.2 (by decide)
                  have hq_102 : HID (lb ∈ L134 ∧ P134.kd lb = 30) := kP134.mem hq_82.1 hq_82.2 (by decide)
                  have hq_103 : HID (lr ∈ L134 ∧ P134.kd lr = 30) := kP134.mem hq_83.1 hq_83.2 (by decide)
                  have hq_104 : HID (lp ∈ L134 ∧ P134.kd lp = 30) := kP134.mem hq_84.1 hq_84.2 (by decide)
                  have hq_105 : HID (q_48 ∈ L134 ∧ P134.kd q_48 = 12) := kP134.mem hq_85.1 hq_85.2 (by decide)
                  have hA_106 : KEG [la, lb, lr, lp] L P L134 P134 := hA_86.trans kP134
                  have hA_107 : KEG [la, lb, lr, lp] L6 P6 L134 P134 := hA_87.trans kP134
                  have hA_108 : KEG [la, lb, lr, lp] L29 P29 L134 P134 := (KEG.refl [la, lb, lr, lp] L29 P29).trans kP134
                  have hek_109 : HID (P134.ek la = 12) := (by rw [kP134.ek hq_81.1 hq_81.2 (by decide)]; exact hek_88.out)
                  have how_110 : HID (P134.ow la = la) := ((kP134.1 la hq_81.1 (by rw [hq_81.2]; decide)).2.2.2.1 hq_81.2 how_89.out).1
                  have hek_111 : HID (P134.ek lb = 12) := (by rw [kP134.ek hq_82.1 hq_82.2 (by decide)]; exact hek_90.out)
                  have how_112 : HID (P134.ow lb = lb) := ((kP134.1 lb hq_82.1 (by rw [hq_82.2]; decide)).2.2.2.1 hq_82.2 how_91.out).1
                  have hek_113 : HID (P134.ek lr = 17) := (by rw [kP134.ek hq_83.1 hq_83.2 (by decide)]; exact hek_92.out)
                  have how_114 : HID (P134.ow lr = lr) := ((kP134.1 lr hq_83.1 (by rw [hq_83.2]; decide)).2.2.2.1 hq_83.2 how_93.out).1
                  have hek_115 : HID (P134.ek lp = 15) := (by rw [kP134.ek hq_84.1 hq_84.2 (by decide)]; exact hek_94.out)
                  have how_116 : HID (P134.ow lp = lp) := ((kP134.1 lp hq_84.1 (by rw [hq_84.2]; decide)).2.2.2.1 hq_84.2 how_95.out).1
                  have hj134 := kP134
                  have hm1 := jl134.1.max (m := 9000) (by omega) (by omega)
                  have hm2 := jl134.2.1.max (m := 19000) (by omega) (by omega)
                  have hm3 := jl134.2.2.max (m := 19000) (by omega) (by omega)
                  skip
                  refine lv_iload hx hb dX13_copy_134 (lv_at hl 5 rfl) ?_
                  refine lv_aload_n hx hb dX13_copy_136 rfl (lv_at hl 3 rfl) ?_
                  replace hP := pk_sw hP
                  replace hD := pk_swD hD
                  obtain ⟨kp_117, hkp_117⟩ := pk_getA (T := va_pl L134 (pE P134)) (X := [(hd, .inr (12, [v18_0, v18_1, v18_2, v18_3, v18_4, .ref lq, v18_6])), (hc, .inr (12, [.ref lb, .ref lr, .ref lp, .int (zI (e134_1_3)), .int (zI (e29_1_4)), .ref la, .int (zI (z0_49))]))]) (f := pE PS) hB_46.1.1
                  rw [pE_block hB_46.1.2] at hkp_117
                  refine va_get (D := (dC, dI)) (ci := 19) (v := .ref (PS.br xb_44)) (C := RX12) (T := TX12) (N := 5) hx hb hts mem_P13_copyR_4 hown hK hP kp_117 hkp_117 rfl 1 (by decide) (ow (k := 18) rfl) (fun _ h9 => h9) rfl dX13_copy_137 ?_
                  obtain ⟨pr_118, epr_118⟩ : ∃ q9 : Nat, q9 = PS.br xb_44 := ⟨_, rfl⟩
                  rw [← epr_118]
                  have hlk_119 : LOK LS PS cO 17 pr_118 := (by rw [epr_118]; exact (hX_s.inb hi_45).2.1)
                  have hlz9 := hlk_119.2.2.1
                  replace hP := pk_sw hP
                  replace hD := pk_swD hD
                  have hlq : PS.lz pr_118 = PS.lz (PS.br (PS.el lq (d6_2))) := (by rw [← hx_47, epr_118.symm])
                  replace hP := pk_sw hP
                  replace hD := pk_swD hD
                  have hPT := pk_asc hP
                  have hDT := pk_ascD hD
                  replace hP := pl_left hPT
                  replace hD := pl_leftD hDT
                  have hlk_120 := (show LOK LS PS cO 17 pr_118 from (by rw [← epr_118.symm]; exact (hX_s.inb hi_45).2.1))
                  have hX_x := hlk_120.1
                  have hX_k := hlk_120.2.1
                  have hlz9 := hlk_120.2.2.1
                  have hPc := hP.part (X := [(hd, .inr (12, [v18_0, v18_1, v18_2, v18_3, v18_4, .ref lq, v18_6])), (hc, .inr (12, [.ref lb, .ref lr, .ref lp, .int (zI (e134_1_3)), .int (zI (e29_1_4)), .ref la, .int (zI (z0_49))]))]) (cx := []) (pl := va_pl LS (pE PS)) [] rfl
                  have hDc := hD.part (X := [(hd, .inr (12, [v18_0, v18_1, v18_2, v18_3, v18_4, .ref lq, v18_6])), (hc, .inr (12, [.ref lb, .ref lr, .ref lp, .int (zI (e134_1_3)), .int (zI (e29_1_4)), .ref la, .int (zI (z0_49))]))]) (cx := []) (pl := va_pl LS (pE PS)) [] (by decide) rfl
                  have hKc := hK.sub (tys' := [(cO, .object "java/lang/Object")]) [2] rfl
                  have hFc := va_freeP (X := [(hd, .inr (12, [v18_0, v18_1, v18_2, v18_3, v18_4, .ref lq, v18_6])), (hc, .inr (12, [.ref lb, .ref lr, .ref lp, .int (zI (e134_1_3)), .int (zI (e29_1_4)), .ref la, .int (zI (z0_49))]))]) (cx := []) (pl := va_pl LS (pE PS)) hD hS hA [] rfl
                  refine va_calli (va_runV (As := []) (rest := [.int (zI (d134_5))]) ⟨hx, hb, hml, hown, hts⟩ (c_PL_size l dC dI cO LS PS pr_118 hX_x hX_k (by omega) H.size) (cwV 0 hts g_P13_copyR_PL_size rfl rfl rfl (by decide +kernel) ⟨(Nat.le_of_ble_eq_true rfl), (Nat.le_of_ble_eq_true rfl)⟩) ⟨fun a U g mk q => by obtain ⟨q0, q1, qP, qK, qD⟩ := q; exact ⟨q0, q1, qP, va_K.moved (u := U) (U := U.calling g mk a) (Vm.Alike.refl U.vm) qK, qD⟩, recv_30 hKc hPc hlk_119.1 hlk_119.2.1, fun U hU hW => ⟨rfl, by rw [hU], by rw [hU]; exact hPc, va_K.moved hW.alike hKc, hDc.weaken (fun _ _ _ _ => trivial)⟩⟩ rfl rfl hl.1 rfl (lv_room (Nat.le_of_ble_eq_true rfl)) dX13_copy_140 ⟨(show (kc134) + 0 ≤ 20000000 from (by omega)), (show (ks134) + 0 ≤ 40000000000 from (by omega))⟩) hS (fun q _ h => hFc q h) hFc (fun r_121 u t H1 locs ht hvm hw hB hz1 hk1 hS => ?_)
                  obtain ⟨hP1, hK1, hD1⟩ := hB
                  rw [ht] at hP1
                  have hK1 := va_K.moved hvm.symm hK1
                  obtain ⟨hP, hD⟩ := va_joinPT (X := [(hd, .inr (12, [v18_0, v18_1, v18_2, v18_3, v18_4, .ref lq, v18_6])), (hc, .inr (12, [.ref lb, .ref lr, .ref lp, .int (zI (e134_1_3)), .int (zI (e29_1_4)), .ref la, .int (zI (z0_49))]))]) (cx := []) (wr := [(hd, .inr (12, [v18_0, v18_1, v18_2, v18_3, v18_4, .ref lq, v18_6])), (hc, .inr (12, [.ref lb, .ref lr, .ref lp, .int (zI (e134_1_3)), .int (zI (e29_1_4)), .ref la, .int (zI (z0_49))]))]) (rx := []) (pl := va_pl LS (pE PS)) (pl1 := va_pl LS (pE PS)) (T := va_pl L134 (pE P134)) hPT hDT [] [0, 1] rfl rfl (by decide) (by decide) hk1 hFc hP1 hD1
                  replace hP := pk_back hP
                  replace hD := pk_backD hD
                  replace hK := (hK.sub (tys' := [(cI, .int), (cZ, .boolean)]) [0, 1] rfl).app hK1
                  generalize H1 = H at hP hS ⊢
                  clear hPc hDc hKc hFc hk1 hz1 hPT hDT
                  replace hP : va_P (dC, dI) vwQ ([(hd, .inr (12, [v18_0, v18_1, v18_2, v18_3, v18_4, .ref lq, v18_6])), (hc, .inr (12, [.ref lb, .ref lr, .ref lp, .int (zI (e134_1_3)), .int (zI (e29_1_4)), .ref la, .int (zI (z0_49))]))] ++ (va_pl LS (pE PS) ++ va_pl L134 (pE P134))) H := hP
                  replace hD : va_D A ([(hd, .inr (12, [v18_0, v18_1, v18_2, v18_3, v18_4, .ref lq, v18_6])), (hc, .inr (12, [.ref lb, .ref lr, .ref lp, .int (zI (e134_1_3)), .int (zI (e29_1_4)), .ref la, .int (zI (z0_49))]))] ++ (va_pl LS (pE PS) ++ va_pl L134 (pE P134))) := hD
                  replace hK : va_K (dC, dI) vwQ [(cI, .int), (cZ, .boolean), (cO, .object "java/lang/Object")] s := hK
                  refine W.widen (k := (kc134)) (n := (ks134)) (by omega) (by omega) ?_
                  obtain rfl : r_121 = (zI (PS.lz pr_118)) := hw
                  replace hP := pk_sw hP
                  replace hD := pk_swD hD
                  refine lv_icmp_ge (tgt := 186) hx hb dX13_copy_143 (by decide) (fun b143 => ?_) (fun b143 => ?_)
                  · have yb143 : (PS.lz pr_118 : Int) ≤ (d134_5 : Int) := (zI_le (a := PS.lz pr_118) (b := d134_5) (by omega) (by omega) (by omega) (by omega)).mp b143
                    refine lv_aload hx hb dX13_copy_186 (lv_at hl 4 rfl) ?_
                    have hfb := (aP134.gb hq_105.1 hq_105.2).2
                    obtain ⟨kp_122, hkp_122⟩ := pk_getA (T := va_pl LS (pE PS)) (X := [(hd, .inr (12, [v18_0, v18_1, v18_2, v18_3, v18_4, .ref lq, v18_6])), (hc, .inr (12, [.ref lb, .ref lr, .ref lp, .int (zI (e134_1_3)), .int (zI (e29_1_4)), .ref la, .int (zI (z0_49))]))]) (f := pE P134) hq_105.1
                    rw [pE_block hq_105.2] at hkp_122
                    refine va_get (D := (dC, dI)) (ci := 19) (v := .ref (P134.be q_48)) (C := RX12) (T := TX12) (N := 5) hx hb hts mem_P13_copyR_4 hown hK hP kp_122 hkp_122 rfl 2 (by decide) (ow (k := 19) rfl) (fun _ h9 => h9) rfl dX13_copy_188 ?_
                    obtain ⟨pr_123, epr_123⟩ : ∃ q9 : Nat, q9 = P134.be q_48 := ⟨_, rfl⟩
                    rw [← epr_123]
                    have hbe_124 : pr_123 ∈ L134 ∧ P134.kd pr_123 = 17 ∧ P134.ek pr_123 = 1 := (by rw [epr_123]; exact (aP134.gb hq_105.1 hq_105.2).1)
                    have hE_125 : HID (P134.ek pr_123 = 1) := hbe_124.2.2
                    skip
                    refine lv_aload_n hx hb dX13_copy_191 rfl (lv_at hl 3 rfl) ?_
                    replace hP := pk_sw hP
                    replace hD := pk_swD hD
                    obtain ⟨kp_126, hkp_126⟩ := pk_getA (T := va_pl L134 (pE P134)) (X := [(hd, .inr (12, [v18_0, v18_1, v18_2, v18_3, v18_4, .ref lq, v18_6])), (hc, .inr (12, [.ref lb, .ref lr, .ref lp, .int (zI (e134_1_3)), .int (zI (e29_1_4)), .ref la, .int (zI (z0_49))]))]) (f := pE PS) hB_46.1.1
                    rw [pE_block hB_46.1.2] at hkp_126
                    refine va_get (D := (dC, dI)) (ci := 19) (v := .ref (PS.be xb_44)) (C := RX12) (T := TX12) (N := 5) hx hb hts mem_P13_copyR_4 hown hK hP kp_126 hkp_126 rfl 2 (by decide) (ow (k := 19) rfl) (fun _ h9 => h9) rfl dX13_copy_192 ?_
                    obtain ⟨pr_127, epr_127⟩ : ∃ q9 : Nat, q9 = PS.be xb_44 := ⟨_, rfl⟩
                    rw [← epr_127]
                    have hbe_128 : pr_127 ∈ LS ∧ PS.kd pr_127 = 17 := (by rw [epr_127]; exact (hX_s.inb hi_45).2.2.2.1)
                    replace hP := pk_sw hP
                    replace hD := pk_swD hD
                    have hrk9 := hX_s.rk9 hbe_128.1 hbe_128.2
                    have ⟨hs1, hs2, hs3, hs4, hs5, hs6, hs7, hs8, hs9⟩ := hrk9
                    have hPT := pl_Pp (pk_out (X := [(hd, .inr (12, [v18_0, v18_1, v18_2, v18_3, v18_4, .ref lq, v18_6])), (hc, .inr (12, [.ref lb, .ref lr, .ref lp, .int (zI (e134_1_3)), .int (zI (e29_1_4)), .ref la, .int (zI (z0_49))]))]) (a := va_pl L134 (pE P134)) (f := pE PS) hbe_128.1) hP
                    have hDT := pl_Dp (pk_out (X := [(hd, .inr (12, [v18_0, v18_1, v18_2, v18_3, v18_4, .ref lq, v18_6])), (hc, .inr (12, [.ref lb, .ref lr, .ref lp, .int (zI (e134_1_3)), .int (zI (e29_1_4)), .ref la, .int (zI (z0_49))]))]) (a := va_pl L134 (pE P134)) (f := pE PS) hbe_128.1) hD
                    rw [pE_row hbe_128.2] at hPT hDT
                    replace hP := pl_left hPT
                    replace hD := pl_leftD hDT
                    replace hP : va_P (dC, dI) vwQ ([(hd, .inr (12, [v18_0, v18_1, v18_2, v18_3, v18_4, .ref lq, v18_6])), (hc, .inr (12, [.ref lb, .ref lr, .ref lp, .int (zI (e134_1_3)), .int (zI (e29_1_4)), .ref la, .int (zI (z0_49))])), (pr_127, .inr (21, [.int (zI (PS.ro pr_127)), .int (zI (PS.rt pr_127)), .int (zI (PS.ra pr_127)), .int (zI (PS.rb pr_127)), .int (zI (PS.rA pr_127)), .int (zI (PS.rB pr_127)), .int (zI (PS.rg pr_127))]))] ++ va_pl L134 (pE P134)) H := hP
                    replace hD : va_D A ([(hd, .inr (12, [v18_0, v18_1, v18_2, v18_3, v18_4, .ref lq, v18_6])), (hc, .inr (12, [.ref lb, .ref lr, .ref lp, .int (zI (e134_1_3)), .int (zI (e29_1_4)), .ref la, .int (zI (z0_49))])), (pr_127, .inr (21, [.int (zI (PS.ro pr_127)), .int (zI (PS.rt pr_127)), .int (zI (PS.ra pr_127)), .int (zI (PS.rb pr_127)), .int (zI (PS.rA pr_127)), .int (zI (PS.rB pr_127)), .int (zI (PS.rg pr_127))]))] ++ va_pl L134 (pE P134)) := hD
                    have hX_x := hbe_124.1
                    have hX_k := hbe_124.2.1
                    have hPc := hP.part (X := [(hd, .inr (12, [v18_0, v18_1, v18_2, v18_3, v18_4, .ref lq, v18_6])), (hc, .inr (12, [.ref lb, .ref lr, .ref lp, .int (zI (e134_1_3)), .int (zI (e29_1_4)), .ref la, .int (zI (z0_49))])), (pr_127, .inr (21, [.int (zI (PS.ro pr_127)), .int (zI (PS.rt pr_127)), .int (zI (PS.ra pr_127)), .int (zI (PS.rb pr_127)), .int (zI (PS.rA pr_127)), .int (zI (PS.rB pr_127)), .int (zI (PS.rg pr_127))]))]) (cx := [(pr_127, .inr (21, [.int (zI (PS.ro pr_127)), .int (zI (PS.rt pr_127)), .int (zI (PS.ra pr_127)), .int (zI (PS.rb pr_127)), .int (zI (PS.rA pr_127)), .int (zI (PS.rB pr_127)), .int (zI (PS.rg pr_127))]))]) (pl := va_pl L134 (pE P134)) [2] rfl
                    have hDc := hD.part (X := [(hd, .inr (12, [v18_0, v18_1, v18_2, v18_3, v18_4, .ref lq, v18_6])), (hc, .inr (12, [.ref lb, .ref lr, .ref lp, .int (zI (e134_1_3)), .int (zI (e29_1_4)), .ref la, .int (zI (z0_49))])), (pr_127, .inr (21, [.int (zI (PS.ro pr_127)), .int (zI (PS.rt pr_127)), .int (zI (PS.ra pr_127)), .int (zI (PS.rb pr_127)), .int (zI (PS.rA pr_127)), .int (zI (PS.rB pr_127)), .int (zI (PS.rg pr_127))]))]) (cx := [(pr_127, .inr (21, [.int (zI (PS.ro pr_127)), .int (zI (PS.rt pr_127)), .int (zI (PS.ra pr_127)), .int (zI (PS.rb pr_127)), .int (zI (PS.rA pr_127)), .int (zI (PS.rB pr_127)), .int (zI (PS.rg pr_127))]))]) (pl := va_pl L134 (pE P134)) [2] (by decide) rfl
                    have hKc := hK.sub (tys' := [(cO, .object "java/lang/Object")]) [2] rfl
                    have hFc := va_freeP (X := [(hd, .inr (12, [v18_0, v18_1, v18_2, v18_3, v18_4, .ref lq, v18_6])), (hc, .inr (12, [.ref lb, .ref lr, .ref lp, .int (zI (e134_1_3)), .int (zI (e29_1_4)), .ref la, .int (zI (z0_49))])), (pr_127, .inr (21, [.int (zI (PS.ro pr_127)), .int (zI (PS.rt pr_127)), .int (zI (PS.ra pr_127)), .int (zI (PS.rb pr_127)), .int (zI (PS.rA pr_127)), .int (zI (PS.rB pr_127)), .int (zI (PS.rg pr_127))]))]) (cx := [(pr_127, .inr (21, [.int (zI (PS.ro pr_127)), .int (zI (PS.rt pr_127)), .int (zI (PS.ra pr_127)), .int (zI (PS.rb pr_127)), .int (zI (PS.rA pr_127)), .int (zI (PS.rB pr_127)), .int (zI (PS.rg pr_127))]))]) (pl := va_pl L134 (pE P134)) hD hS hA [2] rfl
                    refine va_callv (va_runV (As := [.ref pr_127]) (rest := []) ⟨hx, hb, hml, hown, hts⟩ (c_PR_putX l dC dI pr_127 (PS.ro pr_127) (PS.rt pr_127) (PS.ra pr_127) (PS.rb pr_127) (PS.rA pr_127) (PS.rB pr_127) (.int (zI (PS.rg pr_127))) cO L134 P134 pr_123 (by omega) (by omega) (by omega) (by omega) (by omega) (by omega) hX_x hX_k H.size) (cwV 1 hts g_P13_copyR_PR_putX rfl rfl rfl (by decide +kernel) ⟨(Nat.le_of_ble_eq_true rfl), (Nat.le_of_ble_eq_true rfl)⟩) ⟨fun a U g mk q => by obtain ⟨q0, q1, qP, qK, qD⟩ := q; exact ⟨q0, q1, qP, va_K.moved (u := U) (U := U.calling g mk a) (Vm.Alike.refl U.vm) qK, qD⟩, recv_17 hKc hPc hbe_124.1 hbe_124.2.1, fun U hU hW => ⟨rfl, by rw [hU], by rw [hU]; exact hPc, va_K.moved hW.alike hKc, hDc.weaken (fun _ _ _ _ => trivial)⟩⟩ rfl rfl hl.1 rfl (lv_room (Nat.le_of_ble_eq_true rfl)) dX13_copy_195 ⟨(show (kc134) + 0 ≤ 20000000 from (by omega)), (show (ks134) + 0 ≤ 40000000000 from (by omega))⟩) hS (fun q _ h => hFc q h) hFc (fun  u t H1 locs ht hvm hw hB hz1 hk1 hS => ?_)
                    obtain ⟨Pn_129, hxt_129, hP1, hK1, hD1⟩ := hB
                    rw [ht] at hP1
                    have hK1 := va_K.moved hvm.symm hK1
                    obtain ⟨hP, hD⟩ := va_joinPT (X := [(hd, .inr (12, [v18_0, v18_1, v18_2, v18_3, v18_4, .ref lq, v18_6])), (hc, .inr (12, [.ref lb, .ref lr, .ref lp, .int (zI (e134_1_3)), .int (zI (e29_1_4)), .ref la, .int (zI (z0_49))])), (pr_127, .inr (21, [.int (zI (PS.ro pr_127)), .int (zI (PS.rt pr_127)), .int (zI (PS.ra pr_127)), .int (zI (PS.rb pr_127)), .int (zI (PS.rA pr_127)), .int (zI (PS.rB pr_127)), .int (zI (PS.rg pr_127))]))]) (cx := [(pr_127, .inr (21, [.int (zI (PS.ro pr_127)), .int (zI (PS.rt pr_127)), .int (zI (PS.ra pr_127)), .int (zI (PS.rb pr_127)), .int (zI (PS.rA pr_127)), .int (zI (PS.rB pr_127)), .int (zI (PS.rg pr_127))]))]) (wr := [(hd, .inr (12, [v18_0, v18_1, v18_2, v18_3, v18_4, .ref lq, v18_6])), (hc, .inr (12, [.ref lb, .ref lr, .ref lp, .int (zI (e134_1_3)), .int (zI (e29_1_4)), .ref la, .int (zI (z0_49))]))]) (rx := [(pr_127, .inr (21, [.int (zI (PS.ro pr_127)), .int (zI (PS.rt pr_127)), .int (zI (PS.ra pr_127)), .int (zI (PS.rb pr_127)), .int (zI (PS.rA pr_127)), .int (zI (PS.rB pr_127)), .int (zI (PS.rg pr_127))]))]) (pl := va_pl L134 (pE P134)) (pl1 := va_pl L134 (pE Pn_129)) (T := va_pl (LS.erase pr_127) (pE PS)) hPT hDT [2] [0, 1] rfl rfl (by decide) (by decide) hk1 hFc hP1 hD1
                    replace hP := pl_Pp (pk_out (X := [(hd, .inr (12, [v18_0, v18_1, v18_2, v18_3, v18_4, .ref lq, v18_6])), (hc, .inr (12, [.ref lb, .ref lr, .ref lp, .int (zI (e134_1_3)), .int (zI (e29_1_4)), .ref la, .int (zI (z0_49))]))]) (a := va_pl L134 (pE Pn_129)) (f := pE PS) hbe_128.1).symm (by rw [pE_row hbe_128.2]; exact hP)
                    replace hD := pl_Dp (pk_out (X := [(hd, .inr (12, [v18_0, v18_1, v18_2, v18_3, v18_4, .ref lq, v18_6])), (hc, .inr (12, [.ref lb, .ref lr, .ref lp, .int (zI (e134_1_3)), .int (zI (e29_1_4)), .ref la, .int (zI (z0_49))]))]) (a := va_pl L134 (pE Pn_129)) (f := pE PS) hbe_128.1).symm (by rw [pE_row hbe_128.2]; exact hD)
                    replace hK := (hK.sub (tys' := [(cI, .int), (cZ, .boolean)]) [0, 1] rfl).app hK1
                    generalize H1 = H at hP hS ⊢
                    clear hPc hDc hKc hFc hk1 hz1 hPT hDT
                    replace hP : va_P (dC, dI) vwQ ([(hd, .inr (12, [v18_0, v18_1, v18_2, v18_3, v18_4, .ref lq, v18_6])), (hc, .inr (12, [.ref lb, .ref lr, .ref lp, .int (zI (e134_1_3)), .int (zI (e29_1_4)), .ref la, .int (zI (z0_49))]))] ++ (va_pl L134 (pE Pn_129) ++ va_pl LS (pE PS))) H := hP
                    replace hD : va_D A ([(hd, .inr (12, [v18_0, v18_1, v18_2, v18_3, v18_4, .ref lq, v18_6])), (hc, .inr (12, [.ref lb, .ref lr, .ref lp, .int (zI (e134_1_3)), .int (zI (e29_1_4)), .ref la, .int (zI (z0_49))]))] ++ (va_pl L134 (pE Pn_129) ++ va_pl LS (pE PS))) := hD
                    replace hK : va_K (dC, dI) vwQ [(cI, .int), (cZ, .boolean), (cO, .object "java/lang/Object")] s := hK
                    refine W.widen (k := (kc134)) (n := (ks134)) (by omega) (by omega) ?_
                    have hu_130 := HID.mk (hxt_129)
                    replace hxt_129 := HID.mk hxt_129
                    have hk0_131 := RW1.kegR (E := []) (la := la) hu_130.1 L134 hq_101.2 (by rw [hbe_124.2.1]; decide)
                    have hwk_132 := RW1.kegR (E := [la, lb, lr, lp]) (la := la) hu_130.1 L134 hq_101.2 (by rw [hbe_124.2.1]; decide)
                    have hcw_133 : CRW Pn_129 pr_123 PS pr_127 := ⟨hu_130.2.1, hu_130.2.2.1, hu_130.2.2.2.1, hu_130.2.2.2.2.1, hu_130.2.2.2.2.2.1, hu_130.2.2.2.2.2.2.1⟩
                    have hkl_135 := hk0_131.lst (show CLF L134 P134 la 12 from ⟨hq_101.1, hq_101.2, hek_109.out, how_110.out⟩) (by simp)
                    have hkl_136 := hk0_131.lst (show CLF L134 P134 lb 12 from ⟨hq_102.1, hq_102.2, hek_111.out, how_112.out⟩) (by simp)
                    have hkl_137 := hk0_131.lst (show CLF L134 P134 lr 17 from ⟨hq_103.1, hq_103.2, hek_113.out, how_114.out⟩) (by simp)
                    have hkl_138 := hk0_131.lst (show CLF L134 P134 lp 15 from ⟨hq_104.1, hq_104.2, hek_115.out, how_116.out⟩) (by simp)
                    have hak_134 : GLR L134 Pn_129 cO cI cZ sx_ed := aP134.row hu_130.1 hbe_124.2.1 ((hX_s.rok hbe_128.1 hbe_128.2).cpR hcw_133 hu_130.2.2.2.2.2.2.2) (fun e9 => absurd hbe_124.2.2 e9)
                    have hns_139 := hns_oneR (i := d6_2) (n := OFS 2 PS lq (d6_2) + d134_5) (p := OFS 1 PS lq (d6_2) + d29_5) (x := pr_123) aP134 (aP134.lk (show CLF L134 P134 lb 12 from ⟨hq_102.1, hq_102.2, hek_111.out, how_112.out⟩)) (aP134.lk (show CLF L134 P134 lr 17 from ⟨hq_103.1, hq_103.2, hek_113.out, how_114.out⟩)) hek_113.out (aP134.lk (show CLF L134 P134 lp 15 from ⟨hq_104.1, hq_104.2, hek_115.out, how_116.out⟩)) (by omega) (by omega) (by omega) (Or.inr (Or.inl ⟨hbe_124.2.1, hbe_124.2.2, fun b9 b0 b1 e9 => (js134 b9 (d6_2) b0 (by omega) (by omega)).2 (by rw [← jy134, epr_123.symm]; exact e9.symm)⟩))
                    have hci_140 : CPI Pn_129 PS lb lr lp lq (d6_2) (OFS 2 PS lq (d6_2) + d134_5) (OFS 1 PS lq (d6_2) + d29_5) := jc134.frR aP134 (hu_130.1.chg _).c8 (aP134.lk (show CLF L134 P134 lb 12 from ⟨hq_102.1, hq_102.2, hek_111.out, how_112.out⟩)) (aP134.lk (show CLF L134 P134 lr 17 from ⟨hq_103.1, hq_103.2, hek_113.out, how_114.out⟩)) (aP134.lk (show CLF L134 P134 lp 15 from ⟨hq_104.1, hq_104.2, hek_115.out, how_116.out⟩)) (by omega) (by omega) (by omega) hLn1 hLn2 (by omega) (fun k9 k0 k1 => hkl_136.2 k9 k0 (by omega)) (fun k9 k0 k1 => hkl_137.2 k9 k0 (by omega)) (fun k9 k0 k1 => hkl_138.2 k9 k0 (by omega)) hns_139
                    have hcu_141 : CUR Pn_129 PS lb lr lp lq (d6_2) (d29_5) (d134_5) := ju134.rw1R hu_130.1 aP134 (show CLF L134 P134 lb 12 from ⟨hq_102.1, hq_102.2, hek_111.out, how_112.out⟩) (by omega) (by omega) (by rw [hbe_124.2.1]; decide)
                    have hyb_142 : q_48 = Pn_129.el lb (d6_2) := jy134.trans (hkl_136.2 (d6_2) (by omega) (by omega)).symm
                    have hds_143 := js134.kegR aP134 ⟨hq_102.1, hq_102.2, hek_111.out, how_112.out⟩ hk0_131 (by simp)
                    have hdl_144 := jr134.same hkl_137.1 hkl_137.2
                    have hdl_145 := jp134.same hkl_138.1 hkl_138.2
                    have hal_146 : ∀ b : Int, 0 ≤ b → b < Pn_129.lz la → Pn_129.el la b = Pn_129.el lb b := (fun b b0 b1 => by rw [hkl_135.1] at b1; rw [hkl_135.2 b b0 b1, hkl_136.2 b b0 (by omega)]; exact ja134 b b0 b1)
                    have hq_147 : HID (la ∈ L134 ∧ Pn_129.kd la = 30) := hwk_132.mem hq_101.1 hq_101.2 (by decide)
                    have hq_148 : HID (lb ∈ L134 ∧ Pn_129.kd lb = 30) := hwk_132.mem hq_102.1 hq_102.2 (by decide)
                    have hq_149 : HID (lr ∈ L134 ∧ Pn_129.kd lr = 30) := hwk_132.mem hq_103.1 hq_103.2 (by decide)
                    have hq_150 : HID (lp ∈ L134 ∧ Pn_129.kd lp = 30) := hwk_132.mem hq_104.1 hq_104.2 (by decide)
                    have hq_151 : HID (q_48 ∈ L134 ∧ Pn_129.kd q_48 = 12) := hwk_132.mem hq_105.1 hq_105.2 (by decide)
                    have hq_152 : HID (pr_123 ∈ L134 ∧ Pn_129.kd pr_123 = 17) := hwk_132.mem hbe_124.1 hbe_124.2.1 (by decide)
                    have ha_153 : HID (Pn_129.be q_48 = pr_123) := hwk_132.be hq_105.1 hq_105.2 epr_123.symm
                    have hA_154 : KEG [la, lb, lr, lp] L P L134 Pn_129 := hA_106.trans hwk_132
                    have hA_155 : KEG [la, lb, lr, lp] L6 P6 L134 Pn_129 := hA_107.trans hwk_132
                    have hA_156 : KEG [la, lb, lr, lp] L29 P29 L134 Pn_129 := hA_108.trans hwk_132
                    have hA_157 : KEG [la, lb, lr, lp] L134 P134 L134 Pn_129 := (KEG.refl [la, lb, lr, lp] L134 P134).trans hwk_132
                    have : Pn_129.lz la = P134.lz la := hkl_135.1
                    have : Pn_129.lz lb = P134.lz lb := hkl_136.1
                    have : Pn_129.lz lr = P134.lz lr := hkl_137.1
                    have : Pn_129.lz lp = P134.lz lp := hkl_138.1
                    have hek_158 : HID (Pn_129.ek la = 12) := (by rw [hwk_132.ek hq_101.1 hq_101.2 (by decide)]; exact hek_109.out)
                    have how_159 : HID (Pn_129.ow la = la) := ((hwk_132.1 la hq_101.1 (by rw [hq_101.2]; decide)).2.2.2.1 hq_101.2 how_110.out).1
                    have hek_160 : HID (Pn_129.ek lb = 12) := (by rw [hwk_132.ek hq_102.1 hq_102.2 (by decide)]; exact hek_111.out)
                    have how_161 : HID (Pn_129.ow lb = lb) := ((hwk_132.1 lb hq_102.1 (by rw [hq_102.2]; decide)).2.2.2.1 hq_102.2 how_112.out).1
                    have hek_162 : HID (Pn_129.ek lr = 17) := (by rw [hwk_132.ek hq_103.1 hq_103.2 (by decide)]; exact hek_113.out)
                    have how_163 : HID (Pn_129.ow lr = lr) := ((hwk_132.1 lr hq_103.1 (by rw [hq_103.2]; decide)).2.2.2.1 hq_103.2 how_114.out).1
                    have hek_164 : HID (Pn_129.ek lp = 15) := (by rw [hwk_132.ek hq_104.1 hq_104.2 (by decide)]; exact hek_115.out)
                    have how_165 : HID (Pn_129.ow lp = lp) := ((hwk_132.1 lp hq_104.1 (by rw [hq_104.2]; decide)).2.2.2.1 hq_104.2 how_116.out).1
                    have hE_166 : HID (Pn_129.ek pr_123 = 1) := (by rw [hwk_132.ek hbe_124.1 hbe_124.2.1 (by decide)]; exact hE_125.out)
                    refine lv_aload hx hb dX13_copy_198 (lv_at hl 4 rfl) ?_
                    refine lv_aload_n hx hb dX13_copy_200 rfl (lv_at hl 3 rfl) ?_
                    replace hP := pk_sw hP
                    replace hD := pk_swD hD
                    obtain ⟨kp_167, hkp_167⟩ := pk_getA (T := va_pl L134 (pE Pn_129)) (X := [(hd, .inr (12, [v18_0, v18_1, v18_2, v18_3, v18_4, .ref lq, v18_6])), (hc, .inr (12, [.ref lb, .ref lr, .ref lp, .int (zI (e134_1_3)), .int (zI (e29_1_4)), .ref la, .int (zI (z0_49))]))]) (f := pE PS) hB_46.1.1
                    rw [pE_block hB_46.1.2] at hkp_167
                    refine va_get (D := (dC, dI)) (ci := 19) (v := .int (zI (PS.bf xb_44))) (C := RX12) (T := TX12) (N := 5) hx hb hts mem_P13_copyR_4 hown hK hP kp_167 hkp_167 rfl 3 (by decide) (ow (k := 24) rfl) (fun _ h9 => h9) rfl dX13_copy_201 ?_
                    replace hP := pk_sw hP
                    replace hD := pk_swD hD
                    have hfb := (hak_134.gb hq_151.1 hq_151.2).2
                    obtain ⟨kp_168, gkp_168⟩ := va_pl_get (X := [(hd, .inr (12, [v18_0, v18_1, v18_2, v18_3, v18_4, .ref lq, v18_6])), (hc, .inr (12, [.ref lb, .ref lr, .ref lp, .int (zI (e134_1_3)), .int (zI (e29_1_4)), .ref la, .int (zI (z0_49))]))]) (f := pE Pn_129) hq_151.1
                    have hkp_168 := pk_up (b := va_pl LS (pE PS)) gkp_168
                    rw [pE_block hq_151.2] at hkp_168
                    have hD0 := pl_leftD (pk_ascD hD)
                    refine va_put (D := (dC, dI)) (ci := 19) (v := .int (zI (PS.bf xb_44))) (ty := .int) (C := RX12) (T := TX12) (N := 5) hx hb hts mem_P13_copyR_4 tyX12 tyX12_ok nmX12 hown hK hP hD hS kp_168 hkp_168 rfl 3 (by decide) (ow (k := 24) rfl) (fun _ h9 => h9) rfl (by decide +kernel) rfl rfl (by first | exact Nat.le_of_ble_eq_true rfl | exact (show (kc134) ≤ 20000000 from (by omega)) | exact (show (ks134) ≤ 40000000000 from (by omega))) dX13_copy_204 (fun H locs hP9 hD9 hS9 => ?_)
                    replace hP := hP9; replace hD := hD9; replace hS := hS9; clear hP9 hD9 hS9
                    obtain ⟨Pw_169, ePw_169⟩ : ∃ q9 : PO, q9 = Pn_129.rw9 0 q_48 (PS.bf xb_44) := ⟨_, rfl⟩
                    have eU : (([(hd, .inr (12, [v18_0, v18_1, v18_2, v18_3, v18_4, .ref lq, v18_6])), (hc, .inr (12, [.ref lb, .ref lr, .ref lp, .int (zI (e134_1_3)), .int (zI (e29_1_4)), .ref la, .int (zI (z0_49))]))] : va_W) ++ va_pl L134 (pE Pn_129)).set kp_168 (q_48, blockE (Pn_129.bp q_48) (Pn_129.br q_48) (Pn_129.be q_48) (PS.bf xb_44) (Pn_129.bs q_48)) = ([(hd, .inr (12, [v18_0, v18_1, v18_2, v18_3, v18_4, .ref lq, v18_6])), (hc, .inr (12, [.ref lb, .ref lr, .ref lp, .int (zI (e134_1_3)), .int (zI (e29_1_4)), .ref la, .int (zI (z0_49))]))] : va_W) ++ va_pl L134 (pE Pw_169) := (by rw [va_pl_set hD0 hq_151.1 gkp_168, ePw_169]; exact congrArg (fun f9 => ([(hd, .inr (12, [v18_0, v18_1, v18_2, v18_3, v18_4, .ref lq, v18_6])), (hc, .inr (12, [.ref lb, .ref lr, .ref lp, .int (zI (e134_1_3)), .int (zI (e29_1_4)), .ref la, .int (zI (z0_49))]))] : va_W) ++ va_pl L134 f9) (put12_0 hq_151.2))
                    have eV := pk_set (b := va_pl LS (pE PS)) gkp_168 eU
                    replace hP : va_P (dC, dI) vwQ ([(hd, .inr (12, [v18_0, v18_1, v18_2, v18_3, v18_4, .ref lq, v18_6])), (hc, .inr (12, [.ref lb, .ref lr, .ref lp, .int (zI (e134_1_3)), .int (zI (e29_1_4)), .ref la, .int (zI (z0_49))]))] ++ (va_pl L134 (pE Pw_169) ++ va_pl LS (pE PS))) H := (by rw [← eV]; exact hP)
                    replace hD : va_D A ([(hd, .inr (12, [v18_0, v18_1, v18_2, v18_3, v18_4, .ref lq, v18_6])), (hc, .inr (12, [.ref lb, .ref lr, .ref lp, .int (zI (e134_1_3)), .int (zI (e29_1_4)), .ref la, .int (zI (z0_49))]))] ++ (va_pl L134 (pE Pw_169) ++ va_pl LS (pE PS))) := (by rw [← eV]; exact hD)
                    clear eU eV hD0 gkp_168 hkp_168
                    have wPw_169 : RW1 q_48 Pn_129 Pw_169 := (by rw [ePw_169]; exact RW1.put _ _ _ _)
                    have hy_170 : Pw_169.kd la = 30 := (by rw [ePw_169]; exact hq_147.2)
                    have hy_171 : Pw_169.kd lb = 30 := (by rw [ePw_169]; exact hq_148.2)
                    have hy_172 : Pw_169.kd lr = 30 := (by rw [ePw_169]; exact hq_149.2)
                    have hy_173 : Pw_169.kd lp = 30 := (by rw [ePw_169]; exact hq_150.2)
                    have hy_174 : Pw_169.kd q_48 = 12 := (by rw [ePw_169]; exact hq_151.2)
                    have : Pw_169.bf q_48 = PS.bf xb_44 := (by rw [ePw_169]; exact rw9_at _ _ _ _)
                    have : Pw_169.bs q_48 = Pn_129.bs q_48 := (by rw [ePw_169]; exact rw9_of _ (by decide))
                    have hy_175 : Pw_169.kd pr_123 = 17 := (by rw [ePw_169]; exact hq_152.2)
                    have : Pw_169.ro pr_123 = Pn_129.ro pr_123 := wPw_169.2 _ (kd_ne hq_152.2 hq_151.2 (by decide)) _
                    have : Pw_169.rt pr_123 = Pn_129.rt pr_123 := wPw_169.2 _ (kd_ne hq_152.2 hq_151.2 (by decide)) _
                    have : Pw_169.ra pr_123 = Pn_129.ra pr_123 := wPw_169.2 _ (kd_ne hq_152.2 hq_151.2 (by decide)) _
                    have : Pw_169.rb pr_123 = Pn_129.rb pr_123 := wPw_169.2 _ (kd_ne hq_152.2 hq_151.2 (by decide)) _
                    have : Pw_169.rA pr_123 = Pn_129.rA pr_123 := wPw_169.2 _ (kd_ne hq_152.2 hq_151.2 (by decide)) _
                    have : Pw_169.rB pr_123 = Pn_129.rB pr_123 := wPw_169.2 _ (kd_ne hq_152.2 hq_151.2 (by decide)) _
                    have : Pw_169.rg pr_123 = Pn_129.rg pr_123 := wPw_169.2 _ (kd_ne hq_152.2 hq_151.2 (by decide)) _
                    have ha_176 : HID (Pw_169.be q_48 = pr_123) := (by rw [ePw_169]; exact ha_153.out)
                    have hW_177 : RW1 q_48 Pn_129 Pw_169 := wPw_169
                    have hak_179 : GLR L134 Pw_169 cO cI cZ sx_ed := hak_134.goal hW_177 hq_151.2 (by omega)
                    have hke_178 : KEG [la, lb, lr, lp] L134 Pn_129 L134 Pw_169 := hW_177.kegR _ hq_147.2 (by rw [hq_151.2]; decide)
                    have hq_181 : HID (la ∈ L134 ∧ Pw_169.kd la = 30) := hke_178.mem hq_147.1 hq_147.2 (by decide)
                    have hq_182 : HID (lb ∈ L134 ∧ Pw_169.kd lb = 30) := hke_178.mem hq_148.1 hq_148.2 (by decide)
                    have hq_183 : HID (lr ∈ L134 ∧ Pw_169.kd lr = 30) := hke_178.mem hq_149.1 hq_149.2 (by decide)
                    have hq_184 : HID (lp ∈ L134 ∧ Pw_169.kd lp = 30) := hke_178.mem hq_150.1 hq_150.2 (by decide)
                    have hq_185 : HID (q_48 ∈ L134 ∧ Pw_169.kd q_48 = 12) := hke_178.mem hq_151.1 hq_151.2 (by decide)
                    have hq_186 : HID (pr_123 ∈ L134 ∧ Pw_169.kd pr_123 = 17) := hke_178.mem hq_152.1 hq_152.2 (by decide)
                    have ha_187 : HID (Pw_169.be q_48 = pr_123) := hke_178.be hq_151.1 hq_151.2 ha_153.out
                    have hA_188 : KEG [la, lb, lr, lp] L P L134 Pw_169 := hA_154.trans hke_178
                    have hA_189 : KEG [la, lb, lr, lp] L6 P6 L134 Pw_169 := hA_155.trans hke_178
                    have hA_190 : KEG [la, lb, lr, lp] L29 P29 L134 Pw_169 := hA_156.trans hke_178
                    have hA_191 : KEG [la, lb, lr, lp] L134 P134 L134 Pw_169 := hA_157.trans hke_178
                    have : Pw_169.cap la = Pn_129.cap la := hW_177.cap la
                    have : Pw_169.cap lb = Pn_129.cap lb := hW_177.cap lb
                    have : Pw_169.cap lr = Pn_129.cap lr := hW_177.cap lr
                    have : Pw_169.cap lp = Pn_129.cap lp := hW_177.cap lp
                    have hek_192 : HID (Pw_169.ek la = 12) := (by rw [hke_178.ek hq_147.1 hq_147.2 (by decide)]; exact hek_158.out)
                    have how_193 : HID (Pw_169.ow la = la) := ((hke_178.1 la hq_147.1 (by rw [hq_147.2]; decide)).2.2.2.1 hq_147.2 how_159.out).1
                    have hek_194 : HID (Pw_169.ek lb = 12) := (by rw [hke_178.ek hq_148.1 hq_148.2 (by decide)]; exact hek_160.out)
                    have how_195 : HID (Pw_169.ow lb = lb) := ((hke_178.1 lb hq_148.1 (by rw [hq_148.2]; decide)).2.2.2.1 hq_148.2 how_161.out).1
                    have hek_196 : HID (Pw_169.ek lr = 17) := (by rw [hke_178.ek hq_149.1 hq_149.2 (by decide)]; exact hek_162.out)
                    have how_197 : HID (Pw_169.ow lr = lr) := ((hke_178.1 lr hq_149.1 (by rw [hq_149.2]; decide)).2.2.2.1 hq_149.2 how_163.out).1
                    have hek_198 : HID (Pw_169.ek lp = 15) := (by rw [hke_178.ek hq_150.1 hq_150.2 (by decide)]; exact hek_164.out)
                    have how_199 : HID (Pw_169.ow lp = lp) := ((hke_178.1 lp hq_150.1 (by rw [hq_150.2]; decide)).2.2.2.1 hq_150.2 how_165.out).1
                    have hE_200 : HID (Pw_169.ek pr_123 = 1) := (by rw [hke_178.ek hq_152.1 hq_152.2 (by decide)]; exact hE_166.out)
                    have hk0_201 := RW1.kegR (E := []) (la := la) hW_177 L134 hq_147.2 (by rw [hq_151.2]; decide)
                    have hkl_202 := hk0_201.lst (show CLF L134 Pn_129 la 12 from ⟨hq_147.1, hq_147.2, hek_158.out, how_159.out⟩) (by simp)
                    have hkl_203 := hk0_201.lst (show CLF L134 Pn_129 lb 12 from ⟨hq_148.1, hq_148.2, hek_160.out, how_161.out⟩) (by simp)
                    have hkl_204 := hk0_201.lst (show CLF L134 Pn_129 lr 17 from ⟨hq_149.1, hq_149.2, hek_162.out, how_163.out⟩) (by simp)
                    have hkl_205 := hk0_201.lst (show CLF L134 Pn_129 lp 15 from ⟨hq_150.1, hq_150.2, hek_164.out, how_165.out⟩) (by simp)
                    have hns_206 := hns_oneR (i := d6_2) (n := OFS 2 PS lq (d6_2) + d134_5) (p := OFS 1 PS lq (d6_2) + d29_5) (x := q_48) hak_134 (hak_134.lk (show CLF L134 Pn_129 lb 12 from ⟨hq_148.1, hq_148.2, hek_160.out, how_161.out⟩)) (hak_134.lk (show CLF L134 Pn_129 lr 17 from ⟨hq_149.1, hq_149.2, hek_162.out, how_163.out⟩)) hek_162.out (hak_134.lk (show CLF L134 Pn_129 lp 15 from ⟨hq_150.1, hq_150.2, hek_164.out, how_165.out⟩)) (by omega) (by omega) (by omega) (Or.inr (Or.inr ⟨hq_151.2, fun b9 b0 b1 e9 => (hds_143 b9 (d6_2) b0 (by omega) (by omega)).1 (by rw [← hyb_142]; exact e9.symm)⟩))
                    have hci_207 : CPI Pw_169 PS lb lr lp lq (d6_2) (OFS 2 PS lq (d6_2) + d134_5) (OFS 1 PS lq (d6_2) + d29_5) := hci_140.frR hak_134 (hW_177.chg _).c8 (hak_134.lk (show CLF L134 Pn_129 lb 12 from ⟨hq_148.1, hq_148.2, hek_160.out, how_161.out⟩)) (hak_134.lk (show CLF L134 Pn_129 lr 17 from ⟨hq_149.1, hq_149.2, hek_162.out, how_163.out⟩)) (hak_134.lk (show CLF L134 Pn_129 lp 15 from ⟨hq_150.1, hq_150.2, hek_164.out, how_165.out⟩)) (by omega) (by omega) (by omega) hLn1 hLn2 (by omega) (fun k9 k0 k1 => hkl_203.2 k9 k0 (by omega)) (fun k9 k0 k1 => hkl_204.2 k9 k0 (by omega)) (fun k9 k0 k1 => hkl_205.2 k9 k0 (by omega)) hns_206
                    have hcu_208 : CUR Pw_169 PS lb lr lp lq (d6_2) (d29_5) (d134_5) := hcu_141.rw1R hW_177 hak_134 (show CLF L134 Pn_129 lb 12 from ⟨hq_148.1, hq_148.2, hek_160.out, how_161.out⟩) (by omega) (by omega) (by rw [hq_151.2]; decide)
                    have hyb_209 : q_48 = Pw_169.el lb (d6_2) := hyb_142.trans (hkl_203.2 (d6_2) (by omega) (by omega)).symm
                    have hds_210 := hds_143.kegR hak_134 ⟨hq_148.1, hq_148.2, hek_160.out, how_161.out⟩ hk0_201 (by simp)
                    have hdl_211 := hdl_144.same hkl_204.1 hkl_204.2
                    have hdl_212 := hdl_145.same hkl_205.1 hkl_205.2
                    have hal_213 : ∀ b : Int, 0 ≤ b → b < Pw_169.lz la → Pw_169.el la b = Pw_169.el lb b := (fun b b0 b1 => by rw [hkl_202.1] at b1; rw [hkl_202.2 b b0 b1, hkl_203.2 b b0 (by omega)]; exact hal_146 b b0 b1)
                    have : Pw_169.lz la = Pn_129.lz la := hkl_202.1
                    have : Pw_169.lz lb = Pn_129.lz lb := hkl_203.1
                    have : Pw_169.lz lr = Pn_129.lz lr := hkl_204.1
                    have : Pw_169.lz lp = Pn_129.lz lp := hkl_205.1
                    have hcw_214 : CRW Pw_169 pr_123 PS pr_127 := hcw_133.num (fun f9 => hW_177.2 pr_123 (fun e9 => kd_ne hq_151.2 hq_152.2 (by decide) e9.symm) f9)
                    refine lv_aload hx hb dX13_copy_207 (lv_at hl 4 rfl) ?_
                    refine lv_aload_n hx hb dX13_copy_209 rfl (lv_at hl 3 rfl) ?_
                    replace hP := pk_sw hP
                    replace hD := pk_swD hD
                    obtain ⟨kp_215, hkp_215⟩ := pk_getA (T := va_pl L134 (pE Pw_169)) (X := [(hd, .inr (12, [v18_0, v18_1, v18_2, v18_3, v18_4, .ref lq, v18_6])), (hc, .inr (12, [.ref lb, .ref lr, .ref lp, .int (zI (e134_1_3)), .int (zI (e29_1_4)), .ref la, .int (zI (z0_49))]))]) (f := pE PS) hB_46.1.1
                    rw [pE_block hB_46.1.2] at hkp_215
                    refine va_get (D := (dC, dI)) (ci := 19) (v := .int (zI (PS.bs xb_44))) (C := RX12) (T := TX12) (N := 5) hx hb hts mem_P13_copyR_4 hown hK hP kp_215 hkp_215 rfl 4 (by decide) (ow (k := 25) rfl) (fun _ h9 => h9) rfl dX13_copy_210 ?_
                    replace hP := pk_sw hP
                    replace hD := pk_swD hD
                    have hfb := (hak_179.gb hq_185.1 hq_185.2).2
                    obtain ⟨kp_216, gkp_216⟩ := va_pl_get (X := [(hd, .inr (12, [v18_0, v18_1, v18_2, v18_3, v18_4, .ref lq, v18_6])), (hc, .inr (12, [.ref lb, .ref lr, .ref lp, .int (zI (e134_1_3)), .int (zI (e29_1_4)), .ref la, .int (zI (z0_49))]))]) (f := pE Pw_169) hq_185.1
                    have hkp_216 := pk_up (b := va_pl LS (pE PS)) gkp_216
                    rw [pE_block hq_185.2] at hkp_216
                    have hD0 := pl_leftD (pk_ascD hD)
                    refine va_put (D := (dC, dI)) (ci := 19) (v := .int (zI (PS.bs xb_44))) (ty := .int) (C := RX12) (T := TX12) (N := 5) hx hb hts mem_P13_copyR_4 tyX12 tyX12_ok nmX12 hown hK hP hD hS kp_216 hkp_216 rfl 4 (by decide) (ow (k := 25) rfl) (fun _ h9 => h9) rfl (by decide +kernel) rfl rfl (by first | exact Nat.le_of_ble_eq_true rfl | exact (show (kc134) ≤ 20000000 from (by omega)) | exact (show (ks134) ≤ 40000000000 from (by omega))) dX13_copy_213 (fun H locs hP9 hD9 hS9 => ?_)
                    replace hP := hP9; replace hD := hD9; replace hS := hS9; clear hP9 hD9 hS9
                    obtain ⟨Pw_217, ePw_217⟩ : ∃ q9 : PO, q9 = Pw_169.rw9 1 q_48 (PS.bs xb_44) := ⟨_, rfl⟩
                    have eU : (([(hd, .inr (12, [v18_0, v18_1, v18_2, v18_3, v18_4, .ref lq, v18_6])), (hc, .inr (12, [.ref lb, .ref lr, .ref lp, .int (zI (e134_1_3)), .int (zI (e29_1_4)), .ref la, .int (zI (z0_49))]))] : va_W) ++ va_pl L134 (pE Pw_169)).set kp_216 (q_48, blockE (Pw_169.bp q_48) (Pw_169.br q_48) (Pw_169.be q_48) (Pw_169.bf q_48) (PS.bs xb_44)) = ([(hd, .inr (12, [v18_0, v18_1, v18_2, v18_3, v18_4, .ref lq, v18_6])), (hc, .inr (12, [.ref lb, .ref lr, .ref lp, .int (zI (e134_1_3)), .int (zI (e29_1_4)), .ref la, .int (zI (z0_49))]))] : va_W) ++ va_pl L134 (pE Pw_217) := (by rw [va_pl_set hD0 hq_185.1 gkp_216, ePw_217]; exact congrArg (fun f9 => ([(hd, .inr (12, [v18_0, v18_1, v18_2, v18_3, v18_4, .ref lq, v18_6])), (hc, .inr (12, [.ref lb, .ref lr, .ref lp, .int (zI (e134_1_3)), .int (zI (e29_1_4)), .ref la, .int (zI (z0_49))]))] : va_W) ++ va_pl L134 f9) (put12_1 hq_185.2))
                    have eV := pk_set (b := va_pl LS (pE PS)) gkp_216 eU
                    replace hP : va_P (dC, dI) vwQ ([(hd, .inr (12, [v18_0, v18_1, v18_2, v18_3, v18_4, .ref lq, v18_6])), (hc, .inr (12, [.ref lb, .ref lr, .ref lp, .int (zI (e134_1_3)), .int (zI (e29_1_4)), .ref la, .int (zI (z0_49))]))] ++ (va_pl L134 (pE Pw_217) ++ va_pl LS (pE PS))) H := (by rw [← eV]; exact hP)
                    replace hD : va_D A ([(hd, .inr (12, [v18_0, v18_1, v18_2, v18_3, v18_4, .ref lq, v18_6])), (hc, .inr (12, [.ref lb, .ref lr, .ref lp, .int (zI (e134_1_3)), .int (zI (e29_1_4)), .ref la, .int (zI (z0_49))]))] ++ (va_pl L134 (pE Pw_217) ++ va_pl LS (pE PS))) := (by rw [← eV]; exact hD)
                    clear eU eV hD0 gkp_216 hkp_216
                    have wPw_217 : RW1 q_48 Pw_169 Pw_217 := (by rw [ePw_217]; exact RW1.put _ _ _ _)
                    have hy_218 : Pw_217.kd la = 30 := (by rw [ePw_217]; exact hq_181.2)
                    have hy_219 : Pw_217.kd lb = 30 := (by rw [ePw_217]; exact hq_182.2)
                    have hy_220 : Pw_217.kd lr = 30 := (by rw [ePw_217]; exact hq_183.2)
                    have hy_221 : Pw_217.kd lp = 30 := (by rw [ePw_217]; exact hq_184.2)
                    have hy_222 : Pw_217.kd q_48 = 12 := (by rw [ePw_217]; exact hq_185.2)
                    have : Pw_217.bf q_48 = Pw_169.bf q_48 := (by rw [ePw_217]; exact rw9_of _ (by decide))
                    have : Pw_217.bs q_48 = PS.bs xb_44 := (by rw [ePw_217]; exact rw9_at _ _ _ _)
                    have hy_223 : Pw_217.kd pr_123 = 17 := (by rw [ePw_217]; exact hq_186.2)
                    have : Pw_217.ro pr_123 = Pw_169.ro pr_123 := wPw_217.2 _ (kd_ne hq_186.2 hq_185.2 (by decide)) _
                    have : Pw_217.rt pr_123 = Pw_169.rt pr_123 := wPw_217.2 _ (kd_ne hq_186.2 hq_185.2 (by decide)) _
                    have : Pw_217.ra pr_123 = Pw_169.ra pr_123 := wPw_217.2 _ (kd_ne hq_186.2 hq_185.2 (by decide)) _
                    have : Pw_217.rb pr_123 = Pw_169.rb pr_123 := wPw_217.2 _ (kd_ne hq_186.2 hq_185.2 (by decide)) _
                    have : Pw_217.rA pr_123 = Pw_169.rA pr_123 := wPw_217.2 _ (kd_ne hq_186.2 hq_185.2 (by decide)) _
                    have : Pw_217.rB pr_123 = Pw_169.rB pr_123 := wPw_217.2 _ (kd_ne hq_186.2 hq_185.2 (by decide)) _
                    have : Pw_217.rg pr_123 = Pw_169.rg pr_123 := wPw_217.2 _ (kd_ne hq_186.2 hq_185.2 (by decide)) _
                    have ha_224 : HID (Pw_217.be q_48 = pr_123) := (by rw [ePw_217]; exact ha_187.out)
                    have hW_225 : RW1 q_48 Pw_169 Pw_217 := wPw_217
                    have hak_227 : GLR L134 Pw_217 cO cI cZ sx_ed := hak_179.goal hW_225 hq_185.2 (by omega)
                    have hke_226 : KEG [la, lb, lr, lp] L134 Pw_169 L134 Pw_217 := hW_225.kegR _ hq_181.2 (by rw [hq_185.2]; decide)
                    have hq_229 : HID (la ∈ L134 ∧ Pw_217.kd la = 30) := hke_226.mem hq_181.1 hq_181.2 (by decide)
                    have hq_230 : HID (lb ∈ L134 ∧ Pw_217.kd lb = 30) := hke_226.mem hq_182.1 hq_182.2 (by decide)
                    have hq_231 : HID (lr ∈ L134 ∧ Pw_217.kd lr = 30) := hke_226.mem hq_183.1 hq_183.2 (by decide)
                    have hq_232 : HID (lp ∈ L134 ∧ Pw_217.kd lp = 30) := hke_226.mem hq_184.1 hq_184.2 (by decide)
                    have hq_233 : HID (q_48 ∈ L134 ∧ Pw_217.kd q_48 = 12) := hke_226.mem hq_185.1 hq_185.2 (by decide)
                    have hq_234 : HID (pr_123 ∈ L134 ∧ Pw_217.kd pr_123 = 17) := hke_226.mem hq_186.1 hq_186.2 (by decide)
                    have ha_235 : HID (Pw_217.be q_48 = pr_123) := hke_226.be hq_185.1 hq_185.2 ha_187.out
                    have hA_236 : KEG [la, lb, lr, lp] L P L134 Pw_217 := hA_188.trans hke_226
                    have hA_237 : KEG [la, lb, lr, lp] L6 P6 L134 Pw_217 := hA_189.trans hke_226
                    have hA_238 : KEG [la, lb, lr, lp] L29 P29 L134 Pw_217 := hA_190.trans hke_226
                    have hA_239 : KEG [la, lb, lr, lp] L134 P134 L134 Pw_217 := hA_191.trans hke_226
                    have : Pw_217.cap la = Pw_169.cap la := hW_225.cap la
                    have : Pw_217.cap lb = Pw_169.cap lb := hW_225.cap lb
                    have : Pw_217.cap lr = Pw_169.cap lr := hW_225.cap lr
                    have : Pw_217.cap lp = Pw_169.cap lp := hW_225.cap lp
                    have hek_240 : HID (Pw_217.ek la = 12) := (by rw [hke_226.ek hq_181.1 hq_181.2 (by decide)]; exact hek_192.out)
                    have how_241 : HID (Pw_217.ow la = la) := ((hke_226.1 la hq_181.1 (by rw [hq_181.2]; decide)).2.2.2.1 hq_181.2 how_193.out).1
                    have hek_242 : HID (Pw_217.ek lb = 12) := (by rw [hke_226.ek hq_182.1 hq_182.2 (by decide)]; exact hek_194.out)
                    have how_243 : HID (Pw_217.ow lb = lb) := ((hke_226.1 lb hq_182.1 (by rw [hq_182.2]; decide)).2.2.2.1 hq_182.2 how_195.out).1
                    have hek_244 : HID (Pw_217.ek lr = 17) := (by rw [hke_226.ek hq_183.1 hq_183.2 (by decide)]; exact hek_196.out)
                    have how_245 : HID (Pw_217.ow lr = lr) := ((hke_226.1 lr hq_183.1 (by rw [hq_183.2]; decide)).2.2.2.1 hq_183.2 how_197.out).1
                    have hek_246 : HID (Pw_217.ek lp = 15) := (by rw [hke_226.ek hq_184.1 hq_184.2 (by decide)]; exact hek_198.out)
                    have how_247 : HID (Pw_217.ow lp = lp) := ((hke_226.1 lp hq_184.1 (by rw [hq_184.2]; decide)).2.2.2.1 hq_184.2 how_199.out).1
                    have hE_248 : HID (Pw_217.ek pr_123 = 1) := (by rw [hke_226.ek hq_186.1 hq_186.2 (by decide)]; exact hE_200.out)
                    have hk0_249 := RW1.kegR (E := []) (la := la) hW_225 L134 hq_181.2 (by rw [hq_185.2]; decide)
                    have hkl_250 := hk0_249.lst (show CLF L134 Pw_169 la 12 from ⟨hq_181.1, hq_181.2, hek_192.out, how_193.out⟩) (by simp)
                    have hkl_251 := hk0_249.lst (show CLF L134 Pw_169 lb 12 from ⟨hq_182.1, hq_182.2, hek_194.out, how_195.out⟩) (by simp)
                    have hkl_252 := hk0_249.lst (show CLF L134 Pw_169 lr 17 from ⟨hq_183.1, hq_183.2, hek_196.out, how_197.out⟩) (by simp)
                    have hkl_253 := hk0_249.lst (show CLF L134 Pw_169 lp 15 from ⟨hq_184.1, hq_184.2, hek_198.out, how_199.out⟩) (by simp)
                    have hns_254 := hns_oneR (i := d6_2) (n := OFS 2 PS lq (d6_2) + d134_5) (p := OFS 1 PS lq (d6_2) + d29_5) (x := q_48) hak_179 (hak_179.lk (show CLF L134 Pw_169 lb 12 from ⟨hq_182.1, hq_182.2, hek_194.out, how_195.out⟩)) (hak_179.lk (show CLF L134 Pw_169 lr 17 from ⟨hq_183.1, hq_183.2, hek_196.out, how_197.out⟩)) hek_196.out (hak_179.lk (show CLF L134 Pw_169 lp 15 from ⟨hq_184.1, hq_184.2, hek_198.out, how_199.out⟩)) (by omega) (by omega) (by omega) (Or.inr (Or.inr ⟨hq_185.2, fun b9 b0 b1 e9 => (hds_210 b9 (d6_2) b0 (by omega) (by omega)).1 (by rw [← hyb_209]; exact e9.symm)⟩))
                    have hci_255 : CPI Pw_217 PS lb lr lp lq (d6_2) (OFS 2 PS lq (d6_2) + d134_5) (OFS 1 PS lq (d6_2) + d29_5) := hci_207.frR hak_179 (hW_225.chg _).c8 (hak_179.lk (show CLF L134 Pw_169 lb 12 from ⟨hq_182.1, hq_182.2, hek_194.out, how_195.out⟩)) (hak_179.lk (show CLF L134 Pw_169 lr 17 from ⟨hq_183.1, hq_183.2, hek_196.out, how_197.out⟩)) (hak_179.lk (show CLF L134 Pw_169 lp 15 from ⟨hq_184.1, hq_184.2, hek_198.out, how_199.out⟩)) (by omega) (by omega) (by omega) hLn1 hLn2 (by omega) (fun k9 k0 k1 => hkl_251.2 k9 k0 (by omega)) (fun k9 k0 k1 => hkl_252.2 k9 k0 (by omega)) (fun k9 k0 k1 => hkl_253.2 k9 k0 (by omega)) hns_254
                    have hcu_256 : CUR Pw_217 PS lb lr lp lq (d6_2) (d29_5) (d134_5) := hcu_208.rw1R hW_225 hak_179 (show CLF L134 Pw_169 lb 12 from ⟨hq_182.1, hq_182.2, hek_194.out, how_195.out⟩) (by omega) (by omega) (by rw [hq_185.2]; decide)
                    have hyb_257 : q_48 = Pw_217.el lb (d6_2) := hyb_209.trans (hkl_251.2 (d6_2) (by omega) (by omega)).symm
                    have hds_258 := hds_210.kegR hak_179 ⟨hq_182.1, hq_182.2, hek_194.out, how_195.out⟩ hk0_249 (by simp)
                    have hdl_259 := hdl_211.same hkl_252.1 hkl_252.2
                    have hdl_260 := hdl_212.same hkl_253.1 hkl_253.2
                    have hal_261 : ∀ b : Int, 0 ≤ b → b < Pw_217.lz la → Pw_217.el la b = Pw_217.el lb b := (fun b b0 b1 => by rw [hkl_250.1] at b1; rw [hkl_250.2 b b0 b1, hkl_251.2 b b0 (by omega)]; exact hal_213 b b0 b1)
                    have : Pw_217.lz la = Pw_169.lz la := hkl_250.1
                    have : Pw_217.lz lb = Pw_169.lz lb := hkl_251.1
                    have : Pw_217.lz lr = Pw_169.lz lr := hkl_252.1
                    have : Pw_217.lz lp = Pw_169.lz lp := hkl_253.1
                    have hcw_262 : CRW Pw_217 pr_123 PS pr_127 := hcw_214.num (fun f9 => hW_225.2 pr_123 (fun e9 => kd_ne hq_185.2 hq_186.2 (by decide) e9.symm) f9)
                    have hci6 : CPI Pw_217 PS lb lr lp lq (d6_2 + 1) (OFS 2 PS lq (d6_2) + d134_5) (OFS 1 PS lq (d6_2) + d29_5) := hci_255.blk (by omega) (hcu_256.to (by omega) (by omega)) (by omega) (by omega) (by rw [← hyb_257, ha_235.out, ← hx_47, epr_127.symm]; exact hcw_262) (by rw [← hyb_257, ← hx_47]; omega) (by rw [← hyb_257, ← hx_47]; omega)
                    skip
                    refine lv_iinc (v := zI (d6_2 + 1)) (lv' := [(2, .int (zI (d6_2 + 1))), (0, .ref hc), (1, .ref hd), (3, .ref xb_44), (4, .ref q_48), (5, .int (zI (d134_5)))]) hx hb dX13_copy_216 hl (k := 2) rfl (zI_add (d6_2) (1)) (by decide) rfl (fun ls hl => ?_)
                    refine lv_goto (tgt := 6) hx hb dX13_copy_219 (by decide) ?_
                    exact ih6 (d6_2 + 1) e134_1_3 e29_1_4 z0_49 L134 Pw_217 ((kc134)) ((ks134)) ls H _ (kP6.trans hA_237) hak_227 (by omega) (by omega) (by omega) (by omega) (hci6.to (by omega) (by omega)) hdl_259 hdl_260 hds_258 hal_261 (by omega) ⟨((jl134.1.to2 (by omega) rfl).to (by omega)), ((jl134.2.1.to2 (by omega) rfl).to (by omega)), ((jl134.2.2.to2 (by omega) rfl).to (by omega))⟩ (by omega) (by omega) (lv_sub hl [1, 2, 0] rfl) hP hD hS
                  · have yb143 : ¬ (PS.lz pr_118 : Int) ≤ (d134_5 : Int) := fun q => b143 ((zI_le (a := PS.lz pr_118) (b := d134_5) (by omega) (by omega) (by omega) (by omega)).mpr q)
                    refine lv_aload_n hx hb dX13_copy_146 rfl (lv_at hl 0 rfl) ?_
                    skip
                    have hPT := pk_asc hP
                    have hDT := pk_ascD hD
                    replace hP := pl_left hPT
                    replace hD := pl_leftD hDT
                    have hX_g := aP134
                    have hX_la : HID (la ∈ L134 ∧ P134.kd la = 30 ∧ P134.ek la = 12 ∧ P134.ow la = la) := HID.mk ⟨hq_101.1, hq_101.2, hek_109.out, how_110.out⟩
                    have hX_lr : HID (lr ∈ L134 ∧ P134.kd lr = 30 ∧ P134.ek lr = 17 ∧ P134.ow lr = lr) := HID.mk ⟨hq_103.1, hq_103.2, hek_113.out, how_114.out⟩
                    have hPc := hP.part (X := [(hd, .inr (12, [v18_0, v18_1, v18_2, v18_3, v18_4, .ref lq, v18_6])), (hc, .inr (12, [.ref lb, .ref lr, .ref lp, .int (zI (e134_1_3)), .int (zI (e29_1_4)), .ref la, .int (zI (z0_49))]))]) (cx := [(hc, .inr (12, [.ref lb, .ref lr, .ref lp, .int (zI (e134_1_3)), .int (zI (e29_1_4)), .ref la, .int (zI (z0_49))]))]) (pl := va_pl L134 (pE P134)) [1] rfl
                    have hDc := hD.part (X := [(hd, .inr (12, [v18_0, v18_1, v18_2, v18_3, v18_4, .ref lq, v18_6])), (hc, .inr (12, [.ref lb, .ref lr, .ref lp, .int (zI (e134_1_3)), .int (zI (e29_1_4)), .ref la, .int (zI (z0_49))]))]) (cx := [(hc, .inr (12, [.ref lb, .ref lr, .ref lp, .int (zI (e134_1_3)), .int (zI (e29_1_4)), .ref la, .int (zI (z0_49))]))]) (pl := va_pl L134 (pE P134)) [1] (by decide) rfl
                    have hKc := hK.sub (tys' := [(cO, .object "java/lang/Object"), (cI, .int), (cZ, .boolean)]) [2, 0, 1] rfl
                    have hFc := va_freeP (X := [(hd, .inr (12, [v18_0, v18_1, v18_2, v18_3, v18_4, .ref lq, v18_6])), (hc, .inr (12, [.ref lb, .ref lr, .ref lp, .int (zI (e134_1_3)), .int (zI (e29_1_4)), .ref la, .int (zI (z0_49))]))]) (cx := [(hc, .inr (12, [.ref lb, .ref lr, .ref lp, .int (zI (e134_1_3)), .int (zI (e29_1_4)), .ref la, .int (zI (z0_49))]))]) (pl := va_pl L134 (pE P134)) hD hS hA [1] rfl
                    refine W_knowS (fun hrmA => ?_)
                    refine va_callr (va_runV (As := []) (rest := []) ⟨hx, hb, hml, hown, hts⟩ (c_P13_rowR l dC dI cI cZ hc (.ref lb) (.ref lp) e134_1_3 (.int (zI (e29_1_4))) (.int (zI (z0_49))) la lr cO L134 P134 sx_ed (by omega) hX_g hX_la hX_lr (by omega) H.size H sx_mi) (cwV 0 hts g_P13_copyR_P13_rowR rfl rfl rfl (by decide +kernel) ⟨(Nat.le_of_ble_eq_true rfl), (Nat.le_of_ble_eq_true rfl)⟩) ⟨fun a U g mk q => by obtain ⟨q0, q1, qP, qK, qD, e0, e1, e2, e3, e4, e5, e6, e7, e8, e9, e10⟩ := q; exact ⟨q0, q1, qP, va_K.moved (u := U) (U := U.calling g mk a) (Vm.Alike.refl U.vm) qK, qD, va_Nw.same rfl (u := U) (U := U.calling g mk a) rfl e0, e1, va_Nw.same rfl (u := U) (U := U.calling g mk a) rfl e2, va_Nw.same rfl (u := U) (U := U.calling g mk a) rfl e3, va_Nw.same rfl (u := U) (U := U.calling g mk a) rfl e4, va_Nw.same rfl (u := U) (U := U.calling g mk a) rfl e5, va_Dc.moved (u := U) (U := U.calling g mk a) (Vm.Alike.refl U.vm) e6, va_Mi.moved (u := U) (U := U.calling g mk a) (Vm.Alike.refl U.vm) e7, va_AO.moved (u := U) (U := U.calling g mk a) (Vm.Alike.refl U.vm) e8, va_T.moved (u := U) (U := U.calling g mk a) (Vm.Alike.refl U.vm) e9, va_Z.moved (u := U) (U := U.calling g mk a) (Vm.Alike.refl U.vm) e10⟩, va_recv hKc hPc (ci := 12) (q0 := 0) rfl rfl, fun U hU hW => ⟨rfl, by rw [hU], by rw [hU]; exact hPc, va_K.moved hW.alike hKc, hDc.weaken (fun _ _ _ _ => trivial), va_Nw.warmC hW hp12, hU, va_Nw.warmM hW hp13, va_Nw.warmC hW hp2, va_Nw.warmC hW hp3, va_Nw.warmC hW hp4, va_Dc.moved hW.alike hp5, va_Mi.moved hW.alike hp6, va_AO.moved hW.alike hp7, by rw [hU]; exact va_T.narrow (va_T.moved hW.alike (va_T.kept hp8 hS.2.1)) hFc, by rw [hU]; exact va_Z.narrow (va_Z.moved hW.alike (va_Z.kept hp9 hS.2.1)) hFc⟩⟩ rfl rfl hl.1 rfl (lv_room (Nat.le_of_ble_eq_true rfl)) dX13_copy_147 ⟨(show (kc134) + 2 ≤ 20000000 from (by omega)), (show (ks134) + 100007 ≤ 40000000000 from (by omega))⟩) hS (fun q _ h => hFc q h) hFc (fun u q_263 t H1 locs ht hvm hw hB hz1 hk1 hS => ?_)
                    obtain ⟨z0_264, Ln_265, Pn_266, kc_267, ks_268, hxt_268, hP1, hK1, hD1⟩ := hB
                    rw [ht] at hP1
                    have hK1 := va_K.moved hvm.symm hK1
                    obtain ⟨hP, hD⟩ := va_joinPT (X := [(hd, .inr (12, [v18_0, v18_1, v18_2, v18_3, v18_4, .ref lq, v18_6])), (hc, .inr (12, [.ref lb, .ref lr, .ref lp, .int (zI (e134_1_3)), .int (zI (e29_1_4)), .ref la, .int (zI (z0_49))]))]) (cx := [(hc, .inr (12, [.ref lb, .ref lr, .ref lp, .int (zI (e134_1_3)), .int (zI (e29_1_4)), .ref la, .int (zI (z0_49))]))]) (wr := [(hd, .inr (12, [v18_0, v18_1, v18_2, v18_3, v18_4, .ref lq, v18_6]))]) (rx := [(hc, .inr (12, [.ref lb, .ref lr, .ref lp, .int (zI (z0_264)), .int (zI (e29_1_4)), .ref la, .int (zI (z0_49))]))]) (pl := va_pl L134 (pE P134)) (pl1 := va_pl Ln_265 (pE Pn_266)) (T := va_pl LS (pE PS)) hPT hDT [1] [0] rfl rfl (by decide) (by decide) hk1 hFc hP1 hD1
                    replace hP := pk_back hP
                    replace hD := pk_backD hD
                    replace hK := (hK.sub (tys' := []) [] rfl).app hK1
                    have hrmC := hxt_268.1.1
                    rw [ht] at hrmC
                    refine W_tightS (hrmA.trans hrmC) ?_
                    have hrb := hxt_268.1.2
                    generalize H1 = H at hP hS ⊢
                    clear hPc hDc hKc hFc hk1 hz1 hPT hDT
                    replace hP : va_P (dC, dI) vwQ ([(hd, .inr (12, [v18_0, v18_1, v18_2, v18_3, v18_4, .ref lq, v18_6])), (hc, .inr (12, [.ref lb, .ref lr, .ref lp, .int (zI (z0_264)), .int (zI (e29_1_4)), .ref la, .int (zI (z0_49))]))] ++ (va_pl Ln_265 (pE Pn_266) ++ va_pl LS (pE PS))) H := hP
                    replace hD : va_D A ([(hd, .inr (12, [v18_0, v18_1, v18_2, v18_3, v18_4, .ref lq, v18_6])), (hc, .inr (12, [.ref lb, .ref lr, .ref lp, .int (zI (z0_264)), .int (zI (e29_1_4)), .ref la, .int (zI (z0_49))]))] ++ (va_pl Ln_265 (pE Pn_266) ++ va_pl LS (pE PS))) := hD
                    replace hK : va_K (dC, dI) vwQ [(cO, .object "java/lang/Object"), (cI, .int), (cZ, .boolean)] s := hK
                    refine W.widen (k := ((kc134) + kc_267)) (n := ((ks134) + ks_268)) (by omega) (by omega) ?_
                    obtain ⟨rk_269, hu_269⟩ := hxt_268.2
                    have hu_270 := HID.mk (hxt_268.2.2)
                    replace hxt_268 := HID.mk hxt_268
                    replace hu_269 := HID.mk hu_269
                    have hwk_271 := hu_270.1.wk (E' := [la, lb, lr, lp]) (fun _ h9 => CPI.mem4 (Or.inr (Or.inr (Or.inl rfl))) h9)
                    have hkl_272 := hu_270.1.lst (show CLF L134 P134 la 12 from ⟨hq_101.1, hq_101.2, hek_109.out, how_110.out⟩) (by intro q9; simp at q9; exact absurd q9 (ek_ne hek_109.out hek_113.out (by decide)))
                    have hkl_273 := hu_270.1.lst (show CLF L134 P134 lb 12 from ⟨hq_102.1, hq_102.2, hek_111.out, how_112.out⟩) (by intro q9; simp at q9; exact absurd q9 (ek_ne hek_111.out hek_113.out (by decide)))
                    have hkl_274 := hu_270.1.lst (show CLF L134 P134 lp 15 from ⟨hq_104.1, hq_104.2, hek_115.out, how_116.out⟩) (by intro q9; simp at q9; exact absurd q9 (ek_ne hek_115.out hek_113.out (by decide)))
                    have hfr_275 := row_fresh jr134 (aP134.lk (show CLF L134 P134 lr 17 from ⟨hq_103.1, hq_103.2, hek_113.out, how_114.out⟩)) (by omega) (by have q9 := hu_270.2.2.1.2.1.1; omega) hu_270.2.2.2.1.1 hu_270.2.2.2.1.2.1 hu_270.2.2.2.1.2.2
                    have hns_276 := hns_rowR (i := d6_2 + 1) (n := OFS 2 PS lq (d6_2) + d134_5) (p := OFS 1 PS lq (d6_2) + d29_5) aP134 (aP134.lk (show CLF L134 P134 lb 12 from ⟨hq_102.1, hq_102.2, hek_111.out, how_112.out⟩)) (aP134.lk (show CLF L134 P134 lr 17 from ⟨hq_103.1, hq_103.2, hek_113.out, how_114.out⟩)) hek_113.out how_114.out (aP134.lk (show CLF L134 P134 lp 15 from ⟨hq_104.1, hq_104.2, hek_115.out, how_116.out⟩)) (by omega) (by omega) (by omega) (fun m9 => ⟨hu_270.2.2.1.2.2.2.2.2 m9, fun k9 k0 k1 => hfr_275.1 m9 k9 k0 (by omega)⟩)
                    have hci_277 : CPI Pn_266 PS lb lr lp lq (d6_2) (OFS 2 PS lq (d6_2) + d134_5) (OFS 1 PS lq (d6_2) + d29_5) := jc134.frR aP134 hu_270.2.2.1.2.2.2.1.c8 (aP134.lk (show CLF L134 P134 lb 12 from ⟨hq_102.1, hq_102.2, hek_111.out, how_112.out⟩)) (aP134.lk (show CLF L134 P134 lr 17 from ⟨hq_103.1, hq_103.2, hek_113.out, how_114.out⟩)) (aP134.lk (show CLF L134 P134 lp 15 from ⟨hq_104.1, hq_104.2, hek_115.out, how_116.out⟩)) (by omega) (by omega) (by omega) hLn1 hLn2 (by omega) (fun k9 k0 k1 => hkl_273.2 k9 k0 (by omega)) (fun k9 k0 k1 => hu_270.2.2.2.1.2.1 k9 k0 (by omega)) (fun k9 k0 k1 => hkl_274.2 k9 k0 (by omega)) (hns_276.wk (by omega) (by omega) (by omega))
                    have hcu_278 : CUR Pn_266 PS lb lr lp lq (d6_2) (d29_5) (d134_5) := ju134.frR aP134 hu_270.2.2.1.2.2.2.1.c8 (show CLF L134 P134 lb 12 from ⟨hq_102.1, hq_102.2, hek_111.out, how_112.out⟩) (by omega) (by omega) (by omega) (by omega) (hkl_273.2 (d6_2) (by omega) (by omega)) (fun k9 k0 k1 => hu_270.2.2.2.1.2.1 k9 k0 (by omega)) (fun k9 k0 k1 => hkl_274.2 k9 k0 (by omega)) (hns_276.1 (d6_2) (by omega) (by omega)).1 (hns_276.1 (d6_2) (by omega) (by omega)).2.2.1 (hns_276.1 (d6_2) (by omega) (by omega)).2.2.2
                    have hyb_279 : q_48 = Pn_266.el lb (d6_2) := jy134.trans (hkl_273.2 (d6_2) (by omega) (by omega)).symm
                    have hds_280 := js134.kegR aP134 ⟨hq_102.1, hq_102.2, hek_111.out, how_112.out⟩ hu_270.1 (by intro q9; simp at q9; exact absurd q9 (ek_ne hek_111.out hek_113.out (by decide)))
                    have hdl_281 := jp134.same hkl_274.1 hkl_274.2
                    have hal_282 : ∀ b : Int, 0 ≤ b → b < Pn_266.lz la → Pn_266.el la b = Pn_266.el lb b := (fun b b0 b1 => by rw [hkl_272.1] at b1; rw [hkl_272.2 b b0 b1, hkl_273.2 b b0 (by omega)]; exact ja134 b b0 b1)
                    have hq_284 : HID (la ∈ Ln_265 ∧ Pn_266.kd la = 30) := hwk_271.mem hq_101.1 hq_101.2 (by decide)
                    have hq_285 : HID (lb ∈ Ln_265 ∧ Pn_266.kd lb = 30) := hwk_271.mem hq_102.1 hq_102.2 (by decide)
                    have hq_286 : HID (lr ∈ Ln_265 ∧ Pn_266.kd lr = 30) := hwk_271.mem hq_103.1 hq_103.2 (by decide)
                    have hq_287 : HID (lp ∈ Ln_265 ∧ Pn_266.kd lp = 30) := hwk_271.mem hq_104.1 hq_104.2 (by decide)
                    have hq_288 : HID (q_48 ∈ Ln_265 ∧ Pn_266.kd q_48 = 12) := hwk_271.mem hq_105.1 hq_105.2 (by decide)
                    have hA_289 : KEG [la, lb, lr, lp] L P Ln_265 Pn_266 := hA_106.trans hwk_271
                    have hA_290 : KEG [la, lb, lr, lp] L6 P6 Ln_265 Pn_266 := hA_107.trans hwk_271
                    have hA_291 : KEG [la, lb, lr, lp] L29 P29 Ln_265 Pn_266 := hA_108.trans hwk_271
                    have hA_292 : KEG [la, lb, lr, lp] L134 P134 Ln_265 Pn_266 := (KEG.refl [la, lb, lr, lp] L134 P134).trans hwk_271
                    have hlg_283 : LG9 (Pn_266.lz lr) (P134.lz lr) (e134_1_3) := hu_270.2.2.1.2.1.2
                    have := hlg_283.le
                    have := hu_270.2.2.1.2.1.1
                    have := hu_270.2.2.2.2
                    have : Pn_266.lz la = P134.lz la := hkl_272.1
                    have : Pn_266.lz lb = P134.lz lb := hkl_273.1
                    have : Pn_266.lz lp = P134.lz lp := hkl_274.1
                    have hek_293 : HID (Pn_266.ek la = 12) := (by rw [hwk_271.ek hq_101.1 hq_101.2 (by decide)]; exact hek_109.out)
                    have how_294 : HID (Pn_266.ow la = la) := ((hwk_271.1 la hq_101.1 (by rw [hq_101.2]; decide)).2.2.2.1 hq_101.2 how_110.out).1
                    have hek_295 : HID (Pn_266.ek lb = 12) := (by rw [hwk_271.ek hq_102.1 hq_102.2 (by decide)]; exact hek_111.out)
                    have how_296 : HID (Pn_266.ow lb = lb) := ((hwk_271.1 lb hq_102.1 (by rw [hq_102.2]; decide)).2.2.2.1 hq_102.2 how_112.out).1
                    have hek_297 : HID (Pn_266.ek lr = 17) := (by rw [hwk_271.ek hq_103.1 hq_103.2 (by decide)]; exact hek_113.out)
                    have how_298 : HID (Pn_266.ow lr = lr) := ((hwk_271.1 lr hq_103.1 (by rw [hq_103.2]; decide)).2.2.2.1 hq_103.2 how_114.out).1
                    have hek_299 : HID (Pn_266.ek lp = 15) := (by rw [hwk_271.ek hq_104.1 hq_104.2 (by decide)]; exact hek_115.out)
                    have how_300 : HID (Pn_266.ow lp = lp) := ((hwk_271.1 lp hq_104.1 (by rw [hq_104.2]; decide)).2.2.2.1 hq_104.2 how_116.out).1
                    have hxr0 : q_263 = Pn_266.el lr (OFS 2 PS lq (d6_2) + d134_5) := (by have q9 := hu_270.2.2.2.1.1; rw [show (e134_1_3 : Int) = OFS 2 PS lq (d6_2) + d134_5 from (by omega)] at q9; exact q9)
                    skip
                    refine lv_astore (lv' := [(6, .ref q_263), (0, .ref hc), (1, .ref hd), (2, .int (zI (d6_2))), (3, .ref xb_44), (4, .ref q_48), (5, .int (zI (d134_5)))]) hx hb dX13_copy_150 hl (by decide) rfl (fun ls hl => ?_)
                    refine lv_aload hx hb dX13_copy_152 (lv_at hl 0 rfl) ?_
                    refine lv_aload_n hx hb dX13_copy_154 rfl (lv_at hl 4 rfl) ?_
                    replace hP := pk_sw hP
                    replace hD := pk_swD hD
                    obtain ⟨kp_301, hkp_301⟩ := pk_getA (T := va_pl Ln_265 (pE Pn_266)) (X := [(hd, .inr (12, [v18_0, v18_1, v18_2, v18_3, v18_4, .ref lq, v18_6])), (hc, .inr (12, [.ref lb, .ref lr, .ref lp, .int (zI (z0_264)), .int (zI (e29_1_4)), .ref la, .int (zI (z0_49))]))]) (f := pE PS) hB_46.1.1
                    rw [pE_block hB_46.1.2] at hkp_301
                    refine va_get (D := (dC, dI)) (ci := 19) (v := .ref (PS.br xb_44)) (C := RX12) (T := TX12) (N := 5) hx hb hts mem_P13_copyR_4 hown hK hP kp_301 hkp_301 rfl 1 (by decide) (ow (k := 18) rfl) (fun _ h9 => h9) rfl dX13_copy_155 ?_
                    obtain ⟨pr_302, epr_302⟩ : ∃ q9 : Nat, q9 = PS.br xb_44 := ⟨_, rfl⟩
                    rw [← epr_302]
                    obtain rfl : pr_118 = pr_302 := (by rw [epr_302]; exact epr_118.symm.symm)
                    replace hP := pk_sw hP
                    replace hD := pk_swD hD
                    refine lv_iload hx hb dX13_copy_158 (lv_at hl 6 rfl) ?_
                    replace hP := pk_sw hP
                    replace hD := pk_swD hD
                    have hPT := pk_asc hP
                    have hDT := pk_ascD hD
                    replace hP := pl_left hPT
                    replace hD := pl_leftD hDT
                    have hlk_303 := (show LOK LS PS cO 17 pr_118 from (by rw [← epr_118.symm]; exact (hX_s.inb hi_45).2.1))
                    obtain ⟨x, ex⟩ : ∃ q9 : Nat, q9 = PS.el pr_118 (d134_5) := ⟨_, rfl⟩
                    have hX_x := hlk_303.1
                    have hX_k := hlk_303.2.1
                    have hq9 := hlk_303.row (i := d134_5) (by omega) (by omega)
                    have hX_q : PS.le pr_118 ∈ LS ∧ PS.kd (PS.le pr_118) = 31 ∧ PS.ac (PS.le pr_118) = cO := ⟨hq9.1, hq9.2.1, hq9.2.2.1⟩
                    have hq8 := hq9.2.2.2
                    have hX_e0 : PS.oa (PS.le pr_118) (d134_5).toNat = some x := (by rw [ex]; exact (hlk_303.2.2.2.2 (d134_5) (by omega) (by omega)).1)
                    have hxm : x ∈ LS := (by rw [ex]; exact (hlk_303.2.2.2.2 (d134_5) (by omega) (by omega)).2.1)
                    have hxk := (hlk_303.2.2.2.2 (d134_5) (by omega) (by omega)).2.2
                    rw [← ex] at hxk
                    have hPc := hP.part (X := [(hd, .inr (12, [v18_0, v18_1, v18_2, v18_3, v18_4, .ref lq, v18_6])), (hc, .inr (12, [.ref lb, .ref lr, .ref lp, .int (zI (z0_264)), .int (zI (e29_1_4)), .ref la, .int (zI (z0_49))]))]) (cx := []) (pl := va_pl LS (pE PS)) [] rfl
                    have hDc := hD.part (X := [(hd, .inr (12, [v18_0, v18_1, v18_2, v18_3, v18_4, .ref lq, v18_6])), (hc, .inr (12, [.ref lb, .ref lr, .ref lp, .int (zI (z0_264)), .int (zI (e29_1_4)), .ref la, .int (zI (z0_49))]))]) (cx := []) (pl := va_pl LS (pE PS)) [] (by decide) rfl
                    have hKc := hK.sub (tys' := [(cO, .object "java/lang/Object")]) [0] rfl
                    have hFc := va_freeP (X := [(hd, .inr (12, [v18_0, v18_1, v18_2, v18_3, v18_4, .ref lq, v18_6])), (hc, .inr (12, [.ref lb, .ref lr, .ref lp, .int (zI (z0_264)), .int (zI (e29_1_4)), .ref la, .int (zI (z0_49))]))]) (cx := []) (pl := va_pl LS (pE PS)) hD hS hA [] rfl
                    refine va_callr (va_runV (As := [.int (zI (d134_5))]) (rest := [.ref q_263]) ⟨hx, hb, hml, hown, hts⟩ (c_PL_get l dC dI cO LS PS pr_118 d134_5 x hX_x hX_k hX_q (by omega) hX_e0 H.size) (cwV 1 hts g_P13_copyR_PL_get rfl rfl rfl (by decide +kernel) ⟨(Nat.le_of_ble_eq_true rfl), (Nat.le_of_ble_eq_true rfl)⟩) ⟨fun a U g mk q => by obtain ⟨q0, q1, qP, qK, qD⟩ := q; exact ⟨q0, q1, qP, va_K.moved (u := U) (U := U.calling g mk a) (Vm.Alike.refl U.vm) qK, qD⟩, recv_30 hKc hPc hlk_119.1 hlk_119.2.1, fun U hU hW => ⟨rfl, by rw [hU], by rw [hU]; exact hPc, va_K.moved hW.alike hKc, hDc.weaken (fun _ _ _ _ => trivial)⟩⟩ rfl rfl hl.1 rfl (lv_room (Nat.le_of_ble_eq_true rfl)) dX13_copy_160 ⟨(show ((kc134) + kc_267) + 0 ≤ 20000000 from (by omega)), (show ((ks134) + ks_268) + 0 ≤ 40000000000 from (by omega))⟩) hS (fun q _ h => hFc q h) hFc (fun u q_304 t H1 locs ht hvm hw hB hz1 hk1 hS => ?_)
                    obtain ⟨hxt_304, hP1, hK1, hD1⟩ := hB
                    rw [ht] at hP1
                    have hK1 := va_K.moved hvm.symm hK1
                    obtain ⟨hP, hD⟩ := va_joinPT (X := [(hd, .inr (12, [v18_0, v18_1, v18_2, v18_3, v18_4, .ref lq, v18_6])), (hc, .inr (12, [.ref lb, .ref lr, .ref lp, .int (zI (z0_264)), .int (zI (e29_1_4)), .ref la, .int (zI (z0_49))]))]) (cx := []) (wr := [(hd, .inr (12, [v18_0, v18_1, v18_2, v18_3, v18_4, .ref lq, v18_6])), (hc, .inr (12, [.ref lb, .ref lr, .ref lp, .int (zI (z0_264)), .int (zI (e29_1_4)), .ref la, .int (zI (z0_49))]))]) (rx := []) (pl := va_pl LS (pE PS)) (pl1 := va_pl LS (pE PS)) (T := va_pl Ln_265 (pE Pn_266)) hPT hDT [] [0, 1] rfl rfl (by decide) (by decide) hk1 hFc hP1 hD1
                    replace hP := pk_back hP
                    replace hD := pk_backD hD
                    replace hK := (hK.sub (tys' := [(cI, .int), (cZ, .boolean)]) [1, 2] rfl).app hK1
                    generalize H1 = H at hP hS ⊢
                    clear hPc hDc hKc hFc hk1 hz1 hPT hDT
                    replace hP : va_P (dC, dI) vwQ ([(hd, .inr (12, [v18_0, v18_1, v18_2, v18_3, v18_4, .ref lq, v18_6])), (hc, .inr (12, [.ref lb, .ref lr, .ref lp, .int (zI (z0_264)), .int (zI (e29_1_4)), .ref la, .int (zI (z0_49))]))] ++ (va_pl LS (pE PS) ++ va_pl Ln_265 (pE Pn_266))) H := hP
                    replace hD : va_D A ([(hd, .inr (12, [v18_0, v18_1, v18_2, v18_3, v18_4, .ref lq, v18_6])), (hc, .inr (12, [.ref lb, .ref lr, .ref lp, .int (zI (z0_264)), .int (zI (e29_1_4)), .ref la, .int (zI (z0_49))]))] ++ (va_pl LS (pE PS) ++ va_pl Ln_265 (pE Pn_266))) := hD
                    replace hK : va_K (dC, dI) vwQ [(cI, .int), (cZ, .boolean), (cO, .object "java/lang/Object")] s := hK
                    refine W.widen (k := ((kc134) + kc_267)) (n := ((ks134) + ks_268)) (by omega) (by omega) ?_
                    rw [hxt_304]
                    clear hX_e0
                    obtain ⟨xr_305, h9⟩ : ∃ q9 : Nat, q9 = x := ⟨_, rfl⟩
                    subst h9
                    have hm_306 := hxm
                    have hk_307 := hxk
                    have hE_308 : HID (PS.ek xr_305 ≠ 1) := (by rw [ex, ← epr_118.symm]; exact (hX_s.2.2.2.1 _ (hX_s.2.1.2.2.1 xb_44 hB_46.1.1 hB_46.1.2).1.2.2.1 (hX_s.2.1.2.2.1 xb_44 hB_46.1.1 hB_46.1.2).1.2.2.2).2.2 (hX_s.2.1.2.2.1 xb_44 hB_46.1.1 hB_46.1.2).1.1 _ (by omega) (by rw [epr_118.symm]; omega))
                    replace hP := pk_sw hP
                    replace hD := pk_swD hD
                    have hrs : xr_305 = PS.el (PS.br (PS.el lq (d6_2))) (d134_5) := (by rw [← hx_47, epr_118.symm]; exact ex)
                    replace hP := pk_sw hP
                    replace hD := pk_swD hD
                    refine va_castY (C := "SsaForgeModel$Row") (nm := "SsaForgeModel$Row") hx hb hown (ow (k := 32) rfl) hp12 (recv_17 hK (pk_A hP) hm_306 hk_307) dX13_copy_163 ?_
                    replace hP := pk_sw hP
                    replace hD := pk_swD hD
                    have hrk9 := hX_s.rk9 hm_306 hk_307
                    have ⟨hs1, hs2, hs3, hs4, hs5, hs6, hs7, hs8, hs9⟩ := hrk9
                    have hPT := pl_Pp (pk_out (X := [(hd, .inr (12, [v18_0, v18_1, v18_2, v18_3, v18_4, .ref lq, v18_6])), (hc, .inr (12, [.ref lb, .ref lr, .ref lp, .int (zI (z0_264)), .int (zI (e29_1_4)), .ref la, .int (zI (z0_49))]))]) (a := va_pl Ln_265 (pE Pn_266)) (f := pE PS) hm_306) hP
                    have hDT := pl_Dp (pk_out (X := [(hd, .inr (12, [v18_0, v18_1, v18_2, v18_3, v18_4, .ref lq, v18_6])), (hc, .inr (12, [.ref lb, .ref lr, .ref lp, .int (zI (z0_264)), .int (zI (e29_1_4)), .ref la, .int (zI (z0_49))]))]) (a := va_pl Ln_265 (pE Pn_266)) (f := pE PS) hm_306) hD
                    rw [pE_row hk_307] at hPT hDT
                    replace hP := pl_left hPT
                    replace hD := pl_leftD hDT
                    replace hP : va_P (dC, dI) vwQ ([(hd, .inr (12, [v18_0, v18_1, v18_2, v18_3, v18_4, .ref lq, v18_6])), (hc, .inr (12, [.ref lb, .ref lr, .ref lp, .int (zI (z0_264)), .int (zI (e29_1_4)), .ref la, .int (zI (z0_49))])), (xr_305, .inr (21, [.int (zI (PS.ro xr_305)), .int (zI (PS.rt xr_305)), .int (zI (PS.ra xr_305)), .int (zI (PS.rb xr_305)), .int (zI (PS.rA xr_305)), .int (zI (PS.rB xr_305)), .int (zI (PS.rg xr_305))]))] ++ va_pl Ln_265 (pE Pn_266)) H := hP
                    replace hD : va_D A ([(hd, .inr (12, [v18_0, v18_1, v18_2, v18_3, v18_4, .ref lq, v18_6])), (hc, .inr (12, [.ref lb, .ref lr, .ref lp, .int (zI (z0_264)), .int (zI (e29_1_4)), .ref la, .int (zI (z0_49))])), (xr_305, .inr (21, [.int (zI (PS.ro xr_305)), .int (zI (PS.rt xr_305)), .int (zI (PS.ra xr_305)), .int (zI (PS.rb xr_305)), .int (zI (PS.rA xr_305)), .int (zI (PS.rB xr_305)), .int (zI (PS.rg xr_305))]))] ++ va_pl Ln_265 (pE Pn_266)) := hD
                    have hX_x := hu_270.2.2.1.1.1
                    have hX_k := hu_270.2.2.1.1.2.1
                    have hPc := hP.part (X := [(hd, .inr (12, [v18_0, v18_1, v18_2, v18_3, v18_4, .ref lq, v18_6])), (hc, .inr (12, [.ref lb, .ref lr, .ref lp, .int (zI (z0_264)), .int (zI (e29_1_4)), .ref la, .int (zI (z0_49))])), (xr_305, .inr (21, [.int (zI (PS.ro xr_305)), .int (zI (PS.rt xr_305)), .int (zI (PS.ra xr_305)), .int (zI (PS.rb xr_305)), .int (zI (PS.rA xr_305)), .int (zI (PS.rB xr_305)), .int (zI (PS.rg xr_305))]))]) (cx := [(xr_305, .inr (21, [.int (zI (PS.ro xr_305)), .int (zI (PS.rt xr_305)), .int (zI (PS.ra xr_305)), .int (zI (PS.rb xr_305)), .int (zI (PS.rA xr_305)), .int (zI (PS.rB xr_305)), .int (zI (PS.rg xr_305))]))]) (pl := va_pl Ln_265 (pE Pn_266)) [2] rfl
                    have hDc := hD.part (X := [(hd, .inr (12, [v18_0, v18_1, v18_2, v18_3, v18_4, .ref lq, v18_6])), (hc, .inr (12, [.ref lb, .ref lr, .ref lp, .int (zI (z0_264)), .int (zI (e29_1_4)), .ref la, .int (zI (z0_49))])), (xr_305, .inr (21, [.int (zI (PS.ro xr_305)), .int (zI (PS.rt xr_305)), .int (zI (PS.ra xr_305)), .int (zI (PS.rb xr_305)), .int (zI (PS.rA xr_305)), .int (zI (PS.rB xr_305)), .int (zI (PS.rg xr_305))]))]) (cx := [(xr_305, .inr (21, [.int (zI (PS.ro xr_305)), .int (zI (PS.rt xr_305)), .int (zI (PS.ra xr_305)), .int (zI (PS.rb xr_305)), .int (zI (PS.rA xr_305)), .int (zI (PS.rB xr_305)), .int (zI (PS.rg xr_305))]))]) (pl := va_pl Ln_265 (pE Pn_266)) [2] (by decide) rfl
                    have hKc := hK.sub (tys' := [(cO, .object "java/lang/Object")]) [2] rfl
                    have hFc := va_freeP (X := [(hd, .inr (12, [v18_0, v18_1, v18_2, v18_3, v18_4, .ref lq, v18_6])), (hc, .inr (12, [.ref lb, .ref lr, .ref lp, .int (zI (z0_264)), .int (zI (e29_1_4)), .ref la, .int (zI (z0_49))])), (xr_305, .inr (21, [.int (zI (PS.ro xr_305)), .int (zI (PS.rt xr_305)), .int (zI (PS.ra xr_305)), .int (zI (PS.rb xr_305)), .int (zI (PS.rA xr_305)), .int (zI (PS.rB xr_305)), .int (zI (PS.rg xr_305))]))]) (cx := [(xr_305, .inr (21, [.int (zI (PS.ro xr_305)), .int (zI (PS.rt xr_305)), .int (zI (PS.ra xr_305)), .int (zI (PS.rb xr_305)), .int (zI (PS.rA xr_305)), .int (zI (PS.rB xr_305)), .int (zI (PS.rg xr_305))]))]) (pl := va_pl Ln_265 (pE Pn_266)) hD hS hA [2] rfl
                    refine va_callv (va_runV (As := [.ref xr_305]) (rest := []) ⟨hx, hb, hml, hown, hts⟩ (c_PR_putX l dC dI xr_305 (PS.ro xr_305) (PS.rt xr_305) (PS.ra xr_305) (PS.rb xr_305) (PS.rA xr_305) (PS.rB xr_305) (.int (zI (PS.rg xr_305))) cO Ln_265 Pn_266 q_263 (by omega) (by omega) (by omega) (by omega) (by omega) (by omega) hX_x hX_k H.size) (cwV 1 hts g_P13_copyR_PR_putX rfl rfl rfl (by decide +kernel) ⟨(Nat.le_of_ble_eq_true rfl), (Nat.le_of_ble_eq_true rfl)⟩) ⟨fun a U g mk q => by obtain ⟨q0, q1, qP, qK, qD⟩ := q; exact ⟨q0, q1, qP, va_K.moved (u := U) (U := U.calling g mk a) (Vm.Alike.refl U.vm) qK, qD⟩, recv_17 hKc hPc hu_270.2.2.1.1.1 hu_270.2.2.1.1.2.1, fun U hU hW => ⟨rfl, by rw [hU], by rw [hU]; exact hPc, va_K.moved hW.alike hKc, hDc.weaken (fun _ _ _ _ => trivial)⟩⟩ rfl rfl hl.1 rfl (lv_room (Nat.le_of_ble_eq_true rfl)) dX13_copy_166 ⟨(show ((kc134) + kc_267) + 0 ≤ 20000000 from (by omega)), (show ((ks134) + ks_268) + 0 ≤ 40000000000 from (by omega))⟩) hS (fun q _ h => hFc q h) hFc (fun  u t H1 locs ht hvm hw hB hz1 hk1 hS => ?_)
                    obtain ⟨Pn_309, hxt_309, hP1, hK1, hD1⟩ := hB
                    rw [ht] at hP1
                    have hK1 := va_K.moved hvm.symm hK1
                    obtain ⟨hP, hD⟩ := va_joinPT (X := [(hd, .inr (12, [v18_0, v18_1, v18_2, v18_3, v18_4, .ref lq, v18_6])), (hc, .inr (12, [.ref lb, .ref lr, .ref lp, .int (zI (z0_264)), .int (zI (e29_1_4)), .ref la, .int (zI (z0_49))])), (xr_305, .inr (21, [.int (zI (PS.ro xr_305)), .int (zI (PS.rt xr_305)), .int (zI (PS.ra xr_305)), .int (zI (PS.rb xr_305)), .int (zI (PS.rA xr_305)), .int (zI (PS.rB xr_305)), .int (zI (PS.rg xr_305))]))]) (cx := [(xr_305, .inr (21, [.int (zI (PS.ro xr_305)), .int (zI (PS.rt xr_305)), .int (zI (PS.ra xr_305)), .int (zI (PS.rb xr_305)), .int (zI (PS.rA xr_305)), .int (zI (PS.rB xr_305)), .int (zI (PS.rg xr_305))]))]) (wr := [(hd, .inr (12, [v18_0, v18_1, v18_2, v18_3, v18_4, .ref lq, v18_6])), (hc, .inr (12, [.ref lb, .ref lr, .ref lp, .int (zI (z0_264)), .int (zI (e29_1_4)), .ref la, .int (zI (z0_49))]))]) (rx := [(xr_305, .inr (21, [.int (zI (PS.ro xr_305)), .int (zI (PS.rt xr_305)), .int (zI (PS.ra xr_305)), .int (zI (PS.rb xr_305)), .int (zI (PS.rA xr_305)), .int (zI (PS.rB xr_305)), .int (zI (PS.rg xr_305))]))]) (pl := va_pl Ln_265 (pE Pn_266)) (pl1 := va_pl Ln_265 (pE Pn_309)) (T := va_pl (LS.erase xr_305) (pE PS)) hPT hDT [2] [0, 1] rfl rfl (by decide) (by decide) hk1 hFc hP1 hD1
                    replace hP := pl_Pp (pk_out (X := [(hd, .inr (12, [v18_0, v18_1, v18_2, v18_3, v18_4, .ref lq, v18_6])), (hc, .inr (12, [.ref lb, .ref lr, .ref lp, .int (zI (z0_264)), .int (zI (e29_1_4)), .ref la, .int (zI (z0_49))]))]) (a := va_pl Ln_265 (pE Pn_309)) (f := pE PS) hm_306).symm (by rw [pE_row hk_307]; exact hP)
                    replace hD := pl_Dp (pk_out (X := [(hd, .inr (12, [v18_0, v18_1, v18_2, v18_3, v18_4, .ref lq, v18_6])), (hc, .inr (12, [.ref lb, .ref lr, .ref lp, .int (zI (z0_264)), .int (zI (e29_1_4)), .ref la, .int (zI (z0_49))]))]) (a := va_pl Ln_265 (pE Pn_309)) (f := pE PS) hm_306).symm (by rw [pE_row hk_307]; exact hD)
                    replace hK := (hK.sub (tys' := [(cI, .int), (cZ, .boolean)]) [0, 1] rfl).app hK1
                    generalize H1 = H at hP hS ⊢
                    clear hPc hDc hKc hFc hk1 hz1 hPT hDT
                    replace hP : va_P (dC, dI) vwQ ([(hd, .inr (12, [v18_0, v18_1, v18_2, v18_3, v18_4, .ref lq, v18_6])), (hc, .inr (12, [.ref lb, .ref lr, .ref lp, .int (zI (z0_264)), .int (zI (e29_1_4)), .ref la, .int (zI (z0_49))]))] ++ (va_pl Ln_265 (pE Pn_309) ++ va_pl LS (pE PS))) H := hP
                    replace hD : va_D A ([(hd, .inr (12, [v18_0, v18_1, v18_2, v18_3, v18_4, .ref lq, v18_6])), (hc, .inr (12, [.ref lb, .ref lr, .ref lp, .int (zI (z0_264)), .int (zI (e29_1_4)), .ref la, .int (zI (z0_49))]))] ++ (va_pl Ln_265 (pE Pn_309) ++ va_pl LS (pE PS))) := hD
                    replace hK : va_K (dC, dI) vwQ [(cI, .int), (cZ, .boolean), (cO, .object "java/lang/Object")] s := hK
                    refine W.widen (k := ((kc134) + kc_267)) (n := ((ks134) + ks_268)) (by omega) (by omega) ?_
                    have hu_310 := HID.mk (hxt_309)
                    replace hxt_309 := HID.mk hxt_309
                    have hk0_311 := RW1.kegR (E := []) (la := la) hu_310.1 Ln_265 hq_284.2 (by rw [hu_270.2.2.1.1.2.1]; decide)
                    have hwk_312 := RW1.kegR (E := [la, lb, lr, lp]) (la := la) hu_310.1 Ln_265 hq_284.2 (by rw [hu_270.2.2.1.1.2.1]; decide)
                    have hcw_313 : CRW Pn_309 q_263 PS xr_305 := ⟨hu_310.2.1, hu_310.2.2.1, hu_310.2.2.2.1, hu_310.2.2.2.2.1, hu_310.2.2.2.2.2.1, hu_310.2.2.2.2.2.2.1⟩
                    have hkl_315 := hk0_311.lst (show CLF Ln_265 Pn_266 la 12 from ⟨hq_284.1, hq_284.2, hek_293.out, how_294.out⟩) (by simp)
                    have hkl_316 := hk0_311.lst (show CLF Ln_265 Pn_266 lb 12 from ⟨hq_285.1, hq_285.2, hek_295.out, how_296.out⟩) (by simp)
                    have hkl_317 := hk0_311.lst (show CLF Ln_265 Pn_266 lr 17 from ⟨hq_286.1, hq_286.2, hek_297.out, how_298.out⟩) (by simp)
                    have hkl_318 := hk0_311.lst (show CLF Ln_265 Pn_266 lp 15 from ⟨hq_287.1, hq_287.2, hek_299.out, how_300.out⟩) (by simp)
                    have hak_314 : GLR Ln_265 Pn_309 cO cI cZ sx_ed := hu_270.2.1.row hu_310.1 hu_270.2.2.1.1.2.1 ((hX_s.rok hm_306 hk_307).cpR hcw_313 hu_310.2.2.2.2.2.2.2) (fun e9 => by rw [hcw_313.1]; exact hX_s.op21 hm_306 hk_307 hE_308.out)
                    have hns_319 := hns_oneR (i := d6_2 + 1) (n := OFS 2 PS lq (d6_2) + d134_5) (p := OFS 1 PS lq (d6_2) + d29_5) (x := q_263) hu_270.2.1 (hu_270.2.1.lk (show CLF Ln_265 Pn_266 lb 12 from ⟨hq_285.1, hq_285.2, hek_295.out, how_296.out⟩)) (hu_270.2.1.lk (show CLF Ln_265 Pn_266 lr 17 from ⟨hq_286.1, hq_286.2, hek_297.out, how_298.out⟩)) hek_297.out (hu_270.2.1.lk (show CLF Ln_265 Pn_266 lp 15 from ⟨hq_287.1, hq_287.2, hek_299.out, how_300.out⟩)) (by omega) (by omega) (by omega) (Or.inl ⟨hu_270.2.2.1.1.2.1, hu_270.2.2.1.1.2.2, fun k9 k0 k1 e9 => hfr_275.2 k9 (OFS 2 PS lq (d6_2) + d134_5) k0 (by omega) (by omega) (by rw [← hxr0]; exact e9.symm)⟩)
                    have hci_320 : CPI Pn_309 PS lb lr lp lq (d6_2) (OFS 2 PS lq (d6_2) + d134_5) (OFS 1 PS lq (d6_2) + d29_5) := hci_277.frR hu_270.2.1 (hu_310.1.chg _).c8 (hu_270.2.1.lk (show CLF Ln_265 Pn_266 lb 12 from ⟨hq_285.1, hq_285.2, hek_295.out, how_296.out⟩)) (hu_270.2.1.lk (show CLF Ln_265 Pn_266 lr 17 from ⟨hq_286.1, hq_286.2, hek_297.out, how_298.out⟩)) (hu_270.2.1.lk (show CLF Ln_265 Pn_266 lp 15 from ⟨hq_287.1, hq_287.2, hek_299.out, how_300.out⟩)) (by omega) (by omega) (by omega) hLn1 hLn2 (by omega) (fun k9 k0 k1 => hkl_316.2 k9 k0 (by omega)) (fun k9 k0 k1 => hkl_317.2 k9 k0 (by omega)) (fun k9 k0 k1 => hkl_318.2 k9 k0 (by omega)) (hns_319.wk (by omega) (by omega) (by omega))
                    have hcu_321 : CUR Pn_309 PS lb lr lp lq (d6_2) (d29_5) (d134_5) := hcu_278.rw1R hu_310.1 hu_270.2.1 (show CLF Ln_265 Pn_266 lb 12 from ⟨hq_285.1, hq_285.2, hek_295.out, how_296.out⟩) (by omega) (by omega) (by rw [hu_270.2.2.1.1.2.1]; decide)
                    have hyb_322 : q_48 = Pn_309.el lb (d6_2) := hyb_279.trans (hkl_316.2 (d6_2) (by omega) (by omega)).symm
                    have hds_323 := hds_280.kegR hu_270.2.1 ⟨hq_285.1, hq_285.2, hek_295.out, how_296.out⟩ hk0_311 (by simp)
                    have hdl_324 := hfr_275.2.same hkl_317.1 hkl_317.2
                    have hdl_325 := hdl_281.same hkl_318.1 hkl_318.2
                    have hal_326 : ∀ b : Int, 0 ≤ b → b < Pn_309.lz la → Pn_309.el la b = Pn_309.el lb b := (fun b b0 b1 => by rw [hkl_315.1] at b1; rw [hkl_315.2 b b0 b1, hkl_316.2 b b0 (by omega)]; exact hal_282 b b0 b1)
                    have hxi_327 : q_263 = Pn_309.el lr (OFS 2 PS lq (d6_2) + d134_5) := hxr0.trans (hkl_317.2 (OFS 2 PS lq (d6_2) + d134_5) (by omega) (by omega)).symm
                    have hq_328 : HID (la ∈ Ln_265 ∧ Pn_309.kd la = 30) := hwk_312.mem hq_284.1 hq_284.2 (by decide)
                    have hq_329 : HID (lb ∈ Ln_265 ∧ Pn_309.kd lb = 30) := hwk_312.mem hq_285.1 hq_285.2 (by decide)
                    have hq_330 : HID (lr ∈ Ln_265 ∧ Pn_309.kd lr = 30) := hwk_312.mem hq_286.1 hq_286.2 (by decide)
                    have hq_331 : HID (lp ∈ Ln_265 ∧ Pn_309.kd lp = 30) := hwk_312.mem hq_287.1 hq_287.2 (by decide)
                    have hq_332 : HID (q_48 ∈ Ln_265 ∧ Pn_309.kd q_48 = 12) := hwk_312.mem hq_288.1 hq_288.2 (by decide)
                    have hq_333 : HID (q_263 ∈ Ln_265 ∧ Pn_309.kd q_263 = 17) := hwk_312.mem hu_270.2.2.1.1.1 hu_270.2.2.1.1.2.1 (by decide)
                    have hE_334 : HID (Pn_309.ek q_263 ≠ 1) := (by rw [hwk_312.ek hu_270.2.2.1.1.1 hu_270.2.2.1.1.2.1 (by decide)]; exact hu_270.2.2.1.1.2.2)
                    have hA_335 : KEG [la, lb, lr, lp] L P Ln_265 Pn_309 := hA_289.trans hwk_312
                    have hA_336 : KEG [la, lb, lr, lp] L6 P6 Ln_265 Pn_309 := hA_290.trans hwk_312
                    have hA_337 : KEG [la, lb, lr, lp] L29 P29 Ln_265 Pn_309 := hA_291.trans hwk_312
                    have hA_338 : KEG [la, lb, lr, lp] L134 P134 Ln_265 Pn_309 := hA_292.trans hwk_312
                    have : Pn_309.lz la = Pn_266.lz la := hkl_315.1
                    have : Pn_309.lz lb = Pn_266.lz lb := hkl_316.1
                    have : Pn_309.lz lr = Pn_266.lz lr := hkl_317.1
                    have : Pn_309.lz lp = Pn_266.lz lp := hkl_318.1
                    have hek_339 : HID (Pn_309.ek la = 12) := (by rw [hwk_312.ek hq_284.1 hq_284.2 (by decide)]; exact hek_293.out)
                    have how_340 : HID (Pn_309.ow la = la) := ((hwk_312.1 la hq_284.1 (by rw [hq_284.2]; decide)).2.2.2.1 hq_284.2 how_294.out).1
                    have hek_341 : HID (Pn_309.ek lb = 12) := (by rw [hwk_312.ek hq_285.1 hq_285.2 (by decide)]; exact hek_295.out)
                    have how_342 : HID (Pn_309.ow lb = lb) := ((hwk_312.1 lb hq_285.1 (by rw [hq_285.2]; decide)).2.2.2.1 hq_285.2 how_296.out).1
                    have hek_343 : HID (Pn_309.ek lr = 17) := (by rw [hwk_312.ek hq_286.1 hq_286.2 (by decide)]; exact hek_297.out)
                    have how_344 : HID (Pn_309.ow lr = lr) := ((hwk_312.1 lr hq_286.1 (by rw [hq_286.2]; decide)).2.2.2.1 hq_286.2 how_298.out).1
                    have hek_345 : HID (Pn_309.ek lp = 15) := (by rw [hwk_312.ek hq_287.1 hq_287.2 (by decide)]; exact hek_299.out)
                    have how_346 : HID (Pn_309.ow lp = lp) := ((hwk_312.1 lp hq_287.1 (by rw [hq_287.2]; decide)).2.2.2.1 hq_287.2 how_300.out).1
                    have hci5 : CPI Pn_309 PS lb lr lp lq (d6_2) (OFS 2 PS lq (d6_2) + d134_5 + 1) (OFS 1 PS lq (d6_2) + d29_5) := hci_320.row hLn2 (by omega) (by omega) (by omega) (by omega) rfl (by rw [← hxi_327, ← hrs]; exact hcw_313)
                    skip
                    refine lv_aload hx hb dX13_copy_169 (lv_at hl 5 rfl) ?_
                    have hfb := (hak_314.gb hq_332.1 hq_332.2).2
                    obtain ⟨kp_347, hkp_347⟩ := pk_getA (T := va_pl LS (pE PS)) (X := [(hd, .inr (12, [v18_0, v18_1, v18_2, v18_3, v18_4, .ref lq, v18_6])), (hc, .inr (12, [.ref lb, .ref lr, .ref lp, .int (zI (z0_264)), .int (zI (e29_1_4)), .ref la, .int (zI (z0_49))]))]) (f := pE Pn_309) hq_332.1
                    rw [pE_block hq_332.2] at hkp_347
                    refine va_get (D := (dC, dI)) (ci := 19) (v := .ref (Pn_309.br q_48)) (C := RX12) (T := TX12) (N := 5) hx hb hts mem_P13_copyR_4 hown hK hP kp_347 hkp_347 rfl 1 (by decide) (ow (k := 18) rfl) (fun _ h9 => h9) rfl dX13_copy_171 ?_
                    obtain ⟨pr_348, epr_348⟩ : ∃ q9 : Nat, q9 = Pn_309.br q_48 := ⟨_, rfl⟩
                    rw [← epr_348]
                    have hlk_349 : LOK Ln_265 Pn_309 cO 17 pr_348 := (by rw [epr_348]; exact hak_314.lbr hq_332.1 hq_332.2)
                    have hlz9 := hlk_349.2.2.1
                    have hek_350 : HID (Pn_309.ek pr_348 = 17) := (by rw [epr_348]; exact (hak_314.owc q_48 hq_332.1 hq_332.2).1.1)
                    refine lv_aload hx hb dX13_copy_174 (lv_at hl 0 rfl) ?_
                    have hPT := pk_asc hP
                    have hDT := pk_ascD hD
                    replace hP := pl_left hPT
                    replace hD := pl_leftD hDT
                    have hlk_351 := (show LOK Ln_265 Pn_309 cO 17 pr_348 from (by rw [← epr_348.symm]; exact hak_314.lbr hq_332.1 hq_332.2))
                    have hX_x := hlk_351.1
                    have hX_k := hlk_351.2.1
                    have hlz9 := hlk_351.2.2.1
                    have hX_c := hak_314.adc hlk_351
                    have hX_y : q_263 ∈ Ln_265 ∧ OBK (Pn_309.kd q_263) := ⟨hq_333.1, (by rw [hq_333.2]; unfold OBK; decide)⟩
                    have hPc := hP.part (X := [(hd, .inr (12, [v18_0, v18_1, v18_2, v18_3, v18_4, .ref lq, v18_6])), (hc, .inr (12, [.ref lb, .ref lr, .ref lp, .int (zI (z0_264)), .int (zI (e29_1_4)), .ref la, .int (zI (z0_49))]))]) (cx := []) (pl := va_pl Ln_265 (pE Pn_309)) [] rfl
                    have hDc := hD.part (X := [(hd, .inr (12, [v18_0, v18_1, v18_2, v18_3, v18_4, .ref lq, v18_6])), (hc, .inr (12, [.ref lb, .ref lr, .ref lp, .int (zI (z0_264)), .int (zI (e29_1_4)), .ref la, .int (zI (z0_49))]))]) (cx := []) (pl := va_pl Ln_265 (pE Pn_309)) [] (by decide) rfl
                    have hKc := hK.sub (tys' := [(cO, .object "java/lang/Object")]) [2] rfl
                    have hFc := va_freeP (X := [(hd, .inr (12, [v18_0, v18_1, v18_2, v18_3, v18_4, .ref lq, v18_6])), (hc, .inr (12, [.ref lb, .ref lr, .ref lp, .int (zI (z0_264)), .int (zI (e29_1_4)), .ref la, .int (zI (z0_49))]))]) (cx := []) (pl := va_pl Ln_265 (pE Pn_309)) hD hS hA [] rfl
                    have hgl := ADC.gl hX_c
                    refine va_calli (va_runV (As := [.ref q_263]) (rest := []) ⟨hx, hb, hml, hown, hts⟩ (c_PL_addAR l dC dI cO Ln_265 Pn_309 pr_348 q_263 sx_ed hX_x hX_k (by omega) hX_c hX_y H.size sx_mi) (cwV 1 hts g_P13_copyR_PL_addAR rfl rfl rfl (by decide +kernel) ⟨(Nat.le_of_ble_eq_true rfl), (Nat.le_of_ble_eq_true rfl)⟩) ⟨fun a U g mk q => by obtain ⟨q0, q1, qP, qK, qD, e0, e1, e2, e3, e4, e5, e6, e7⟩ := q; exact ⟨q0, q1, qP, va_K.moved (u := U) (U := U.calling g mk a) (Vm.Alike.refl U.vm) qK, qD, va_Nw.same rfl (u := U) (U := U.calling g mk a) rfl e0, va_Nw.same rfl (u := U) (U := U.calling g mk a) rfl e1, va_Nw.same rfl (u := U) (U := U.calling g mk a) rfl e2, va_Dc.moved (u := U) (U := U.calling g mk a) (Vm.Alike.refl U.vm) e3, va_Mi.moved (u := U) (U := U.calling g mk a) (Vm.Alike.refl U.vm) e4, va_AO.moved (u := U) (U := U.calling g mk a) (Vm.Alike.refl U.vm) e5, va_T.moved (u := U) (U := U.calling g mk a) (Vm.Alike.refl U.vm) e6, va_Z.moved (u := U) (U := U.calling g mk a) (Vm.Alike.refl U.vm) e7⟩, recv_30 hKc hPc hlk_349.1 hlk_349.2.1, fun U hU hW => ⟨rfl, by rw [hU], by rw [hU]; exact hPc, va_K.moved hW.alike hKc, hDc.weaken (fun _ _ _ _ => trivial), va_Nw.warmC hW hp2, va_Nw.warmC hW hp3, va_Nw.warmC hW hp4, va_Dc.moved hW.alike hp5, va_Mi.moved hW.alike hp6, va_AO.moved hW.alike hp7, by rw [hU]; exact va_T.narrow (va_T.moved hW.alike (va_T.kept hp8 hS.2.1)) hFc, by rw [hU]; exact va_Z.narrow (va_Z.moved hW.alike (va_Z.kept hp9 hS.2.1)) hFc⟩⟩ rfl rfl hl.1 rfl (lv_room (Nat.le_of_ble_eq_true rfl)) dX13_copy_176 ⟨(show ((kc134) + kc_267) + (Pn_309.gc pr_348) ≤ 20000000 from (by omega)), (show ((ks134) + ks_268) + (Pn_309.gs pr_348) ≤ 40000000000 from (by omega))⟩) hS (fun q _ h => hFc q h) hFc (fun r_352 z_353 t H1 locs ht hvm hw hB hz1 hk1 hS => ?_)
                    obtain ⟨Ln_354, Pn_355, hxt_355, hP1, hK1, hD1⟩ := hB
                    rw [ht] at hP1
                    have hK1 := va_K.moved hvm.symm hK1
                    obtain ⟨hP, hD⟩ := va_joinPT (X := [(hd, .inr (12, [v18_0, v18_1, v18_2, v18_3, v18_4, .ref lq, v18_6])), (hc, .inr (12, [.ref lb, .ref lr, .ref lp, .int (zI (z0_264)), .int (zI (e29_1_4)), .ref la, .int (zI (z0_49))]))]) (cx := []) (wr := [(hd, .inr (12, [v18_0, v18_1, v18_2, v18_3, v18_4, .ref lq, v18_6])), (hc, .inr (12, [.ref lb, .ref lr, .ref lp, .int (zI (z0_264)), .int (zI (e29_1_4)), .ref la, .int (zI (z0_49))]))]) (rx := []) (pl := va_pl Ln_265 (pE Pn_309)) (pl1 := va_pl Ln_354 (pE Pn_355)) (T := va_pl LS (pE PS)) hPT hDT [] [0, 1] rfl rfl (by decide) (by decide) hk1 hFc hP1 hD1
                    replace hP := pk_back hP
                    replace hD := pk_backD hD
                    replace hK := (hK.sub (tys' := [(cI, .int), (cZ, .boolean)]) [0, 1] rfl).app hK1
                    generalize H1 = H at hP hS ⊢
                    clear hPc hDc hKc hFc hk1 hz1 hPT hDT
                    replace hP : va_P (dC, dI) vwQ ([(hd, .inr (12, [v18_0, v18_1, v18_2, v18_3, v18_4, .ref lq, v18_6])), (hc, .inr (12, [.ref lb, .ref lr, .ref lp, .int (zI (z0_264)), .int (zI (e29_1_4)), .ref la, .int (zI (z0_49))]))] ++ (va_pl Ln_354 (pE Pn_355) ++ va_pl LS (pE PS))) H := hP
                    replace hD : va_D A ([(hd, .inr (12, [v18_0, v18_1, v18_2, v18_3, v18_4, .ref lq, v18_6])), (hc, .inr (12, [.ref lb, .ref lr, .ref lp, .int (zI (z0_264)), .int (zI (e29_1_4)), .ref la, .int (zI (z0_49))]))] ++ (va_pl Ln_354 (pE Pn_355) ++ va_pl LS (pE PS))) := hD
                    replace hK : va_K (dC, dI) vwQ [(cI, .int), (cZ, .boolean), (cO, .object "java/lang/Object")] s := hK
                    refine W.widen (k := (((kc134) + kc_267) + (Pn_309.gc pr_348))) (n := (((ks134) + ks_268) + (Pn_309.gs pr_348))) (by omega) (by omega) ?_
                    obtain ⟨rfl, hzz_353⟩ := hw
                    have hu_356 := HID.mk (hxt_355)
                    replace hxt_355 := HID.mk hxt_355
                    have hfx := hu_356.2.2.2.2.2.2.2
                    have hk0_357 : KEG [] Ln_265 Pn_309 Ln_354 Pn_355 := hu_356.1.kegR hak_314 hlk_349.1 hlk_349.2.1 hfx (Or.inl (fun e9 => kd_ne hq_332.2 hlk_349.2.1 (by decide) (show q_48 = pr_348 from (by have q9 := (hak_314.owc q_48 hq_332.1 hq_332.2).1.2.1; rw [epr_348.symm, e9] at q9; exact q9.symm))))
                    have hwk_358 : KEG [la, lb, lr, lp] Ln_265 Pn_309 Ln_354 Pn_355 := hu_356.1.kegR hak_314 hlk_349.1 hlk_349.2.1 hfx (Or.inl (fun e9 => kd_ne hq_332.2 hlk_349.2.1 (by decide) (show q_48 = pr_348 from (by have q9 := (hak_314.owc q_48 hq_332.1 hq_332.2).1.2.1; rw [epr_348.symm, e9] at q9; exact q9.symm))))
                    have hlz20 : Pn_309.lz pr_348 = d134_5 := (by have q9 := hcu_321.2.1; rw [← hyb_322, epr_348.symm] at q9; exact q9)
                    have hak_359 : GLR Ln_354 Pn_355 cO cI cZ sx_ed := hak_314.add hu_356.1 hlk_349.1 hlk_349.2.1 hfx hek_350.out hq_333.1 hq_333.2 hu_356.2.1 (by omega) hu_356.2.2.1 hu_356.2.2.2.1.1 (by have q9 := hak_314.adc40 hlk_351; have q8 := hu_356.2.2.2.1; omega) hu_356.2.2.2.2.1 hu_356.2.2.2.2.2.1 hu_356.2.2.2.2.2.2.1 (fun _ => hE_334.out)
                    have hkl_360 := hk0_357.lst (show CLF Ln_265 Pn_309 la 12 from ⟨hq_328.1, hq_328.2, hek_339.out, how_340.out⟩) (by simp)
                    have hkl_361 := hk0_357.lst (show CLF Ln_265 Pn_309 lb 12 from ⟨hq_329.1, hq_329.2, hek_341.out, how_342.out⟩) (by simp)
                    have hkl_362 := hk0_357.lst (show CLF Ln_265 Pn_309 lr 17 from ⟨hq_330.1, hq_330.2, hek_343.out, how_344.out⟩) (by simp)
                    have hkl_363 := hk0_357.lst (show CLF Ln_265 Pn_309 lp 15 from ⟨hq_331.1, hq_331.2, hek_345.out, how_346.out⟩) (by simp)
                    have how9 : Pn_309.ow pr_348 = q_48 := (by have q9 := (hak_314.owc q_48 hq_332.1 hq_332.2).1.2.1; rw [epr_348.symm] at q9; exact q9)
                    have hns_364 := hns_addR (i := d6_2) (n := OFS 2 PS lq (d6_2) + d134_5 + 1) (p := OFS 1 PS lq (d6_2) + d29_5) hak_314 (hak_314.lk (show CLF Ln_265 Pn_309 lb 12 from ⟨hq_329.1, hq_329.2, hek_341.out, how_342.out⟩)) (hak_314.lk (show CLF Ln_265 Pn_309 lr 17 from ⟨hq_330.1, hq_330.2, hek_343.out, how_344.out⟩)) hek_343.out (hak_314.lk (show CLF Ln_265 Pn_309 lp 15 from ⟨hq_331.1, hq_331.2, hek_345.out, how_346.out⟩)) (by omega) (by omega) (by omega) hlk_349.2.1 how9 (fun b9 b0 b1 e9 => (hds_323 b9 (d6_2) b0 (by omega) (by omega)).1 (by rw [← hyb_322]; exact e9.symm))
                    have hci_365 : CPI Pn_355 PS lb lr lp lq (d6_2) (OFS 2 PS lq (d6_2) + d134_5 + 1) (OFS 1 PS lq (d6_2) + d29_5) := hci5.frR hak_314 (hu_356.1.chgo hak_314.owa hlk_349.1 hlk_349.2.1 hfx).c8 (hak_314.lk (show CLF Ln_265 Pn_309 lb 12 from ⟨hq_329.1, hq_329.2, hek_341.out, how_342.out⟩)) (hak_314.lk (show CLF Ln_265 Pn_309 lr 17 from ⟨hq_330.1, hq_330.2, hek_343.out, how_344.out⟩)) (hak_314.lk (show CLF Ln_265 Pn_309 lp 15 from ⟨hq_331.1, hq_331.2, hek_345.out, how_346.out⟩)) (by omega) (by omega) (by omega) hLn1 hLn2 (by omega) (fun k9 k0 k1 => hkl_361.2 k9 k0 (by omega)) (fun k9 k0 k1 => hkl_362.2 k9 k0 (by omega)) (fun k9 k0 k1 => hkl_363.2 k9 k0 (by omega)) hns_364
                    have hob9 : Pn_355.lz (Pn_309.bp q_48) = Pn_309.lz (Pn_309.bp q_48) ∧ ∀ k : Int, 0 ≤ k → k < Pn_309.lz (Pn_309.bp q_48) → Pn_355.el (Pn_309.bp q_48) k = Pn_309.el (Pn_309.bp q_48) k := (by have o9 := hak_314.owc q_48 hq_332.1 hq_332.2; have q9 := (hu_356.1.chgo hak_314.owa hlk_349.1 hlk_349.2.1 hfx).c8.lst hak_314.owa o9.2.2.2.1 o9.2.2.2.2 (fun e9 => by rcases e9 with e9 | e9; (have w9 := o9.2.1; rw [e9, hek_350.out] at w9; have v9 := o9.2.1; omega); (have v9 := o9.2.2.2.2; have w9 := e9.1; omega)) (fun f9 e9 => by have r9 := (hak_314.owa _ o9.2.2.2.1 o9.2.2.2.2).2 f9; rcases e9 with e9 | e9; (have w9 := r9.2.1; rw [e9, hlk_349.2.1] at w9; omega); (have w9 := e9.2; rw [r9.2.2.1] at w9; have v9 := o9.2.1; rw [w9, hek_350.out] at v9; have z9 := o9.2.1; omega)); exact ⟨q9.1, q9.2.1⟩)
                    have hli9 : Pn_355.lz (Pn_309.br q_48) = Pn_309.lz (Pn_309.br q_48) + 1 ∧ (∀ k : Int, 0 ≤ k → k < Pn_309.lz (Pn_309.br q_48) → Pn_355.el (Pn_309.br q_48) k = Pn_309.el (Pn_309.br q_48) k) ∧ Pn_355.el (Pn_309.br q_48) (Pn_309.lz (Pn_309.br q_48)) = q_263 := (by rw [epr_348.symm]; exact ⟨hu_356.2.1, fun k k0 k1 => hu_356.1.elx hu_356.2.2.2.2.2.2.1 k0 k1, hu_356.1.elast hu_356.2.2.2.2.2.1⟩)
                    have hb29 := hk0_357.2 q_48 hq_332.1 hq_332.2
                    rw [hyb_322] at hob9 hli9 hb29
                    have hcu_366 : CUR Pn_355 PS lb lr lp lq (d6_2) (d29_5) (d134_5 + 1) := hcu_321.addr (hkl_361.2 (d6_2) (by omega) (by omega)) hb29.1 hb29.2.1 (by omega) (by omega) (by omega) hob9 hli9 (fun k9 k0 k1 => hkl_362.2 k9 k0 (by omega)) (fun k9 k0 k1 => hkl_363.2 k9 k0 (by omega)) (hxi_327.trans (by rw [hkl_362.2 (OFS 2 PS lq (d6_2) + d134_5) (by omega) (by omega)]))
                    have hyb_367 : q_48 = Pn_355.el lb (d6_2) := hyb_322.trans (hkl_361.2 (d6_2) (by omega) (by omega)).symm
                    have hds_368 := hds_323.kegR hak_314 ⟨hq_329.1, hq_329.2, hek_341.out, how_342.out⟩ hk0_357 (by simp)
                    have hdl_369 := hdl_324.same hkl_362.1 hkl_362.2
                    have hdl_370 := hdl_325.same hkl_363.1 hkl_363.2
                    have hal_371 : ∀ b : Int, 0 ≤ b → b < Pn_355.lz la → Pn_355.el la b = Pn_355.el lb b := (fun b b0 b1 => by rw [hkl_360.1] at b1; rw [hkl_360.2 b b0 b1, hkl_361.2 b b0 (by omega)]; exact hal_326 b b0 b1)
                    have hxi_372 : q_263 = Pn_355.el lr (OFS 2 PS lq (d6_2) + d134_5) := hxi_327.trans (hkl_362.2 (OFS 2 PS lq (d6_2) + d134_5) (by omega) (by omega)).symm
                    have hq_373 : HID (la ∈ Ln_354 ∧ Pn_355.kd la = 30) := hwk_358.mem hq_328.1 hq_328.2 (by decide)
                    have hq_374 : HID (lb ∈ Ln_354 ∧ Pn_355.kd lb = 30) := hwk_358.mem hq_329.1 hq_329.2 (by decide)
                    have hq_375 : HID (lr ∈ Ln_354 ∧ Pn_355.kd lr = 30) := hwk_358.mem hq_330.1 hq_330.2 (by decide)
                    have hq_376 : HID (lp ∈ Ln_354 ∧ Pn_355.kd lp = 30) := hwk_358.mem hq_331.1 hq_331.2 (by decide)
                    have hq_377 : HID (q_48 ∈ Ln_354 ∧ Pn_355.kd q_48 = 12) := hwk_358.mem hq_332.1 hq_332.2 (by decide)
                    have hq_378 : HID (q_263 ∈ Ln_354 ∧ Pn_355.kd q_263 = 17) := hwk_358.mem hq_333.1 hq_333.2 (by decide)
                    have hq_379 : HID (pr_348 ∈ Ln_354 ∧ Pn_355.kd pr_348 = 30) := hwk_358.mem hlk_349.1 hlk_349.2.1 (by decide)
                    have hE_380 : HID (Pn_355.ek q_263 ≠ 1) := (by rw [hwk_358.ek hq_333.1 hq_333.2 (by decide)]; exact hE_334.out)
                    have ha_381 : HID (Pn_355.br q_48 = pr_348) := hwk_358.br hq_332.1 hq_332.2 epr_348.symm
                    have hA_382 : KEG [la, lb, lr, lp] L P Ln_354 Pn_355 := hA_335.trans hwk_358
                    have hA_383 : KEG [la, lb, lr, lp] L6 P6 Ln_354 Pn_355 := hA_336.trans hwk_358
                    have hA_384 : KEG [la, lb, lr, lp] L29 P29 Ln_354 Pn_355 := hA_337.trans hwk_358
                    have hA_385 : KEG [la, lb, lr, lp] L134 P134 Ln_354 Pn_355 := hA_338.trans hwk_358
                    have hza := hu_356.2.1
                    have : Pn_355.lz la = Pn_309.lz la := hkl_360.1
                    have : Pn_355.lz lb = Pn_309.lz lb := hkl_361.1
                    have : Pn_355.lz lr = Pn_309.lz lr := hkl_362.1
                    have : Pn_355.lz lp = Pn_309.lz lp := hkl_363.1
                    have hek_386 : HID (Pn_355.ek la = 12) := (by rw [hwk_358.ek hq_328.1 hq_328.2 (by decide)]; exact hek_339.out)
                    have how_387 : HID (Pn_355.ow la = la) := ((hwk_358.1 la hq_328.1 (by rw [hq_328.2]; decide)).2.2.2.1 hq_328.2 how_340.out).1
                    have hek_388 : HID (Pn_355.ek lb = 12) := (by rw [hwk_358.ek hq_329.1 hq_329.2 (by decide)]; exact hek_341.out)
                    have how_389 : HID (Pn_355.ow lb = lb) := ((hwk_358.1 lb hq_329.1 (by rw [hq_329.2]; decide)).2.2.2.1 hq_329.2 how_342.out).1
                    have hek_390 : HID (Pn_355.ek lr = 17) := (by rw [hwk_358.ek hq_330.1 hq_330.2 (by decide)]; exact hek_343.out)
                    have how_391 : HID (Pn_355.ow lr = lr) := ((hwk_358.1 lr hq_330.1 (by rw [hq_330.2]; decide)).2.2.2.1 hq_330.2 how_344.out).1
                    have hek_392 : HID (Pn_355.ek lp = 15) := (by rw [hwk_358.ek hq_331.1 hq_331.2 (by decide)]; exact hek_345.out)
                    have how_393 : HID (Pn_355.ow lp = lp) := ((hwk_358.1 lp hq_331.1 (by rw [hq_331.2]; decide)).2.2.2.1 hq_331.2 how_346.out).1
                    have hek_394 : HID (Pn_355.ek pr_348 = 17) := (by rw [hwk_358.ek hlk_349.1 hlk_349.2.1 (by decide)]; exact hek_350.out)
                    clear hfx
                    refine lv_pop hx hb dX13_copy_179 rfl ?_
                    refine lv_iinc (v := zI (d134_5 + 1)) (lv' := [(5, .int (zI (d134_5 + 1))), (6, .ref q_263), (0, .ref hc), (1, .ref hd), (2, .int (zI (d6_2))), (3, .ref xb_44), (4, .ref q_48)]) hx hb dX13_copy_180 hl (k := 6) rfl (zI_add (d134_5) (1)) (by decide) rfl (fun ls hl => ?_)
                    refine lv_goto (tgt := 134) hx hb dX13_copy_183 (by decide) ?_
                    exact ih134 (d134_5 + 1) z0_264 Ln_354 Pn_355 ((((kc134) + kc_267) + (Pn_309.gc pr_348))) ((((ks134) + ks_268) + (Pn_309.gs pr_348))) ls H _ (kP134.trans hA_385) hak_359 (by omega) (by omega) (hci_365.to (by omega) (by omega)) hdl_369 hdl_370 hds_368 hal_371 (by omega) ⟨((jl134.1.to2 (by omega) rfl).to (by omega)), (((jl134.2.1.step hlg_283).to2 (by omega) rfl).to (by omega)), ((jl134.2.2.to2 (by omega) rfl).to (by omega))⟩ (hcu_366.to (by omega) (by omega)) hyb_367 (by omega) (by omega) (lv_sub hl [2, 3, 4, 5, 6, 0] rfl) hP hD hS
              exact key134 ((PS.lz (PS.br (PS.el lq (d6_2))) - 0 : Int).toNat + 1) 0 e6_1_3 L29 P29 ((kc29)) ((ks29)) ls H _ (KEG.refl _ _ _) aP29 (by omega) (by omega) (jc29.to (by omega) (by omega)) jr29 jp29 js29 ja29 (by omega) ⟨((jl29.1.to2 (by omega) rfl).to (by omega)), ((jl29.2.1.to2 (by omega) rfl).to (by omega)), ((jl29.2.2.to2 (by omega) rfl).to (by omega))⟩ (ju29.to (by omega) (by omega)) jy29 (by omega) (by omega) (lv_sub hl [1, 2, 3, 4, 5, 0] rfl) hP hD hS
            · have yb38 : ¬ (PS.lz pr_97 : Int) ≤ (d29_5 : Int) := fun q => b38 ((zI_le (a := PS.lz pr_97) (b := d29_5) (by omega) (by omega) (by omega) (by omega)).mpr q)
              refine lv_aload_n hx hb dX13_copy_41 rfl (lv_at hl 3 rfl) ?_
              replace hP := pk_sw hP
              replace hD := pk_swD hD
              obtain ⟨kp_395, hkp_395⟩ := pk_getA (T := va_pl L29 (pE P29)) (X := [(hd, .inr (12, [v18_0, v18_1, v18_2, v18_3, v18_4, .ref lq, v18_6])), (hc, .inr (12, [.ref lb, .ref lr, .ref lp, .int (zI (e6_1_3)), .int (zI (e29_1_4)), .ref la, .int (zI (z0_49))]))]) (f := pE PS) hB_46.1.1
              rw [pE_block hB_46.1.2] at hkp_395
              refine va_get (D := (dC, dI)) (ci := 19) (v := .ref (PS.bp xb_44)) (C := RX12) (T := TX12) (N := 5) hx hb hts mem_P13_copyR_4 hown hK hP kp_395 hkp_395 rfl 0 (by decide) (ow (k := 13) rfl) (fun _ h9 => h9) rfl dX13_copy_42 ?_
              obtain ⟨pr_396, epr_396⟩ : ∃ q9 : Nat, q9 = PS.bp xb_44 := ⟨_, rfl⟩
              rw [← epr_396]
              obtain rfl : pr_97 = pr_396 := (by rw [epr_396]; exact epr_97.symm.symm)
              replace hP := pk_sw hP
              replace hD := pk_swD hD
              refine lv_iload hx hb dX13_copy_45 (lv_at hl 5 rfl) ?_
              replace hP := pk_sw hP
              replace hD := pk_swD hD
              have hPT := pk_asc hP
              have hDT := pk_ascD hD
              replace hP := pl_left hPT
              replace hD := pl_leftD hDT
              have hlk_397 := (show LOK LS PS cO 15 pr_97 from (by rw [← epr_97.symm]; exact (hX_s.inb hi_45).2.2.1))
              obtain ⟨x, ex⟩ : ∃ q9 : Nat, q9 = PS.el pr_97 (d29_5) := ⟨_, rfl⟩
              have hX_x := hlk_397.1
              have hX_k := hlk_397.2.1
              have hq9 := hlk_397.row (i := d29_5) (by omega) (by omega)
              have hX_q : PS.le pr_97 ∈ LS ∧ PS.kd (PS.le pr_97) = 31 ∧ PS.ac (PS.le pr_97) = cO := ⟨hq9.1, hq9.2.1, hq9.2.2.1⟩
              have hq8 := hq9.2.2.2
              have hX_e0 : PS.oa (PS.le pr_97) (d29_5).toNat = some x := (by rw [ex]; exact (hlk_397.2.2.2.2 (d29_5) (by omega) (by omega)).1)
              have hxm : x ∈ LS := (by rw [ex]; exact (hlk_397.2.2.2.2 (d29_5) (by omega) (by omega)).2.1)
              have hxk := (hlk_397.2.2.2.2 (d29_5) (by omega) (by omega)).2.2
              rw [← ex] at hxk
              have hPc := hP.part (X := [(hd, .inr (12, [v18_0, v18_1, v18_2, v18_3, v18_4, .ref lq, v18_6])), (hc, .inr (12, [.ref lb, .ref lr, .ref lp, .int (zI (e6_1_3)), .int (zI (e29_1_4)), .ref la, .int (zI (z0_49))]))]) (cx := []) (pl := va_pl LS (pE PS)) [] rfl
              have hDc := hD.part (X := [(hd, .inr (12, [v18_0, v18_1, v18_2, v18_3, v18_4, .ref lq, v18_6])), (hc, .inr (12, [.ref lb, .ref lr, .ref lp, .int (zI (e6_1_3)), .int (zI (e29_1_4)), .ref la, .int (zI (z0_49))]))]) (cx := []) (pl := va_pl LS (pE PS)) [] (by decide) rfl
              have hKc := hK.sub (tys' := [(cO, .object "java/lang/Object")]) [2] rfl
              have hFc := va_freeP (X := [(hd, .inr (12, [v18_0, v18_1, v18_2, v18_3, v18_4, .ref lq, v18_6])), (hc, .inr (12, [.ref lb, .ref lr, .ref lp, .int (zI (e6_1_3)), .int (zI (e29_1_4)), .ref la, .int (zI (z0_49))]))]) (cx := []) (pl := va_pl LS (pE PS)) hD hS hA [] rfl
              refine va_callr (va_runV (As := [.int (zI (d29_5))]) (rest := []) ⟨hx, hb, hml, hown, hts⟩ (c_PL_get l dC dI cO LS PS pr_97 d29_5 x hX_x hX_k hX_q (by omega) hX_e0 H.size) (cwV 1 hts g_P13_copyR_PL_get rfl rfl rfl (by decide +kernel) ⟨(Nat.le_of_ble_eq_true rfl), (Nat.le_of_ble_eq_true rfl)⟩) ⟨fun a U g mk q => by obtain ⟨q0, q1, qP, qK, qD⟩ := q; exact ⟨q0, q1, qP, va_K.moved (u := U) (U := U.calling g mk a) (Vm.Alike.refl U.vm) qK, qD⟩, recv_30 hKc hPc hlk_98.1 hlk_98.2.1, fun U hU hW => ⟨rfl, by rw [hU], by rw [hU]; exact hPc, va_K.moved hW.alike hKc, hDc.weaken (fun _ _ _ _ => trivial)⟩⟩ rfl rfl hl.1 rfl (lv_room (Nat.le_of_ble_eq_true rfl)) dX13_copy_47 ⟨(show (kc29) + 0 ≤ 20000000 from (by omega)), (show (ks29) + 0 ≤ 40000000000 from (by omega))⟩) hS (fun q _ h => hFc q h) hFc (fun u q_398 t H1 locs ht hvm hw hB hz1 hk1 hS => ?_)
              obtain ⟨hxt_398, hP1, hK1, hD1⟩ := hB
              rw [ht] at hP1
              have hK1 := va_K.moved hvm.symm hK1
              obtain ⟨hP, hD⟩ := va_joinPT (X := [(hd, .inr (12, [v18_0, v18_1, v18_2, v18_3, v18_4, .ref lq, v18_6])), (hc, .inr (12, [.ref lb, .ref lr, .ref lp, .int (zI (e6_1_3)), .int (zI (e29_1_4)), .ref la, .int (zI (z0_49))]))]) (cx := []) (wr := [(hd, .inr (12, [v18_0, v18_1, v18_2, v18_3, v18_4, .ref lq, v18_6])), (hc, .inr (12, [.ref lb, .ref lr, .ref lp, .int (zI (e6_1_3)), .int (zI (e29_1_4)), .ref la, .int (zI (z0_49))]))]) (rx := []) (pl := va_pl LS (pE PS)) (pl1 := va_pl LS (pE PS)) (T := va_pl L29 (pE P29)) hPT hDT [] [0, 1] rfl rfl (by decide) (by decide) hk1 hFc hP1 hD1
              replace hP := pk_back hP
              replace hD := pk_backD hD
              replace hK := (hK.sub (tys' := [(cI, .int), (cZ, .boolean)]) [0, 1] rfl).app hK1
              generalize H1 = H at hP hS ⊢
              clear hPc hDc hKc hFc hk1 hz1 hPT hDT
              replace hP : va_P (dC, dI) vwQ ([(hd, .inr (12, [v18_0, v18_1, v18_2, v18_3, v18_4, .ref lq, v18_6])), (hc, .inr (12, [.ref lb, .ref lr, .ref lp, .int (zI (e6_1_3)), .int (zI (e29_1_4)), .ref la, .int (zI (z0_49))]))] ++ (va_pl LS (pE PS) ++ va_pl L29 (pE P29))) H := hP
              replace hD : va_D A ([(hd, .inr (12, [v18_0, v18_1, v18_2, v18_3, v18_4, .ref lq, v18_6])), (hc, .inr (12, [.ref lb, .ref lr, .ref lp, .int (zI (e6_1_3)), .int (zI (e29_1_4)), .ref la, .int (zI (z0_49))]))] ++ (va_pl LS (pE PS) ++ va_pl L29 (pE P29))) := hD
              replace hK : va_K (dC, dI) vwQ [(cI, .int), (cZ, .boolean), (cO, .object "java/lang/Object")] s := hK
              refine W.widen (k := (kc29)) (n := (ks29)) (by omega) (by omega) ?_
              rw [hxt_398]
              clear hX_e0
              obtain ⟨xp_399, h9⟩ : ∃ q9 : Nat, q9 = x := ⟨_, rfl⟩
              subst h9
              have hm_400 := hxm
              have hk_401 := hxk
              have hpb_402 : PRB PS xp_399 (PS.lz lq) := (by have q9 := hX_s.2.2.1 xb_44 hi_45 (d29_5) (by omega) (by rw [epr_97.symm]; omega); rw [epr_97.symm, ← ex] at q9; exact q9)
              replace hP := pk_sw hP
              replace hD := pk_swD hD
              have hps : xp_399 = PS.el (PS.bp (PS.el lq (d6_2))) (d29_5) := (by rw [← hx_47, epr_97.symm]; exact ex)
              replace hP := pk_sw hP
              replace hD := pk_swD hD
              refine va_castY (C := "SsaForgeModel$Phi") (nm := "SsaForgeModel$Phi") hx hb hown (ow (k := 36) rfl) hp14 (recv_15 hK (pk_A hP) hm_400 hk_401) dX13_copy_50 ?_
              replace hP := pk_sw hP
              replace hD := pk_swD hD
              refine lv_astore (lv' := [(6, .ref xp_399), (0, .ref hc), (1, .ref hd), (2, .int (zI (d6_2))), (3, .ref xb_44), (4, .ref q_48), (5, .int (zI (d29_5)))]) hx hb dX13_copy_53 hl (by decide) rfl (fun ls hl => ?_)
              refine lv_aload_n hx hb dX13_copy_55 rfl (lv_at hl 1 rfl) ?_
              refine lv_aload hx hb dX13_copy_56 (lv_at hl 0 rfl) ?_
              replace hP := pk_sw hP
              replace hD := pk_swD hD
              have hp9 := hX_s.pk9 hm_400 hk_401
              have hpn := hp9.2.2.2.2.1
              have hpt := hp9.2.2.2.2.2.1
              clear hp9
              obtain ⟨kp_403, hkp_403⟩ := pk_getA (T := va_pl L29 (pE P29)) (X := [(hd, .inr (12, [v18_0, v18_1, v18_2, v18_3, v18_4, .ref lq, v18_6])), (hc, .inr (12, [.ref lb, .ref lr, .ref lp, .int (zI (e6_1_3)), .int (zI (e29_1_4)), .ref la, .int (zI (z0_49))]))]) (f := pE PS) hm_400
              rw [pE_phi hk_401] at hkp_403
              refine va_get (D := (dC, dI)) (ci := 20) (v := .int (zI (PS.pt xp_399))) (C := RX15) (T := TX15) (N := 6) hx hb hts mem_P13_copyR_10 hown hK hP kp_403 hkp_403 rfl 0 (by decide) (ow (k := 37) rfl) (fun _ h9 => h9) rfl dX13_copy_58 ?_
              replace hP := pk_sw hP
              replace hD := pk_swD hD
              skip
              have hPT := pk_asc hP
              have hDT := pk_ascD hD
              replace hP := pl_left hPT
              replace hD := pl_leftD hDT
              have hX_g := aP29
              have hX_la : HID (la ∈ L29 ∧ P29.kd la = 30 ∧ P29.ek la = 12 ∧ P29.ow la = la) := HID.mk ⟨hq_81.1, hq_81.2, hek_88.out, how_89.out⟩
              have hX_lp : lp ∈ L29 ∧ P29.kd lp = 30 ∧ P29.ek lp = 15 ∧ P29.ow lp = lp := ⟨hq_84.1, hq_84.2, hek_94.out, how_95.out⟩
              have hPc := hP.part (X := [(hd, .inr (12, [v18_0, v18_1, v18_2, v18_3, v18_4, .ref lq, v18_6])), (hc, .inr (12, [.ref lb, .ref lr, .ref lp, .int (zI (e6_1_3)), .int (zI (e29_1_4)), .ref la, .int (zI (z0_49))]))]) (cx := [(hc, .inr (12, [.ref lb, .ref lr, .ref lp, .int (zI (e6_1_3)), .int (zI (e29_1_4)), .ref la, .int (zI (z0_49))]))]) (pl := va_pl L29 (pE P29)) [1] rfl
              have hDc := hD.part (X := [(hd, .inr (12, [v18_0, v18_1, v18_2, v18_3, v18_4, .ref lq, v18_6])), (hc, .inr (12, [.ref lb, .ref lr, .ref lp, .int (zI (e6_1_3)), .int (zI (e29_1_4)), .ref la, .int (zI (z0_49))]))]) (cx := [(hc, .inr (12, [.ref lb, .ref lr, .ref lp, .int (zI (e6_1_3)), .int (zI (e29_1_4)), .ref la, .int (zI (z0_49))]))]) (pl := va_pl L29 (pE P29)) [1] (by decide) rfl
              have hKc := hK.sub (tys' := [(cO, .object "java/lang/Object"), (cI, .int), (cZ, .boolean)]) [2, 0, 1] rfl
              have hFc := va_freeP (X := [(hd, .inr (12, [v18_0, v18_1, v18_2, v18_3, v18_4, .ref lq, v18_6])), (hc, .inr (12, [.ref lb, .ref lr, .ref lp, .int (zI (e6_1_3)), .int (zI (e29_1_4)), .ref la, .int (zI (z0_49))]))]) (cx := [(hc, .inr (12, [.ref lb, .ref lr, .ref lp, .int (zI (e6_1_3)), .int (zI (e29_1_4)), .ref la, .int (zI (z0_49))]))]) (pl := va_pl L29 (pE P29)) hD hS hA [1] rfl
              refine W_knowS (fun hrmA => ?_)
              refine va_callr (va_runV (As := [.int (zI (PS.pt xp_399))]) (rest := []) ⟨hx, hb, hml, hown, hts⟩ (c_P13_phiR l dC dI cI cZ hc (.ref lb) (.ref lr) (.int (zI (e6_1_3))) e29_1_4 (.int (zI (z0_49))) la lp cO L29 P29 sx_ed (PS.pt xp_399) (by omega) hX_g hX_la hX_lp (by omega) H.size H sx_mi) (cwV 1 hts g_P13_copyR_P13_phiR rfl rfl rfl (by decide +kernel) ⟨(Nat.le_of_ble_eq_true rfl), (Nat.le_of_ble_eq_true rfl)⟩) ⟨fun a U g mk q => by obtain ⟨q0, q1, qP, qK, qD, e0, e1, e2, e3, e4, e5, e6, e7, e8, e9, e10⟩ := q; exact ⟨q0, q1, qP, va_K.moved (u := U) (U := U.calling g mk a) (Vm.Alike.refl U.vm) qK, qD, va_Nw.same rfl (u := U) (U := U.calling g mk a) rfl e0, e1, va_Nw.same rfl (u := U) (U := U.calling g mk a) rfl e2, va_Nw.same rfl (u := U) (U := U.calling g mk a) rfl e3, va_Nw.same rfl (u := U) (U := U.calling g mk a) rfl e4, va_Nw.same rfl (u := U) (U := U.calling g mk a) rfl e5, va_Dc.moved (u := U) (U := U.calling g mk a) (Vm.Alike.refl U.vm) e6, va_Mi.moved (u := U) (U := U.calling g mk a) (Vm.Alike.refl U.vm) e7, va_AO.moved (u := U) (U := U.calling g mk a) (Vm.Alike.refl U.vm) e8, va_T.moved (u := U) (U := U.calling g mk a) (Vm.Alike.refl U.vm) e9, va_Z.moved (u := U) (U := U.calling g mk a) (Vm.Alike.refl U.vm) e10⟩, va_recv hKc hPc (ci := 12) (q0 := 0) rfl rfl, fun U hU hW => ⟨rfl, by rw [hU], by rw [hU]; exact hPc, va_K.moved hW.alike hKc, hDc.weaken (fun _ _ _ _ => trivial), va_Nw.warmC hW hp14, hU, va_Nw.warmM hW hp15, va_Nw.warmC hW hp2, va_Nw.warmC hW hp3, va_Nw.warmC hW hp4, va_Dc.moved hW.alike hp5, va_Mi.moved hW.alike hp6, va_AO.moved hW.alike hp7, by rw [hU]; exact va_T.narrow (va_T.moved hW.alike (va_T.kept hp8 hS.2.1)) hFc, by rw [hU]; exact va_Z.narrow (va_Z.moved hW.alike (va_Z.kept hp9 hS.2.1)) hFc⟩⟩ rfl rfl hl.1 rfl (lv_room (Nat.le_of_ble_eq_true rfl)) dX13_copy_61 ⟨(show (kc29) + 5 ≤ 20000000 from (by omega)), (show (ks29) + 100018 ≤ 40000000000 from (by omega))⟩) hS (fun q _ h => hFc q h) hFc (fun u q_404 t H1 locs ht hvm hw hB hz1 hk1 hS => ?_)
              obtain ⟨z0_405, Ln_406, Pn_407, kc_408, ks_409, hxt_409, hP1, hK1, hD1⟩ := hB
              rw [ht] at hP1
              have hK1 := va_K.moved hvm.symm hK1
              obtain ⟨hP, hD⟩ := va_joinPT (X := [(hd, .inr (12, [v18_0, v18_1, v18_2, v18_3, v18_4, .ref lq, v18_6])), (hc, .inr (12, [.ref lb, .ref lr, .ref lp, .int (zI (e6_1_3)), .int (zI (e29_1_4)), .ref la, .int (zI (z0_49))]))]) (cx := [(hc, .inr (12, [.ref lb, .ref lr, .ref lp, .int (zI (e6_1_3)), .int (zI (e29_1_4)), .ref la, .int (zI (z0_49))]))]) (wr := [(hd, .inr (12, [v18_0, v18_1, v18_2, v18_3, v18_4, .ref lq, v18_6]))]) (rx := [(hc, .inr (12, [.ref lb, .ref lr, .ref lp, .int (zI (e6_1_3)), .int (zI (z0_405)), .ref la, .int (zI (z0_49))]))]) (pl := va_pl L29 (pE P29)) (pl1 := va_pl Ln_406 (pE Pn_407)) (T := va_pl LS (pE PS)) hPT hDT [1] [0] rfl rfl (by decide) (by decide) hk1 hFc hP1 hD1
              replace hP := pk_back hP
              replace hD := pk_backD hD
              replace hK := (hK.sub (tys' := []) [] rfl).app hK1
              have hrmC := hxt_409.1.1
              rw [ht] at hrmC
              refine W_tightS (hrmA.trans hrmC) ?_
              have hrb := hxt_409.1.2
              generalize H1 = H at hP hS ⊢
              clear hPc hDc hKc hFc hk1 hz1 hPT hDT
              replace hP : va_P (dC, dI) vwQ ([(hd, .inr (12, [v18_0, v18_1, v18_2, v18_3, v18_4, .ref lq, v18_6])), (hc, .inr (12, [.ref lb, .ref lr, .ref lp, .int (zI (e6_1_3)), .int (zI (z0_405)), .ref la, .int (zI (z0_49))]))] ++ (va_pl Ln_406 (pE Pn_407) ++ va_pl LS (pE PS))) H := hP
              replace hD : va_D A ([(hd, .inr (12, [v18_0, v18_1, v18_2, v18_3, v18_4, .ref lq, v18_6])), (hc, .inr (12, [.ref lb, .ref lr, .ref lp, .int (zI (e6_1_3)), .int (zI (z0_405)), .ref la, .int (zI (z0_49))]))] ++ (va_pl Ln_406 (pE Pn_407) ++ va_pl LS (pE PS))) := hD
              replace hK : va_K (dC, dI) vwQ [(cO, .object "java/lang/Object"), (cI, .int), (cZ, .boolean)] s := hK
              refine W.widen (k := ((kc29) + kc_408)) (n := ((ks29) + ks_409)) (by omega) (by omega) ?_
              obtain ⟨rk_410, hu_410⟩ := hxt_409.2
              have hu_411 := HID.mk (hxt_409.2.2)
              replace hxt_409 := HID.mk hxt_409
              replace hu_410 := HID.mk hu_410
              have hwk_412 := hu_411.1.wk (E' := [la, lb, lr, lp]) (fun _ h9 => CPI.mem4 (Or.inr (Or.inr (Or.inr rfl))) h9)
              have hkl_413 := hu_411.1.lst (show CLF L29 P29 la 12 from ⟨hq_81.1, hq_81.2, hek_88.out, how_89.out⟩) (by intro q9; simp at q9; exact absurd q9 (ek_ne hek_88.out hek_94.out (by decide)))
              have hkl_414 := hu_411.1.lst (show CLF L29 P29 lb 12 from ⟨hq_82.1, hq_82.2, hek_90.out, how_91.out⟩) (by intro q9; simp at q9; exact absurd q9 (ek_ne hek_90.out hek_94.out (by decide)))
              have hkl_415 := hu_411.1.lst (show CLF L29 P29 lr 17 from ⟨hq_83.1, hq_83.2, hek_92.out, how_93.out⟩) (by intro q9; simp at q9; exact absurd q9 (ek_ne hek_92.out hek_94.out (by decide)))
              have hfr_416 := hu_411.2.2.1.fresh jp29 (aP29.lk (show CLF L29 P29 lp 15 from ⟨hq_84.1, hq_84.2, hek_94.out, how_95.out⟩)) (by omega) (by omega)
              have hns_417 := hns_phiR (i := d6_2 + 1) (n := OFS 2 PS lq (d6_2)) (p := OFS 1 PS lq (d6_2) + d29_5) aP29 (aP29.lk (show CLF L29 P29 lb 12 from ⟨hq_82.1, hq_82.2, hek_90.out, how_91.out⟩)) (aP29.lk (show CLF L29 P29 lr 17 from ⟨hq_83.1, hq_83.2, hek_92.out, how_93.out⟩)) hek_92.out (aP29.lk (show CLF L29 P29 lp 15 from ⟨hq_84.1, hq_84.2, hek_94.out, how_95.out⟩)) how_95.out (by omega) (by omega) (by omega) (fun m9 => ⟨(hfr_416.1 m9).1, fun k9 k0 k1 => (hfr_416.1 m9).2 k9 k0 (by omega)⟩) (fun k9 k0 k1 => hfr_416.2.1 k9 k0 (by omega))
              have hci_418 : CPI Pn_407 PS lb lr lp lq (d6_2) (OFS 2 PS lq (d6_2)) (OFS 1 PS lq (d6_2) + d29_5) := jc29.frR aP29 hu_411.2.2.1.2.2.2.2.1 (aP29.lk (show CLF L29 P29 lb 12 from ⟨hq_82.1, hq_82.2, hek_90.out, how_91.out⟩)) (aP29.lk (show CLF L29 P29 lr 17 from ⟨hq_83.1, hq_83.2, hek_92.out, how_93.out⟩)) (aP29.lk (show CLF L29 P29 lp 15 from ⟨hq_84.1, hq_84.2, hek_94.out, how_95.out⟩)) (by omega) (by omega) (by omega) hLn1 hLn2 (by omega) (fun k9 k0 k1 => hkl_414.2 k9 k0 (by omega)) (fun k9 k0 k1 => hkl_415.2 k9 k0 (by omega)) (fun k9 k0 k1 => hu_411.2.2.1.2.2.2.1 k9 k0 (by omega)) (hns_417.wk (by omega) (by omega) (by omega))
              have hcu_419 : CUR Pn_407 PS lb lr lp lq (d6_2) (d29_5) (0) := ju29.frR aP29 hu_411.2.2.1.2.2.2.2.1 (show CLF L29 P29 lb 12 from ⟨hq_82.1, hq_82.2, hek_90.out, how_91.out⟩) (by omega) (by omega) (by omega) (by omega) (hkl_414.2 (d6_2) (by omega) (by omega)) (fun k9 k0 k1 => hkl_415.2 k9 k0 (by omega)) (fun k9 k0 k1 => hu_411.2.2.1.2.2.2.1 k9 k0 (by omega)) (hns_417.1 (d6_2) (by omega) (by omega)).1 (hns_417.1 (d6_2) (by omega) (by omega)).2.2.1 (hns_417.1 (d6_2) (by omega) (by omega)).2.2.2
              have hyb_420 : q_48 = Pn_407.el lb (d6_2) := jy29.trans (hkl_414.2 (d6_2) (by omega) (by omega)).symm
              have hds_421 := js29.kegR aP29 ⟨hq_82.1, hq_82.2, hek_90.out, how_91.out⟩ hu_411.1 (by intro q9; simp at q9; exact absurd q9 (ek_ne hek_90.out hek_94.out (by decide)))
              have hdl_422 := jr29.same hkl_415.1 hkl_415.2
              have hal_423 : ∀ b : Int, 0 ≤ b → b < Pn_407.lz la → Pn_407.el la b = Pn_407.el lb b := (fun b b0 b1 => by rw [hkl_413.1] at b1; rw [hkl_413.2 b b0 b1, hkl_414.2 b b0 (by omega)]; exact ja29 b b0 b1)
              have hq_425 : HID (la ∈ Ln_406 ∧ Pn_407.kd la = 30) := hwk_412.mem hq_81.1 hq_81.2 (by decide)
              have hq_426 : HID (lb ∈ Ln_406 ∧ Pn_407.kd lb = 30) := hwk_412.mem hq_82.1 hq_82.2 (by decide)
              have hq_427 : HID (lr ∈ Ln_406 ∧ Pn_407.kd lr = 30) := hwk_412.mem hq_83.1 hq_83.2 (by decide)
              have hq_428 : HID (lp ∈ Ln_406 ∧ Pn_407.kd lp = 30) := hwk_412.mem hq_84.1 hq_84.2 (by decide)
              have hq_429 : HID (q_48 ∈ Ln_406 ∧ Pn_407.kd q_48 = 12) := hwk_412.mem hq_85.1 hq_85.2 (by decide)
              have hA_430 : KEG [la, lb, lr, lp] L P Ln_406 Pn_407 := hA_86.trans hwk_412
              have hA_431 : KEG [la, lb, lr, lp] L6 P6 Ln_406 Pn_407 := hA_87.trans hwk_412
              have hA_432 : KEG [la, lb, lr, lp] L29 P29 Ln_406 Pn_407 := (KEG.refl [la, lb, lr, lp] L29 P29).trans hwk_412
              have hlg_424 : LG9 (Pn_407.lz lp) (P29.lz lp) (e29_1_4) := (by have q9 := hu_411.2.2.1.2.1.2; rcases q9 with q9 | q9; exact Or.inl q9; exact Or.inr ⟨q9.1, q9.2.1⟩)
              have := hlg_424.le
              have := hu_411.2.2.1.2.1.1
              have := hu_411.2.2.2
              have : Pn_407.lz la = P29.lz la := hkl_413.1
              have : Pn_407.lz lb = P29.lz lb := hkl_414.1
              have : Pn_407.lz lr = P29.lz lr := hkl_415.1
              have hek_433 : HID (Pn_407.ek la = 12) := (by rw [hwk_412.ek hq_81.1 hq_81.2 (by decide)]; exact hek_88.out)
              have how_434 : HID (Pn_407.ow la = la) := ((hwk_412.1 la hq_81.1 (by rw [hq_81.2]; decide)).2.2.2.1 hq_81.2 how_89.out).1
              have hek_435 : HID (Pn_407.ek lb = 12) := (by rw [hwk_412.ek hq_82.1 hq_82.2 (by decide)]; exact hek_90.out)
              have how_436 : HID (Pn_407.ow lb = lb) := ((hwk_412.1 lb hq_82.1 (by rw [hq_82.2]; decide)).2.2.2.1 hq_82.2 how_91.out).1
              have hek_437 : HID (Pn_407.ek lr = 17) := (by rw [hwk_412.ek hq_83.1 hq_83.2 (by decide)]; exact hek_92.out)
              have how_438 : HID (Pn_407.ow lr = lr) := ((hwk_412.1 lr hq_83.1 (by rw [hq_83.2]; decide)).2.2.2.1 hq_83.2 how_93.out).1
              have hek_439 : HID (Pn_407.ek lp = 15) := (by rw [hwk_412.ek hq_84.1 hq_84.2 (by decide)]; exact hek_94.out)
              have how_440 : HID (Pn_407.ow lp = lp) := ((hwk_412.1 lp hq_84.1 (by rw [hq_84.2]; decide)).2.2.2.1 hq_84.2 how_95.out).1
              have hcp0 : CPH Pn_407 q_404 PS xp_399 0 := CPH.first hu_411.2.2.1.2.2.1.1 hu_411.2.2.1.2.2.1.2
              have hxp0 : q_404 = Pn_407.el lp (OFS 1 PS lq (d6_2) + d29_5) := (by have q9 := hu_411.2.2.1.1.2.2; rw [show (e29_1_4 : Int) = OFS 1 PS lq (d6_2) + d29_5 from (by omega)] at q9; exact q9)
              skip
              refine lv_astore (lv' := [(7, .ref q_404), (6, .ref xp_399), (0, .ref hc), (1, .ref hd), (2, .int (zI (d6_2))), (3, .ref xb_44), (4, .ref q_48), (5, .int (zI (d29_5)))]) hx hb dX13_copy_64 hl (by decide) rfl (fun ls hl => ?_)
              refine lv_iconst (v := 0) hx hb dX13_copy_66 (by decide) ?_
              refine lv_istore (lv' := [(8, .int 0), (7, .ref q_404), (6, .ref xp_399), (0, .ref hc), (1, .ref hd), (2, .int (zI (d6_2))), (3, .ref xb_44), (4, .ref q_48), (5, .int (zI (d29_5)))]) hx hb dX13_copy_67 hl (by decide) rfl (fun ls hl => ?_)
              have key69 : ∀ n69 : Nat, ∀ (d69_8 : Int) (L69 : List Nat) (P69 : PO) (kc69 : Nat) (ks69 : Nat) (ls : Array Slot) (H : Heap) (locs : List Loc), (KEG [la, lb, lr, lp] Ln_406 Pn_407 L69 P69) → (GLR L69 P69 cO cI cZ sx_ed) → (0 ≤ d69_8 ∧ d69_8 ≤ PS.pn xp_399) → (CPI P69 PS lb lr lp lq (d6_2) (OFS 2 PS lq (d6_2)) (OFS 1 PS lq (d6_2) + d29_5)) → (DSL P69 lr) → (DSL P69 lp) → (DST P69 lb) → (∀ b : Int, 0 ≤ b → b < P69.lz la → P69.el la b = P69.el lb b) → (z0_49 = d6_2 + 1 ∧ e6_1_3 = OFS 2 PS lq (d6_2) ∧ z0_405 = OFS 1 PS lq (d6_2) + d29_5 + 1 ∧ P69.lz la = d6_2 + 1 ∧ z0_49 ≤ P69.lz lb ∧ e6_1_3 ≤ P69.lz lr ∧ z0_405 ≤ P69.lz lp) → (LGM (P69.lz lb) (P.lz lb) (z0_49) ∧ LGM (P69.lz lr) (P.lz lr) (e6_1_3) ∧ LGM (P69.lz lp) (P.lz lp) (z0_405)) → (CUR P69 PS lb lr lp lq (d6_2) (d29_5) (0)) → (q_48 = P69.el lb (d6_2)) → (q_404 = P69.el lp (OFS 1 PS lq (d6_2) + d29_5)) → (CPH P69 q_404 PS xp_399 (d69_8)) → ((ks69 : Int) ≤ 300000 * d6_2 + 250000 * e6_1_3 + 1300000 * z0_405 - 800000 + 3000 * d69_8 ∧ (kc69 : Int) ≤ 10 * d6_2 + 5 * e6_1_3 + 1000 * z0_405 - 900 + 3 * d69_8) → ((PS.pn xp_399 - d69_8 : Int).toNat) < n69 → lv_has ls 9 [(0, .ref hc), (1, .ref hd), (2, .int (zI (d6_2))), (3, .ref xb_44), (4, .ref q_48), (5, .int (zI (d29_5))), (6, .ref xp_399), (7, .ref q_404), (8, .int (zI (d69_8)))] → va_P (dC, dI) vwQ ([(hd, .inr (12, [v18_0, v18_1, v18_2, v18_3, v18_4, .ref lq, v18_6])), (hc, .inr (12, [.ref lb, .ref lr, .ref lp, .int (zI (e6_1_3)), .int (zI (z0_405)), .ref la, .int (zI (z0_49))]))] ++ (va_pl L69 (pE P69) ++ va_pl LS (pE PS))) H → va_D A ([(hd, .inr (12, [v18_0, v18_1, v18_2, v18_3, v18_4, .ref lq, v18_6])), (hc, .inr (12, [.ref lb, .ref lr, .ref lp, .int (zI (e6_1_3)), .int (zI (z0_405)), .ref la, .int (zI (z0_49))]))] ++ (va_pl L69 (pE P69) ++ va_pl LS (pE PS))) → va_S A s.heap H locs → W p l e (headSpec v_P13_copyR ({ frames := 8, cells := (20000000), slots := (40000000000), locals := 213 })).room s m ([.ref hc, .ref hd] : List Value).toArray below meth c H locs (kc69) (ks69) Q (F0 m 69 ls []) := by
                intro n69
                induction n69 with
                | zero => intro d69_8 L69 P69 kc69 ks69 ls H locs kP69 aP69 jd69_8 jc69 jr69 jp69 js69 ja69 jn69 jl69 ju69 jy69 jx69 jh69 hkr69 hm69; exact absurd hm69 (by omega)
                | succ n69 ih69 =>
                  intro d69_8 L69 P69 kc69 ks69 ls H locs kP69 aP69 jd69_8 jc69 jr69 jp69 js69 ja69 jn69 jl69 ju69 jy69 jx69 jh69 hkr69 hm69 hl hP hD hS
                  have hq_441 : HID (la ∈ L69 ∧ P69.kd la = 30) := kP69.mem hq_425.1 hq_425.2 (by decide)
                  have hq_442 : HID (lb ∈ L69 ∧ P69.kd lb = 30) := kP69.mem hq_426.1 hq_426.2 (by decide)
                  have hq_443 : HID (lr ∈ L69 ∧ P69.kd lr = 30) := kP69.mem hq_427.1 hq_427.2 (by decide)
                  have hq_444 : HID (lp ∈ L69 ∧ P69.kd lp = 30) := kP69.mem hq_428.1 hq_428.2 (by decide)
                  have hq_445 : HID (q_48 ∈ L69 ∧ P69.kd q_48 = 12) := kP69.mem hq_429.1 hq_429.2 (by decide)
                  have hq_446 : HID (q_404 ∈ L69 ∧ P69.kd q_404 = 15) := kP69.mem hu_411.2.2.1.1.1 hu_411.2.2.1.1.2.1 (by decide)
                  have hA_447 : KEG [la, lb, lr, lp] L P L69 P69 := hA_430.trans kP69
                  have hA_448 : KEG [la, lb, lr, lp] L6 P6 L69 P69 := hA_431.trans kP69
                  have hA_449 : KEG [la, lb, lr, lp] L29 P29 L69 P69 := hA_432.trans kP69
                  have hek_450 : HID (P69.ek la = 12) := (by rw [kP69.ek hq_425.1 hq_425.2 (by decide)]; exact hek_433.out)
                  have how_451 : HID (P69.ow la = la) := ((kP69.1 la hq_425.1 (by rw [hq_425.2]; decide)).2.2.2.1 hq_425.2 how_434.out).1
                  have hek_452 : HID (P69.ek lb = 12) := (by rw [kP69.ek hq_426.1 hq_426.2 (by decide)]; exact hek_435.out)
                  have how_453 : HID (P69.ow lb = lb) := ((kP69.1 lb hq_426.1 (by rw [hq_426.2]; decide)).2.2.2.1 hq_426.2 how_436.out).1
                  have hek_454 : HID (P69.ek lr = 17) := (by rw [kP69.ek hq_427.1 hq_427.2 (by decide)]; exact hek_437.out)
                  have how_455 : HID (P69.ow lr = lr) := ((kP69.1 lr hq_427.1 (by rw [hq_427.2]; decide)).2.2.2.1 hq_427.2 how_438.out).1
                  have hek_456 : HID (P69.ek lp = 15) := (by rw [kP69.ek hq_428.1 hq_428.2 (by decide)]; exact hek_439.out)
                  have how_457 : HID (P69.ow lp = lp) := ((kP69.1 lp hq_428.1 (by rw [hq_428.2]; decide)).2.2.2.1 hq_428.2 how_440.out).1
                  have hj69 := kP69
                  have hpn9 := jh69.1
                  have hm1 := jl69.1.max (m := 9000) (by omega) (by omega)
                  have hm2 := jl69.2.1.max (m := 19000) (by omega) (by omega)
                  have hm3 := jl69.2.2.max (m := 19000) (by omega) (by omega)
                  skip
                  refine lv_iload hx hb dX13_copy_69 (lv_at hl 8 rfl) ?_
                  refine lv_aload hx hb dX13_copy_71 (lv_at hl 6 rfl) ?_
                  replace hP := pk_sw hP
                  replace hD := pk_swD hD
                  obtain ⟨kp_458, hkp_458⟩ := pk_getA (T := va_pl L69 (pE P69)) (X := [(hd, .inr (12, [v18_0, v18_1, v18_2, v18_3, v18_4, .ref lq, v18_6])), (hc, .inr (12, [.ref lb, .ref lr, .ref lp, .int (zI (e6_1_3)), .int (zI (z0_405)), .ref la, .int (zI (z0_49))]))]) (f := pE PS) hm_400
                  rw [pE_phi hk_401] at hkp_458
                  refine va_get (D := (dC, dI)) (ci := 20) (v := .int (zI (PS.pn xp_399))) (C := RX15) (T := TX15) (N := 6) hx hb hts mem_P13_copyR_10 hown hK hP kp_458 hkp_458 rfl 1 (by decide) (ow (k := 41) rfl) (fun _ h9 => h9) rfl dX13_copy_73 ?_
                  replace hP := pk_sw hP
                  replace hD := pk_swD hD
                  refine lv_icmp_ge (tgt := 114) hx hb dX13_copy_76 (by decide) (fun b76 => ?_) (fun b76 => ?_)
                  · have yb76 : (PS.pn xp_399 : Int) ≤ (d69_8 : Int) := (zI_le (a := PS.pn xp_399) (b := d69_8) (by omega) (by omega) (by omega) (by omega)).mp b76
                    have hci4 : CPI P69 PS lb lr lp lq (d6_2) (OFS 2 PS lq (d6_2)) (OFS 1 PS lq (d6_2) + d29_5 + 1) := jc69.phi hLn1 (by omega) (by omega) (by omega) (by omega) rfl (by rw [← jx69, ← hps, show PS.pn xp_399 = d69_8 from (by omega)]; exact jh69)
                    skip
                    refine lv_aload hx hb dX13_copy_114 (lv_at hl 4 rfl) ?_
                    have hfb := (aP69.gb hq_445.1 hq_445.2).2
                    obtain ⟨kp_459, hkp_459⟩ := pk_getA (T := va_pl LS (pE PS)) (X := [(hd, .inr (12, [v18_0, v18_1, v18_2, v18_3, v18_4, .ref lq, v18_6])), (hc, .inr (12, [.ref lb, .ref lr, .ref lp, .int (zI (e6_1_3)), .int (zI (z0_405)), .ref la, .int (zI (z0_49))]))]) (f := pE P69) hq_445.1
                    rw [pE_block hq_445.2] at hkp_459
                    refine va_get (D := (dC, dI)) (ci := 19) (v := .ref (P69.bp q_48)) (C := RX12) (T := TX12) (N := 5) hx hb hts mem_P13_copyR_4 hown hK hP kp_459 hkp_459 rfl 0 (by decide) (ow (k := 13) rfl) (fun _ h9 => h9) rfl dX13_copy_116 ?_
                    obtain ⟨pr_460, epr_460⟩ : ∃ q9 : Nat, q9 = P69.bp q_48 := ⟨_, rfl⟩
                    rw [← epr_460]
                    have hlk_461 : LOK L69 P69 cO 15 pr_460 := (by rw [epr_460]; exact aP69.lbp hq_445.1 hq_445.2)
                    have hlz9 := hlk_461.2.2.1
                    have hek_462 : HID (P69.ek pr_460 = 15) := (by rw [epr_460]; exact (aP69.owc q_48 hq_445.1 hq_445.2).2.1)
                    refine lv_aload hx hb dX13_copy_119 (lv_at hl 7 rfl) ?_
                    have hPT := pk_asc hP
                    have hDT := pk_ascD hD
                    replace hP := pl_left hPT
                    replace hD := pl_leftD hDT
                    have hlk_463 := (show LOK L69 P69 cO 15 pr_460 from (by rw [← epr_460.symm]; exact aP69.lbp hq_445.1 hq_445.2))
                    have hX_x := hlk_463.1
                    have hX_k := hlk_463.2.1
                    have hlz9 := hlk_463.2.2.1
                    have hX_c := aP69.adc hlk_463
                    have hX_y : q_404 ∈ L69 ∧ OBK (P69.kd q_404) := ⟨hq_446.1, (by rw [hq_446.2]; unfold OBK; decide)⟩
                    have hPc := hP.part (X := [(hd, .inr (12, [v18_0, v18_1, v18_2, v18_3, v18_4, .ref lq, v18_6])), (hc, .inr (12, [.ref lb, .ref lr, .ref lp, .int (zI (e6_1_3)), .int (zI (z0_405)), .ref la, .int (zI (z0_49))]))]) (cx := []) (pl := va_pl L69 (pE P69)) [] rfl
                    have hDc := hD.part (X := [(hd, .inr (12, [v18_0, v18_1, v18_2, v18_3, v18_4, .ref lq, v18_6])), (hc, .inr (12, [.ref lb, .ref lr, .ref lp, .int (zI (e6_1_3)), .int (zI (z0_405)), .ref la, .int (zI (z0_49))]))]) (cx := []) (pl := va_pl L69 (pE P69)) [] (by decide) rfl
                    have hKc := hK.sub (tys' := [(cO, .object "java/lang/Object")]) [0] rfl
                    have hFc := va_freeP (X := [(hd, .inr (12, [v18_0, v18_1, v18_2, v18_3, v18_4, .ref lq, v18_6])), (hc, .inr (12, [.ref lb, .ref lr, .ref lp, .int (zI (e6_1_3)), .int (zI (z0_405)), .ref la, .int (zI (z0_49))]))]) (cx := []) (pl := va_pl L69 (pE P69)) hD hS hA [] rfl
                    have hgl := ADC.gl hX_c
                    refine va_calli (va_runV (As := [.ref q_404]) (rest := []) ⟨hx, hb, hml, hown, hts⟩ (c_PL_addAR l dC dI cO L69 P69 pr_460 q_404 sx_ed hX_x hX_k (by omega) hX_c hX_y H.size sx_mi) (cwV 1 hts g_P13_copyR_PL_addAR rfl rfl rfl (by decide +kernel) ⟨(Nat.le_of_ble_eq_true rfl), (Nat.le_of_ble_eq_true rfl)⟩) ⟨fun a U g mk q => by obtain ⟨q0, q1, qP, qK, qD, e0, e1, e2, e3, e4, e5, e6, e7⟩ := q; exact ⟨q0, q1, qP, va_K.moved (u := U) (U := U.calling g mk a) (Vm.Alike.refl U.vm) qK, qD, va_Nw.same rfl (u := U) (U := U.calling g mk a) rfl e0, va_Nw.same rfl (u := U) (U := U.calling g mk a) rfl e1, va_Nw.same rfl (u := U) (U := U.calling g mk a) rfl e2, va_Dc.moved (u := U) (U := U.calling g mk a) (Vm.Alike.refl U.vm) e3, va_Mi.moved (u := U) (U := U.calling g mk a) (Vm.Alike.refl U.vm) e4, va_AO.moved (u := U) (U := U.calling g mk a) (Vm.Alike.refl U.vm) e5, va_T.moved (u := U) (U := U.calling g mk a) (Vm.Alike.refl U.vm) e6, va_Z.moved (u := U) (U := U.calling g mk a) (Vm.Alike.refl U.vm) e7⟩, recv_30 hKc hPc hlk_461.1 hlk_461.2.1, fun U hU hW => ⟨rfl, by rw [hU], by rw [hU]; exact hPc, va_K.moved hW.alike hKc, hDc.weaken (fun _ _ _ _ => trivial), va_Nw.warmC hW hp2, va_Nw.warmC hW hp3, va_Nw.warmC hW hp4, va_Dc.moved hW.alike hp5, va_Mi.moved hW.alike hp6, va_AO.moved hW.alike hp7, by rw [hU]; exact va_T.narrow (va_T.moved hW.alike (va_T.kept hp8 hS.2.1)) hFc, by rw [hU]; exact va_Z.narrow (va_Z.moved hW.alike (va_Z.kept hp9 hS.2.1)) hFc⟩⟩ rfl rfl hl.1 rfl (lv_room (Nat.le_of_ble_eq_true rfl)) dX13_copy_121 ⟨(show (kc69) + (P69.gc pr_460) ≤ 20000000 from (by omega)), (show (ks69) + (P69.gs pr_460) ≤ 40000000000 from (by omega))⟩) hS (fun q _ h => hFc q h) hFc (fun r_464 z_465 t H1 locs ht hvm hw hB hz1 hk1 hS => ?_)
                    obtain ⟨Ln_466, Pn_467, hxt_467, hP1, hK1, hD1⟩ := hB
                    rw [ht] at hP1
                    have hK1 := va_K.moved hvm.symm hK1
                    obtain ⟨hP, hD⟩ := va_joinPT (X := [(hd, .inr (12, [v18_0, v18_1, v18_2, v18_3, v18_4, .ref lq, v18_6])), (hc, .inr (12, [.ref lb, .ref lr, .ref lp, .int (zI (e6_1_3)), .int (zI (z0_405)), .ref la, .int (zI (z0_49))]))]) (cx := []) (wr := [(hd, .inr (12, [v18_0, v18_1, v18_2, v18_3, v18_4, .ref lq, v18_6])), (hc, .inr (12, [.ref lb, .ref lr, .ref lp, .int (zI (e6_1_3)), .int (zI (z0_405)), .ref la, .int (zI (z0_49))]))]) (rx := []) (pl := va_pl L69 (pE P69)) (pl1 := va_pl Ln_466 (pE Pn_467)) (T := va_pl LS (pE PS)) hPT hDT [] [0, 1] rfl rfl (by decide) (by decide) hk1 hFc hP1 hD1
                    replace hP := pk_back hP
                    replace hD := pk_backD hD
                    replace hK := (hK.sub (tys' := [(cI, .int), (cZ, .boolean)]) [1, 2] rfl).app hK1
                    generalize H1 = H at hP hS ⊢
                    clear hPc hDc hKc hFc hk1 hz1 hPT hDT
                    replace hP : va_P (dC, dI) vwQ ([(hd, .inr (12, [v18_0, v18_1, v18_2, v18_3, v18_4, .ref lq, v18_6])), (hc, .inr (12, [.ref lb, .ref lr, .ref lp, .int (zI (e6_1_3)), .int (zI (z0_405)), .ref la, .int (zI (z0_49))]))] ++ (va_pl Ln_466 (pE Pn_467) ++ va_pl LS (pE PS))) H := hP
                    replace hD : va_D A ([(hd, .inr (12, [v18_0, v18_1, v18_2, v18_3, v18_4, .ref lq, v18_6])), (hc, .inr (12, [.ref lb, .ref lr, .ref lp, .int (zI (e6_1_3)), .int (zI (z0_405)), .ref la, .int (zI (z0_49))]))] ++ (va_pl Ln_466 (pE Pn_467) ++ va_pl LS (pE PS))) := hD
                    replace hK : va_K (dC, dI) vwQ [(cI, .int), (cZ, .boolean), (cO, .object "java/lang/Object")] s := hK
                    refine W.widen (k := ((kc69) + (P69.gc pr_460))) (n := ((ks69) + (P69.gs pr_460))) (by omega) (by omega) ?_
                    obtain ⟨rfl, hzz_465⟩ := hw
                    have hu_468 := HID.mk (hxt_467)
                    replace hxt_467 := HID.mk hxt_467
                    have hfx := hu_468.2.2.2.2.2.2.2
                    have hk0_469 : KEG [] L69 P69 Ln_466 Pn_467 := hu_468.1.kegR aP69 hlk_461.1 hlk_461.2.1 hfx (Or.inl (fun e9 => kd_ne hq_445.2 hlk_461.2.1 (by decide) (show q_48 = pr_460 from (by have q9 := (aP69.owc q_48 hq_445.1 hq_445.2).2.2.1; rw [epr_460.symm, e9] at q9; exact q9.symm))))
                    have hwk_470 : KEG [la, lb, lr, lp] L69 P69 Ln_466 Pn_467 := hu_468.1.kegR aP69 hlk_461.1 hlk_461.2.1 hfx (Or.inl (fun e9 => kd_ne hq_445.2 hlk_461.2.1 (by decide) (show q_48 = pr_460 from (by have q9 := (aP69.owc q_48 hq_445.1 hq_445.2).2.2.1; rw [epr_460.symm, e9] at q9; exact q9.symm))))
                    have hlz20 : P69.lz pr_460 = d29_5 := (by have q9 := ju69.1.1; rw [← jy69, epr_460.symm] at q9; exact q9)
                    have hak_471 : GLR Ln_466 Pn_467 cO cI cZ sx_ed := aP69.add hu_468.1 hlk_461.1 hlk_461.2.1 hfx hek_462.out hq_446.1 hq_446.2 hu_468.2.1 (by omega) hu_468.2.2.1 hu_468.2.2.2.1.1 (by have q9 := aP69.adc40 hlk_463; have q8 := hu_468.2.2.2.1; omega) hu_468.2.2.2.2.1 hu_468.2.2.2.2.2.1 hu_468.2.2.2.2.2.2.1 (fun q9 => absurd q9 (by decide))
                    have hkl_472 := hk0_469.lst (show CLF L69 P69 la 12 from ⟨hq_441.1, hq_441.2, hek_450.out, how_451.out⟩) (by simp)
                    have hkl_473 := hk0_469.lst (show CLF L69 P69 lb 12 from ⟨hq_442.1, hq_442.2, hek_452.out, how_453.out⟩) (by simp)
                    have hkl_474 := hk0_469.lst (show CLF L69 P69 lr 17 from ⟨hq_443.1, hq_443.2, hek_454.out, how_455.out⟩) (by simp)
                    have hkl_475 := hk0_469.lst (show CLF L69 P69 lp 15 from ⟨hq_444.1, hq_444.2, hek_456.out, how_457.out⟩) (by simp)
                    have how9 : P69.ow pr_460 = q_48 := (by have q9 := (aP69.owc q_48 hq_445.1 hq_445.2).2.2.1; rw [epr_460.symm] at q9; exact q9)
                    have hns_476 := hns_addR (i := d6_2) (n := OFS 2 PS lq (d6_2)) (p := OFS 1 PS lq (d6_2) + d29_5 + 1) aP69 (aP69.lk (show CLF L69 P69 lb 12 from ⟨hq_442.1, hq_442.2, hek_452.out, how_453.out⟩)) (aP69.lk (show CLF L69 P69 lr 17 from ⟨hq_443.1, hq_443.2, hek_454.out, how_455.out⟩)) hek_454.out (aP69.lk (show CLF L69 P69 lp 15 from ⟨hq_444.1, hq_444.2, hek_456.out, how_457.out⟩)) (by omega) (by omega) (by omega) hlk_461.2.1 how9 (fun b9 b0 b1 e9 => (js69 b9 (d6_2) b0 (by omega) (by omega)).1 (by rw [← jy69]; exact e9.symm))
                    have hci_477 : CPI Pn_467 PS lb lr lp lq (d6_2) (OFS 2 PS lq (d6_2)) (OFS 1 PS lq (d6_2) + d29_5 + 1) := hci4.frR aP69 (hu_468.1.chgo aP69.owa hlk_461.1 hlk_461.2.1 hfx).c8 (aP69.lk (show CLF L69 P69 lb 12 from ⟨hq_442.1, hq_442.2, hek_452.out, how_453.out⟩)) (aP69.lk (show CLF L69 P69 lr 17 from ⟨hq_443.1, hq_443.2, hek_454.out, how_455.out⟩)) (aP69.lk (show CLF L69 P69 lp 15 from ⟨hq_444.1, hq_444.2, hek_456.out, how_457.out⟩)) (by omega) (by omega) (by omega) hLn1 hLn2 (by omega) (fun k9 k0 k1 => hkl_473.2 k9 k0 (by omega)) (fun k9 k0 k1 => hkl_474.2 k9 k0 (by omega)) (fun k9 k0 k1 => hkl_475.2 k9 k0 (by omega)) hns_476
                    have hob9 : Pn_467.lz (P69.br q_48) = P69.lz (P69.br q_48) ∧ ∀ k : Int, 0 ≤ k → k < P69.lz (P69.br q_48) → Pn_467.el (P69.br q_48) k = P69.el (P69.br q_48) k := (by have o9 := aP69.owc q_48 hq_445.1 hq_445.2; have q9 := (hu_468.1.chgo aP69.owa hlk_461.1 hlk_461.2.1 hfx).c8.lst aP69.owa o9.1.2.2.1 o9.1.2.2.2 (fun e9 => by rcases e9 with e9 | e9; (have w9 := o9.1.1; rw [e9, hek_462.out] at w9; have v9 := o9.1.1; omega); (have v9 := o9.1.2.2.2; have w9 := e9.1; omega)) (fun f9 e9 => by have r9 := (aP69.owa _ o9.1.2.2.1 o9.1.2.2.2).2 f9; rcases e9 with e9 | e9; (have w9 := r9.2.1; rw [e9, hlk_461.2.1] at w9; omega); (have w9 := e9.2; rw [r9.2.2.1] at w9; have v9 := o9.1.1; rw [w9, hek_462.out] at v9; have z9 := o9.1.1; omega)); exact ⟨q9.1, q9.2.1⟩)
                    have hli9 : Pn_467.lz (P69.bp q_48) = P69.lz (P69.bp q_48) + 1 ∧ (∀ k : Int, 0 ≤ k → k < P69.lz (P69.bp q_48) → Pn_467.el (P69.bp q_48) k = P69.el (P69.bp q_48) k) ∧ Pn_467.el (P69.bp q_48) (P69.lz (P69.bp q_48)) = q_404 := (by rw [epr_460.symm]; exact ⟨hu_468.2.1, fun k k0 k1 => hu_468.1.elx hu_468.2.2.2.2.2.2.1 k0 k1, hu_468.1.elast hu_468.2.2.2.2.2.1⟩)
                    have hb29 := hk0_469.2 q_48 hq_445.1 hq_445.2
                    rw [jy69] at hob9 hli9 hb29
                    have hcu_478 : CUR Pn_467 PS lb lr lp lq (d6_2) (d29_5 + 1) (0) := ju69.addp (hkl_473.2 (d6_2) (by omega) (by omega)) hb29.1 hb29.2.1 (by omega) (by omega) (by omega) hob9 hli9 (fun k9 k0 k1 => hkl_474.2 k9 k0 (by omega)) (fun k9 k0 k1 => hkl_475.2 k9 k0 (by omega)) (jx69.trans (by rw [hkl_475.2 (OFS 1 PS lq (d6_2) + d29_5) (by omega) (by omega)]))
                    have hyb_479 : q_48 = Pn_467.el lb (d6_2) := jy69.trans (hkl_473.2 (d6_2) (by omega) (by omega)).symm
                    have hds_480 := js69.kegR aP69 ⟨hq_442.1, hq_442.2, hek_452.out, how_453.out⟩ hk0_469 (by simp)
                    have hdl_481 := jr69.same hkl_474.1 hkl_474.2
                    have hdl_482 := jp69.same hkl_475.1 hkl_475.2
                    have hal_483 : ∀ b : Int, 0 ≤ b → b < Pn_467.lz la → Pn_467.el la b = Pn_467.el lb b := (fun b b0 b1 => by rw [hkl_472.1] at b1; rw [hkl_472.2 b b0 b1, hkl_473.2 b b0 (by omega)]; exact ja69 b b0 b1)
                    have hxi_484 : q_404 = Pn_467.el lp (OFS 1 PS lq (d6_2) + d29_5) := jx69.trans (hkl_475.2 (OFS 1 PS lq (d6_2) + d29_5) (by omega) (by omega)).symm
                    have hq_485 : HID (la ∈ Ln_466 ∧ Pn_467.kd la = 30) := hwk_470.mem hq_441.1 hq_441.2 (by decide)
                    have hq_486 : HID (lb ∈ Ln_466 ∧ Pn_467.kd lb = 30) := hwk_470.mem hq_442.1 hq_442.2 (by decide)
                    have hq_487 : HID (lr ∈ Ln_466 ∧ Pn_467.kd lr = 30) := hwk_470.mem hq_443.1 hq_443.2 (by decide)
                    have hq_488 : HID (lp ∈ Ln_466 ∧ Pn_467.kd lp = 30) := hwk_470.mem hq_444.1 hq_444.2 (by decide)
                    have hq_489 : HID (q_48 ∈ Ln_466 ∧ Pn_467.kd q_48 = 12) := hwk_470.mem hq_445.1 hq_445.2 (by decide)
                    have hq_490 : HID (q_404 ∈ Ln_466 ∧ Pn_467.kd q_404 = 15) := hwk_470.mem hq_446.1 hq_446.2 (by decide)
                    have hq_491 : HID (pr_460 ∈ Ln_466 ∧ Pn_467.kd pr_460 = 30) := hwk_470.mem hlk_461.1 hlk_461.2.1 (by decide)
                    have ha_492 : HID (Pn_467.bp q_48 = pr_460) := hwk_470.bp hq_445.1 hq_445.2 epr_460.symm
                    have hA_493 : KEG [la, lb, lr, lp] L P Ln_466 Pn_467 := hA_447.trans hwk_470
                    have hA_494 : KEG [la, lb, lr, lp] L6 P6 Ln_466 Pn_467 := hA_448.trans hwk_470
                    have hA_495 : KEG [la, lb, lr, lp] L29 P29 Ln_466 Pn_467 := hA_449.trans hwk_470
                    have hA_496 : KEG [la, lb, lr, lp] L69 P69 Ln_466 Pn_467 := (KEG.refl [la, lb, lr, lp] L69 P69).trans hwk_470
                    have hza := hu_468.2.1
                    have : Pn_467.lz la = P69.lz la := hkl_472.1
                    have : Pn_467.lz lb = P69.lz lb := hkl_473.1
                    have : Pn_467.lz lr = P69.lz lr := hkl_474.1
                    have : Pn_467.lz lp = P69.lz lp := hkl_475.1
                    have hek_497 : HID (Pn_467.ek la = 12) := (by rw [hwk_470.ek hq_441.1 hq_441.2 (by decide)]; exact hek_450.out)
                    have how_498 : HID (Pn_467.ow la = la) := ((hwk_470.1 la hq_441.1 (by rw [hq_441.2]; decide)).2.2.2.1 hq_441.2 how_451.out).1
                    have hek_499 : HID (Pn_467.ek lb = 12) := (by rw [hwk_470.ek hq_442.1 hq_442.2 (by decide)]; exact hek_452.out)
                    have how_500 : HID (Pn_467.ow lb = lb) := ((hwk_470.1 lb hq_442.1 (by rw [hq_442.2]; decide)).2.2.2.1 hq_442.2 how_453.out).1
                    have hek_501 : HID (Pn_467.ek lr = 17) := (by rw [hwk_470.ek hq_443.1 hq_443.2 (by decide)]; exact hek_454.out)
                    have how_502 : HID (Pn_467.ow lr = lr) := ((hwk_470.1 lr hq_443.1 (by rw [hq_443.2]; decide)).2.2.2.1 hq_443.2 how_455.out).1
                    have hek_503 : HID (Pn_467.ek lp = 15) := (by rw [hwk_470.ek hq_444.1 hq_444.2 (by decide)]; exact hek_456.out)
                    have how_504 : HID (Pn_467.ow lp = lp) := ((hwk_470.1 lp hq_444.1 (by rw [hq_444.2]; decide)).2.2.2.1 hq_444.2 how_457.out).1
                    have hek_505 : HID (Pn_467.ek pr_460 = 15) := (by rw [hwk_470.ek hlk_461.1 hlk_461.2.1 (by decide)]; exact hek_462.out)
                    clear hfx
                    refine lv_pop hx hb dX13_copy_124 rfl ?_
                    refine lv_iinc (v := zI (d29_5 + 1)) (lv' := [(5, .int (zI (d29_5 + 1))), (0, .ref hc), (1, .ref hd), (2, .int (zI (d6_2))), (3, .ref xb_44), (4, .ref q_48), (6, .ref xp_399), (7, .ref q_404), (8, .int (zI (d69_8)))]) hx hb dX13_copy_125 hl (k := 5) rfl (zI_add (d29_5) (1)) (by decide) rfl (fun ls hl => ?_)
                    refine lv_goto (tgt := 29) hx hb dX13_copy_128 (by decide) ?_
                    exact ih29 (d29_5 + 1) z0_405 Ln_466 Pn_467 (((kc69) + (P69.gc pr_460))) (((ks69) + (P69.gs pr_460))) ls H _ (kP29.trans hA_495) hak_471 (by omega) (by omega) (hci_477.to (by omega) (by omega)) hdl_481 hdl_482 hds_480 hal_483 (by omega) ⟨((jl69.1.to2 (by omega) rfl).to (by omega)), ((jl69.2.1.to2 (by omega) rfl).to (by omega)), ((jl69.2.2.to2 (by omega) rfl).to (by omega))⟩ (hcu_478.to (by omega) (by omega)) hyb_479 (by omega) (by omega) (lv_sub hl [1, 2, 3, 4, 5, 0] rfl) hP hD hS
                  · have yb76 : ¬ (PS.pn xp_399 : Int) ≤ (d69_8 : Int) := fun q => b76 ((zI_le (a := PS.pn xp_399) (b := d69_8) (by omega) (by omega) (by omega) (by omega)).mpr q)
                    refine lv_aload hx hb dX13_copy_79 (lv_at hl 7 rfl) ?_
                    refine lv_aload hx hb dX13_copy_81 (lv_at hl 6 rfl) ?_
                    replace hP := pk_sw hP
                    replace hD := pk_swD hD
                    obtain ⟨kp_506, hkp_506⟩ := pk_getA (T := va_pl L69 (pE P69)) (X := [(hd, .inr (12, [v18_0, v18_1, v18_2, v18_3, v18_4, .ref lq, v18_6])), (hc, .inr (12, [.ref lb, .ref lr, .ref lp, .int (zI (e6_1_3)), .int (zI (z0_405)), .ref la, .int (zI (z0_49))]))]) (f := pE PS) hm_400
                    rw [pE_phi hk_401] at hkp_506
                    refine va_get (D := (dC, dI)) (ci := 20) (v := .ref (PS.pp xp_399)) (C := RX15) (T := TX15) (N := 6) hx hb hts mem_P13_copyR_10 hown hK hP kp_506 hkp_506 rfl 2 (by decide) (ow (k := 42) rfl) (fun _ h9 => h9) rfl dX13_copy_83 ?_
                    obtain ⟨pr_507, epr_507⟩ : ∃ q9 : Nat, q9 = PS.pp xp_399 := ⟨_, rfl⟩
                    rw [← epr_507]
                    have hpk_508 := hX_s.pk9 hm_400 hk_401
                    have hopr_507 : pr_507 ∈ LS ∧ PS.kd pr_507 = 40 ∧ PS.ac pr_507 = cI ∧ PS.ow pr_507 = xp_399 := (by rw [epr_507]; exact hpk_508.2.1)
                    have hnpr_507 : PS.an pr_507 = PS.an (PS.pp xp_399) := (by rw [epr_507])
                    have hipr_507 : PS.ia pr_507 = PS.ia (PS.pp xp_399) := (by rw [epr_507])
                    replace hP := pk_sw hP
                    replace hD := pk_swD hD
                    refine lv_iload hx hb dX13_copy_86 (lv_at hl 8 rfl) ?_
                    replace hP := pk_sw hP
                    replace hD := pk_swD hD
                    obtain ⟨kp_509, hkp_509⟩ := pk_getA (T := va_pl L69 (pE P69)) (X := [(hd, .inr (12, [v18_0, v18_1, v18_2, v18_3, v18_4, .ref lq, v18_6])), (hc, .inr (12, [.ref lb, .ref lr, .ref lp, .int (zI (e6_1_3)), .int (zI (z0_405)), .ref la, .int (zI (z0_49))]))]) (f := pE PS) hopr_507.1
                    rw [pE_n40 hopr_507.2.1, hopr_507.2.2.1] at hkp_509
                    refine va_iald hx hb hK hP kp_509 1 hkp_509 rfl (zI_in (a := d69_8) (n := PS.an pr_507) (by omega) (by omega) (by omega)) dX13_copy_88 ?_
                    refine lv_topi (fun z ez => ?_)
                    obtain rfl : z = zI (PS.ia pr_507 (d69_8)) := ez.trans (zI_ld (PS.ia pr_507) (by omega) (by omega))
                    have hef9 := hpk_508.ef (i := d69_8) (by omega) (by omega)
                    unfold PEF EF at hef9
                    have : PS.ia pr_507 (d69_8) = PS.ia (PS.pp xp_399) (d69_8) := (by rw [hipr_507])
                    have hb9 := hpb_402 (d69_8) (by omega) (by omega)
                    replace hP := pk_sw hP
                    replace hD := pk_swD hD
                    refine lv_aload hx hb dX13_copy_89 (lv_at hl 6 rfl) ?_
                    replace hP := pk_sw hP
                    replace hD := pk_swD hD
                    obtain ⟨kp_510, hkp_510⟩ := pk_getA (T := va_pl L69 (pE P69)) (X := [(hd, .inr (12, [v18_0, v18_1, v18_2, v18_3, v18_4, .ref lq, v18_6])), (hc, .inr (12, [.ref lb, .ref lr, .ref lp, .int (zI (e6_1_3)), .int (zI (z0_405)), .ref la, .int (zI (z0_49))]))]) (f := pE PS) hm_400
                    rw [pE_phi hk_401] at hkp_510
                    refine va_get (D := (dC, dI)) (ci := 20) (v := .ref (PS.pu xp_399)) (C := RX15) (T := TX15) (N := 6) hx hb hts mem_P13_copyR_10 hown hK hP kp_510 hkp_510 rfl 3 (by decide) (ow (k := 43) rfl) (fun _ h9 => h9) rfl dX13_copy_91 ?_
                    obtain ⟨pr_511, epr_511⟩ : ∃ q9 : Nat, q9 = PS.pu xp_399 := ⟨_, rfl⟩
                    rw [← epr_511]
                    have hpk_512 := hX_s.pk9 hm_400 hk_401
                    have hopr_511 : pr_511 ∈ LS ∧ PS.kd pr_511 = 41 ∧ PS.ac pr_511 = cI ∧ PS.ow pr_511 = xp_399 := (by rw [epr_511]; exact hpk_512.2.2.1)
                    have hnpr_511 : PS.an pr_511 = PS.an (PS.pu xp_399) := (by rw [epr_511])
                    have hipr_511 : PS.ia pr_511 = PS.ia (PS.pu xp_399) := (by rw [epr_511])
                    replace hP := pk_sw hP
                    replace hD := pk_swD hD
                    refine lv_iload hx hb dX13_copy_94 (lv_at hl 8 rfl) ?_
                    replace hP := pk_sw hP
                    replace hD := pk_swD hD
                    obtain ⟨kp_513, hkp_513⟩ := pk_getA (T := va_pl L69 (pE P69)) (X := [(hd, .inr (12, [v18_0, v18_1, v18_2, v18_3, v18_4, .ref lq, v18_6])), (hc, .inr (12, [.ref lb, .ref lr, .ref lp, .int (zI (e6_1_3)), .int (zI (z0_405)), .ref la, .int (zI (z0_49))]))]) (f := pE PS) hopr_511.1
                    rw [pE_n41 hopr_511.2.1, hopr_511.2.2.1] at hkp_513
                    refine va_iald hx hb hK hP kp_513 1 hkp_513 rfl (zI_in (a := d69_8) (n := PS.an pr_511) (by omega) (by omega) (by omega)) dX13_copy_96 ?_
                    refine lv_topi (fun z ez => ?_)
                    obtain rfl : z = zI (PS.ia pr_511 (d69_8)) := ez.trans (zI_ld (PS.ia pr_511) (by omega) (by omega))
                    have hef9 := hpk_512.ef (i := d69_8) (by omega) (by omega)
                    unfold PEF EF at hef9
                    have : PS.ia pr_511 (d69_8) = PS.ia (PS.pu xp_399) (d69_8) := (by rw [hipr_511])
                    replace hP := pk_sw hP
                    replace hD := pk_swD hD
                    refine lv_aload hx hb dX13_copy_97 (lv_at hl 6 rfl) ?_
                    replace hP := pk_sw hP
                    replace hD := pk_swD hD
                    obtain ⟨kp_514, hkp_514⟩ := pk_getA (T := va_pl L69 (pE P69)) (X := [(hd, .inr (12, [v18_0, v18_1, v18_2, v18_3, v18_4, .ref lq, v18_6])), (hc, .inr (12, [.ref lb, .ref lr, .ref lp, .int (zI (e6_1_3)), .int (zI (z0_405)), .ref la, .int (zI (z0_49))]))]) (f := pE PS) hm_400
                    rw [pE_phi hk_401] at hkp_514
                    refine va_get (D := (dC, dI)) (ci := 20) (v := .ref (PS.pr xp_399)) (C := RX15) (T := TX15) (N := 6) hx hb hts mem_P13_copyR_10 hown hK hP kp_514 hkp_514 rfl 4 (by decide) (ow (k := 44) rfl) (fun _ h9 => h9) rfl dX13_copy_99 ?_
                    obtain ⟨pr_515, epr_515⟩ : ∃ q9 : Nat, q9 = PS.pr xp_399 := ⟨_, rfl⟩
                    rw [← epr_515]
                    have hpk_516 := hX_s.pk9 hm_400 hk_401
                    have hopr_515 : pr_515 ∈ LS ∧ PS.kd pr_515 = 42 ∧ PS.ac pr_515 = cZ ∧ PS.ow pr_515 = xp_399 := (by rw [epr_515]; exact hpk_516.2.2.2.1)
                    have hnpr_515 : PS.an pr_515 = PS.an (PS.pr xp_399) := (by rw [epr_515])
                    have hipr_515 : PS.ia pr_515 = PS.ia (PS.pr xp_399) := (by rw [epr_515])
                    replace hP := pk_sw hP
                    replace hD := pk_swD hD
                    refine lv_iload hx hb dX13_copy_102 (lv_at hl 8 rfl) ?_
                    replace hP := pk_sw hP
                    replace hD := pk_swD hD
                    obtain ⟨kp_517, hkp_517⟩ := pk_getA (T := va_pl L69 (pE P69)) (X := [(hd, .inr (12, [v18_0, v18_1, v18_2, v18_3, v18_4, .ref lq, v18_6])), (hc, .inr (12, [.ref lb, .ref lr, .ref lp, .int (zI (e6_1_3)), .int (zI (z0_405)), .ref la, .int (zI (z0_49))]))]) (f := pE PS) hopr_515.1
                    rw [pE_n42 hopr_515.2.1, hopr_515.2.2.1] at hkp_517
                    refine va_zald hx hb hK hP kp_517 2 hkp_517 rfl (zI_in (a := d69_8) (n := PS.an pr_515) (by omega) (by omega) (by omega)) dX13_copy_104 ?_
                    refine lv_topi (fun z ez => ?_)
                    obtain rfl : z = zI (PS.ia pr_515 (d69_8)) := ez.trans (zI_ld (PS.ia pr_515) (by omega) (by omega))
                    have hef9 := hpk_516.ef (i := d69_8) (by omega) (by omega)
                    unfold PEF EF at hef9
                    have : PS.ia pr_515 (d69_8) = PS.ia (PS.pr xp_399) (d69_8) := (by rw [hipr_515])
                    replace hP := pk_sw hP
                    replace hD := pk_swD hD
                    have hPT := pk_asc hP
                    have hDT := pk_ascD hD
                    replace hP := pl_left hPT
                    replace hD := pl_leftD hDT
                    have hX_p := (aP69.pikR hq_446.1 hq_446.2).cph jh69 (by omega) (hX_s.pk9 hm_400 hk_401)
                    have hX_o : PS.ia pr_515 (d69_8) = 0 ∨ (0 ≤ PS.ia pr_511 (d69_8) ∧ PS.ia pr_511 (d69_8) ≤ 1001) := (by omega)
                    have hPc := hP.part (X := [(hd, .inr (12, [v18_0, v18_1, v18_2, v18_3, v18_4, .ref lq, v18_6])), (hc, .inr (12, [.ref lb, .ref lr, .ref lp, .int (zI (e6_1_3)), .int (zI (z0_405)), .ref la, .int (zI (z0_49))]))]) (cx := []) (pl := va_pl L69 (pE P69)) [] rfl
                    have hDc := hD.part (X := [(hd, .inr (12, [v18_0, v18_1, v18_2, v18_3, v18_4, .ref lq, v18_6])), (hc, .inr (12, [.ref lb, .ref lr, .ref lp, .int (zI (e6_1_3)), .int (zI (z0_405)), .ref la, .int (zI (z0_49))]))]) (cx := []) (pl := va_pl L69 (pE P69)) [] (by decide) rfl
                    have hKc := hK.sub (tys' := [(cO, .object "java/lang/Object"), (cI, .int), (cZ, .boolean)]) [0, 1, 2] rfl
                    have hFc := va_freeP (X := [(hd, .inr (12, [v18_0, v18_1, v18_2, v18_3, v18_4, .ref lq, v18_6])), (hc, .inr (12, [.ref lb, .ref lr, .ref lp, .int (zI (e6_1_3)), .int (zI (z0_405)), .ref la, .int (zI (z0_49))]))]) (cx := []) (pl := va_pl L69 (pE P69)) hD hS hA [] rfl
                    refine W_knowS (fun hrmA => ?_)
                    refine va_callv (va_runV (As := [.int (zI (PS.ia pr_507 (d69_8))), .int (zI (PS.ia pr_511 (d69_8))), .int (zI (PS.ia pr_515 (d69_8)))]) (rest := []) ⟨hx, hb, hml, hown, hts⟩ (c_PP_add l dC dI cO cI cZ L69 P69 q_404 (PS.ia pr_507 (d69_8)) (PS.ia pr_511 (d69_8)) (PS.ia pr_515 (d69_8)) hX_p (by omega) hX_o H.size H) (cwV 3 hts g_P13_copyR_PP_add rfl rfl rfl (by decide +kernel) ⟨(Nat.le_of_ble_eq_true rfl), (Nat.le_of_ble_eq_true rfl)⟩) ⟨fun a U g mk q => by obtain ⟨q0, q1, qP, qK, qD, e0⟩ := q; exact ⟨q0, q1, qP, va_K.moved (u := U) (U := U.calling g mk a) (Vm.Alike.refl U.vm) qK, qD, e0⟩, recv_15 hKc hPc hq_446.1 hq_446.2, fun U hU hW => ⟨rfl, by rw [hU], by rw [hU]; exact hPc, va_K.moved hW.alike hKc, hDc.weaken (fun _ _ _ _ => trivial), hU⟩⟩ rfl rfl hl.1 rfl (lv_room (Nat.le_of_ble_eq_true rfl)) dX13_copy_105 ⟨(show (kc69) + 3 ≤ 20000000 from (by omega)), (show (ks69) + 3000 ≤ 40000000000 from (by omega))⟩) hS (fun q _ h => hFc q h) hFc (fun  u t H1 locs ht hvm hw hB hz1 hk1 hS => ?_)
                    obtain ⟨Ln_518, Pn_519, kc_520, ks_521, hxt_521, hP1, hK1, hD1⟩ := hB
                    rw [ht] at hP1
                    have hK1 := va_K.moved hvm.symm hK1
                    obtain ⟨hP, hD⟩ := va_joinPT (X := [(hd, .inr (12, [v18_0, v18_1, v18_2, v18_3, v18_4, .ref lq, v18_6])), (hc, .inr (12, [.ref lb, .ref lr, .ref lp, .int (zI (e6_1_3)), .int (zI (z0_405)), .ref la, .int (zI (z0_49))]))]) (cx := []) (wr := [(hd, .inr (12, [v18_0, v18_1, v18_2, v18_3, v18_4, .ref lq, v18_6])), (hc, .inr (12, [.ref lb, .ref lr, .ref lp, .int (zI (e6_1_3)), .int (zI (z0_405)), .ref la, .int (zI (z0_49))]))]) (rx := []) (pl := va_pl L69 (pE P69)) (pl1 := va_pl Ln_518 (pE Pn_519)) (T := va_pl LS (pE PS)) hPT hDT [] [0, 1] rfl rfl (by decide) (by decide) hk1 hFc hP1 hD1
                    replace hP := pk_back hP
                    replace hD := pk_backD hD
                    replace hK := (hK.sub (tys' := []) [] rfl).app hK1
                    have hrmC := hxt_521.1.1
                    rw [ht] at hrmC
                    refine W_tightS (hrmA.trans hrmC) ?_
                    have hrb := hxt_521.1.2
                    generalize H1 = H at hP hS ⊢
                    clear hPc hDc hKc hFc hk1 hz1 hPT hDT
                    replace hP : va_P (dC, dI) vwQ ([(hd, .inr (12, [v18_0, v18_1, v18_2, v18_3, v18_4, .ref lq, v18_6])), (hc, .inr (12, [.ref lb, .ref lr, .ref lp, .int (zI (e6_1_3)), .int (zI (z0_405)), .ref la, .int (zI (z0_49))]))] ++ (va_pl Ln_518 (pE Pn_519) ++ va_pl LS (pE PS))) H := hP
                    replace hD : va_D A ([(hd, .inr (12, [v18_0, v18_1, v18_2, v18_3, v18_4, .ref lq, v18_6])), (hc, .inr (12, [.ref lb, .ref lr, .ref lp, .int (zI (e6_1_3)), .int (zI (z0_405)), .ref la, .int (zI (z0_49))]))] ++ (va_pl Ln_518 (pE Pn_519) ++ va_pl LS (pE PS))) := hD
                    replace hK : va_K (dC, dI) vwQ [(cO, .object "java/lang/Object"), (cI, .int), (cZ, .boolean)] s := hK
                    refine W.widen (k := ((kc69) + kc_520)) (n := ((ks69) + ks_521)) (by omega) (by omega) ?_
                    have hu_522 := HID.mk (hxt_521.2)
                    replace hxt_521 := HID.mk hxt_521
                    have hk0_523 := PXC.kegR (E := []) aP69 hu_522.1 hq_446.2
                    have hwk_524 := PXC.kegR (E := [la, lb, lr, lp]) aP69 hu_522.1 hq_446.2
                    have hkl_525 := hk0_523.lst (show CLF L69 P69 la 12 from ⟨hq_441.1, hq_441.2, hek_450.out, how_451.out⟩) (by simp)
                    have hkl_526 := hk0_523.lst (show CLF L69 P69 lb 12 from ⟨hq_442.1, hq_442.2, hek_452.out, how_453.out⟩) (by simp)
                    have hkl_527 := hk0_523.lst (show CLF L69 P69 lr 17 from ⟨hq_443.1, hq_443.2, hek_454.out, how_455.out⟩) (by simp)
                    have hkl_528 := hk0_523.lst (show CLF L69 P69 lp 15 from ⟨hq_444.1, hq_444.2, hek_456.out, how_457.out⟩) (by simp)
                    have hc8_530 : CH8 (fun z => z = q_404 ∨ z = lp ∨ (P69.kd z = 31 ∧ P69.ow z = lp) ∨ (P69.ow z = q_404 ∧ 40 ≤ P69.kd z)) L69 P69 Ln_518 Pn_519 := hu_522.1.2.1.c8.wk (fun z _ q9 => by rcases q9 with q9 | q9; exact Or.inl q9; exact Or.inr (Or.inr (Or.inr ⟨q9.1, q9.2⟩)))
                    have hns_529 := hns_phiR (i := d6_2 + 1) (n := OFS 2 PS lq (d6_2)) (p := OFS 1 PS lq (d6_2) + d29_5) (x := q_404) aP69 (aP69.lk (show CLF L69 P69 lb 12 from ⟨hq_442.1, hq_442.2, hek_452.out, how_453.out⟩)) (aP69.lk (show CLF L69 P69 lr 17 from ⟨hq_443.1, hq_443.2, hek_454.out, how_455.out⟩)) hek_454.out (aP69.lk (show CLF L69 P69 lp 15 from ⟨hq_444.1, hq_444.2, hek_456.out, how_457.out⟩)) how_457.out (by omega) (by omega) (by omega) (fun _ => ⟨hq_446.2, fun k9 k0 k1 e9 => jp69 k9 (OFS 1 PS lq (d6_2) + d29_5) k0 (by omega) (by omega) (by rw [← jx69]; exact e9.symm)⟩) (fun k9 k0 k1 e9 => jp69 k9 (OFS 1 PS lq (d6_2) + d29_5) k0 (by omega) (by omega) (by rw [← jx69]; exact e9))
                    have hci_531 : CPI Pn_519 PS lb lr lp lq (d6_2) (OFS 2 PS lq (d6_2)) (OFS 1 PS lq (d6_2) + d29_5) := jc69.frR aP69 hc8_530 (aP69.lk (show CLF L69 P69 lb 12 from ⟨hq_442.1, hq_442.2, hek_452.out, how_453.out⟩)) (aP69.lk (show CLF L69 P69 lr 17 from ⟨hq_443.1, hq_443.2, hek_454.out, how_455.out⟩)) (aP69.lk (show CLF L69 P69 lp 15 from ⟨hq_444.1, hq_444.2, hek_456.out, how_457.out⟩)) (by omega) (by omega) (by omega) hLn1 hLn2 (by omega) (fun k9 k0 k1 => hkl_526.2 k9 k0 (by omega)) (fun k9 k0 k1 => hkl_527.2 k9 k0 (by omega)) (fun k9 k0 k1 => hkl_528.2 k9 k0 (by omega)) (hns_529.wk (by omega) (by omega) (by omega))
                    have hcu_532 : CUR Pn_519 PS lb lr lp lq (d6_2) (d29_5) (0) := ju69.frR aP69 hc8_530 (show CLF L69 P69 lb 12 from ⟨hq_442.1, hq_442.2, hek_452.out, how_453.out⟩) (by omega) (by omega) (by omega) (by omega) (hkl_526.2 (d6_2) (by omega) (by omega)) (fun k9 k0 k1 => hkl_527.2 k9 k0 (by omega)) (fun k9 k0 k1 => hkl_528.2 k9 k0 (by omega)) (hns_529.1 (d6_2) (by omega) (by omega)).1 (hns_529.1 (d6_2) (by omega) (by omega)).2.2.1 (hns_529.1 (d6_2) (by omega) (by omega)).2.2.2
                    have hyb_533 : q_48 = Pn_519.el lb (d6_2) := jy69.trans (hkl_526.2 (d6_2) (by omega) (by omega)).symm
                    have hcp_534 : CPH Pn_519 q_404 PS xp_399 (d69_8 + 1) := jh69.add (by omega) hu_522.2.2.2 hu_522.2.2.1.1 hu_522.2.2.1.2.1 (by omega) (by omega) (by omega)
                    have hds_535 := js69.kegR aP69 ⟨hq_442.1, hq_442.2, hek_452.out, how_453.out⟩ hk0_523 (by simp)
                    have hdl_536 := jr69.same hkl_527.1 hkl_527.2
                    have hdl_537 := jp69.same hkl_528.1 hkl_528.2
                    have hal_538 : ∀ b : Int, 0 ≤ b → b < Pn_519.lz la → Pn_519.el la b = Pn_519.el lb b := (fun b b0 b1 => by rw [hkl_525.1] at b1; rw [hkl_525.2 b b0 b1, hkl_526.2 b b0 (by omega)]; exact ja69 b b0 b1)
                    have hxi_539 : q_404 = Pn_519.el lp (OFS 1 PS lq (d6_2) + d29_5) := jx69.trans (hkl_528.2 (OFS 1 PS lq (d6_2) + d29_5) (by omega) (by omega)).symm
                    have hq_540 : HID (la ∈ Ln_518 ∧ Pn_519.kd la = 30) := hwk_524.mem hq_441.1 hq_441.2 (by decide)
                    have hq_541 : HID (lb ∈ Ln_518 ∧ Pn_519.kd lb = 30) := hwk_524.mem hq_442.1 hq_442.2 (by decide)
                    have hq_542 : HID (lr ∈ Ln_518 ∧ Pn_519.kd lr = 30) := hwk_524.mem hq_443.1 hq_443.2 (by decide)
                    have hq_543 : HID (lp ∈ Ln_518 ∧ Pn_519.kd lp = 30) := hwk_524.mem hq_444.1 hq_444.2 (by decide)
                    have hq_544 : HID (q_48 ∈ Ln_518 ∧ Pn_519.kd q_48 = 12) := hwk_524.mem hq_445.1 hq_445.2 (by decide)
                    have hq_545 : HID (q_404 ∈ Ln_518 ∧ Pn_519.kd q_404 = 15) := hwk_524.mem hq_446.1 hq_446.2 (by decide)
                    have hA_546 : KEG [la, lb, lr, lp] L P Ln_518 Pn_519 := hA_447.trans hwk_524
                    have hA_547 : KEG [la, lb, lr, lp] L6 P6 Ln_518 Pn_519 := hA_448.trans hwk_524
                    have hA_548 : KEG [la, lb, lr, lp] L29 P29 Ln_518 Pn_519 := hA_449.trans hwk_524
                    have hA_549 : KEG [la, lb, lr, lp] L69 P69 Ln_518 Pn_519 := (KEG.refl [la, lb, lr, lp] L69 P69).trans hwk_524
                    have := hu_522.2.2.1
                    have : Pn_519.lz la = P69.lz la := hkl_525.1
                    have : Pn_519.lz lb = P69.lz lb := hkl_526.1
                    have : Pn_519.lz lr = P69.lz lr := hkl_527.1
                    have : Pn_519.lz lp = P69.lz lp := hkl_528.1
                    have hek_550 : HID (Pn_519.ek la = 12) := (by rw [hwk_524.ek hq_441.1 hq_441.2 (by decide)]; exact hek_450.out)
                    have how_551 : HID (Pn_519.ow la = la) := ((hwk_524.1 la hq_441.1 (by rw [hq_441.2]; decide)).2.2.2.1 hq_441.2 how_451.out).1
                    have hek_552 : HID (Pn_519.ek lb = 12) := (by rw [hwk_524.ek hq_442.1 hq_442.2 (by decide)]; exact hek_452.out)
                    have how_553 : HID (Pn_519.ow lb = lb) := ((hwk_524.1 lb hq_442.1 (by rw [hq_442.2]; decide)).2.2.2.1 hq_442.2 how_453.out).1
                    have hek_554 : HID (Pn_519.ek lr = 17) := (by rw [hwk_524.ek hq_443.1 hq_443.2 (by decide)]; exact hek_454.out)
                    have how_555 : HID (Pn_519.ow lr = lr) := ((hwk_524.1 lr hq_443.1 (by rw [hq_443.2]; decide)).2.2.2.1 hq_443.2 how_455.out).1
                    have hek_556 : HID (Pn_519.ek lp = 15) := (by rw [hwk_524.ek hq_444.1 hq_444.2 (by decide)]; exact hek_456.out)
                    have how_557 : HID (Pn_519.ow lp = lp) := ((hwk_524.1 lp hq_444.1 (by rw [hq_444.2]; decide)).2.2.2.1 hq_444.2 how_457.out).1
                    refine lv_iinc (v := zI (d69_8 + 1)) (lv' := [(8, .int (zI (d69_8 + 1))), (0, .ref hc), (1, .ref hd), (2, .int (zI (d6_2))), (3, .ref xb_44), (4, .ref q_48), (5, .int (zI (d29_5))), (6, .ref xp_399), (7, .ref q_404)]) hx hb dX13_copy_108 hl (k := 8) rfl (zI_add (d69_8) (1)) (by decide) rfl (fun ls hl => ?_)
                    refine lv_goto (tgt := 69) hx hb dX13_copy_111 (by decide) ?_
                    exact ih69 (d69_8 + 1) Ln_518 Pn_519 (((kc69) + kc_520)) (((ks69) + ks_521)) ls H _ (kP69.trans hA_549) (aP69.pxc hu_522.1 hq_446.2 hu_522.2.1.r) (by omega) (hci_531.to (by omega) (by omega)) hdl_536 hdl_537 hds_535 hal_538 (by omega) ⟨((jl69.1.to2 (by omega) rfl).to (by omega)), ((jl69.2.1.to2 (by omega) rfl).to (by omega)), ((jl69.2.2.to2 (by omega) rfl).to (by omega))⟩ (hcu_532.to (by omega) (by omega)) hyb_533 hxi_539 hcp_534 (by omega) (by omega) (lv_sub hl [1, 2, 3, 4, 5, 6, 7, 8, 0] rfl) hP hD hS
              exact key69 ((PS.pn xp_399 - 0 : Int).toNat + 1) 0 Ln_406 Pn_407 (((kc29) + kc_408)) (((ks29) + ks_409)) ls H _ (KEG.refl _ _ _) hu_411.2.1 (by omega) (hci_418.to (by omega) (by omega)) hdl_422 hfr_416.2.2 hds_421 hal_423 (by omega) ⟨((jl29.1.to2 (by omega) rfl).to (by omega)), ((jl29.2.1.to2 (by omega) rfl).to (by omega)), (((jl29.2.2.step hlg_424).to2 (by omega) rfl).to (by omega))⟩ (hcu_419.to (by omega) (by omega)) hyb_420 hxp0 hcp0 (by omega) (by omega) (lv_sub hl [3, 4, 5, 6, 7, 8, 2, 1, 0] rfl) hP hD hS
        exact key29 ((PS.lz (PS.bp (PS.el lq (d6_2))) - 0 : Int).toNat + 1) 0 e6_1_4 Ln_50 Pn_51 (((kc6) + kc_52)) (((ks6) + ks_53)) ls H _ (KEG.refl _ _ _) hu_55.2.1 (by omega) (by omega) (hci_60.to (by omega) (by omega)) hdl_61 hdl_62 hu_55.2.2.2.1 hal_63 (by omega) ⟨(((jl6.1.step hlg_66).to2 (by omega) rfl).to (by omega)), ((jl6.2.1.to2 (by omega) rfl).to (by omega)), ((jl6.2.2.to2 (by omega) rfl).to (by omega))⟩ (hcu_64.to (by omega) (by omega)) hyb_65 (by omega) (by omega) (lv_sub hl [3, 4, 5, 2, 1, 0] rfl) hP hD hS
  exact key6 ((PS.lz lq - 0 : Int).toNat + 1) 0 z0_1 z1_2 z2_3 L Pn_4 0 0 ls H _ (KEG.refl _ _ _) hu_8.2.1 (by omega) (by omega) (by omega) (by omega) (hci0.to (by omega) (by omega)) hdl_14 hdl_15 hds_13 hal0 (by omega) ⟨LGM.eq (by omega), LGM.eq (by omega), LGM.eq (by omega)⟩ (by omega) (by omega) (lv_sub hl [1, 2, 0] rfl) hP hD hS
