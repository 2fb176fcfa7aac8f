set_option maxHeartbeats 40000000 in
set_option maxRecDepth 100000 in
theorem c_P13_copyQ (l : Launch) (dC : Nat → ClassId) (dI : Nat → Nat → Nat) (hd : Nat) (v18_0 : Value) (v18_1 : Value) (v18_2 : Value) (v18_3 : Value) (v18_4 : Value) (v18_6 : Value) (lq : Nat) (cI : ClassId) (cZ : ClassId) (hc : Nat) (z13_rowN : Int) (z13_phiN : Int) (z13_made : Int) (la : Nat) (lb : Nat) (lr : Nat) (lp : Nat) (cO : ClassId) (L : List Nat) (P : PO) (sx_ed : Nat) (LS : List Nat) (PS : PO) (hNz13_rowN : 0 ≤ z13_rowN ∧ z13_rowN ≤ 19000) (hNz13_phiN : 0 ≤ z13_phiN ∧ z13_phiN ≤ 19000) (hNz13_made : 0 ≤ z13_made ∧ z13_made ≤ 9000) (hX_g : GLR L P cO cI cZ sx_ed) (hX_la : la ∈ L ∧ P.kd la = 30 ∧ P.ek la = 12 ∧ P.ow la = la) (hX_lb : lb ∈ L ∧ P.kd lb = 30 ∧ P.ek lb = 12 ∧ P.ow lb = lb) (hX_lr : lr ∈ L ∧ P.kd lr = 30 ∧ P.ek lr = 17 ∧ P.ow lr = lr) (hX_lp : lp ∈ L ∧ P.kd lp = 30 ∧ P.ek lp = 15 ∧ P.ow lp = lp) (hX_ab : la ≠ lb) (hX_dt : DST P lb) (hX_dr : DSL P lr) (hX_dp : DSL P lp) (hX_s : ALP LS PS cO cI cZ sx_ed lq) (hNr : P.lz lb ≤ 9000 ∧ P.lz lr ≤ 19000 ∧ P.lz lp ≤ 19000 ∧ PS.tot 2 lq ≤ 18000 ∧ PS.tot 1 lq ≤ 18000) (hX_Vc : LVA L P) (hX_m : LMT L P la lb lr lp) (hX_n : SRC9 PS lq) (sz : Nat) (HU : Heap) (sx_mi : Nat) : Met l yX13_copy v_P13_copyQ ({ frames := 8, cells := ((2000 + (8735704 - PSI wCE L P) / 40).toNat), slots := ((1990000 - PSI wSL L P).toNat), locals := 213 }) (va_Pc [.ref hc, .ref hd] (fun U => U.heap.size = sz ∧ va_P (dC, dI) vwQ ([(hd, .inr (12, [v18_0, v18_1, v18_2, v18_3, v18_4, .ref lq, v18_6])), (hc, .inr (12, [.ref lb, .ref lr, .ref lp, .int (zI (z13_rowN)), .int (zI (z13_phiN)), .ref la, .int (zI (z13_made))]))] ++ (va_pl L (pE P) ++ va_pl LS (pE PS))) U.heap ∧ va_K (dC, dI) vwQ [(cO, .object "java/lang/Object"), (cI, .int), (cZ, .boolean)] U ∧ va_D (fun _ => True) ([(hd, .inr (12, [v18_0, v18_1, v18_2, v18_3, v18_4, .ref lq, v18_6])), (hc, .inr (12, [.ref lb, .ref lr, .ref lp, .int (zI (z13_rowN)), .int (zI (z13_phiN)), .ref la, .int (zI (z13_made))]))] ++ (va_pl L (pE P) ++ va_pl LS (pE PS))) ∧ U.heap = HU ∧ va_Nw (.castable "SsaForgeModel$Block" "SsaForgeModel$Block") U ∧ va_Nw (.castable "SsaForgeModel$Row" "java/lang/Object") U ∧ va_Nw (.castable "SsaForgeModel$Phi" "java/lang/Object") U ∧ va_Nw (.castable "SsaForgeModel$Block" "java/lang/Object") U ∧ va_Dc U ∧ va_Mi "[Ljava/lang/Object;" sx_mi U ∧ va_AO "java/lang/Object" U ∧ va_T (.object "java/lang/Object") sx_ed 0 (fun _ => .null) (va_A ([(hd, .inr (12, [v18_0, v18_1, v18_2, v18_3, v18_4, .ref lq, v18_6])), (hc, .inr (12, [.ref lb, .ref lr, .ref lp, .int (zI (z13_rowN)), .int (zI (z13_phiN)), .ref la, .int (zI (z13_made))]))] ++ (va_pl L (pE P) ++ va_pl LS (pE PS))) sz) U U.heap ∧ va_Z "java/util/ArrayList" "DEFAULTCAPACITY_EMPTY_ELEMENTDATA" "[Ljava/lang/Object;" (.ref sx_ed) (va_A ([(hd, .inr (12, [v18_0, v18_1, v18_2, v18_3, v18_4, .ref lq, v18_6])), (hc, .inr (12, [.ref lb, .ref lr, .ref lp, .int (zI (z13_rowN)), .int (zI (z13_phiN)), .ref la, .int (zI (z13_made))]))] ++ (va_pl L (pE P) ++ va_pl LS (pE PS))) sz) U U.heap ∧ va_Nw (.methodLinkNest RX12 23 yX17_init "SsaForgeModel") U ∧ va_Nw (.methodLinkNest RX13 44 yX12_init "SsaForgeModel") U ∧ va_Nw (.castable "SsaForgeModel$Row" "SsaForgeModel$Row") U ∧ va_Nw (.methodLinkNest RX13 57 yX17_init "SsaForgeModel") U ∧ va_Nw (.castable "SsaForgeModel$Phi" "SsaForgeModel$Phi") U ∧ va_Nw (.methodLinkNest RX13 79 yX15_init "SsaForgeModel") U)) (va_Qv (fun _ : Unit => True) (fun (_ : Unit) (t : State) => ∃ (z0_9 : Int) (z1_9 : Int) (z2_9 : Int) (Ln_9 : List Nat) (Pn_9 : PO) (kc_9 : Nat) (ks_9 : Nat), ((RM HU t.heap kc_9 ks_9 ∧ ((ks_9 : Int) ≤ PSI wSL Ln_9 Pn_9 - PSI wSL L P ∧ 40 * (kc_9 : Int) ≤ PSI wCE Ln_9 Pn_9 - PSI wCE L P)) ∧ ((0 ≤ z0_9 ∧ z0_9 ≤ 19001) ∧ (0 ≤ z1_9 ∧ z1_9 ≤ 19001) ∧ (0 ≤ z2_9 ∧ z2_9 ≤ 9001) ∧ (KEG [la, lb, lr, lp] L P Ln_9 Pn_9 ∧ GLR Ln_9 Pn_9 cO cI cZ sx_ed ∧ CPI Pn_9 PS lb lr lp lq (PS.lz lq) (PS.tot 2 lq) (PS.tot 1 lq) ∧ (DST Pn_9 lb ∧ DSL Pn_9 lr ∧ DSL Pn_9 lp) ∧ (LVA Ln_9 Pn_9 ∧ LMT Ln_9 Pn_9 la lb lr lp ∧ Pn_9.lz la ≤ Pn_9.lz lb) ∧ (Pn_9.lz la = PS.lz lq ∧ ∀ b : Int, 0 ≤ b → b < Pn_9.lz la → Pn_9.el la b = Pn_9.el lb b)))) ∧ va_P (dC, dI) vwQ ([(hd, .inr (12, [v18_0, v18_1, v18_2, v18_3, v18_4, .ref lq, v18_6])), (hc, .inr (12, [.ref lb, .ref lr, .ref lp, .int (zI (z0_9)), .int (zI (z1_9)), .ref la, .int (zI (z2_9))]))] ++ (va_pl Ln_9 (pE Pn_9) ++ va_pl LS (pE PS))) t.heap ∧ va_K (dC, dI) vwQ [(cO, .object "java/lang/Object"), (cI, .int), (cZ, .boolean)] t ∧ va_D (va_A ([(hd, .inr (12, [v18_0, v18_1, v18_2, v18_3, v18_4, .ref lq, v18_6])), (hc, .inr (12, [.ref lb, .ref lr, .ref lp, .int (zI (z13_rowN)), .int (zI (z13_phiN)), .ref la, .int (zI (z13_made))]))] ++ (va_pl L (pE P) ++ va_pl LS (pE PS))) sz) ([(hd, .inr (12, [v18_0, v18_1, v18_2, v18_3, v18_4, .ref lq, v18_6])), (hc, .inr (12, [.ref lb, .ref lr, .ref lp, .int (zI (z0_9)), .int (zI (z1_9)), .ref la, .int (zI (z2_9))]))] ++ (va_pl Ln_9 (pE Pn_9) ++ va_pl LS (pE PS)))) (va_A ([(hd, .inr (12, [v18_0, v18_1, v18_2, v18_3, v18_4, .ref lq, v18_6])), (hc, .inr (12, [.ref lb, .ref lr, .ref lp, .int (zI (z13_rowN)), .int (zI (z13_phiN)), .ref la, .int (zI (z13_made))]))] ++ (va_pl L (pE P) ++ va_pl LS (pE PS))) sz)) ((2000 + (8735704 - PSI wCE L P) / 40).toNat) ((1990000 - PSI wSL L P).toNat) (va_A ([(hd, .inr (12, [v18_0, v18_1, v18_2, v18_3, v18_4, .ref lq, v18_6])), (hc, .inr (12, [.ref lb, .ref lr, .ref lp, .int (zI (z13_rowN)), .int (zI (z13_phiN)), .ref la, .int (zI (z13_made))]))] ++ (va_pl L (pE P) ++ va_pl LS (pE PS))) sz) := by
  refine Met.ofW (cc := cX13_copy) (maxL := 9) (ret := none) (by decide) rfl ?_
  intro p e s m args below meth c s₁ B hml hv
  obtain ⟨rfl, hsz, hP, hK, hD0, hp0, hp1, hp2, hp3, hp4, hp5, hp6, hp7, hp8, hp9, hp10, hp11, hp12, hp13, hp14, hp15⟩ := hv
  have hx := B.exec
  have hb := B.bytes
  have hr := B.returns
  have hts := atoms_spec (ws := v_P13_copyQ) B.pre
  have hown : s.vm.findClass RX13 = some m.cls := findClass_of_methodNamed B.named
  have hlocks := B.notSynchronized
  have ow : ∀ {k : Nat} {w : Cond}, o_P13_copyQ[k]? = some w → w.before ([.ref hc, .ref hd] : List Value).toArray s = true := fun h => hts _ (mow_P13_copyQ _ (List.mem_of_getElem? h))
  subst hsz
  replace hD := hD0.self (sz := s.heap.size)
  generalize hAe : va_A ([(hd, .inr (12, [v18_0, v18_1, v18_2, v18_3, v18_4, .ref lq, v18_6])), (hc, .inr (12, [.ref lb, .ref lr, .ref lp, .int (zI (z13_rowN)), .int (zI (z13_phiN)), .ref la, .int (zI (z13_made))]))] ++ (va_pl L (pE P) ++ va_pl LS (pE PS))) s.heap.size = A at hD hp7 hp8 hp9 ⊢
  have hA : ∀ q : Nat, s.heap.size ≤ q → A q := fun q h => by rw [← hAe]; exact Or.inr h
  have hS : va_S A s.heap s.heap [] := va_S.rf
  replace hP : va_P (dC, dI) vwQ ([(hd, .inr (12, [v18_0, v18_1, v18_2, v18_3, v18_4, .ref lq, v18_6])), (hc, .inr (12, [.ref lb, .ref lr, .ref lp, .int (zI (z13_rowN)), .int (zI (z13_phiN)), .ref la, .int (zI (z13_made))]))] ++ (va_pl L (pE P) ++ va_pl LS (pE PS))) s.heap := hP
  have hl := lv_entry ([.ref hc, .ref hd]) (n := 9) (Nat.le_of_ble_eq_true rfl)
  rw [lg_entry_eq]
  generalize (lg_sl ([.ref hc, .ref hd]) ++ List.replicate (9 - (lg_sl ([.ref hc, .ref hd])).length) Slot.unset).toArray = ls at hl ⊢
  have hl : lv_has ls 9 [(0, .ref hc), (1, .ref hd)] := hl
  obtain ⟨H, hH⟩ : ∃ H, H = s.heap := ⟨_, rfl⟩
  rw [← hH] at hP
  have hS : va_S A s.heap H [] := by rw [hH]; exact hS
  rw [← hH]
  refine zW_cap (fun Q hQ => ?_)
  have hX_g9 := hX_g
  have hC_la := hX_la
  have hC_lb := hX_lb
  have hC_lr := hX_lr
  have hC_lp := hX_lp
  have hln_la := (hX_g.lk (show CLF L P la 12 from hC_la)).2.2.1
  have hln_lb := (hX_g.lk (show CLF L P lb 12 from hC_lb)).2.2.1
  have hln_lr := (hX_g.lk (show CLF L P lr 17 from hC_lr)).2.2.1
  have hln_lp := (hX_g.lk (show CLF L P lp 15 from hC_lp)).2.2.1
  have hLn1 : LNN 1 PS lq := (fun c c0 c1 => (hX_s.inb ⟨c, c0, c1, rfl⟩).2.2.1.2.2.1.1)
  have hLn2 : LNN 2 PS lq := (fun c c0 c1 => (hX_s.inb ⟨c, c0, c1, rfl⟩).2.1.2.2.1.1)
  have hls9 := hX_s.lok.2.2.1
  have hls8 := hX_s.1.1.2.1
  have hof1 : OFS 1 PS lq 0 = 0 := rfl
  have hof2 : OFS 2 PS lq 0 = 0 := rfl
  have hsr1 : PS.lz lq ≤ 180 ∧ PS.tot 2 lq ≤ 4164 ∧ PS.tot 1 lq ≤ 1936 := hX_n.1
  have hnd0 : L.Nodup := (by first | exact pl_nd hD | exact pl_nd (pl_leftD (pk_ascD hD)))
  have hlm0 := hX_m.2.2.2.1
  have htp0 := hX_m.topS hnd0 (by omega) (by omega) (by omega)
  have htq0 := hX_m.topC hnd0 (by omega) (by omega) (by omega)
  have hot1 : OFS 1 PS lq (PS.lz lq) = PS.tot 1 lq := rfl
  have hot2 : OFS 2 PS lq (PS.lz lq) = PS.tot 2 lq := rfl
  refine lv_aload_n hx hb dX13_copy_0 rfl (lv_at hl 0 rfl) ?_
  have hPT := pk_asc hP
  have hDT := pk_ascD hD
  replace hP := pl_left hPT
  replace hD := pl_leftD hDT
  have hX_g := hX_g9
  have hX_la : HID (la ∈ L ∧ P.kd la = 30 ∧ P.ek la = 12 ∧ P.ow la = la) := HID.mk ⟨hC_la.1, hC_la.2.1, hC_la.2.2.1, hC_la.2.2.2⟩
  have hPc := hP.part (X := [(hd, .inr (12, [v18_0, v18_1, v18_2, v18_3, v18_4, .ref lq, v18_6])), (hc, .inr (12, [.ref lb, .ref lr, .ref lp, .int (zI (z13_rowN)), .int (zI (z13_phiN)), .ref la, .int (zI (z13_made))]))]) (cx := [(hc, .inr (12, [.ref lb, .ref lr, .ref lp, .int (zI (z13_rowN)), .int (zI (z13_phiN)), .ref la, .int (zI (z13_made))]))]) (pl := va_pl L (pE P)) [1] rfl
  have hDc := hD.part (X := [(hd, .inr (12, [v18_0, v18_1, v18_2, v18_3, v18_4, .ref lq, v18_6])), (hc, .inr (12, [.ref lb, .ref lr, .ref lp, .int (zI (z13_rowN)), .int (zI (z13_phiN)), .ref la, .int (zI (z13_made))]))]) (cx := [(hc, .inr (12, [.ref lb, .ref lr, .ref lp, .int (zI (z13_rowN)), .int (zI (z13_phiN)), .ref la, .int (zI (z13_made))]))]) (pl := va_pl L (pE P)) [1] (by decide) rfl
  have hKc := hK.sub (tys' := [(cO, .object "java/lang/Object"), (cI, .int), (cZ, .boolean)]) [0, 1, 2] rfl
  have hFc := va_freeP (X := [(hd, .inr (12, [v18_0, v18_1, v18_2, v18_3, v18_4, .ref lq, v18_6])), (hc, .inr (12, [.ref lb, .ref lr, .ref lp, .int (zI (z13_rowN)), .int (zI (z13_phiN)), .ref la, .int (zI (z13_made))]))]) (cx := [(hc, .inr (12, [.ref lb, .ref lr, .ref lp, .int (zI (z13_rowN)), .int (zI (z13_phiN)), .ref la, .int (zI (z13_made))]))]) (pl := va_pl L (pE P)) hD hS hA [1] rfl
  refine va_callv (va_runV (As := []) (rest := []) ⟨hx, hb, hml, hown, hts⟩ (c_P13_beginR l dC dI cI cZ hc (.ref lb) (.ref lr) (.ref lp) z13_rowN z13_phiN z13_made la cO L P sx_ed (by omega) (by omega) (by omega) hX_g hX_la H.size) (cwV 0 hts g_P13_copyQ_P13_beginR rfl rfl rfl (by decide +kernel) ⟨(Nat.le_of_ble_eq_true rfl), (Nat.le_of_ble_eq_true rfl)⟩) ⟨fun a U g mk q => by obtain ⟨q0, q1, qP, qK, qD⟩ := q; exact ⟨q0, q1, qP, va_K.moved (u := U) (U := U.calling g mk a) (Vm.Alike.refl U.vm) qK, qD⟩, va_recv hKc hPc (ci := 12) (q0 := 0) rfl rfl, fun U hU hW => ⟨rfl, by rw [hU], by rw [hU]; exact hPc, va_K.moved hW.alike hKc, hDc.weaken (fun _ _ _ _ => trivial)⟩⟩ rfl rfl hl.1 rfl (lv_room (Nat.le_of_ble_eq_true rfl)) dX13_copy_1 ⟨(Nat.zero_le _), (Nat.zero_le _)⟩) hS (fun q _ h => hFc q h) hFc (fun  u t H1 locs ht hvm hw hB hz1 hk1 hS => ?_)
  obtain ⟨z0_1, z1_2, z2_3, Pn_4, hxt_4, hP1, hK1, hD1⟩ := hB
  rw [ht] at hP1
  have hK1 := va_K.moved hvm.symm hK1
  obtain ⟨hP, hD⟩ := va_joinPT (X := [(hd, .inr (12, [v18_0, v18_1, v18_2, v18_3, v18_4, .ref lq, v18_6])), (hc, .inr (12, [.ref lb, .ref lr, .ref lp, .int (zI (z13_rowN)), .int (zI (z13_phiN)), .ref la, .int (zI (z13_made))]))]) (cx := [(hc, .inr (12, [.ref lb, .ref lr, .ref lp, .int (zI (z13_rowN)), .int (zI (z13_phiN)), .ref la, .int (zI (z13_made))]))]) (wr := [(hd, .inr (12, [v18_0, v18_1, v18_2, v18_3, v18_4, .ref lq, v18_6]))]) (rx := [(hc, .inr (12, [.ref lb, .ref lr, .ref lp, .int (zI (z0_1)), .int (zI (z1_2)), .ref la, .int (zI (z2_3))]))]) (pl := va_pl L (pE P)) (pl1 := va_pl L (pE Pn_4)) (T := va_pl LS (pE PS)) hPT hDT [1] [0] rfl rfl (by decide) (by decide) hk1 hFc hP1 hD1
  replace hP := pk_back hP
  replace hD := pk_backD hD
  replace hK := (hK.sub (tys' := []) [] rfl).app hK1
  generalize H1 = H at hP hS ⊢
  clear hPc hDc hKc hFc hk1 hz1 hPT hDT
  replace hP : va_P (dC, dI) vwQ ([(hd, .inr (12, [v18_0, v18_1, v18_2, v18_3, v18_4, .ref lq, v18_6])), (hc, .inr (12, [.ref lb, .ref lr, .ref lp, .int (zI (z0_1)), .int (zI (z1_2)), .ref la, .int (zI (z2_3))]))] ++ (va_pl L (pE Pn_4) ++ va_pl LS (pE PS))) H := hP
  replace hD : va_D A ([(hd, .inr (12, [v18_0, v18_1, v18_2, v18_3, v18_4, .ref lq, v18_6])), (hc, .inr (12, [.ref lb, .ref lr, .ref lp, .int (zI (z0_1)), .int (zI (z1_2)), .ref la, .int (zI (z2_3))]))] ++ (va_pl L (pE Pn_4) ++ va_pl LS (pE PS))) := hD
  replace hK : va_K (dC, dI) vwQ [(cO, .object "java/lang/Object"), (cI, .int), (cZ, .boolean)] s := hK
  refine W.widen (k := 0) (n := 0) (Nat.le_of_ble_eq_true rfl) (Nat.le_of_ble_eq_true rfl) ?_
  obtain ⟨rk_5, rk_6, rk_7, hu_7⟩ := hxt_4
  have hu_8 := HID.mk (hu_7)
  replace hu_7 := HID.mk hu_7
  have hwk_9 := hu_8.1.wk (E' := [la, lb, lr, lp]) (fun _ h9 => CPI.mem4 (Or.inl rfl) h9)
  have hkl_10 := hu_8.1.lst (show CLF L P lb 12 from ⟨hC_lb.1, hC_lb.2.1, hC_lb.2.2.1, hC_lb.2.2.2⟩) (by intro q9; simp at q9; exact absurd q9 hX_ab.symm)
  have hkl_11 := hu_8.1.lst (show CLF L P lr 17 from ⟨hC_lr.1, hC_lr.2.1, hC_lr.2.2.1, hC_lr.2.2.2⟩) (by intro q9; simp at q9; exact absurd q9 (ek_ne hC_lr.2.2.1 hC_la.2.2.1 (by decide)))
  have hkl_12 := hu_8.1.lst (show CLF L P lp 15 from ⟨hC_lp.1, hC_lp.2.1, hC_lp.2.2.1, hC_lp.2.2.2⟩) (by intro q9; simp at q9; exact absurd q9 (ek_ne hC_lp.2.2.1 hC_la.2.2.1 (by decide)))
  have hds_13 := hX_dt.kegR hX_g9 ⟨hC_lb.1, hC_lb.2.1, hC_lb.2.2.1, hC_lb.2.2.2⟩ hu_8.1 (by intro q9; simp at q9; exact absurd q9 hX_ab.symm)
  have hdl_14 := hX_dr.same hkl_11.1 hkl_11.2
  have hdl_15 := hX_dp.same hkl_12.1 hkl_12.2
  have hq_16 : HID (la ∈ L ∧ Pn_4.kd la = 30) := hwk_9.mem hC_la.1 hC_la.2.1 (by decide)
  have hq_17 : HID (lb ∈ L ∧ Pn_4.kd lb = 30) := hwk_9.mem hC_lb.1 hC_lb.2.1 (by decide)
  have hq_18 : HID (lr ∈ L ∧ Pn_4.kd lr = 30) := hwk_9.mem hC_lr.1 hC_lr.2.1 (by decide)
  have hq_19 : HID (lp ∈ L ∧ Pn_4.kd lp = 30) := hwk_9.mem hC_lp.1 hC_lp.2.1 (by decide)
  have hA_20 : KEG [la, lb, lr, lp] L P L Pn_4 := (KEG.refl [la, lb, lr, lp] L P).trans hwk_9
  have hla0 : Pn_4.lz la = 0 := hu_8.2.2.1.2.1
  have hbe9 := hu_8.2.2.2
  have : Pn_4.lz lb = P.lz lb := hkl_10.1
  have : Pn_4.lz lr = P.lz lr := hkl_11.1
  have : Pn_4.lz lp = P.lz lp := hkl_12.1
  have : Pn_4.cap la = P.cap la := hu_8.2.2.1.cap la
  have : Pn_4.cap lb = P.cap lb := hu_8.2.2.1.cap lb
  have : Pn_4.cap lr = P.cap lr := hu_8.2.2.1.cap lr
  have : Pn_4.cap lp = P.cap lp := hu_8.2.2.1.cap lp
  have hek_21 : HID (Pn_4.ek la = 12) := (by rw [hwk_9.ek hC_la.1 hC_la.2.1 (by decide)]; exact hC_la.2.2.1)
  have how_22 : HID (Pn_4.ow la = la) := ((hwk_9.1 la hC_la.1 (by rw [hC_la.2.1]; decide)).2.2.2.1 hC_la.2.1 hC_la.2.2.2).1
  have hek_23 : HID (Pn_4.ek lb = 12) := (by rw [hwk_9.ek hC_lb.1 hC_lb.2.1 (by decide)]; exact hC_lb.2.2.1)
  have how_24 : HID (Pn_4.ow lb = lb) := ((hwk_9.1 lb hC_lb.1 (by rw [hC_lb.2.1]; decide)).2.2.2.1 hC_lb.2.1 hC_lb.2.2.2).1
  have hek_25 : HID (Pn_4.ek lr = 17) := (by rw [hwk_9.ek hC_lr.1 hC_lr.2.1 (by decide)]; exact hC_lr.2.2.1)
  have how_26 : HID (Pn_4.ow lr = lr) := ((hwk_9.1 lr hC_lr.1 (by rw [hC_lr.2.1]; decide)).2.2.2.1 hC_lr.2.1 hC_lr.2.2.2).1
  have hek_27 : HID (Pn_4.ek lp = 15) := (by rw [hwk_9.ek hC_lp.1 hC_lp.2.1 (by decide)]; exact hC_lp.2.2.1)
  have how_28 : HID (Pn_4.ow lp = lp) := ((hwk_9.1 lp hC_lp.1 (by rw [hC_lp.2.1]; decide)).2.2.2.1 hC_lp.2.1 hC_lp.2.2.2).1
  have hci0 := CPI.zero Pn_4 PS lb lr lp lq hLn1 hLn2
  have hal0 : ∀ b : Int, 0 ≤ b → b < Pn_4.lz la → Pn_4.el la b = Pn_4.el lb b := (fun b b0 b1 => by omega)
  have hakq_29 : GLR L Pn_4 cO cI cZ sx_ed := hu_8.2.1
  have hdq_30 : DST Pn_4 lb := hds_13
  have hdq_31 : DSL Pn_4 lr := hdl_14
  have hdq_32 : DSL Pn_4 lp := hdl_15
  have hps := PSI.same (w := wSL) (L := L) hu_8.2.2.1.1.1
  have hpc := PSI.same (w := wCE) (L := L) hu_8.2.2.1.1.1
  have hlva_33 : LVA L Pn_4 := LVA.same hX_Vc hu_8.2.2.1.1.1
  have hlmt_34 : LMT L Pn_4 la lb lr lp := LMT.beg hX_m hakq_29 hX_g9 (show CLF L P la 12 from ⟨hC_la.1, hC_la.2.1, hC_la.2.2.1, hC_la.2.2.2⟩) (show CLF L P lb 12 from ⟨hC_lb.1, hC_lb.2.1, hC_lb.2.2.1, hC_lb.2.2.2⟩) (show CLF L P lr 17 from ⟨hC_lr.1, hC_lr.2.1, hC_lr.2.2.1, hC_lr.2.2.2⟩) (show CLF L P lp 15 from ⟨hC_lp.1, hC_lp.2.1, hC_lp.2.2.1, hC_lp.2.2.2⟩) hu_8.2.2.1.1.1 (fun l q => by rcases q with q | q | q; (rw [q]; exact KEG.listE hu_8.1 (show CLF L P lb 12 from ⟨hC_lb.1, hC_lb.2.1, hC_lb.2.2.1, hC_lb.2.2.2⟩) (by intro q9; simp at q9; exact absurd q9 hX_ab.symm)); (rw [q]; exact KEG.listE hu_8.1 (show CLF L P lr 17 from ⟨hC_lr.1, hC_lr.2.1, hC_lr.2.2.1, hC_lr.2.2.2⟩) (by intro q9; simp at q9; exact absurd q9 (ek_ne hC_lr.2.2.1 hC_la.2.2.1 (by decide)))); (rw [q]; exact KEG.listE hu_8.1 (show CLF L P lp 15 from ⟨hC_lp.1, hC_lp.2.1, hC_lp.2.2.1, hC_lp.2.2.2⟩) (by intro q9; simp at q9; exact absurd q9 (ek_ne hC_lp.2.2.1 hC_la.2.2.1 (by decide)))))
  refine lv_iconst (v := 0) hx hb dX13_copy_4 (by decide) ?_
  refine lv_istore_n (lv' := [(2, .int 0), (0, .ref hc), (1, .ref hd)]) hx hb dX13_copy_5 rfl hl (by decide) rfl (fun ls hl => ?_)
  have key6 : ∀ n6 : Nat, ∀ (d6_2 : Int) (e6_1_3 : Int) (e6_1_4 : Int) (e6_1_6 : Int) (L6 : List Nat) (P6 : PO) (kc6 : Nat) (ks6 : Nat) (ls : Array Slot) (H : Heap) (locs : List Loc), (KEG [la, lb, lr, lp] L Pn_4 L6 P6) → (GLR L6 P6 cO cI cZ sx_ed) → (0 ≤ d6_2 ∧ d6_2 ≤ PS.lz lq) → (0 ≤ e6_1_3 ∧ e6_1_3 ≤ 19001) → (0 ≤ e6_1_4 ∧ e6_1_4 ≤ 19001) → (0 ≤ e6_1_6 ∧ e6_1_6 ≤ 9001) → (LVA L6 P6) → (LMT L6 P6 la lb lr lp) → (CPI P6 PS lb lr lp lq (d6_2) (OFS 2 PS lq (d6_2)) (OFS 1 PS lq (d6_2))) → (DSL P6 lr) → (DSL P6 lp) → (DST P6 lb) → (∀ b : Int, 0 ≤ b → b < P6.lz la → P6.el la b = P6.el lb b) → (e6_1_6 = d6_2 ∧ e6_1_3 = OFS 2 PS lq (d6_2) ∧ e6_1_4 = OFS 1 PS lq (d6_2) ∧ P6.lz la = d6_2 ∧ e6_1_6 ≤ P6.lz lb ∧ e6_1_3 ≤ P6.lz lr ∧ e6_1_4 ≤ P6.lz lp) → (LGM (P6.lz lb) (P.lz lb) (e6_1_6) ∧ LGM (P6.lz lr) (P.lz lr) (e6_1_3) ∧ LGM (P6.lz lp) (P.lz lp) (e6_1_4)) → ((ks6 : Int) ≤ PSI wSL L6 P6 - PSI wSL L P ∧ 40 * (kc6 : Int) ≤ PSI wCE L6 P6 - PSI wCE L P) → ((PS.lz lq - d6_2 : Int).toNat) < n6 → lv_has ls 9 [(0, .ref hc), (1, .ref hd), (2, .int (zI (d6_2)))] → va_P (dC, dI) vwQ ([(hd, .inr (12, [v18_0, v18_1, v18_2, v18_3, v18_4, .ref lq, v18_6])), (hc, .inr (12, [.ref lb, .ref lr, .ref lp, .int (zI (e6_1_3)), .int (zI (e6_1_4)), .ref la, .int (zI (e6_1_6))]))] ++ (va_pl L6 (pE P6) ++ va_pl LS (pE PS))) H → va_D A ([(hd, .inr (12, [v18_0, v18_1, v18_2, v18_3, v18_4, .ref lq, v18_6])), (hc, .inr (12, [.ref lb, .ref lr, .ref lp, .int (zI (e6_1_3)), .int (zI (e6_1_4)), .ref la, .int (zI (e6_1_6))]))] ++ (va_pl L6 (pE P6) ++ va_pl LS (pE PS))) → va_S A s.heap H locs → W p l e (headSpec v_P13_copyQ ({ frames := 8, cells := ((2000 + (8735704 - PSI wCE L P) / 40).toNat), slots := ((1990000 - PSI wSL L P).toNat), locals := 213 })).room s m ([.ref hc, .ref hd] : List Value).toArray below meth c H locs (kc6) (ks6) Q (F0 m 6 ls []) := key6_P13_copyQ l dC dI hd v18_0 v18_1 v18_2 v18_3 v18_4 v18_6 lq cI cZ hc z13_rowN z13_phiN z13_made la lb lr lp cO L P sx_ed LS PS hNz13_rowN hNz13_phiN hNz13_made hX_g9 hC_la hX_lb hX_lr hX_lp hX_ab hX_dt hX_dr hX_dp hX_s hNr hX_Vc hX_m hX_n HU sx_mi p e s m below meth c s₁ B hml A hA hp0 hp1 hp2 hp3 hp4 hp5 hp6 hp7 hp8 hp9 hp10 hp11 hp12 hp13 hp14 hp15 Q hQ Pn_4 hot2 hq_16 hq_17 hq_18 hq_19 hA_20 hek_21 how_22 hek_23 how_24 hek_25 how_26 hek_27 how_28 hK
  exact key6 ((PS.lz lq - 0 : Int).toNat + 1) 0 z0_1 z1_2 z2_3 L Pn_4 0 0 ls H _ (KEG.refl _ _ _) hakq_29 (by omega) (by omega) (by omega) (by omega) hlva_33 hlmt_34 (hci0.to (by omega) (by omega)) hdq_31 hdq_32 hdq_30 hal0 (by omega) ⟨LGM.eq (by omega), LGM.eq (by omega), LGM.eq (by omega)⟩ (by omega) (Nat.lt_succ_self _) (lv_sub hl [1, 2, 0] rfl) hP hD hS
