set_option maxHeartbeats 40000000 in
set_option maxRecDepth 100000 in
theorem key69_P13_copyQ (l : Launch) (dC : Nat → ClassId) (dI : Nat → Nat → Nat) (hd : Nat) (v18_0 : Value) (v18_1 : Value) (v18_2 : Value) (v18_3 : Value) (v18_4 : Value) (v18_6 : Value) (lq : Nat) (cI : ClassId) (cZ : ClassId) (hc : Nat) (z13_rowN : Int) (z13_phiN : Int) (z13_made : Int) (la : Nat) (lb : Nat) (lr : Nat) (lp : Nat) (cO : ClassId) (L : List Nat) (P : PO) (sx_ed : Nat) (LS : List Nat) (PS : PO) (hNz13_rowN : 0 ≤ z13_rowN ∧ z13_rowN ≤ 19000) (hNz13_phiN : 0 ≤ z13_phiN ∧ z13_phiN ≤ 19000) (hNz13_made : 0 ≤ z13_made ∧ z13_made ≤ 9000) (hX_g : GLR L P cO cI cZ sx_ed) (hX_la : la ∈ L ∧ P.kd la = 30 ∧ P.ek la = 12 ∧ P.ow la = la) (hX_lb : lb ∈ L ∧ P.kd lb = 30 ∧ P.ek lb = 12 ∧ P.ow lb = lb) (hX_lr : lr ∈ L ∧ P.kd lr = 30 ∧ P.ek lr = 17 ∧ P.ow lr = lr) (hX_lp : lp ∈ L ∧ P.kd lp = 30 ∧ P.ek lp = 15 ∧ P.ow lp = lp) (hX_ab : la ≠ lb) (hX_dt : DST P lb) (hX_dr : DSL P lr) (hX_dp : DSL P lp) (hX_s : ALP LS PS cO cI cZ sx_ed lq) (hNr : P.lz lb ≤ 9000 ∧ P.lz lr ≤ 19000 ∧ P.lz lp ≤ 19000 ∧ PS.tot 2 lq ≤ 18000 ∧ PS.tot 1 lq ≤ 18000) (hX_Vc : LVA L P) (hX_m : LMT L P la lb lr lp) (hX_n : SRC9 PS lq) (HU : Heap) (sx_mi : Nat) (p : _) (e : _) (s : _) (m : _) (below : _) (meth : _) (c : _) (s₁ : _) (B : BodyLoose p l yX13_copy (headSpec v_P13_copyQ (({ frames := 8, cells := ((2000 + (8735704 - PSI wCE L P) / 40).toNat), slots := ((1990000 - PSI wSL L P).toNat), locals := 213 }))) cX13_copy 9 (none) e s m (([.ref hc, .ref hd] : List Value).toArray) below meth c s₁) (hml : c.maxLocals = 9) (A : Nat → Prop) (hA : ∀ q : Nat, s.heap.size ≤ q → A q) (hp0 : s.heap = HU) (hp1 : va_Nw (.castable "SsaForgeModel$Block" "SsaForgeModel$Block") s) (hp2 : va_Nw (.castable "SsaForgeModel$Row" "java/lang/Object") s) (hp3 : va_Nw (.castable "SsaForgeModel$Phi" "java/lang/Object") s) (hp4 : va_Nw (.castable "SsaForgeModel$Block" "java/lang/Object") s) (hp5 : va_Dc s) (hp6 : va_Mi "[Ljava/lang/Object;" sx_mi s) (hp7 : va_AO "java/lang/Object" s) (hp8 : va_T (.object "java/lang/Object") sx_ed 0 (fun _ => .null) A s s.heap) (hp9 : va_Z "java/util/ArrayList" "DEFAULTCAPACITY_EMPTY_ELEMENTDATA" "[Ljava/lang/Object;" (.ref sx_ed) A s s.heap) (hp10 : va_Nw (.methodLinkNest RX12 23 yX17_init "SsaForgeModel") s) (hp11 : va_Nw (.methodLinkNest RX13 44 yX12_init "SsaForgeModel") s) (hp12 : va_Nw (.castable "SsaForgeModel$Row" "SsaForgeModel$Row") s) (hp13 : va_Nw (.methodLinkNest RX13 57 yX17_init "SsaForgeModel") s) (hp14 : va_Nw (.castable "SsaForgeModel$Phi" "SsaForgeModel$Phi") s) (hp15 : va_Nw (.methodLinkNest RX13 79 yX15_init "SsaForgeModel") s) (Q : State → Prop) (hQ : Q = MQ below (va_Qv (fun _ : Unit => True) (fun (_ : Unit) (t : State) => ∃ (z0_9 : Int) (z1_9 : Int) (z2_9 : Int) (Ln_9 : List Nat) (Pn_9 : PO) (kc_9 : Nat) (ks_9 : Nat), ((RM HU t.heap kc_9 ks_9 ∧ ((ks_9 : Int) ≤ PSI wSL Ln_9 Pn_9 - PSI wSL L P ∧ 40 * (kc_9 : Int) ≤ PSI wCE Ln_9 Pn_9 - PSI wCE L P)) ∧ ((0 ≤ z0_9 ∧ z0_9 ≤ 19001) ∧ (0 ≤ z1_9 ∧ z1_9 ≤ 19001) ∧ (0 ≤ z2_9 ∧ z2_9 ≤ 9001) ∧ (KEG [la, lb, lr, lp] L P Ln_9 Pn_9 ∧ GLR Ln_9 Pn_9 cO cI cZ sx_ed ∧ CPI Pn_9 PS lb lr lp lq (PS.lz lq) (PS.tot 2 lq) (PS.tot 1 lq) ∧ (DST Pn_9 lb ∧ DSL Pn_9 lr ∧ DSL Pn_9 lp) ∧ (LVA Ln_9 Pn_9 ∧ LMT Ln_9 Pn_9 la lb lr lp ∧ Pn_9.lz la ≤ Pn_9.lz lb) ∧ (Pn_9.lz la = PS.lz lq ∧ ∀ b : Int, 0 ≤ b → b < Pn_9.lz la → Pn_9.el la b = Pn_9.el lb b)))) ∧ va_P (dC, dI) vwQ ([(hd, .inr (12, [v18_0, v18_1, v18_2, v18_3, v18_4, .ref lq, v18_6])), (hc, .inr (12, [.ref lb, .ref lr, .ref lp, .int (zI (z0_9)), .int (zI (z1_9)), .ref la, .int (zI (z2_9))]))] ++ (va_pl Ln_9 (pE Pn_9) ++ va_pl LS (pE PS))) t.heap ∧ va_K (dC, dI) vwQ [(cO, .object "java/lang/Object"), (cI, .int), (cZ, .boolean)] t ∧ va_D A ([(hd, .inr (12, [v18_0, v18_1, v18_2, v18_3, v18_4, .ref lq, v18_6])), (hc, .inr (12, [.ref lb, .ref lr, .ref lp, .int (zI (z0_9)), .int (zI (z1_9)), .ref la, .int (zI (z2_9))]))] ++ (va_pl Ln_9 (pE Pn_9) ++ va_pl LS (pE PS)))) A) (([.ref hc, .ref hd] : List Value).toArray) s ((2000 + (8735704 - PSI wCE L P) / 40).toNat) ((1990000 - PSI wSL L P).toNat) A) (d6_2 : Int) (e6_1_3 : Int) (L6 : List Nat) (P6 : PO) (xb_51 : Nat) (q_56 : Nat) (z0_57 : Int) (Ln_58 : List Nat) (Pn_59 : PO) (n29 : Nat) (d29_5 : Int) (e29_1_4 : Int) (L29 : List Nat) (P29 : PO) (kc29 : Nat) (ks29 : Nat) (pr_115 : Nat) (xp_445 : Nat) (q_451 : Nat) (z0_452 : Int) (Ln_453 : List Nat) (Pn_454 : PO) (hot2 : OFS 2 PS lq (PS.lz lq) = PS.tot 2 lq) (jd6_2 : (0 ≤ d6_2 ∧ d6_2 ≤ PS.lz lq)) (hcx6 : OFS 1 PS lq (d6_2) ≤ OFS 1 PS lq (PS.lz lq)) (hcx7 : OFS 2 PS lq (d6_2) ≤ OFS 2 PS lq (PS.lz lq)) (hon1 : 0 ≤ OFS 1 PS lq (d6_2)) (hon2 : 0 ≤ OFS 2 PS lq (d6_2)) (yb11 : ¬ (PS.lz lq : Int) ≤ (d6_2 : Int)) (hom1 : OFS 1 PS lq (d6_2) + PS.lz (PS.bp (PS.el lq (d6_2))) ≤ OFS 1 PS lq (PS.lz lq)) (hom2 : OFS 2 PS lq (d6_2) + PS.lz (PS.br (PS.el lq (d6_2))) ≤ OFS 2 PS lq (PS.lz lq)) (hos1 : OFS 1 PS lq (d6_2 + 1) = OFS 1 PS lq (d6_2) + PS.lz (PS.bp (PS.el lq (d6_2)))) (hos2 : OFS 2 PS lq (d6_2 + 1) = OFS 2 PS lq (d6_2) + PS.lz (PS.br (PS.el lq (d6_2)))) (hgs7 : (0 ≤ PS.bf xb_51 ∧ PS.bf xb_51 ≤ 299) ∧ (0 ≤ PS.bs xb_51 ∧ PS.bs xb_51 ≤ 299)) (hsrR : 1 ≤ d6_2 → PS.lz (PS.br (PS.el lq (d6_2))) ≤ 1800) (hsrP : PS.lz (PS.bp (PS.el lq (d6_2))) ≤ 700) (hsr6 : 60 ≤ d6_2 → PS.lz (PS.bp (PS.el lq (d6_2))) = 0) (hb1 : 0 ≤ PS.lz (PS.bp (PS.el lq (d6_2)))) (hb2 : 0 ≤ PS.lz (PS.br (PS.el lq (d6_2)))) (ih29 : ∀ (d29_5 : Int) (e29_1_4 : Int) (L29 : List Nat) (P29 : PO) (kc29 : Nat) (ks29 : Nat) (ls : Array Slot) (H : Heap) (locs : List Loc), (KEG [la, lb, lr, lp] Ln_58 Pn_59 L29 P29) → (GLR L29 P29 cO cI cZ sx_ed) → (0 ≤ d29_5 ∧ d29_5 ≤ PS.lz (PS.bp (PS.el lq (d6_2)))) → (0 ≤ e29_1_4 ∧ e29_1_4 ≤ 19001) → (LVA L29 P29) → (LMT L29 P29 la lb lr lp) → (CPI P29 PS lb lr lp lq (d6_2) (OFS 2 PS lq (d6_2)) (OFS 1 PS lq (d6_2) + d29_5)) → (DSL P29 lr) → (DSL P29 lp) → (DST P29 lb) → (∀ b : Int, 0 ≤ b → b < P29.lz la → P29.el la b = P29.el lb b) → (z0_57 = d6_2 + 1 ∧ e6_1_3 = OFS 2 PS lq (d6_2) ∧ e29_1_4 = OFS 1 PS lq (d6_2) + d29_5 ∧ P29.lz la = d6_2 + 1 ∧ z0_57 ≤ P29.lz lb ∧ e6_1_3 ≤ P29.lz lr ∧ e29_1_4 ≤ P29.lz lp) → (LGM (P29.lz lb) (P.lz lb) (z0_57) ∧ LGM (P29.lz lr) (P.lz lr) (e6_1_3) ∧ LGM (P29.lz lp) (P.lz lp) (e29_1_4)) → (CUR P29 PS lb lr lp lq (d6_2) (d29_5) (0)) → (q_56 = P29.el lb (d6_2)) → ((ks29 : Int) ≤ PSI wSL L29 P29 - PSI wSL L P ∧ 40 * (kc29 : Int) ≤ PSI wCE L29 P29 - PSI wCE L P) → ((PS.lz (PS.bp (PS.el lq (d6_2))) - d29_5 : Int).toNat) < n29 → lv_has ls 9 [(0, .ref hc), (1, .ref hd), (2, .int (zI (d6_2))), (3, .ref xb_51), (4, .ref q_56), (5, .int (zI (d29_5)))] → va_P (dC, dI) vwQ ([(hd, .inr (12, [v18_0, v18_1, v18_2, v18_3, v18_4, .ref lq, v18_6])), (hc, .inr (12, [.ref lb, .ref lr, .ref lp, .int (zI (e6_1_3)), .int (zI (e29_1_4)), .ref la, .int (zI (z0_57))]))] ++ (va_pl L29 (pE P29) ++ va_pl LS (pE PS))) H → va_D A ([(hd, .inr (12, [v18_0, v18_1, v18_2, v18_3, v18_4, .ref lq, v18_6])), (hc, .inr (12, [.ref lb, .ref lr, .ref lp, .int (zI (e6_1_3)), .int (zI (e29_1_4)), .ref la, .int (zI (z0_57))]))] ++ (va_pl L29 (pE P29) ++ va_pl LS (pE PS))) → va_S A s.heap H locs → W p l e (headSpec v_P13_copyQ ({ frames := 8, cells := ((2000 + (8735704 - PSI wCE L P) / 40).toNat), slots := ((1990000 - PSI wSL L P).toNat), locals := 213 })).room s m ([.ref hc, .ref hd] : List Value).toArray below meth c H locs (kc29) (ks29) Q (F0 m 29 ls [])) (kP29 : (KEG [la, lb, lr, lp] Ln_58 Pn_59 L29 P29)) (jd29_5 : (0 ≤ d29_5 ∧ d29_5 ≤ PS.lz (PS.bp (PS.el lq (d6_2))))) (je29_1_4 : (0 ≤ e29_1_4 ∧ e29_1_4 ≤ 19001)) (jn29 : (z0_57 = d6_2 + 1 ∧ e6_1_3 = OFS 2 PS lq (d6_2) ∧ e29_1_4 = OFS 1 PS lq (d6_2) + d29_5 ∧ P29.lz la = d6_2 + 1 ∧ z0_57 ≤ P29.lz lb ∧ e6_1_3 ≤ P29.lz lr ∧ e29_1_4 ≤ P29.lz lp)) (jy29 : (q_56 = P29.el lb (d6_2))) (hkr29 : ((ks29 : Int) ≤ PSI wSL L29 P29 - PSI wSL L P ∧ 40 * (kc29 : Int) ≤ PSI wCE L29 P29 - PSI wCE L P)) (hm29 : ((PS.lz (PS.bp (PS.el lq (d6_2))) - d29_5 : Int).toNat) < n29 + 1) (hlq : PS.lz pr_115 = PS.lz (PS.bp (PS.el lq (d6_2)))) (yb38 : ¬ (PS.lz pr_115 : Int) ≤ (d29_5 : Int)) (hpb_448 : PRB PS xp_445 (PS.lz lq)) (hpz : xp_445 = PS.el (PS.bp (PS.el lq (d6_2))) (d29_5)) (hq_474 : HID (la ∈ Ln_453 ∧ Pn_454.kd la = 30)) (hq_475 : HID (lb ∈ Ln_453 ∧ Pn_454.kd lb = 30)) (hq_476 : HID (lr ∈ Ln_453 ∧ Pn_454.kd lr = 30)) (hq_477 : HID (lp ∈ Ln_453 ∧ Pn_454.kd lp = 30)) (hq_478 : HID (q_56 ∈ Ln_453 ∧ Pn_454.kd q_56 = 12)) (hA_479 : KEG [la, lb, lr, lp] L P Ln_453 Pn_454) (hA_480 : KEG [la, lb, lr, lp] L6 P6 Ln_453 Pn_454) (hA_481 : KEG [la, lb, lr, lp] L29 P29 Ln_453 Pn_454) (hek_482 : HID (Pn_454.ek la = 12)) (how_483 : HID (Pn_454.ow la = la)) (hek_484 : HID (Pn_454.ek lb = 12)) (how_485 : HID (Pn_454.ow lb = lb)) (hek_486 : HID (Pn_454.ek lr = 17)) (how_487 : HID (Pn_454.ow lr = lr)) (hek_488 : HID (Pn_454.ek lp = 15)) (how_489 : HID (Pn_454.ow lp = lp)) (hmq_491 : q_451 ∈ Ln_453) (hkq_492 : Pn_454.kd q_451 = 15) (hms9 : xp_445 ∈ LS) (hks9 : PS.kd xp_445 = 15) (hpk7 : (PS.pn xp_445 ≤ PS.an (PS.pp xp_445) ∧ PS.pn xp_445 ≤ PS.an (PS.pu xp_445) ∧ PS.pn xp_445 ≤ PS.an (PS.pr xp_445)) ∧ (PS.an (PS.pp xp_445) ≤ 1000 ∧ PS.an (PS.pu xp_445) ≤ 1000 ∧ PS.an (PS.pr xp_445) ≤ 1000)) (hpn6 : PS.pn xp_445 ≤ 60) (hK : va_K (dC, dI) vwQ [(cO, .object "java/lang/Object"), (cI, .int), (cZ, .boolean)] s) : ∀ n69 : Nat, ∀ (d69_8 : Int) (L69 : List Nat) (P69 : PO) (kc69 : Nat) (ks69 : Nat) (ls : Array Slot) (H : Heap) (locs : List Loc), (KEG [la, lb, lr, lp] Ln_453 Pn_454 L69 P69) → (GLR L69 P69 cO cI cZ sx_ed) → (0 ≤ d69_8 ∧ d69_8 ≤ PS.pn xp_445) → (LVA L69 P69) → (LMT L69 P69 la lb lr lp) → (CPI P69 PS lb lr lp lq (d6_2) (OFS 2 PS lq (d6_2)) (OFS 1 PS lq (d6_2) + d29_5)) → (DSL P69 lr) → (DSL P69 lp) → (DST P69 lb) → (∀ b : Int, 0 ≤ b → b < P69.lz la → P69.el la b = P69.el lb b) → (z0_57 = d6_2 + 1 ∧ e6_1_3 = OFS 2 PS lq (d6_2) ∧ z0_452 = OFS 1 PS lq (d6_2) + d29_5 + 1 ∧ P69.lz la = d6_2 + 1 ∧ z0_57 ≤ P69.lz lb ∧ e6_1_3 ≤ P69.lz lr ∧ z0_452 ≤ P69.lz lp) → (LGM (P69.lz lb) (P.lz lb) (z0_57) ∧ LGM (P69.lz lr) (P.lz lr) (e6_1_3) ∧ LGM (P69.lz lp) (P.lz lp) (z0_452)) → (CUR P69 PS lb lr lp lq (d6_2) (d29_5) (0)) → (q_56 = P69.el lb (d6_2)) → (q_451 = P69.el lp (OFS 1 PS lq (d6_2) + d29_5)) → (CPH P69 q_451 PS xp_445 (d69_8)) → ((ks69 : Int) ≤ PSI wSL L69 P69 - PSI wSL L P ∧ 40 * (kc69 : Int) ≤ PSI wCE L69 P69 - PSI wCE L P) → ((PS.pn xp_445 - d69_8 : Int).toNat) < n69 → lv_has ls 9 [(0, .ref hc), (1, .ref hd), (2, .int (zI (d6_2))), (3, .ref xb_51), (4, .ref q_56), (5, .int (zI (d29_5))), (6, .ref xp_445), (7, .ref q_451), (8, .int (zI (d69_8)))] → va_P (dC, dI) vwQ ([(hd, .inr (12, [v18_0, v18_1, v18_2, v18_3, v18_4, .ref lq, v18_6])), (hc, .inr (12, [.ref lb, .ref lr, .ref lp, .int (zI (e6_1_3)), .int (zI (z0_452)), .ref la, .int (zI (z0_57))]))] ++ (va_pl L69 (pE P69) ++ va_pl LS (pE PS))) H → va_D A ([(hd, .inr (12, [v18_0, v18_1, v18_2, v18_3, v18_4, .ref lq, v18_6])), (hc, .inr (12, [.ref lb, .ref lr, .ref lp, .int (zI (e6_1_3)), .int (zI (z0_452)), .ref la, .int (zI (z0_57))]))] ++ (va_pl L69 (pE P69) ++ va_pl LS (pE PS))) → va_S A s.heap H locs → W p l e (headSpec v_P13_copyQ ({ frames := 8, cells := ((2000 + (8735704 - PSI wCE L P) / 40).toNat), slots := ((1990000 - PSI wSL L P).toNat), locals := 213 })).room s m ([.ref hc, .ref hd] : List Value).toArray below meth c H locs (kc69) (ks69) Q (F0 m 69 ls []) := by
  have hx := B.exec
  have hb := B.bytes
  have hr := B.returns
  have hts := atoms_spec (ws := v_P13_copyQ) B.pre
  have hown : s.vm.findClass RX13 = some m.cls := findClass_of_methodNamed B.named
  have hlocks := B.notSynchronized
  have ow : ∀ {k : Nat} {w : Cond}, o_P13_copyQ[k]? = some w → w.before ([.ref hc, .ref hd] : List Value).toArray s = true := fun h => hts _ (mow_P13_copyQ _ (List.mem_of_getElem? h))
  have hX_g9 := hX_g
  have hC_la := hX_la
  have hC_lb := hX_lb
  have hC_lr := hX_lr
  have hC_lp := hX_lp
  have hln_la := (hX_g.lk (show CLF L P la 12 from hC_la)).2.2.1
  have hln_lb := (hX_g.lk (show CLF L P lb 12 from hC_lb)).2.2.1
  have hln_lr := (hX_g.lk (show CLF L P lr 17 from hC_lr)).2.2.1
  have hln_lp := (hX_g.lk (show CLF L P lp 15 from hC_lp)).2.2.1
  have hLn1 : LNN 1 PS lq := (fun c c0 c1 => (hX_s.inb ⟨c, c0, c1, rfl⟩).2.2.1.2.2.1.1)
  have hLn2 : LNN 2 PS lq := (fun c c0 c1 => (hX_s.inb ⟨c, c0, c1, rfl⟩).2.1.2.2.1.1)
  have hls9 := hX_s.lok.2.2.1
  have hls8 := hX_s.1.1.2.1
  have hof1 : OFS 1 PS lq 0 = 0 := rfl
  have hof2 : OFS 2 PS lq 0 = 0 := rfl
  have hsr1 : PS.lz lq ≤ 180 ∧ PS.tot 2 lq ≤ 4164 ∧ PS.tot 1 lq ≤ 1936 := hX_n.1
  have hlm0 := hX_m.2.2.2.1
  have hot1 : OFS 1 PS lq (PS.lz lq) = PS.tot 1 lq := rfl
  intro n69
  induction n69 with
  | zero => intro d69_8 L69 P69 kc69 ks69 ls H locs kP69 aP69 jd69_8 jv69 jm69 jc69 jr69 jp69 js69 ja69 jn69 jl69 ju69 jy69 jx69 jh69 hkr69 hm69; exact absurd hm69 (by omega)
  | succ n69 ih69 =>
    intro d69_8 L69 P69 kc69 ks69 ls H locs kP69 aP69 jd69_8 jv69 jm69 jc69 jr69 jp69 js69 ja69 jn69 jl69 ju69 jy69 jx69 jh69 hkr69 hm69 hl hP hD hS
    have hq_499 : HID (la ∈ L69 ∧ P69.kd la = 30) := kP69.mem hq_474.1 hq_474.2 (by decide)
    have hq_500 : HID (lb ∈ L69 ∧ P69.kd lb = 30) := kP69.mem hq_475.1 hq_475.2 (by decide)
    have hq_501 : HID (lr ∈ L69 ∧ P69.kd lr = 30) := kP69.mem hq_476.1 hq_476.2 (by decide)
    have hq_502 : HID (lp ∈ L69 ∧ P69.kd lp = 30) := kP69.mem hq_477.1 hq_477.2 (by decide)
    have hq_503 : HID (q_56 ∈ L69 ∧ P69.kd q_56 = 12) := kP69.mem hq_478.1 hq_478.2 (by decide)
    have hq_504 : HID (q_451 ∈ L69 ∧ P69.kd q_451 = 15) := kP69.mem hmq_491 hkq_492 (by decide)
    have hA_505 : KEG [la, lb, lr, lp] L P L69 P69 := hA_479.trans kP69
    have hA_506 : KEG [la, lb, lr, lp] L6 P6 L69 P69 := hA_480.trans kP69
    have hA_507 : KEG [la, lb, lr, lp] L29 P29 L69 P69 := hA_481.trans kP69
    have hek_508 : HID (P69.ek la = 12) := (by rw [kP69.ek hq_474.1 hq_474.2 (by decide)]; exact hek_482.out)
    have how_509 : HID (P69.ow la = la) := ((kP69.1 la hq_474.1 (by rw [hq_474.2]; decide)).2.2.2.1 hq_474.2 how_483.out).1
    have hek_510 : HID (P69.ek lb = 12) := (by rw [kP69.ek hq_475.1 hq_475.2 (by decide)]; exact hek_484.out)
    have how_511 : HID (P69.ow lb = lb) := ((kP69.1 lb hq_475.1 (by rw [hq_475.2]; decide)).2.2.2.1 hq_475.2 how_485.out).1
    have hek_512 : HID (P69.ek lr = 17) := (by rw [kP69.ek hq_476.1 hq_476.2 (by decide)]; exact hek_486.out)
    have how_513 : HID (P69.ow lr = lr) := ((kP69.1 lr hq_476.1 (by rw [hq_476.2]; decide)).2.2.2.1 hq_476.2 how_487.out).1
    have hek_514 : HID (P69.ek lp = 15) := (by rw [kP69.ek hq_477.1 hq_477.2 (by decide)]; exact hek_488.out)
    have how_515 : HID (P69.ow lp = lp) := ((kP69.1 lp hq_477.1 (by rw [hq_477.2]; decide)).2.2.2.1 hq_477.2 how_489.out).1
    have hj69 := kP69
    have hpn9 := jh69.1
    have hm1 := jl69.1.max (m := 9000) (by omega) (by omega)
    have hm2 := jl69.2.1.max (m := 19000) (by omega) (by omega)
    have hm3 := jl69.2.2.max (m := 19000) (by omega) (by omega)
    have hnd_516 : L69.Nodup := (by first | exact pl_nd hD | exact pl_nd (pl_leftD (pk_ascD hD)))
    have hlm9 := jm69.2.2.2.1
    have hnz_lb := (aP69.lk (show CLF L69 P69 lb 12 from ⟨hq_500.1, hq_500.2, hek_510.out, how_511.out⟩)).2.2.1
    have hnz_lr := (aP69.lk (show CLF L69 P69 lr 17 from ⟨hq_501.1, hq_501.2, hek_512.out, how_513.out⟩)).2.2.1
    have hnz_lp := (aP69.lk (show CLF L69 P69 lp 15 from ⟨hq_502.1, hq_502.2, hek_514.out, how_515.out⟩)).2.2.1
    have htp9 := jm69.topS hnd_516 hnz_lb.1 hnz_lr.1 hnz_lp.1
    have htq9 := jm69.topC hnd_516 hnz_lb.1 hnz_lr.1 hnz_lp.1
    skip
    refine lv_iload hx hb dX13_copy_69 (lv_at hl 8 rfl) ?_
    refine lv_aload hx hb dX13_copy_71 (lv_at hl 6 rfl) ?_
    replace hP := pk_sw hP
    replace hD := pk_swD hD
    obtain ⟨kp_517, hkp_517⟩ := pk_getA (T := va_pl L69 (pE P69)) (X := [(hd, .inr (12, [v18_0, v18_1, v18_2, v18_3, v18_4, .ref lq, v18_6])), (hc, .inr (12, [.ref lb, .ref lr, .ref lp, .int (zI (e6_1_3)), .int (zI (z0_452)), .ref la, .int (zI (z0_57))]))]) (f := pE PS) hms9
    rw [pE_phi hks9] at hkp_517
    refine va_get (D := (dC, dI)) (ci := 20) (v := .int (zI (PS.pn xp_445))) (C := RX15) (T := TX15) (N := 6) hx hb hts mem_P13_copyQ_10 hown hK hP kp_517 hkp_517 rfl 1 (by decide) (ow (k := 41) rfl) (fun _ h9 => h9) rfl dX13_copy_73 ?_
    replace hP := pk_sw hP
    replace hD := pk_swD hD
    refine lv_icmp_ge (tgt := 114) hx hb dX13_copy_76 (by decide) (fun b76 => ?_) (fun b76 => ?_)
    · have yb76 : (PS.pn xp_445 : Int) ≤ (d69_8 : Int) := (zI_le (a := PS.pn xp_445) (b := d69_8) (by omega) (by omega) (by omega) (by omega)).mp b76
      have hci4 : CPI P69 PS lb lr lp lq (d6_2) (OFS 2 PS lq (d6_2)) (OFS 1 PS lq (d6_2) + d29_5 + 1) := jc69.phi hLn1 (by omega) (by omega) (by omega) (by omega) rfl (by rw [← jx69, ← hpz, show PS.pn xp_445 = d69_8 from (by omega)]; exact jh69)
      skip
      refine lv_aload hx hb dX13_copy_114 (lv_at hl 4 rfl) ?_
      have hfb := (aP69.gb hq_503.1 hq_503.2).2
      obtain ⟨kp_518, hkp_518⟩ := pk_getA (T := va_pl LS (pE PS)) (X := [(hd, .inr (12, [v18_0, v18_1, v18_2, v18_3, v18_4, .ref lq, v18_6])), (hc, .inr (12, [.ref lb, .ref lr, .ref lp, .int (zI (e6_1_3)), .int (zI (z0_452)), .ref la, .int (zI (z0_57))]))]) (f := pE P69) hq_503.1
      rw [pE_block hq_503.2] at hkp_518
      refine va_get (D := (dC, dI)) (ci := 19) (v := .ref (P69.bp q_56)) (C := RX12) (T := TX12) (N := 5) hx hb hts mem_P13_copyQ_4 hown hK hP kp_518 hkp_518 rfl 0 (by decide) (ow (k := 13) rfl) (fun _ h9 => h9) rfl dX13_copy_116 ?_
      obtain ⟨pr_519, epr_519⟩ : ∃ q9 : Nat, q9 = P69.bp q_56 := ⟨_, rfl⟩
      rw [← epr_519]
      have hlk_520 : LOK L69 P69 cO 15 pr_519 := (by rw [epr_519]; exact aP69.lbp hq_503.1 hq_503.2)
      have hlz9 := hlk_520.2.2.1
      have hek_521 : HID (P69.ek pr_519 = 15) := (by rw [epr_519]; exact (aP69.owc q_56 hq_503.1 hq_503.2).2.1)
      refine lv_aload hx hb dX13_copy_119 (lv_at hl 7 rfl) ?_
      have hPT := pk_asc hP
      have hDT := pk_ascD hD
      replace hP := pl_left hPT
      replace hD := pl_leftD hDT
      have hlz21 : P69.lz pr_519 = d29_5 := (by have q9 := ju69.1.1; rw [← jy69, epr_519.symm] at q9; exact q9)
      have hlk_522 := (show LOK L69 P69 cO 15 pr_519 from (by rw [← epr_519.symm]; exact aP69.lbp hq_503.1 hq_503.2))
      have hX_x := hlk_522.1
      have hX_k := hlk_522.2.1
      have hlz9 := hlk_522.2.2.1
      have hX_c := aP69.adc hlk_522
      have hX_y : q_451 ∈ L69 ∧ OBK (P69.kd q_451) := ⟨hq_504.1, (by rw [hq_504.2]; unfold OBK; decide)⟩
      have hvv_523 := jv69 pr_519 hlk_522.1 hlk_522.2.1
      have hX_v := hvv_523.1
      have hnd_524 : L69.Nodup := (by first | exact pl_nd hD | exact pl_nd (pl_leftD (pk_ascD hD)))
      have had_525 := hX_c
      have hPc := hP.part (X := [(hd, .inr (12, [v18_0, v18_1, v18_2, v18_3, v18_4, .ref lq, v18_6])), (hc, .inr (12, [.ref lb, .ref lr, .ref lp, .int (zI (e6_1_3)), .int (zI (z0_452)), .ref la, .int (zI (z0_57))]))]) (cx := []) (pl := va_pl L69 (pE P69)) [] rfl
      have hDc := hD.part (X := [(hd, .inr (12, [v18_0, v18_1, v18_2, v18_3, v18_4, .ref lq, v18_6])), (hc, .inr (12, [.ref lb, .ref lr, .ref lp, .int (zI (e6_1_3)), .int (zI (z0_452)), .ref la, .int (zI (z0_57))]))]) (cx := []) (pl := va_pl L69 (pE P69)) [] (by decide) rfl
      have hKc := hK.sub (tys' := [(cO, .object "java/lang/Object")]) [0] rfl
      have hFc := va_freeP (X := [(hd, .inr (12, [v18_0, v18_1, v18_2, v18_3, v18_4, .ref lq, v18_6])), (hc, .inr (12, [.ref lb, .ref lr, .ref lp, .int (zI (e6_1_3)), .int (zI (z0_452)), .ref la, .int (zI (z0_57))]))]) (cx := []) (pl := va_pl L69 (pE P69)) hD hS hA [] rfl
      have hgl := ADC.gl6 hX_c (by omega)
      refine va_calli (va_runV (As := [.ref q_451]) (rest := []) ⟨hx, hb, hml, hown, hts⟩ (c_PL_addAX l dC dI cO L69 P69 pr_519 q_451 sx_ed hX_x hX_k (by omega) hX_c hX_y hX_v H.size sx_mi) (cwV 1 hts g_P13_copyQ_PL_addAX rfl rfl rfl (by decide +kernel) ⟨(Nat.le_of_ble_eq_true rfl), (Nat.le_of_ble_eq_true rfl)⟩) ⟨fun a U g mk q => by obtain ⟨q0, q1, qP, qK, qD, e0, e1, e2, e3, e4, e5, e6, e7⟩ := q; exact ⟨q0, q1, qP, va_K.moved (u := U) (U := U.calling g mk a) (Vm.Alike.refl U.vm) qK, qD, va_Nw.same rfl (u := U) (U := U.calling g mk a) rfl e0, va_Nw.same rfl (u := U) (U := U.calling g mk a) rfl e1, va_Nw.same rfl (u := U) (U := U.calling g mk a) rfl e2, va_Dc.moved (u := U) (U := U.calling g mk a) (Vm.Alike.refl U.vm) e3, va_Mi.moved (u := U) (U := U.calling g mk a) (Vm.Alike.refl U.vm) e4, va_AO.moved (u := U) (U := U.calling g mk a) (Vm.Alike.refl U.vm) e5, va_T.moved (u := U) (U := U.calling g mk a) (Vm.Alike.refl U.vm) e6, va_Z.moved (u := U) (U := U.calling g mk a) (Vm.Alike.refl U.vm) e7⟩, recv_30 hKc hPc hlk_520.1 hlk_520.2.1, fun U hU hW => ⟨rfl, by rw [hU], by rw [hU]; exact hPc, va_K.moved hW.alike hKc, hDc.weaken (fun _ _ _ _ => trivial), va_Nw.warmC hW hp2, va_Nw.warmC hW hp3, va_Nw.warmC hW hp4, va_Dc.moved hW.alike hp5, va_Mi.moved hW.alike hp6, va_AO.moved hW.alike hp7, by rw [hU]; exact va_T.narrow (va_T.moved hW.alike (va_T.kept hp8 hS.2.1)) hFc, by rw [hU]; exact va_Z.narrow (va_Z.moved hW.alike (va_Z.kept hp9 hS.2.1)) hFc⟩⟩ rfl rfl hl.1 rfl (lv_room (Nat.le_of_ble_eq_true rfl)) dX13_copy_121 ⟨(show (kc69) + (P69.gc pr_519) ≤ (2000 + (8735704 - PSI wCE L P) / 40).toNat from (by omega)), (show (ks69) + (P69.gx pr_519) ≤ (1990000 - PSI wSL L P).toNat from (by omega))⟩) hS (fun q _ h => hFc q h) hFc (fun r_526 z_527 t H1 locs ht hvm hw hB hz1 hk1 hS => ?_)
      obtain ⟨Ln_528, Pn_529, hxt_529, hP1, hK1, hD1⟩ := hB
      rw [ht] at hP1
      have hK1 := va_K.moved hvm.symm hK1
      obtain ⟨hP, hD⟩ := va_joinPT (X := [(hd, .inr (12, [v18_0, v18_1, v18_2, v18_3, v18_4, .ref lq, v18_6])), (hc, .inr (12, [.ref lb, .ref lr, .ref lp, .int (zI (e6_1_3)), .int (zI (z0_452)), .ref la, .int (zI (z0_57))]))]) (cx := []) (wr := [(hd, .inr (12, [v18_0, v18_1, v18_2, v18_3, v18_4, .ref lq, v18_6])), (hc, .inr (12, [.ref lb, .ref lr, .ref lp, .int (zI (e6_1_3)), .int (zI (z0_452)), .ref la, .int (zI (z0_57))]))]) (rx := []) (pl := va_pl L69 (pE P69)) (pl1 := va_pl Ln_528 (pE Pn_529)) (T := va_pl LS (pE PS)) hPT hDT [] [0, 1] rfl rfl (by decide) (by decide) hk1 hFc hP1 hD1
      replace hP := pk_back hP
      replace hD := pk_backD hD
      replace hK := (hK.sub (tys' := [(cI, .int), (cZ, .boolean)]) [1, 2] rfl).app hK1
      generalize H1 = H at hP hS ⊢
      clear hPc hDc hKc hFc hk1 hz1 hPT hDT
      replace hP : va_P (dC, dI) vwQ ([(hd, .inr (12, [v18_0, v18_1, v18_2, v18_3, v18_4, .ref lq, v18_6])), (hc, .inr (12, [.ref lb, .ref lr, .ref lp, .int (zI (e6_1_3)), .int (zI (z0_452)), .ref la, .int (zI (z0_57))]))] ++ (va_pl Ln_528 (pE Pn_529) ++ va_pl LS (pE PS))) H := hP
      replace hD : va_D A ([(hd, .inr (12, [v18_0, v18_1, v18_2, v18_3, v18_4, .ref lq, v18_6])), (hc, .inr (12, [.ref lb, .ref lr, .ref lp, .int (zI (e6_1_3)), .int (zI (z0_452)), .ref la, .int (zI (z0_57))]))] ++ (va_pl Ln_528 (pE Pn_529) ++ va_pl LS (pE PS))) := hD
      replace hK : va_K (dC, dI) vwQ [(cI, .int), (cZ, .boolean), (cO, .object "java/lang/Object")] s := hK
      refine W.widen (k := ((kc69) + (P69.gc pr_519))) (n := ((ks69) + (P69.gx pr_519))) (by omega) (by omega) ?_
      obtain ⟨rfl, hzz_527⟩ := hw
      have hu_530 := HID.mk (hxt_529)
      replace hxt_529 := HID.mk hxt_529
      have hfx := hu_530.2.2.2.2.2.2.2
      have hk0_531 : KEG [] L69 P69 Ln_528 Pn_529 := hu_530.1.kegR aP69 hlk_520.1 hlk_520.2.1 hfx (Or.inl (fun e9 => kd_ne hq_503.2 hlk_520.2.1 (by decide) (show q_56 = pr_519 from (by have q9 := (aP69.owc q_56 hq_503.1 hq_503.2).2.2.1; rw [epr_519.symm, e9] at q9; exact q9.symm))))
      have hwk_532 : KEG [la, lb, lr, lp] L69 P69 Ln_528 Pn_529 := hu_530.1.kegR aP69 hlk_520.1 hlk_520.2.1 hfx (Or.inl (fun e9 => kd_ne hq_503.2 hlk_520.2.1 (by decide) (show q_56 = pr_519 from (by have q9 := (aP69.owc q_56 hq_503.1 hq_503.2).2.2.1; rw [epr_519.symm, e9] at q9; exact q9.symm))))
      have hlz20 : P69.lz pr_519 = d29_5 := (by have q9 := ju69.1.1; rw [← jy69, epr_519.symm] at q9; exact q9)
      have hak_533 : GLR Ln_528 Pn_529 cO cI cZ sx_ed := aP69.add hu_530.1 hlk_520.1 hlk_520.2.1 hfx hek_521.out hq_504.1 hq_504.2 hu_530.2.1 (by omega) hu_530.2.2.1 hu_530.2.2.2.1.1 (by have q9 := aP69.adc40 hlk_522; have q8 := hu_530.2.2.2.1; omega) hu_530.2.2.2.2.1 hu_530.2.2.2.2.2.1 hu_530.2.2.2.2.2.2.1 (fun q9 => absurd q9 (by decide))
      have hkl_534 := hk0_531.lst (show CLF L69 P69 la 12 from ⟨hq_499.1, hq_499.2, hek_508.out, how_509.out⟩) (by simp)
      have hkl_535 := hk0_531.lst (show CLF L69 P69 lb 12 from ⟨hq_500.1, hq_500.2, hek_510.out, how_511.out⟩) (by simp)
      have hkl_536 := hk0_531.lst (show CLF L69 P69 lr 17 from ⟨hq_501.1, hq_501.2, hek_512.out, how_513.out⟩) (by simp)
      have hkl_537 := hk0_531.lst (show CLF L69 P69 lp 15 from ⟨hq_502.1, hq_502.2, hek_514.out, how_515.out⟩) (by simp)
      have how9 : P69.ow pr_519 = q_56 := (by have q9 := (aP69.owc q_56 hq_503.1 hq_503.2).2.2.1; rw [epr_519.symm] at q9; exact q9)
      have hns_538 := hns_addR (i := d6_2) (n := OFS 2 PS lq (d6_2)) (p := OFS 1 PS lq (d6_2) + d29_5 + 1) aP69 (aP69.lk (show CLF L69 P69 lb 12 from ⟨hq_500.1, hq_500.2, hek_510.out, how_511.out⟩)) (aP69.lk (show CLF L69 P69 lr 17 from ⟨hq_501.1, hq_501.2, hek_512.out, how_513.out⟩)) hek_512.out (aP69.lk (show CLF L69 P69 lp 15 from ⟨hq_502.1, hq_502.2, hek_514.out, how_515.out⟩)) (by omega) (by omega) (by omega) hlk_520.2.1 how9 (fun b9 b0 b1 e9 => (js69 b9 (d6_2) b0 (by omega) (by omega)).1 (by rw [← jy69]; exact e9.symm))
      have hci_539 : CPI Pn_529 PS lb lr lp lq (d6_2) (OFS 2 PS lq (d6_2)) (OFS 1 PS lq (d6_2) + d29_5 + 1) := hci4.frR aP69 (hu_530.1.chgo aP69.owa hlk_520.1 hlk_520.2.1 hfx).c8 (aP69.lk (show CLF L69 P69 lb 12 from ⟨hq_500.1, hq_500.2, hek_510.out, how_511.out⟩)) (aP69.lk (show CLF L69 P69 lr 17 from ⟨hq_501.1, hq_501.2, hek_512.out, how_513.out⟩)) (aP69.lk (show CLF L69 P69 lp 15 from ⟨hq_502.1, hq_502.2, hek_514.out, how_515.out⟩)) (by omega) (by omega) (by omega) hLn1 hLn2 (by omega) (fun k9 k0 k1 => hkl_535.2 k9 k0 (by omega)) (fun k9 k0 k1 => hkl_536.2 k9 k0 (by omega)) (fun k9 k0 k1 => hkl_537.2 k9 k0 (by omega)) hns_538
      have hob9 : Pn_529.lz (P69.br q_56) = P69.lz (P69.br q_56) ∧ ∀ k : Int, 0 ≤ k → k < P69.lz (P69.br q_56) → Pn_529.el (P69.br q_56) k = P69.el (P69.br q_56) k := (by have o9 := aP69.owc q_56 hq_503.1 hq_503.2; have q9 := (hu_530.1.chgo aP69.owa hlk_520.1 hlk_520.2.1 hfx).c8.lst aP69.owa o9.1.2.2.1 o9.1.2.2.2 (fun e9 => by rcases e9 with e9 | e9; (have w9 := o9.1.1; rw [e9, hek_521.out] at w9; have v9 := o9.1.1; omega); (have v9 := o9.1.2.2.2; have w9 := e9.1; omega)) (fun f9 e9 => by have r9 := (aP69.owa _ o9.1.2.2.1 o9.1.2.2.2).2 f9; rcases e9 with e9 | e9; (have w9 := r9.2.1; rw [e9, hlk_520.2.1] at w9; omega); (have w9 := e9.2; rw [r9.2.2.1] at w9; have v9 := o9.1.1; rw [w9, hek_521.out] at v9; have z9 := o9.1.1; omega)); exact ⟨q9.1, q9.2.1⟩)
      have hli9 : Pn_529.lz (P69.bp q_56) = P69.lz (P69.bp q_56) + 1 ∧ (∀ k : Int, 0 ≤ k → k < P69.lz (P69.bp q_56) → Pn_529.el (P69.bp q_56) k = P69.el (P69.bp q_56) k) ∧ Pn_529.el (P69.bp q_56) (P69.lz (P69.bp q_56)) = q_451 := (by rw [epr_519.symm]; exact ⟨hu_530.2.1, fun k k0 k1 => hu_530.1.elx hu_530.2.2.2.2.2.2.1 k0 k1, hu_530.1.elast hu_530.2.2.2.2.2.1⟩)
      have hb29 := hk0_531.2 q_56 hq_503.1 hq_503.2
      rw [jy69] at hob9 hli9 hb29
      have hcu_540 : CUR Pn_529 PS lb lr lp lq (d6_2) (d29_5 + 1) (0) := ju69.addp (hkl_535.2 (d6_2) (by omega) (by omega)) hb29.1 hb29.2.1 (by omega) (by omega) (by omega) hob9 hli9 (fun k9 k0 k1 => hkl_536.2 k9 k0 (by omega)) (fun k9 k0 k1 => hkl_537.2 k9 k0 (by omega)) (jx69.trans (by rw [hkl_537.2 (OFS 1 PS lq (d6_2) + d29_5) (by omega) (by omega)]))
      have hyb_541 : q_56 = Pn_529.el lb (d6_2) := jy69.trans (hkl_535.2 (d6_2) (by omega) (by omega)).symm
      have hds_542 := js69.kegR aP69 ⟨hq_500.1, hq_500.2, hek_510.out, how_511.out⟩ hk0_531 (by simp)
      have hdl_543 := jr69.same hkl_536.1 hkl_536.2
      have hdl_544 := jp69.same hkl_537.1 hkl_537.2
      have hal_545 : ∀ b : Int, 0 ≤ b → b < Pn_529.lz la → Pn_529.el la b = Pn_529.el lb b := (fun b b0 b1 => by rw [hkl_534.1] at b1; rw [hkl_534.2 b b0 b1, hkl_535.2 b b0 (by omega)]; exact ja69 b b0 b1)
      have hxi_546 : q_451 = Pn_529.el lp (OFS 1 PS lq (d6_2) + d29_5) := jx69.trans (hkl_537.2 (OFS 1 PS lq (d6_2) + d29_5) (by omega) (by omega)).symm
      have hq_547 : HID (la ∈ Ln_528 ∧ Pn_529.kd la = 30) := hwk_532.mem hq_499.1 hq_499.2 (by decide)
      have hq_548 : HID (lb ∈ Ln_528 ∧ Pn_529.kd lb = 30) := hwk_532.mem hq_500.1 hq_500.2 (by decide)
      have hq_549 : HID (lr ∈ Ln_528 ∧ Pn_529.kd lr = 30) := hwk_532.mem hq_501.1 hq_501.2 (by decide)
      have hq_550 : HID (lp ∈ Ln_528 ∧ Pn_529.kd lp = 30) := hwk_532.mem hq_502.1 hq_502.2 (by decide)
      have hq_551 : HID (q_56 ∈ Ln_528 ∧ Pn_529.kd q_56 = 12) := hwk_532.mem hq_503.1 hq_503.2 (by decide)
      have hq_552 : HID (q_451 ∈ Ln_528 ∧ Pn_529.kd q_451 = 15) := hwk_532.mem hq_504.1 hq_504.2 (by decide)
      have hq_553 : HID (pr_519 ∈ Ln_528 ∧ Pn_529.kd pr_519 = 30) := hwk_532.mem hlk_520.1 hlk_520.2.1 (by decide)
      have ha_554 : HID (Pn_529.bp q_56 = pr_519) := hwk_532.bp hq_503.1 hq_503.2 epr_519.symm
      have hA_555 : KEG [la, lb, lr, lp] L P Ln_528 Pn_529 := hA_505.trans hwk_532
      have hA_556 : KEG [la, lb, lr, lp] L6 P6 Ln_528 Pn_529 := hA_506.trans hwk_532
      have hA_557 : KEG [la, lb, lr, lp] L29 P29 Ln_528 Pn_529 := hA_507.trans hwk_532
      have hA_558 : KEG [la, lb, lr, lp] L69 P69 Ln_528 Pn_529 := (KEG.refl [la, lb, lr, lp] L69 P69).trans hwk_532
      have hza := hu_530.2.1
      have : Pn_529.lz la = P69.lz la := hkl_534.1
      have : Pn_529.lz lb = P69.lz lb := hkl_535.1
      have : Pn_529.lz lr = P69.lz lr := hkl_536.1
      have : Pn_529.lz lp = P69.lz lp := hkl_537.1
      have hek_559 : HID (Pn_529.ek la = 12) := (by rw [hwk_532.ek hq_499.1 hq_499.2 (by decide)]; exact hek_508.out)
      have how_560 : HID (Pn_529.ow la = la) := ((hwk_532.1 la hq_499.1 (by rw [hq_499.2]; decide)).2.2.2.1 hq_499.2 how_509.out).1
      have hek_561 : HID (Pn_529.ek lb = 12) := (by rw [hwk_532.ek hq_500.1 hq_500.2 (by decide)]; exact hek_510.out)
      have how_562 : HID (Pn_529.ow lb = lb) := ((hwk_532.1 lb hq_500.1 (by rw [hq_500.2]; decide)).2.2.2.1 hq_500.2 how_511.out).1
      have hek_563 : HID (Pn_529.ek lr = 17) := (by rw [hwk_532.ek hq_501.1 hq_501.2 (by decide)]; exact hek_512.out)
      have how_564 : HID (Pn_529.ow lr = lr) := ((hwk_532.1 lr hq_501.1 (by rw [hq_501.2]; decide)).2.2.2.1 hq_501.2 how_513.out).1
      have hek_565 : HID (Pn_529.ek lp = 15) := (by rw [hwk_532.ek hq_502.1 hq_502.2 (by decide)]; exact hek_514.out)
      have how_566 : HID (Pn_529.ow lp = lp) := ((hwk_532.1 lp hq_502.1 (by rw [hq_502.2]; decide)).2.2.2.1 hq_502.2 how_515.out).1
      have hek_567 : HID (Pn_529.ek pr_519 = 15) := (by rw [hwk_532.ek hlk_520.1 hlk_520.2.1 (by decide)]; exact hek_521.out)
      clear hfx
      have hnd_568 : Ln_528.Nodup := (by first | exact pl_nd hD | exact pl_nd (pl_leftD (pk_ascD hD)))
      have hpp_569 := PSI.putR hnd_524 hnd_568 aP69 hu_530.1 hlk_520.1 hlk_520.2.1 hu_530.2.2.2.2.2.2.2 hvv_523.1 (by omega) hu_530.2.2.2.1.2.2.1 hu_530.2.2.2.1.2.2.2 had_525 hvv_523.2
      have hps := hpp_569.1
      have hpc := hpp_569.2.1
      have hlva_570 : LVA Ln_528 Pn_529 := LVA.gl1R jv69 aP69 hu_530.1 hlk_520.1 hlk_520.2.1 hu_530.2.2.2.2.2.2.2 hpp_569.2.2
      have hlmt_571 : LMT Ln_528 Pn_529 la lb lr lp := LMT.bpI jm69 js69 hu_530.1 hlk_520.1 hlk_520.2.1 hu_530.2.2.2.2.2.2.2 (by omega) (by omega) jy69 epr_519.symm hq_503.2 (Classical.byContradiction (fun h9 => by have q9 := hsr6 (by omega); omega)) (cap823 hvv_523.1 hpp_569.2.2.1 (by rw [← epr_519.symm, jy69]; exact (jm69.2.2.2.2 (d6_2) (by omega) (by omega)).2.1) (LGW.of hu_530.1 hu_530.2.2.2.1.2.2.1 hu_530.2.2.2.1.2.2.2) (by omega))
      have hnd_572 : Ln_528.Nodup := (by first | exact pl_nd hD | exact pl_nd (pl_leftD (pk_ascD hD)))
      have htp9 := hlmt_571.topS hnd_572 (hak_533.lk (show CLF Ln_528 Pn_529 lb 12 from ⟨hq_548.1, hq_548.2, hek_561.out, how_562.out⟩)).2.2.1.1 (hak_533.lk (show CLF Ln_528 Pn_529 lr 17 from ⟨hq_549.1, hq_549.2, hek_563.out, how_564.out⟩)).2.2.1.1 (hak_533.lk (show CLF Ln_528 Pn_529 lp 15 from ⟨hq_550.1, hq_550.2, hek_565.out, how_566.out⟩)).2.2.1.1
      have htq9 := hlmt_571.topC hnd_572 (hak_533.lk (show CLF Ln_528 Pn_529 lb 12 from ⟨hq_548.1, hq_548.2, hek_561.out, how_562.out⟩)).2.2.1.1 (hak_533.lk (show CLF Ln_528 Pn_529 lr 17 from ⟨hq_549.1, hq_549.2, hek_563.out, how_564.out⟩)).2.2.1.1 (hak_533.lk (show CLF Ln_528 Pn_529 lp 15 from ⟨hq_550.1, hq_550.2, hek_565.out, how_566.out⟩)).2.2.1.1
      refine lv_pop hx hb dX13_copy_124 rfl ?_
      refine lv_iinc (v := zI (d29_5 + 1)) (lv' := [(5, .int (zI (d29_5 + 1))), (0, .ref hc), (1, .ref hd), (2, .int (zI (d6_2))), (3, .ref xb_51), (4, .ref q_56), (6, .ref xp_445), (7, .ref q_451), (8, .int (zI (d69_8)))]) hx hb dX13_copy_125 hl (k := 5) rfl (zI_add (d29_5) (1)) (by decide) rfl (fun ls hl => ?_)
      refine lv_goto (tgt := 29) hx hb dX13_copy_128 (by decide) ?_
      exact ih29 (d29_5 + 1) z0_452 Ln_528 Pn_529 (((kc69) + (P69.gc pr_519))) (((ks69) + (P69.gx pr_519))) ls H _ (kP29.trans hA_557) hak_533 (by omega) (by omega) hlva_570 hlmt_571 (hci_539.to (by omega) (by omega)) hdl_543 hdl_544 hds_542 hal_545 (by omega) ⟨((jl69.1.to2 (by omega) rfl).to (by omega)), ((jl69.2.1.to2 (by omega) rfl).to (by omega)), ((jl69.2.2.to2 (by omega) rfl).to (by omega))⟩ (hcu_540.to (by omega) (by omega)) hyb_541 (by omega) (mea_lt hm29 (by omega) (by omega)) (lv_sub hl [1, 2, 3, 4, 5, 0] rfl) hP hD hS
    · have yb76 : ¬ (PS.pn xp_445 : Int) ≤ (d69_8 : Int) := fun q => b76 ((zI_le (a := PS.pn xp_445) (b := d69_8) (by omega) (by omega) (by omega) (by omega)).mpr q)
      refine lv_aload hx hb dX13_copy_79 (lv_at hl 7 rfl) ?_
      refine lv_aload hx hb dX13_copy_81 (lv_at hl 6 rfl) ?_
      replace hP := pk_sw hP
      replace hD := pk_swD hD
      obtain ⟨kp_573, hkp_573⟩ := pk_getA (T := va_pl L69 (pE P69)) (X := [(hd, .inr (12, [v18_0, v18_1, v18_2, v18_3, v18_4, .ref lq, v18_6])), (hc, .inr (12, [.ref lb, .ref lr, .ref lp, .int (zI (e6_1_3)), .int (zI (z0_452)), .ref la, .int (zI (z0_57))]))]) (f := pE PS) hms9
      rw [pE_phi hks9] at hkp_573
      refine va_get (D := (dC, dI)) (ci := 20) (v := .ref (PS.pp xp_445)) (C := RX15) (T := TX15) (N := 6) hx hb hts mem_P13_copyQ_10 hown hK hP kp_573 hkp_573 rfl 2 (by decide) (ow (k := 42) rfl) (fun _ h9 => h9) rfl dX13_copy_83 ?_
      obtain ⟨pr_574, epr_574⟩ : ∃ q9 : Nat, q9 = PS.pp xp_445 := ⟨_, rfl⟩
      rw [← epr_574]
      have hpk_575 := hX_s.pk9 hms9 hks9
      have hopr_574 : pr_574 ∈ LS ∧ PS.kd pr_574 = 40 ∧ PS.ac pr_574 = cI ∧ PS.ow pr_574 = xp_445 := (by rw [epr_574]; exact hpk_575.2.1)
      have hnpr_574 : PS.an pr_574 = PS.an (PS.pp xp_445) := (by rw [epr_574])
      have hipr_574 : PS.ia pr_574 = PS.ia (PS.pp xp_445) := (by rw [epr_574])
      replace hP := pk_sw hP
      replace hD := pk_swD hD
      refine lv_iload hx hb dX13_copy_86 (lv_at hl 8 rfl) ?_
      replace hP := pk_sw hP
      replace hD := pk_swD hD
      obtain ⟨kp_576, hkp_576⟩ := pk_getA (T := va_pl L69 (pE P69)) (X := [(hd, .inr (12, [v18_0, v18_1, v18_2, v18_3, v18_4, .ref lq, v18_6])), (hc, .inr (12, [.ref lb, .ref lr, .ref lp, .int (zI (e6_1_3)), .int (zI (z0_452)), .ref la, .int (zI (z0_57))]))]) (f := pE PS) hopr_574.1
      rw [pE_n40 hopr_574.2.1, hopr_574.2.2.1] at hkp_576
      refine va_iald hx hb hK hP kp_576 1 hkp_576 rfl (zI_in (a := d69_8) (n := PS.an pr_574) (by omega) (by omega) (by omega)) dX13_copy_88 ?_
      refine lv_topi (fun z ez => ?_)
      obtain rfl : z = zI (PS.ia pr_574 (d69_8)) := ez.trans (zI_ld (PS.ia pr_574) (by omega) (by omega))
      have hef9 := hpk_575.ef (i := d69_8) (by omega) (by omega)
      unfold PEF EF at hef9
      have : PS.ia pr_574 (d69_8) = PS.ia (PS.pp xp_445) (d69_8) := (by rw [hipr_574])
      have hb9 := hpb_448 (d69_8) (by omega) (by omega)
      replace hP := pk_sw hP
      replace hD := pk_swD hD
      refine lv_aload hx hb dX13_copy_89 (lv_at hl 6 rfl) ?_
      replace hP := pk_sw hP
      replace hD := pk_swD hD
      obtain ⟨kp_577, hkp_577⟩ := pk_getA (T := va_pl L69 (pE P69)) (X := [(hd, .inr (12, [v18_0, v18_1, v18_2, v18_3, v18_4, .ref lq, v18_6])), (hc, .inr (12, [.ref lb, .ref lr, .ref lp, .int (zI (e6_1_3)), .int (zI (z0_452)), .ref la, .int (zI (z0_57))]))]) (f := pE PS) hms9
      rw [pE_phi hks9] at hkp_577
      refine va_get (D := (dC, dI)) (ci := 20) (v := .ref (PS.pu xp_445)) (C := RX15) (T := TX15) (N := 6) hx hb hts mem_P13_copyQ_10 hown hK hP kp_577 hkp_577 rfl 3 (by decide) (ow (k := 43) rfl) (fun _ h9 => h9) rfl dX13_copy_91 ?_
      obtain ⟨pr_578, epr_578⟩ : ∃ q9 : Nat, q9 = PS.pu xp_445 := ⟨_, rfl⟩
      rw [← epr_578]
      have hpk_579 := hX_s.pk9 hms9 hks9
      have hopr_578 : pr_578 ∈ LS ∧ PS.kd pr_578 = 41 ∧ PS.ac pr_578 = cI ∧ PS.ow pr_578 = xp_445 := (by rw [epr_578]; exact hpk_579.2.2.1)
      have hnpr_578 : PS.an pr_578 = PS.an (PS.pu xp_445) := (by rw [epr_578])
      have hipr_578 : PS.ia pr_578 = PS.ia (PS.pu xp_445) := (by rw [epr_578])
      replace hP := pk_sw hP
      replace hD := pk_swD hD
      refine lv_iload hx hb dX13_copy_94 (lv_at hl 8 rfl) ?_
      replace hP := pk_sw hP
      replace hD := pk_swD hD
      obtain ⟨kp_580, hkp_580⟩ := pk_getA (T := va_pl L69 (pE P69)) (X := [(hd, .inr (12, [v18_0, v18_1, v18_2, v18_3, v18_4, .ref lq, v18_6])), (hc, .inr (12, [.ref lb, .ref lr, .ref lp, .int (zI (e6_1_3)), .int (zI (z0_452)), .ref la, .int (zI (z0_57))]))]) (f := pE PS) hopr_578.1
      rw [pE_n41 hopr_578.2.1, hopr_578.2.2.1] at hkp_580
      refine va_iald hx hb hK hP kp_580 1 hkp_580 rfl (zI_in (a := d69_8) (n := PS.an pr_578) (by omega) (by omega) (by omega)) dX13_copy_96 ?_
      refine lv_topi (fun z ez => ?_)
      obtain rfl : z = zI (PS.ia pr_578 (d69_8)) := ez.trans (zI_ld (PS.ia pr_578) (by omega) (by omega))
      have hef9 := hpk_579.ef (i := d69_8) (by omega) (by omega)
      unfold PEF EF at hef9
      have : PS.ia pr_578 (d69_8) = PS.ia (PS.pu xp_445) (d69_8) := (by rw [hipr_578])
      replace hP := pk_sw hP
      replace hD := pk_swD hD
      refine lv_aload hx hb dX13_copy_97 (lv_at hl 6 rfl) ?_
      replace hP := pk_sw hP
      replace hD := pk_swD hD
      obtain ⟨kp_581, hkp_581⟩ := pk_getA (T := va_pl L69 (pE P69)) (X := [(hd, .inr (12, [v18_0, v18_1, v18_2, v18_3, v18_4, .ref lq, v18_6])), (hc, .inr (12, [.ref lb, .ref lr, .ref lp, .int (zI (e6_1_3)), .int (zI (z0_452)), .ref la, .int (zI (z0_57))]))]) (f := pE PS) hms9
      rw [pE_phi hks9] at hkp_581
      refine va_get (D := (dC, dI)) (ci := 20) (v := .ref (PS.pr xp_445)) (C := RX15) (T := TX15) (N := 6) hx hb hts mem_P13_copyQ_10 hown hK hP kp_581 hkp_581 rfl 4 (by decide) (ow (k := 44) rfl) (fun _ h9 => h9) rfl dX13_copy_99 ?_
      obtain ⟨pr_582, epr_582⟩ : ∃ q9 : Nat, q9 = PS.pr xp_445 := ⟨_, rfl⟩
      rw [← epr_582]
      have hpk_583 := hX_s.pk9 hms9 hks9
      have hopr_582 : pr_582 ∈ LS ∧ PS.kd pr_582 = 42 ∧ PS.ac pr_582 = cZ ∧ PS.ow pr_582 = xp_445 := (by rw [epr_582]; exact hpk_583.2.2.2.1)
      have hnpr_582 : PS.an pr_582 = PS.an (PS.pr xp_445) := (by rw [epr_582])
      have hipr_582 : PS.ia pr_582 = PS.ia (PS.pr xp_445) := (by rw [epr_582])
      replace hP := pk_sw hP
      replace hD := pk_swD hD
      refine lv_iload hx hb dX13_copy_102 (lv_at hl 8 rfl) ?_
      replace hP := pk_sw hP
      replace hD := pk_swD hD
      obtain ⟨kp_584, hkp_584⟩ := pk_getA (T := va_pl L69 (pE P69)) (X := [(hd, .inr (12, [v18_0, v18_1, v18_2, v18_3, v18_4, .ref lq, v18_6])), (hc, .inr (12, [.ref lb, .ref lr, .ref lp, .int (zI (e6_1_3)), .int (zI (z0_452)), .ref la, .int (zI (z0_57))]))]) (f := pE PS) hopr_582.1
      rw [pE_n42 hopr_582.2.1, hopr_582.2.2.1] at hkp_584
      refine va_zald hx hb hK hP kp_584 2 hkp_584 rfl (zI_in (a := d69_8) (n := PS.an pr_582) (by omega) (by omega) (by omega)) dX13_copy_104 ?_
      refine lv_topi (fun z ez => ?_)
      obtain rfl : z = zI (PS.ia pr_582 (d69_8)) := ez.trans (zI_ld (PS.ia pr_582) (by omega) (by omega))
      have hef9 := hpk_583.ef (i := d69_8) (by omega) (by omega)
      unfold PEF EF at hef9
      have : PS.ia pr_582 (d69_8) = PS.ia (PS.pr xp_445) (d69_8) := (by rw [hipr_582])
      replace hP := pk_sw hP
      replace hD := pk_swD hD
      have hPT := pk_asc hP
      have hDT := pk_ascD hD
      replace hP := pl_left hPT
      replace hD := pl_leftD hDT
      have hX_p := (aP69.pikR hq_504.1 hq_504.2).cph jh69 (by omega) (hX_s.pk9 hms9 hks9)
      have hX_o : PS.ia pr_582 (d69_8) = 0 ∨ (0 ≤ PS.ia pr_578 (d69_8) ∧ PS.ia pr_578 (d69_8) ≤ 1001) := (by omega)
      have hnd_585 : L69.Nodup := (by first | exact pl_nd hD | exact pl_nd (pl_leftD (pk_ascD hD)))
      have hPc := hP.part (X := [(hd, .inr (12, [v18_0, v18_1, v18_2, v18_3, v18_4, .ref lq, v18_6])), (hc, .inr (12, [.ref lb, .ref lr, .ref lp, .int (zI (e6_1_3)), .int (zI (z0_452)), .ref la, .int (zI (z0_57))]))]) (cx := []) (pl := va_pl L69 (pE P69)) [] rfl
      have hDc := hD.part (X := [(hd, .inr (12, [v18_0, v18_1, v18_2, v18_3, v18_4, .ref lq, v18_6])), (hc, .inr (12, [.ref lb, .ref lr, .ref lp, .int (zI (e6_1_3)), .int (zI (z0_452)), .ref la, .int (zI (z0_57))]))]) (cx := []) (pl := va_pl L69 (pE P69)) [] (by decide) rfl
      have hKc := hK.sub (tys' := [(cO, .object "java/lang/Object"), (cI, .int), (cZ, .boolean)]) [0, 1, 2] rfl
      have hFc := va_freeP (X := [(hd, .inr (12, [v18_0, v18_1, v18_2, v18_3, v18_4, .ref lq, v18_6])), (hc, .inr (12, [.ref lb, .ref lr, .ref lp, .int (zI (e6_1_3)), .int (zI (z0_452)), .ref la, .int (zI (z0_57))]))]) (cx := []) (pl := va_pl L69 (pE P69)) hD hS hA [] rfl
      refine W_knowS (fun hrmA => ?_)
      refine va_callv (va_runV (As := [.int (zI (PS.ia pr_574 (d69_8))), .int (zI (PS.ia pr_578 (d69_8))), .int (zI (PS.ia pr_582 (d69_8)))]) (rest := []) ⟨hx, hb, hml, hown, hts⟩ (c_PP_addQ l dC dI cO cI cZ L69 P69 q_451 (PS.ia pr_574 (d69_8)) (PS.ia pr_578 (d69_8)) (PS.ia pr_582 (d69_8)) hX_p (by omega) hX_o H.size H) (cwV 3 hts g_P13_copyQ_PP_addQ rfl rfl rfl (by decide +kernel) ⟨(Nat.le_of_ble_eq_true rfl), (Nat.le_of_ble_eq_true rfl)⟩) ⟨fun a U g mk q => by obtain ⟨q0, q1, qP, qK, qD, e0⟩ := q; exact ⟨q0, q1, qP, va_K.moved (u := U) (U := U.calling g mk a) (Vm.Alike.refl U.vm) qK, qD, e0⟩, recv_15 hKc hPc hq_504.1 hq_504.2, fun U hU hW => ⟨rfl, by rw [hU], by rw [hU]; exact hPc, va_K.moved hW.alike hKc, hDc.weaken (fun _ _ _ _ => trivial), hU⟩⟩ rfl rfl hl.1 rfl (lv_room (Nat.le_of_ble_eq_true rfl)) dX13_copy_105 ⟨(show (kc69) + 3 ≤ (2000 + (8735704 - PSI wCE L P) / 40).toNat from (by omega)), (show (ks69) + 3000 ≤ (1990000 - PSI wSL L P).toNat from (by omega))⟩) hS (fun q _ h => hFc q h) hFc (fun  u t H1 locs ht hvm hw hB hz1 hk1 hS => ?_)
      obtain ⟨Ln_586, Pn_587, kc_588, ks_589, hxt_589, hP1, hK1, hD1⟩ := hB
      rw [ht] at hP1
      have hK1 := va_K.moved hvm.symm hK1
      obtain ⟨hP, hD⟩ := va_joinPT (X := [(hd, .inr (12, [v18_0, v18_1, v18_2, v18_3, v18_4, .ref lq, v18_6])), (hc, .inr (12, [.ref lb, .ref lr, .ref lp, .int (zI (e6_1_3)), .int (zI (z0_452)), .ref la, .int (zI (z0_57))]))]) (cx := []) (wr := [(hd, .inr (12, [v18_0, v18_1, v18_2, v18_3, v18_4, .ref lq, v18_6])), (hc, .inr (12, [.ref lb, .ref lr, .ref lp, .int (zI (e6_1_3)), .int (zI (z0_452)), .ref la, .int (zI (z0_57))]))]) (rx := []) (pl := va_pl L69 (pE P69)) (pl1 := va_pl Ln_586 (pE Pn_587)) (T := va_pl LS (pE PS)) hPT hDT [] [0, 1] rfl rfl (by decide) (by decide) hk1 hFc hP1 hD1
      replace hP := pk_back hP
      replace hD := pk_backD hD
      replace hK := (hK.sub (tys' := []) [] rfl).app hK1
      have hrmC := hxt_589.1.1
      rw [ht] at hrmC
      refine W_tightS (hrmA.trans hrmC) ?_
      have hrb := hxt_589.1.2
      generalize H1 = H at hP hS ⊢
      clear hPc hDc hKc hFc hk1 hz1 hPT hDT
      replace hP : va_P (dC, dI) vwQ ([(hd, .inr (12, [v18_0, v18_1, v18_2, v18_3, v18_4, .ref lq, v18_6])), (hc, .inr (12, [.ref lb, .ref lr, .ref lp, .int (zI (e6_1_3)), .int (zI (z0_452)), .ref la, .int (zI (z0_57))]))] ++ (va_pl Ln_586 (pE Pn_587) ++ va_pl LS (pE PS))) H := hP
      replace hD : va_D A ([(hd, .inr (12, [v18_0, v18_1, v18_2, v18_3, v18_4, .ref lq, v18_6])), (hc, .inr (12, [.ref lb, .ref lr, .ref lp, .int (zI (e6_1_3)), .int (zI (z0_452)), .ref la, .int (zI (z0_57))]))] ++ (va_pl Ln_586 (pE Pn_587) ++ va_pl LS (pE PS))) := hD
      replace hK : va_K (dC, dI) vwQ [(cO, .object "java/lang/Object"), (cI, .int), (cZ, .boolean)] s := hK
      refine W.widen (k := ((kc69) + kc_588)) (n := ((ks69) + ks_589)) (by omega) (by omega) ?_
      have hu_590 := HID.mk (hxt_589.2)
      replace hxt_589 := HID.mk hxt_589
      have hk0_591 := PXC.kegR (E := []) aP69 hu_590.1 hq_504.2
      have hwk_592 := PXC.kegR (E := [la, lb, lr, lp]) aP69 hu_590.1 hq_504.2
      have hkl_593 := hk0_591.lst (show CLF L69 P69 la 12 from ⟨hq_499.1, hq_499.2, hek_508.out, how_509.out⟩) (by simp)
      have hkl_594 := hk0_591.lst (show CLF L69 P69 lb 12 from ⟨hq_500.1, hq_500.2, hek_510.out, how_511.out⟩) (by simp)
      have hkl_595 := hk0_591.lst (show CLF L69 P69 lr 17 from ⟨hq_501.1, hq_501.2, hek_512.out, how_513.out⟩) (by simp)
      have hkl_596 := hk0_591.lst (show CLF L69 P69 lp 15 from ⟨hq_502.1, hq_502.2, hek_514.out, how_515.out⟩) (by simp)
      have hc8_598 : CH8 (fun z => z = q_451 ∨ z = lp ∨ (P69.kd z = 31 ∧ P69.ow z = lp) ∨ (P69.ow z = q_451 ∧ 40 ≤ P69.kd z)) L69 P69 Ln_586 Pn_587 := hu_590.1.2.1.c8.wk (fun z _ q9 => by rcases q9 with q9 | q9; exact Or.inl q9; exact Or.inr (Or.inr (Or.inr ⟨q9.1, q9.2⟩)))
      have hns_597 := hns_phiR (i := d6_2 + 1) (n := OFS 2 PS lq (d6_2)) (p := OFS 1 PS lq (d6_2) + d29_5) (x := q_451) aP69 (aP69.lk (show CLF L69 P69 lb 12 from ⟨hq_500.1, hq_500.2, hek_510.out, how_511.out⟩)) (aP69.lk (show CLF L69 P69 lr 17 from ⟨hq_501.1, hq_501.2, hek_512.out, how_513.out⟩)) hek_512.out (aP69.lk (show CLF L69 P69 lp 15 from ⟨hq_502.1, hq_502.2, hek_514.out, how_515.out⟩)) how_515.out (by omega) (by omega) (by omega) (fun _ => ⟨hq_504.2, fun k9 k0 k1 e9 => jp69 k9 (OFS 1 PS lq (d6_2) + d29_5) k0 (by omega) (by omega) (by rw [← jx69]; exact e9.symm)⟩) (fun k9 k0 k1 e9 => jp69 k9 (OFS 1 PS lq (d6_2) + d29_5) k0 (by omega) (by omega) (by rw [← jx69]; exact e9))
      have hci_599 : CPI Pn_587 PS lb lr lp lq (d6_2) (OFS 2 PS lq (d6_2)) (OFS 1 PS lq (d6_2) + d29_5) := jc69.frR aP69 hc8_598 (aP69.lk (show CLF L69 P69 lb 12 from ⟨hq_500.1, hq_500.2, hek_510.out, how_511.out⟩)) (aP69.lk (show CLF L69 P69 lr 17 from ⟨hq_501.1, hq_501.2, hek_512.out, how_513.out⟩)) (aP69.lk (show CLF L69 P69 lp 15 from ⟨hq_502.1, hq_502.2, hek_514.out, how_515.out⟩)) (by omega) (by omega) (by omega) hLn1 hLn2 (by omega) (fun k9 k0 k1 => hkl_594.2 k9 k0 (by omega)) (fun k9 k0 k1 => hkl_595.2 k9 k0 (by omega)) (fun k9 k0 k1 => hkl_596.2 k9 k0 (by omega)) (hns_597.wk (by omega) (by omega) (by omega))
      have hcu_600 : CUR Pn_587 PS lb lr lp lq (d6_2) (d29_5) (0) := ju69.frR aP69 hc8_598 (show CLF L69 P69 lb 12 from ⟨hq_500.1, hq_500.2, hek_510.out, how_511.out⟩) (by omega) (by omega) (by omega) (by omega) (hkl_594.2 (d6_2) (by omega) (by omega)) (fun k9 k0 k1 => hkl_595.2 k9 k0 (by omega)) (fun k9 k0 k1 => hkl_596.2 k9 k0 (by omega)) (hns_597.1 (d6_2) (by omega) (by omega)).1 (hns_597.1 (d6_2) (by omega) (by omega)).2.2.1 (hns_597.1 (d6_2) (by omega) (by omega)).2.2.2
      have hyb_601 : q_56 = Pn_587.el lb (d6_2) := jy69.trans (hkl_594.2 (d6_2) (by omega) (by omega)).symm
      have hcp_602 : CPH Pn_587 q_451 PS xp_445 (d69_8 + 1) := jh69.add (by omega) hu_590.2.2.2 hu_590.2.2.1.1 hu_590.2.2.1.2.1 (by omega) (by omega) (by omega)
      have hds_603 := js69.kegR aP69 ⟨hq_500.1, hq_500.2, hek_510.out, how_511.out⟩ hk0_591 (by simp)
      have hdl_604 := jr69.same hkl_595.1 hkl_595.2
      have hdl_605 := jp69.same hkl_596.1 hkl_596.2
      have hal_606 : ∀ b : Int, 0 ≤ b → b < Pn_587.lz la → Pn_587.el la b = Pn_587.el lb b := (fun b b0 b1 => by rw [hkl_593.1] at b1; rw [hkl_593.2 b b0 b1, hkl_594.2 b b0 (by omega)]; exact ja69 b b0 b1)
      have hxi_607 : q_451 = Pn_587.el lp (OFS 1 PS lq (d6_2) + d29_5) := jx69.trans (hkl_596.2 (OFS 1 PS lq (d6_2) + d29_5) (by omega) (by omega)).symm
      have hq_608 : HID (la ∈ Ln_586 ∧ Pn_587.kd la = 30) := hwk_592.mem hq_499.1 hq_499.2 (by decide)
      have hq_609 : HID (lb ∈ Ln_586 ∧ Pn_587.kd lb = 30) := hwk_592.mem hq_500.1 hq_500.2 (by decide)
      have hq_610 : HID (lr ∈ Ln_586 ∧ Pn_587.kd lr = 30) := hwk_592.mem hq_501.1 hq_501.2 (by decide)
      have hq_611 : HID (lp ∈ Ln_586 ∧ Pn_587.kd lp = 30) := hwk_592.mem hq_502.1 hq_502.2 (by decide)
      have hq_612 : HID (q_56 ∈ Ln_586 ∧ Pn_587.kd q_56 = 12) := hwk_592.mem hq_503.1 hq_503.2 (by decide)
      have hq_613 : HID (q_451 ∈ Ln_586 ∧ Pn_587.kd q_451 = 15) := hwk_592.mem hq_504.1 hq_504.2 (by decide)
      have hA_614 : KEG [la, lb, lr, lp] L P Ln_586 Pn_587 := hA_505.trans hwk_592
      have hA_615 : KEG [la, lb, lr, lp] L6 P6 Ln_586 Pn_587 := hA_506.trans hwk_592
      have hA_616 : KEG [la, lb, lr, lp] L29 P29 Ln_586 Pn_587 := hA_507.trans hwk_592
      have hA_617 : KEG [la, lb, lr, lp] L69 P69 Ln_586 Pn_587 := (KEG.refl [la, lb, lr, lp] L69 P69).trans hwk_592
      have := hu_590.2.2.1
      have : Pn_587.lz la = P69.lz la := hkl_593.1
      have : Pn_587.lz lb = P69.lz lb := hkl_594.1
      have : Pn_587.lz lr = P69.lz lr := hkl_595.1
      have : Pn_587.lz lp = P69.lz lp := hkl_596.1
      have hek_618 : HID (Pn_587.ek la = 12) := (by rw [hwk_592.ek hq_499.1 hq_499.2 (by decide)]; exact hek_508.out)
      have how_619 : HID (Pn_587.ow la = la) := ((hwk_592.1 la hq_499.1 (by rw [hq_499.2]; decide)).2.2.2.1 hq_499.2 how_509.out).1
      have hek_620 : HID (Pn_587.ek lb = 12) := (by rw [hwk_592.ek hq_500.1 hq_500.2 (by decide)]; exact hek_510.out)
      have how_621 : HID (Pn_587.ow lb = lb) := ((hwk_592.1 lb hq_500.1 (by rw [hq_500.2]; decide)).2.2.2.1 hq_500.2 how_511.out).1
      have hek_622 : HID (Pn_587.ek lr = 17) := (by rw [hwk_592.ek hq_501.1 hq_501.2 (by decide)]; exact hek_512.out)
      have how_623 : HID (Pn_587.ow lr = lr) := ((hwk_592.1 lr hq_501.1 (by rw [hq_501.2]; decide)).2.2.2.1 hq_501.2 how_513.out).1
      have hek_624 : HID (Pn_587.ek lp = 15) := (by rw [hwk_592.ek hq_502.1 hq_502.2 (by decide)]; exact hek_514.out)
      have how_625 : HID (Pn_587.ow lp = lp) := ((hwk_592.1 lp hq_502.1 (by rw [hq_502.2]; decide)).2.2.2.1 hq_502.2 how_515.out).1
      have hnd_626 : Ln_586.Nodup := (by first | exact pl_nd hD | exact pl_nd (pl_leftD (pk_ascD hD)))
      have hga9 := hu_590.2.2.1.2.2.2
      have ha49 := (aP69.pikR hq_504.1 hq_504.2).2.2.2.2.1.2.2.2.2.2.2.2.2.2.2
      have hgb9 := hga9.imp id (fun q9 => q9.1)
      have hpS8 := PSI.pxcR (w := wSL) hnd_585 hnd_626 aP69 hu_590.1 hq_504.1 hq_504.2 hu_590.1.2.2
      have hpC8 := PSI.pxcR (w := wCE) hnd_585 hnd_626 aP69 hu_590.1 hq_504.1 hq_504.2 hu_590.1.2.2
      have hpS9 := pxc_sl (ks := (ks_589 : Int)) hpS8 ha49 hgb9 (by omega)
      have hpC9 := pxc_ce (kc := (kc_588 : Int)) hpC8 ha49 hgb9 (by omega) (by omega)
      have hlva_627 : LVA Ln_586 Pn_587 := LVA.pxcR jv69 aP69 hu_590.1 hq_504.2 hu_590.1.2.2
      have hlmt_628 : LMT Ln_586 Pn_587 la lb lr lp := LMT.cadd jm69 hu_590.1 hq_504.1 hq_504.2 hu_590.2.1 hga9 (by omega)
      refine lv_iinc (v := zI (d69_8 + 1)) (lv' := [(8, .int (zI (d69_8 + 1))), (0, .ref hc), (1, .ref hd), (2, .int (zI (d6_2))), (3, .ref xb_51), (4, .ref q_56), (5, .int (zI (d29_5))), (6, .ref xp_445), (7, .ref q_451)]) hx hb dX13_copy_108 hl (k := 8) rfl (zI_add (d69_8) (1)) (by decide) rfl (fun ls hl => ?_)
      refine lv_goto (tgt := 69) hx hb dX13_copy_111 (by decide) ?_
      exact ih69 (d69_8 + 1) Ln_586 Pn_587 (((kc69) + kc_588)) (((ks69) + ks_589)) ls H _ (kP69.trans hA_617) (aP69.pxc hu_590.1 hq_504.2 hu_590.2.1.r) (by omega) hlva_627 hlmt_628 (hci_599.to (by omega) (by omega)) hdl_604 hdl_605 hds_603 hal_606 (by omega) ⟨((jl69.1.to2 (by omega) rfl).to (by omega)), ((jl69.2.1.to2 (by omega) rfl).to (by omega)), ((jl69.2.2.to2 (by omega) rfl).to (by omega))⟩ (hcu_600.to (by omega) (by omega)) hyb_601 hxi_607 hcp_602 (by omega) (mea_lt hm69 (by omega) (by omega)) (lv_sub hl [1, 2, 3, 4, 5, 6, 7, 8, 0] rfl) hP hD hS
