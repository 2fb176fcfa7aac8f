set_option maxHeartbeats 40000000 in
set_option maxRecDepth 100000 in
theorem key29_P13_copyQ (l : Launch) (dC : Nat → ClassId) (dI : Nat → Nat → Nat) (hd : Nat) (v18_0 : Value) (v18_1 : Value) (v18_2 : Value) (v18_3 : Value) (v18_4 : Value) (v18_6 : Value) (lq : Nat) (cI : ClassId) (cZ : ClassId) (hc : Nat) (z13_rowN : Int) (z13_phiN : Int) (z13_made : Int) (la : Nat) (lb : Nat) (lr : Nat) (lp : Nat) (cO : ClassId) (L : List Nat) (P : PO) (sx_ed : Nat) (LS : List Nat) (PS : PO) (hNz13_rowN : 0 ≤ z13_rowN ∧ z13_rowN ≤ 19000) (hNz13_phiN : 0 ≤ z13_phiN ∧ z13_phiN ≤ 19000) (hNz13_made : 0 ≤ z13_made ∧ z13_made ≤ 9000) (hX_g : GLR L P cO cI cZ sx_ed) (hX_la : la ∈ L ∧ P.kd la = 30 ∧ P.ek la = 12 ∧ P.ow la = la) (hX_lb : lb ∈ L ∧ P.kd lb = 30 ∧ P.ek lb = 12 ∧ P.ow lb = lb) (hX_lr : lr ∈ L ∧ P.kd lr = 30 ∧ P.ek lr = 17 ∧ P.ow lr = lr) (hX_lp : lp ∈ L ∧ P.kd lp = 30 ∧ P.ek lp = 15 ∧ P.ow lp = lp) (hX_ab : la ≠ lb) (hX_dt : DST P lb) (hX_dr : DSL P lr) (hX_dp : DSL P lp) (hX_s : ALP LS PS cO cI cZ sx_ed lq) (hNr : P.lz lb ≤ 9000 ∧ P.lz lr ≤ 19000 ∧ P.lz lp ≤ 19000 ∧ PS.tot 2 lq ≤ 18000 ∧ PS.tot 1 lq ≤ 18000) (hX_Vc : LVA L P) (hX_m : LMT L P la lb lr lp) (hX_n : SRC9 PS lq) (HU : Heap) (sx_mi : Nat) (p : _) (e : _) (s : _) (m : _) (below : _) (meth : _) (c : _) (s₁ : _) (B : BodyLoose p l yX13_copy (headSpec v_P13_copyQ (({ frames := 8, cells := ((2000 + (8735704 - PSI wCE L P) / 40).toNat), slots := ((1990000 - PSI wSL L P).toNat), locals := 213 }))) cX13_copy 9 (none) e s m (([.ref hc, .ref hd] : List Value).toArray) below meth c s₁) (hml : c.maxLocals = 9) (A : Nat → Prop) (hA : ∀ q : Nat, s.heap.size ≤ q → A q) (hp0 : s.heap = HU) (hp1 : va_Nw (.castable "SsaForgeModel$Block" "SsaForgeModel$Block") s) (hp2 : va_Nw (.castable "SsaForgeModel$Row" "java/lang/Object") s) (hp3 : va_Nw (.castable "SsaForgeModel$Phi" "java/lang/Object") s) (hp4 : va_Nw (.castable "SsaForgeModel$Block" "java/lang/Object") s) (hp5 : va_Dc s) (hp6 : va_Mi "[Ljava/lang/Object;" sx_mi s) (hp7 : va_AO "java/lang/Object" s) (hp8 : va_T (.object "java/lang/Object") sx_ed 0 (fun _ => .null) A s s.heap) (hp9 : va_Z "java/util/ArrayList" "DEFAULTCAPACITY_EMPTY_ELEMENTDATA" "[Ljava/lang/Object;" (.ref sx_ed) A s s.heap) (hp10 : va_Nw (.methodLinkNest RX12 23 yX17_init "SsaForgeModel") s) (hp11 : va_Nw (.methodLinkNest RX13 44 yX12_init "SsaForgeModel") s) (hp12 : va_Nw (.castable "SsaForgeModel$Row" "SsaForgeModel$Row") s) (hp13 : va_Nw (.methodLinkNest RX13 57 yX17_init "SsaForgeModel") s) (hp14 : va_Nw (.castable "SsaForgeModel$Phi" "SsaForgeModel$Phi") s) (hp15 : va_Nw (.methodLinkNest RX13 79 yX15_init "SsaForgeModel") s) (Q : State → Prop) (hQ : Q = MQ below (va_Qv (fun _ : Unit => True) (fun (_ : Unit) (t : State) => ∃ (z0_9 : Int) (z1_9 : Int) (z2_9 : Int) (Ln_9 : List Nat) (Pn_9 : PO) (kc_9 : Nat) (ks_9 : Nat), ((RM HU t.heap kc_9 ks_9 ∧ ((ks_9 : Int) ≤ PSI wSL Ln_9 Pn_9 - PSI wSL L P ∧ 40 * (kc_9 : Int) ≤ PSI wCE Ln_9 Pn_9 - PSI wCE L P)) ∧ ((0 ≤ z0_9 ∧ z0_9 ≤ 19001) ∧ (0 ≤ z1_9 ∧ z1_9 ≤ 19001) ∧ (0 ≤ z2_9 ∧ z2_9 ≤ 9001) ∧ (KEG [la, lb, lr, lp] L P Ln_9 Pn_9 ∧ GLR Ln_9 Pn_9 cO cI cZ sx_ed ∧ CPI Pn_9 PS lb lr lp lq (PS.lz lq) (PS.tot 2 lq) (PS.tot 1 lq) ∧ (DST Pn_9 lb ∧ DSL Pn_9 lr ∧ DSL Pn_9 lp) ∧ (LVA Ln_9 Pn_9 ∧ LMT Ln_9 Pn_9 la lb lr lp ∧ Pn_9.lz la ≤ Pn_9.lz lb) ∧ (Pn_9.lz la = PS.lz lq ∧ ∀ b : Int, 0 ≤ b → b < Pn_9.lz la → Pn_9.el la b = Pn_9.el lb b)))) ∧ va_P (dC, dI) vwQ ([(hd, .inr (12, [v18_0, v18_1, v18_2, v18_3, v18_4, .ref lq, v18_6])), (hc, .inr (12, [.ref lb, .ref lr, .ref lp, .int (zI (z0_9)), .int (zI (z1_9)), .ref la, .int (zI (z2_9))]))] ++ (va_pl Ln_9 (pE Pn_9) ++ va_pl LS (pE PS))) t.heap ∧ va_K (dC, dI) vwQ [(cO, .object "java/lang/Object"), (cI, .int), (cZ, .boolean)] t ∧ va_D A ([(hd, .inr (12, [v18_0, v18_1, v18_2, v18_3, v18_4, .ref lq, v18_6])), (hc, .inr (12, [.ref lb, .ref lr, .ref lp, .int (zI (z0_9)), .int (zI (z1_9)), .ref la, .int (zI (z2_9))]))] ++ (va_pl Ln_9 (pE Pn_9) ++ va_pl LS (pE PS)))) A) (([.ref hc, .ref hd] : List Value).toArray) s ((2000 + (8735704 - PSI wCE L P) / 40).toNat) ((1990000 - PSI wSL L P).toNat) A) (Pn_4 : PO) (n6 : Nat) (d6_2 : Int) (e6_1_3 : Int) (e6_1_4 : Int) (e6_1_6 : Int) (L6 : List Nat) (P6 : PO) (kc6 : Nat) (ks6 : Nat) (xb_51 : Nat) (q_56 : Nat) (z0_57 : Int) (Ln_58 : List Nat) (Pn_59 : PO) (hot2 : OFS 2 PS lq (PS.lz lq) = PS.tot 2 lq) (ih6 : ∀ (d6_2 : Int) (e6_1_3 : Int) (e6_1_4 : Int) (e6_1_6 : Int) (L6 : List Nat) (P6 : PO) (kc6 : Nat) (ks6 : Nat) (ls : Array Slot) (H : Heap) (locs : List Loc), (KEG [la, lb, lr, lp] L Pn_4 L6 P6) → (GLR L6 P6 cO cI cZ sx_ed) → (0 ≤ d6_2 ∧ d6_2 ≤ PS.lz lq) → (0 ≤ e6_1_3 ∧ e6_1_3 ≤ 19001) → (0 ≤ e6_1_4 ∧ e6_1_4 ≤ 19001) → (0 ≤ e6_1_6 ∧ e6_1_6 ≤ 9001) → (LVA L6 P6) → (LMT L6 P6 la lb lr lp) → (CPI P6 PS lb lr lp lq (d6_2) (OFS 2 PS lq (d6_2)) (OFS 1 PS lq (d6_2))) → (DSL P6 lr) → (DSL P6 lp) → (DST P6 lb) → (∀ b : Int, 0 ≤ b → b < P6.lz la → P6.el la b = P6.el lb b) → (e6_1_6 = d6_2 ∧ e6_1_3 = OFS 2 PS lq (d6_2) ∧ e6_1_4 = OFS 1 PS lq (d6_2) ∧ P6.lz la = d6_2 ∧ e6_1_6 ≤ P6.lz lb ∧ e6_1_3 ≤ P6.lz lr ∧ e6_1_4 ≤ P6.lz lp) → (LGM (P6.lz lb) (P.lz lb) (e6_1_6) ∧ LGM (P6.lz lr) (P.lz lr) (e6_1_3) ∧ LGM (P6.lz lp) (P.lz lp) (e6_1_4)) → ((ks6 : Int) ≤ PSI wSL L6 P6 - PSI wSL L P ∧ 40 * (kc6 : Int) ≤ PSI wCE L6 P6 - PSI wCE L P) → ((PS.lz lq - d6_2 : Int).toNat) < n6 → lv_has ls 9 [(0, .ref hc), (1, .ref hd), (2, .int (zI (d6_2)))] → va_P (dC, dI) vwQ ([(hd, .inr (12, [v18_0, v18_1, v18_2, v18_3, v18_4, .ref lq, v18_6])), (hc, .inr (12, [.ref lb, .ref lr, .ref lp, .int (zI (e6_1_3)), .int (zI (e6_1_4)), .ref la, .int (zI (e6_1_6))]))] ++ (va_pl L6 (pE P6) ++ va_pl LS (pE PS))) H → va_D A ([(hd, .inr (12, [v18_0, v18_1, v18_2, v18_3, v18_4, .ref lq, v18_6])), (hc, .inr (12, [.ref lb, .ref lr, .ref lp, .int (zI (e6_1_3)), .int (zI (e6_1_4)), .ref la, .int (zI (e6_1_6))]))] ++ (va_pl L6 (pE P6) ++ va_pl LS (pE PS))) → va_S A s.heap H locs → W p l e (headSpec v_P13_copyQ ({ frames := 8, cells := ((2000 + (8735704 - PSI wCE L P) / 40).toNat), slots := ((1990000 - PSI wSL L P).toNat), locals := 213 })).room s m ([.ref hc, .ref hd] : List Value).toArray below meth c H locs (kc6) (ks6) Q (F0 m 6 ls [])) (kP6 : (KEG [la, lb, lr, lp] L Pn_4 L6 P6)) (jd6_2 : (0 ≤ d6_2 ∧ d6_2 ≤ PS.lz lq)) (je6_1_3 : (0 ≤ e6_1_3 ∧ e6_1_3 ≤ 19001)) (je6_1_4 : (0 ≤ e6_1_4 ∧ e6_1_4 ≤ 19001)) (je6_1_6 : (0 ≤ e6_1_6 ∧ e6_1_6 ≤ 9001)) (jn6 : (e6_1_6 = d6_2 ∧ e6_1_3 = OFS 2 PS lq (d6_2) ∧ e6_1_4 = OFS 1 PS lq (d6_2) ∧ P6.lz la = d6_2 ∧ e6_1_6 ≤ P6.lz lb ∧ e6_1_3 ≤ P6.lz lr ∧ e6_1_4 ≤ P6.lz lp)) (hkr6 : ((ks6 : Int) ≤ PSI wSL L6 P6 - PSI wSL L P ∧ 40 * (kc6 : Int) ≤ PSI wCE L6 P6 - PSI wCE L P)) (hm6 : ((PS.lz lq - d6_2 : Int).toNat) < n6 + 1) (hcx6 : OFS 1 PS lq (d6_2) ≤ OFS 1 PS lq (PS.lz lq)) (hcx7 : OFS 2 PS lq (d6_2) ≤ OFS 2 PS lq (PS.lz lq)) (hon1 : 0 ≤ OFS 1 PS lq (d6_2)) (hon2 : 0 ≤ OFS 2 PS lq (d6_2)) (yb11 : ¬ (PS.lz lq : Int) ≤ (d6_2 : Int)) (ex : xb_51 = PS.el lq (d6_2)) (hi_52 : INB PS lq xb_51) (hom1 : OFS 1 PS lq (d6_2) + PS.lz (PS.bp (PS.el lq (d6_2))) ≤ OFS 1 PS lq (PS.lz lq)) (hom2 : OFS 2 PS lq (d6_2) + PS.lz (PS.br (PS.el lq (d6_2))) ≤ OFS 2 PS lq (PS.lz lq)) (hos1 : OFS 1 PS lq (d6_2 + 1) = OFS 1 PS lq (d6_2) + PS.lz (PS.bp (PS.el lq (d6_2)))) (hos2 : OFS 2 PS lq (d6_2 + 1) = OFS 2 PS lq (d6_2) + PS.lz (PS.br (PS.el lq (d6_2)))) (hgs7 : (0 ≤ PS.bf xb_51 ∧ PS.bf xb_51 ≤ 299) ∧ (0 ≤ PS.bs xb_51 ∧ PS.bs xb_51 ≤ 299)) (hsrR : 1 ≤ d6_2 → PS.lz (PS.br (PS.el lq (d6_2))) ≤ 1800) (hsrP : PS.lz (PS.bp (PS.el lq (d6_2))) ≤ 700) (hsr6 : 60 ≤ d6_2 → PS.lz (PS.bp (PS.el lq (d6_2))) = 0) (hb1 : 0 ≤ PS.lz (PS.bp (PS.el lq (d6_2)))) (hb2 : 0 ≤ PS.lz (PS.br (PS.el lq (d6_2)))) (hq_75 : HID (la ∈ Ln_58 ∧ Pn_59.kd la = 30)) (hq_76 : HID (lb ∈ Ln_58 ∧ Pn_59.kd lb = 30)) (hq_77 : HID (lr ∈ Ln_58 ∧ Pn_59.kd lr = 30)) (hq_78 : HID (lp ∈ Ln_58 ∧ Pn_59.kd lp = 30)) (hA_79 : KEG [la, lb, lr, lp] L P Ln_58 Pn_59) (hA_80 : KEG [la, lb, lr, lp] L6 P6 Ln_58 Pn_59) (hek_81 : HID (Pn_59.ek la = 12)) (how_82 : HID (Pn_59.ow la = la)) (hek_83 : HID (Pn_59.ek lb = 12)) (how_84 : HID (Pn_59.ow lb = lb)) (hek_85 : HID (Pn_59.ek lr = 17)) (how_86 : HID (Pn_59.ow lr = lr)) (hek_87 : HID (Pn_59.ek lp = 15)) (how_88 : HID (Pn_59.ow lp = lp)) (hmq_90 : q_56 ∈ Ln_58) (hkq_91 : Pn_59.kd q_56 = 12) (hK : va_K (dC, dI) vwQ [(cO, .object "java/lang/Object"), (cI, .int), (cZ, .boolean)] s) : ∀ n29 : Nat, ∀ (d29_5 : Int) (e29_1_4 : Int) (L29 : List Nat) (P29 : PO) (kc29 : Nat) (ks29 : Nat) (ls : Array Slot) (H : Heap) (locs : List Loc), (KEG [la, lb, lr, lp] Ln_58 Pn_59 L29 P29) → (GLR L29 P29 cO cI cZ sx_ed) → (0 ≤ d29_5 ∧ d29_5 ≤ PS.lz (PS.bp (PS.el lq (d6_2)))) → (0 ≤ e29_1_4 ∧ e29_1_4 ≤ 19001) → (LVA L29 P29) → (LMT L29 P29 la lb lr lp) → (CPI P29 PS lb lr lp lq (d6_2) (OFS 2 PS lq (d6_2)) (OFS 1 PS lq (d6_2) + d29_5)) → (DSL P29 lr) → (DSL P29 lp) → (DST P29 lb) → (∀ b : Int, 0 ≤ b → b < P29.lz la → P29.el la b = P29.el lb b) → (z0_57 = d6_2 + 1 ∧ e6_1_3 = OFS 2 PS lq (d6_2) ∧ e29_1_4 = OFS 1 PS lq (d6_2) + d29_5 ∧ P29.lz la = d6_2 + 1 ∧ z0_57 ≤ P29.lz lb ∧ e6_1_3 ≤ P29.lz lr ∧ e29_1_4 ≤ P29.lz lp) → (LGM (P29.lz lb) (P.lz lb) (z0_57) ∧ LGM (P29.lz lr) (P.lz lr) (e6_1_3) ∧ LGM (P29.lz lp) (P.lz lp) (e29_1_4)) → (CUR P29 PS lb lr lp lq (d6_2) (d29_5) (0)) → (q_56 = P29.el lb (d6_2)) → ((ks29 : Int) ≤ PSI wSL L29 P29 - PSI wSL L P ∧ 40 * (kc29 : Int) ≤ PSI wCE L29 P29 - PSI wCE L P) → ((PS.lz (PS.bp (PS.el lq (d6_2))) - d29_5 : Int).toNat) < n29 → lv_has ls 9 [(0, .ref hc), (1, .ref hd), (2, .int (zI (d6_2))), (3, .ref xb_51), (4, .ref q_56), (5, .int (zI (d29_5)))] → va_P (dC, dI) vwQ ([(hd, .inr (12, [v18_0, v18_1, v18_2, v18_3, v18_4, .ref lq, v18_6])), (hc, .inr (12, [.ref lb, .ref lr, .ref lp, .int (zI (e6_1_3)), .int (zI (e29_1_4)), .ref la, .int (zI (z0_57))]))] ++ (va_pl L29 (pE P29) ++ va_pl LS (pE PS))) H → va_D A ([(hd, .inr (12, [v18_0, v18_1, v18_2, v18_3, v18_4, .ref lq, v18_6])), (hc, .inr (12, [.ref lb, .ref lr, .ref lp, .int (zI (e6_1_3)), .int (zI (e29_1_4)), .ref la, .int (zI (z0_57))]))] ++ (va_pl L29 (pE P29) ++ va_pl LS (pE PS))) → va_S A s.heap H locs → W p l e (headSpec v_P13_copyQ ({ frames := 8, cells := ((2000 + (8735704 - PSI wCE L P) / 40).toNat), slots := ((1990000 - PSI wSL L P).toNat), locals := 213 })).room s m ([.ref hc, .ref hd] : List Value).toArray below meth c H locs (kc29) (ks29) Q (F0 m 29 ls []) := by
  have hx := B.exec
  have hb := B.bytes
  have hr := B.returns
  have hts := atoms_spec (ws := v_P13_copyQ) B.pre
  have hown : s.vm.findClass RX13 = some m.cls := findClass_of_methodNamed B.named
  have hlocks := B.notSynchronized
  have ow : ∀ {k : Nat} {w : Cond}, o_P13_copyQ[k]? = some w → w.before ([.ref hc, .ref hd] : List Value).toArray s = true := fun h => hts _ (mow_P13_copyQ _ (List.mem_of_getElem? h))
  have hX_g9 := hX_g
  have hC_la := hX_la
  have hC_lb := hX_lb
  have hC_lr := hX_lr
  have hC_lp := hX_lp
  have hln_la := (hX_g.lk (show CLF L P la 12 from hC_la)).2.2.1
  have hln_lb := (hX_g.lk (show CLF L P lb 12 from hC_lb)).2.2.1
  have hln_lr := (hX_g.lk (show CLF L P lr 17 from hC_lr)).2.2.1
  have hln_lp := (hX_g.lk (show CLF L P lp 15 from hC_lp)).2.2.1
  have hLn1 : LNN 1 PS lq := (fun c c0 c1 => (hX_s.inb ⟨c, c0, c1, rfl⟩).2.2.1.2.2.1.1)
  have hLn2 : LNN 2 PS lq := (fun c c0 c1 => (hX_s.inb ⟨c, c0, c1, rfl⟩).2.1.2.2.1.1)
  have hls9 := hX_s.lok.2.2.1
  have hls8 := hX_s.1.1.2.1
  have hof1 : OFS 1 PS lq 0 = 0 := rfl
  have hof2 : OFS 2 PS lq 0 = 0 := rfl
  have hsr1 : PS.lz lq ≤ 180 ∧ PS.tot 2 lq ≤ 4164 ∧ PS.tot 1 lq ≤ 1936 := hX_n.1
  have hlm0 := hX_m.2.2.2.1
  have hot1 : OFS 1 PS lq (PS.lz lq) = PS.tot 1 lq := rfl
  have hx_54 := ex
  have hB_53 := hX_s.inb hi_52
  have hsr0 := hX_n.2 (d6_2) (by omega) (by omega)
  intro n29
  induction n29 with
  | zero => intro d29_5 e29_1_4 L29 P29 kc29 ks29 ls H locs kP29 aP29 jd29_5 je29_1_4 jv29 jm29 jc29 jr29 jp29 js29 ja29 jn29 jl29 ju29 jy29 hkr29 hm29; exact absurd hm29 (by omega)
  | succ n29 ih29 =>
    intro d29_5 e29_1_4 L29 P29 kc29 ks29 ls H locs kP29 aP29 jd29_5 je29_1_4 jv29 jm29 jc29 jr29 jp29 js29 ja29 jn29 jl29 ju29 jy29 hkr29 hm29 hl hP hD hS
    have hq_98 : HID (la ∈ L29 ∧ P29.kd la = 30) := kP29.mem hq_75.1 hq_75.2 (by decide)
    have hq_99 : HID (lb ∈ L29 ∧ P29.kd lb = 30) := kP29.mem hq_76.1 hq_76.2 (by decide)
    have hq_100 : HID (lr ∈ L29 ∧ P29.kd lr = 30) := kP29.mem hq_77.1 hq_77.2 (by decide)
    have hq_101 : HID (lp ∈ L29 ∧ P29.kd lp = 30) := kP29.mem hq_78.1 hq_78.2 (by decide)
    have hq_102 : HID (q_56 ∈ L29 ∧ P29.kd q_56 = 12) := kP29.mem hmq_90 hkq_91 (by decide)
    have hA_103 : KEG [la, lb, lr, lp] L P L29 P29 := hA_79.trans kP29
    have hA_104 : KEG [la, lb, lr, lp] L6 P6 L29 P29 := hA_80.trans kP29
    have hek_105 : HID (P29.ek la = 12) := (by rw [kP29.ek hq_75.1 hq_75.2 (by decide)]; exact hek_81.out)
    have how_106 : HID (P29.ow la = la) := ((kP29.1 la hq_75.1 (by rw [hq_75.2]; decide)).2.2.2.1 hq_75.2 how_82.out).1
    have hek_107 : HID (P29.ek lb = 12) := (by rw [kP29.ek hq_76.1 hq_76.2 (by decide)]; exact hek_83.out)
    have how_108 : HID (P29.ow lb = lb) := ((kP29.1 lb hq_76.1 (by rw [hq_76.2]; decide)).2.2.2.1 hq_76.2 how_84.out).1
    have hek_109 : HID (P29.ek lr = 17) := (by rw [kP29.ek hq_77.1 hq_77.2 (by decide)]; exact hek_85.out)
    have how_110 : HID (P29.ow lr = lr) := ((kP29.1 lr hq_77.1 (by rw [hq_77.2]; decide)).2.2.2.1 hq_77.2 how_86.out).1
    have hek_111 : HID (P29.ek lp = 15) := (by rw [kP29.ek hq_78.1 hq_78.2 (by decide)]; exact hek_87.out)
    have how_112 : HID (P29.ow lp = lp) := ((kP29.1 lp hq_78.1 (by rw [hq_78.2]; decide)).2.2.2.1 hq_78.2 how_88.out).1
    have hj29 := kP29
    have hm1 := jl29.1.max (m := 9000) (by omega) (by omega)
    have hm2 := jl29.2.1.max (m := 19000) (by omega) (by omega)
    have hm3 := jl29.2.2.max (m := 19000) (by omega) (by omega)
    have hnd_113 : L29.Nodup := (by first | exact pl_nd hD | exact pl_nd (pl_leftD (pk_ascD hD)))
    have hlm9 := jm29.2.2.2.1
    have hnz_lb := (aP29.lk (show CLF L29 P29 lb 12 from ⟨hq_99.1, hq_99.2, hek_107.out, how_108.out⟩)).2.2.1
    have hnz_lr := (aP29.lk (show CLF L29 P29 lr 17 from ⟨hq_100.1, hq_100.2, hek_109.out, how_110.out⟩)).2.2.1
    have hnz_lp := (aP29.lk (show CLF L29 P29 lp 15 from ⟨hq_101.1, hq_101.2, hek_111.out, how_112.out⟩)).2.2.1
    have htp9 := jm29.topS hnd_113 hnz_lb.1 hnz_lr.1 hnz_lp.1
    have htq9 := jm29.topC hnd_113 hnz_lb.1 hnz_lr.1 hnz_lp.1
    skip
    refine lv_iload hx hb dX13_copy_29 (lv_at hl 5 rfl) ?_
    refine lv_aload_n hx hb dX13_copy_31 rfl (lv_at hl 3 rfl) ?_
    replace hP := pk_sw hP
    replace hD := pk_swD hD
    obtain ⟨kp_114, hkp_114⟩ := pk_getA (T := va_pl L29 (pE P29)) (X := [(hd, .inr (12, [v18_0, v18_1, v18_2, v18_3, v18_4, .ref lq, v18_6])), (hc, .inr (12, [.ref lb, .ref lr, .ref lp, .int (zI (e6_1_3)), .int (zI (e29_1_4)), .ref la, .int (zI (z0_57))]))]) (f := pE PS) hB_53.1.1
    rw [pE_block hB_53.1.2] at hkp_114
    refine va_get (D := (dC, dI)) (ci := 19) (v := .ref (PS.bp xb_51)) (C := RX12) (T := TX12) (N := 5) hx hb hts mem_P13_copyQ_4 hown hK hP kp_114 hkp_114 rfl 0 (by decide) (ow (k := 13) rfl) (fun _ h9 => h9) rfl dX13_copy_32 ?_
    obtain ⟨pr_115, epr_115⟩ : ∃ q9 : Nat, q9 = PS.bp xb_51 := ⟨_, rfl⟩
    rw [← epr_115]
    have hlk_116 : LOK LS PS cO 15 pr_115 := (by rw [epr_115]; exact (hX_s.inb hi_52).2.2.1)
    have hlz9 := hlk_116.2.2.1
    replace hP := pk_sw hP
    replace hD := pk_swD hD
    have hlq : PS.lz pr_115 = PS.lz (PS.bp (PS.el lq (d6_2))) := (by rw [← hx_54, epr_115.symm])
    replace hP := pk_sw hP
    replace hD := pk_swD hD
    have hPT := pk_asc hP
    have hDT := pk_ascD hD
    replace hP := pl_left hPT
    replace hD := pl_leftD hDT
    have hlk_117 := (show LOK LS PS cO 15 pr_115 from (by rw [← epr_115.symm]; exact (hX_s.inb hi_52).2.2.1))
    have hX_x := hlk_117.1
    have hX_k := hlk_117.2.1
    have hlz9 := hlk_117.2.2.1
    have hPc := hP.part (X := [(hd, .inr (12, [v18_0, v18_1, v18_2, v18_3, v18_4, .ref lq, v18_6])), (hc, .inr (12, [.ref lb, .ref lr, .ref lp, .int (zI (e6_1_3)), .int (zI (e29_1_4)), .ref la, .int (zI (z0_57))]))]) (cx := []) (pl := va_pl LS (pE PS)) [] rfl
    have hDc := hD.part (X := [(hd, .inr (12, [v18_0, v18_1, v18_2, v18_3, v18_4, .ref lq, v18_6])), (hc, .inr (12, [.ref lb, .ref lr, .ref lp, .int (zI (e6_1_3)), .int (zI (e29_1_4)), .ref la, .int (zI (z0_57))]))]) (cx := []) (pl := va_pl LS (pE PS)) [] (by decide) rfl
    have hKc := hK.sub (tys' := [(cO, .object "java/lang/Object")]) [0] rfl
    have hFc := va_freeP (X := [(hd, .inr (12, [v18_0, v18_1, v18_2, v18_3, v18_4, .ref lq, v18_6])), (hc, .inr (12, [.ref lb, .ref lr, .ref lp, .int (zI (e6_1_3)), .int (zI (e29_1_4)), .ref la, .int (zI (z0_57))]))]) (cx := []) (pl := va_pl LS (pE PS)) hD hS hA [] rfl
    refine va_calli (va_runV (As := []) (rest := [.int (zI (d29_5))]) ⟨hx, hb, hml, hown, hts⟩ (c_PL_size l dC dI cO LS PS pr_115 hX_x hX_k (by omega) H.size) (cwV 0 hts g_P13_copyQ_PL_size rfl rfl rfl (by decide +kernel) ⟨(Nat.le_of_ble_eq_true rfl), (Nat.le_of_ble_eq_true rfl)⟩) ⟨fun a U g mk q => by obtain ⟨q0, q1, qP, qK, qD⟩ := q; exact ⟨q0, q1, qP, va_K.moved (u := U) (U := U.calling g mk a) (Vm.Alike.refl U.vm) qK, qD⟩, recv_30 hKc hPc hlk_116.1 hlk_116.2.1, fun U hU hW => ⟨rfl, by rw [hU], by rw [hU]; exact hPc, va_K.moved hW.alike hKc, hDc.weaken (fun _ _ _ _ => trivial)⟩⟩ rfl rfl hl.1 rfl (lv_room (Nat.le_of_ble_eq_true rfl)) dX13_copy_35 ⟨(show (kc29) + 0 ≤ (2000 + (8735704 - PSI wCE L P) / 40).toNat from (by omega)), (show (ks29) + 0 ≤ (1990000 - PSI wSL L P).toNat from (by omega))⟩) hS (fun q _ h => hFc q h) hFc (fun r_118 u t H1 locs ht hvm hw hB hz1 hk1 hS => ?_)
    obtain ⟨hP1, hK1, hD1⟩ := hB
    rw [ht] at hP1
    have hK1 := va_K.moved hvm.symm hK1
    obtain ⟨hP, hD⟩ := va_joinPT (X := [(hd, .inr (12, [v18_0, v18_1, v18_2, v18_3, v18_4, .ref lq, v18_6])), (hc, .inr (12, [.ref lb, .ref lr, .ref lp, .int (zI (e6_1_3)), .int (zI (e29_1_4)), .ref la, .int (zI (z0_57))]))]) (cx := []) (wr := [(hd, .inr (12, [v18_0, v18_1, v18_2, v18_3, v18_4, .ref lq, v18_6])), (hc, .inr (12, [.ref lb, .ref lr, .ref lp, .int (zI (e6_1_3)), .int (zI (e29_1_4)), .ref la, .int (zI (z0_57))]))]) (rx := []) (pl := va_pl LS (pE PS)) (pl1 := va_pl LS (pE PS)) (T := va_pl L29 (pE P29)) hPT hDT [] [0, 1] rfl rfl (by decide) (by decide) hk1 hFc hP1 hD1
    replace hP := pk_back hP
    replace hD := pk_backD hD
    replace hK := (hK.sub (tys' := [(cI, .int), (cZ, .boolean)]) [1, 2] rfl).app hK1
    generalize H1 = H at hP hS ⊢
    clear hPc hDc hKc hFc hk1 hz1 hPT hDT
    replace hP : va_P (dC, dI) vwQ ([(hd, .inr (12, [v18_0, v18_1, v18_2, v18_3, v18_4, .ref lq, v18_6])), (hc, .inr (12, [.ref lb, .ref lr, .ref lp, .int (zI (e6_1_3)), .int (zI (e29_1_4)), .ref la, .int (zI (z0_57))]))] ++ (va_pl LS (pE PS) ++ va_pl L29 (pE P29))) H := hP
    replace hD : va_D A ([(hd, .inr (12, [v18_0, v18_1, v18_2, v18_3, v18_4, .ref lq, v18_6])), (hc, .inr (12, [.ref lb, .ref lr, .ref lp, .int (zI (e6_1_3)), .int (zI (e29_1_4)), .ref la, .int (zI (z0_57))]))] ++ (va_pl LS (pE PS) ++ va_pl L29 (pE P29))) := hD
    replace hK : va_K (dC, dI) vwQ [(cI, .int), (cZ, .boolean), (cO, .object "java/lang/Object")] s := hK
    refine W.widen (k := (kc29)) (n := (ks29)) (by omega) (by omega) ?_
    obtain rfl : r_118 = (zI (PS.lz pr_115)) := hw
    replace hP := pk_sw hP
    replace hD := pk_swD hD
    refine lv_icmp_ge (tgt := 131) hx hb dX13_copy_38 (by decide) (fun b38 => ?_) (fun b38 => ?_)
    · have yb38 : (PS.lz pr_115 : Int) ≤ (d29_5 : Int) := (zI_le (a := PS.lz pr_115) (b := d29_5) (by omega) (by omega) (by omega) (by omega)).mp b38
      refine lv_iconst (v := 0) hx hb dX13_copy_131 (by decide) ?_
      refine lv_istore (lv' := [(5, .int 0), (0, .ref hc), (1, .ref hd), (2, .int (zI (d6_2))), (3, .ref xb_51), (4, .ref q_56)]) hx hb dX13_copy_132 hl (by decide) rfl (fun ls hl => ?_)
      have key134 : ∀ n134 : Nat, ∀ (d134_5 : Int) (e134_1_3 : Int) (L134 : List Nat) (P134 : PO) (kc134 : Nat) (ks134 : Nat) (ls : Array Slot) (H : Heap) (locs : List Loc), (KEG [la, lb, lr, lp] L29 P29 L134 P134) → (GLR L134 P134 cO cI cZ sx_ed) → (0 ≤ d134_5 ∧ d134_5 ≤ PS.lz (PS.br (PS.el lq (d6_2)))) → (0 ≤ e134_1_3 ∧ e134_1_3 ≤ 19001) → (LVA L134 P134) → (LMT L134 P134 la lb lr lp) → (CPI P134 PS lb lr lp lq (d6_2) (OFS 2 PS lq (d6_2) + d134_5) (OFS 1 PS lq (d6_2) + d29_5)) → (DSL P134 lr) → (DSL P134 lp) → (DST P134 lb) → (∀ b : Int, 0 ≤ b → b < P134.lz la → P134.el la b = P134.el lb b) → (z0_57 = d6_2 + 1 ∧ e134_1_3 = OFS 2 PS lq (d6_2) + d134_5 ∧ e29_1_4 = OFS 1 PS lq (d6_2) + d29_5 ∧ P134.lz la = d6_2 + 1 ∧ z0_57 ≤ P134.lz lb ∧ e134_1_3 ≤ P134.lz lr ∧ e29_1_4 ≤ P134.lz lp) → (LGM (P134.lz lb) (P.lz lb) (z0_57) ∧ LGM (P134.lz lr) (P.lz lr) (e134_1_3) ∧ LGM (P134.lz lp) (P.lz lp) (e29_1_4)) → (CUR P134 PS lb lr lp lq (d6_2) (d29_5) (d134_5)) → (q_56 = P134.el lb (d6_2)) → ((ks134 : Int) ≤ PSI wSL L134 P134 - PSI wSL L P ∧ 40 * (kc134 : Int) ≤ PSI wCE L134 P134 - PSI wCE L P) → ((PS.lz (PS.br (PS.el lq (d6_2))) - d134_5 : Int).toNat) < n134 → lv_has ls 9 [(0, .ref hc), (1, .ref hd), (2, .int (zI (d6_2))), (3, .ref xb_51), (4, .ref q_56), (5, .int (zI (d134_5)))] → va_P (dC, dI) vwQ ([(hd, .inr (12, [v18_0, v18_1, v18_2, v18_3, v18_4, .ref lq, v18_6])), (hc, .inr (12, [.ref lb, .ref lr, .ref lp, .int (zI (e134_1_3)), .int (zI (e29_1_4)), .ref la, .int (zI (z0_57))]))] ++ (va_pl L134 (pE P134) ++ va_pl LS (pE PS))) H → va_D A ([(hd, .inr (12, [v18_0, v18_1, v18_2, v18_3, v18_4, .ref lq, v18_6])), (hc, .inr (12, [.ref lb, .ref lr, .ref lp, .int (zI (e134_1_3)), .int (zI (e29_1_4)), .ref la, .int (zI (z0_57))]))] ++ (va_pl L134 (pE P134) ++ va_pl LS (pE PS))) → va_S A s.heap H locs → W p l e (headSpec v_P13_copyQ ({ frames := 8, cells := ((2000 + (8735704 - PSI wCE L P) / 40).toNat), slots := ((1990000 - PSI wSL L P).toNat), locals := 213 })).room s m ([.ref hc, .ref hd] : List Value).toArray below meth c H locs (kc134) (ks134) Q (F0 m 134 ls []) := key134_P13_copyQ l dC dI hd v18_0 v18_1 v18_2 v18_3 v18_4 v18_6 lq cI cZ hc z13_rowN z13_phiN z13_made la lb lr lp cO L P sx_ed LS PS hNz13_rowN hNz13_phiN hNz13_made hX_g hX_la hX_lb hX_lr hX_lp hX_ab hX_dt hX_dr hX_dp hX_s hNr hX_Vc hX_m hX_n HU sx_mi p e s m below meth c s₁ B hml A hA hp0 hp1 hp2 hp3 hp4 hp5 hp6 hp7 hp8 hp9 hp10 hp11 hp12 hp13 hp14 hp15 Q hQ Pn_4 n6 d6_2 e6_1_3 e6_1_4 e6_1_6 L6 P6 kc6 ks6 xb_51 q_56 z0_57 d29_5 e29_1_4 L29 P29 kc29 ks29 pr_115 hot2 ih6 kP6 jd6_2 hm6 hcx6 hcx7 hon1 hon2 yb11 ex hi_52 hom1 hom2 hos1 hos2 hgs7 hsrR hsrP hsr6 hb1 hb2 jd29_5 je29_1_4 jn29 jy29 hkr29 hq_98 hq_99 hq_100 hq_101 hq_102 hA_103 hA_104 hek_105 how_106 hek_107 how_108 hek_109 how_110 hek_111 how_112 hlq yb38 hK
      exact key134 ((PS.lz (PS.br (PS.el lq (d6_2))) - 0 : Int).toNat + 1) 0 e6_1_3 L29 P29 ((kc29)) ((ks29)) ls H _ (KEG.refl _ _ _) aP29 (by omega) (by omega) jv29 jm29 (jc29.to (by omega) (by omega)) jr29 jp29 js29 ja29 (by omega) ⟨((jl29.1.to2 (by omega) rfl).to (by omega)), ((jl29.2.1.to2 (by omega) rfl).to (by omega)), ((jl29.2.2.to2 (by omega) rfl).to (by omega))⟩ (ju29.to (by omega) (by omega)) jy29 (by omega) (Nat.lt_succ_self _) (lv_sub hl [1, 2, 3, 4, 5, 0] rfl) hP hD hS
    · have yb38 : ¬ (PS.lz pr_115 : Int) ≤ (d29_5 : Int) := fun q => b38 ((zI_le (a := PS.lz pr_115) (b := d29_5) (by omega) (by omega) (by omega) (by omega)).mpr q)
      refine lv_aload_n hx hb dX13_copy_41 rfl (lv_at hl 3 rfl) ?_
      replace hP := pk_sw hP
      replace hD := pk_swD hD
      obtain ⟨kp_441, hkp_441⟩ := pk_getA (T := va_pl L29 (pE P29)) (X := [(hd, .inr (12, [v18_0, v18_1, v18_2, v18_3, v18_4, .ref lq, v18_6])), (hc, .inr (12, [.ref lb, .ref lr, .ref lp, .int (zI (e6_1_3)), .int (zI (e29_1_4)), .ref la, .int (zI (z0_57))]))]) (f := pE PS) hB_53.1.1
      rw [pE_block hB_53.1.2] at hkp_441
      refine va_get (D := (dC, dI)) (ci := 19) (v := .ref (PS.bp xb_51)) (C := RX12) (T := TX12) (N := 5) hx hb hts mem_P13_copyQ_4 hown hK hP kp_441 hkp_441 rfl 0 (by decide) (ow (k := 13) rfl) (fun _ h9 => h9) rfl dX13_copy_42 ?_
      obtain ⟨pr_442, epr_442⟩ : ∃ q9 : Nat, q9 = PS.bp xb_51 := ⟨_, rfl⟩
      rw [← epr_442]
      obtain rfl : pr_115 = pr_442 := (by rw [epr_442]; exact epr_115.symm.symm)
      replace hP := pk_sw hP
      replace hD := pk_swD hD
      refine lv_iload hx hb dX13_copy_45 (lv_at hl 5 rfl) ?_
      replace hP := pk_sw hP
      replace hD := pk_swD hD
      have hPT := pk_asc hP
      have hDT := pk_ascD hD
      replace hP := pl_left hPT
      replace hD := pl_leftD hDT
      have hlk_443 := (show LOK LS PS cO 15 pr_115 from (by rw [← epr_115.symm]; exact (hX_s.inb hi_52).2.2.1))
      obtain ⟨x, ex⟩ : ∃ q9 : Nat, q9 = PS.el pr_115 (d29_5) := ⟨_, rfl⟩
      have hX_x := hlk_443.1
      have hX_k := hlk_443.2.1
      have hq9 := hlk_443.row (i := d29_5) (by omega) (by omega)
      have hX_q : PS.le pr_115 ∈ LS ∧ PS.kd (PS.le pr_115) = 31 ∧ PS.ac (PS.le pr_115) = cO := ⟨hq9.1, hq9.2.1, hq9.2.2.1⟩
      have hq8 := hq9.2.2.2
      have hX_e0 : PS.oa (PS.le pr_115) (d29_5).toNat = some x := (by rw [ex]; exact (hlk_443.2.2.2.2 (d29_5) (by omega) (by omega)).1)
      have hxm : x ∈ LS := (by rw [ex]; exact (hlk_443.2.2.2.2 (d29_5) (by omega) (by omega)).2.1)
      have hxk := (hlk_443.2.2.2.2 (d29_5) (by omega) (by omega)).2.2
      rw [← ex] at hxk
      have hPc := hP.part (X := [(hd, .inr (12, [v18_0, v18_1, v18_2, v18_3, v18_4, .ref lq, v18_6])), (hc, .inr (12, [.ref lb, .ref lr, .ref lp, .int (zI (e6_1_3)), .int (zI (e29_1_4)), .ref la, .int (zI (z0_57))]))]) (cx := []) (pl := va_pl LS (pE PS)) [] rfl
      have hDc := hD.part (X := [(hd, .inr (12, [v18_0, v18_1, v18_2, v18_3, v18_4, .ref lq, v18_6])), (hc, .inr (12, [.ref lb, .ref lr, .ref lp, .int (zI (e6_1_3)), .int (zI (e29_1_4)), .ref la, .int (zI (z0_57))]))]) (cx := []) (pl := va_pl LS (pE PS)) [] (by decide) rfl
      have hKc := hK.sub (tys' := [(cO, .object "java/lang/Object")]) [2] rfl
      have hFc := va_freeP (X := [(hd, .inr (12, [v18_0, v18_1, v18_2, v18_3, v18_4, .ref lq, v18_6])), (hc, .inr (12, [.ref lb, .ref lr, .ref lp, .int (zI (e6_1_3)), .int (zI (e29_1_4)), .ref la, .int (zI (z0_57))]))]) (cx := []) (pl := va_pl LS (pE PS)) hD hS hA [] rfl
      refine va_callr (va_runV (As := [.int (zI (d29_5))]) (rest := []) ⟨hx, hb, hml, hown, hts⟩ (c_PL_get l dC dI cO LS PS pr_115 d29_5 x hX_x hX_k hX_q (by omega) hX_e0 H.size) (cwV 1 hts g_P13_copyQ_PL_get rfl rfl rfl (by decide +kernel) ⟨(Nat.le_of_ble_eq_true rfl), (Nat.le_of_ble_eq_true rfl)⟩) ⟨fun a U g mk q => by obtain ⟨q0, q1, qP, qK, qD⟩ := q; exact ⟨q0, q1, qP, va_K.moved (u := U) (U := U.calling g mk a) (Vm.Alike.refl U.vm) qK, qD⟩, recv_30 hKc hPc hlk_116.1 hlk_116.2.1, fun U hU hW => ⟨rfl, by rw [hU], by rw [hU]; exact hPc, va_K.moved hW.alike hKc, hDc.weaken (fun _ _ _ _ => trivial)⟩⟩ rfl rfl hl.1 rfl (lv_room (Nat.le_of_ble_eq_true rfl)) dX13_copy_47 ⟨(show (kc29) + 0 ≤ (2000 + (8735704 - PSI wCE L P) / 40).toNat from (by omega)), (show (ks29) + 0 ≤ (1990000 - PSI wSL L P).toNat from (by omega))⟩) hS (fun q _ h => hFc q h) hFc (fun u q_444 t H1 locs ht hvm hw hB hz1 hk1 hS => ?_)
      obtain ⟨hxt_444, hP1, hK1, hD1⟩ := hB
      rw [ht] at hP1
      have hK1 := va_K.moved hvm.symm hK1
      obtain ⟨hP, hD⟩ := va_joinPT (X := [(hd, .inr (12, [v18_0, v18_1, v18_2, v18_3, v18_4, .ref lq, v18_6])), (hc, .inr (12, [.ref lb, .ref lr, .ref lp, .int (zI (e6_1_3)), .int (zI (e29_1_4)), .ref la, .int (zI (z0_57))]))]) (cx := []) (wr := [(hd, .inr (12, [v18_0, v18_1, v18_2, v18_3, v18_4, .ref lq, v18_6])), (hc, .inr (12, [.ref lb, .ref lr, .ref lp, .int (zI (e6_1_3)), .int (zI (e29_1_4)), .ref la, .int (zI (z0_57))]))]) (rx := []) (pl := va_pl LS (pE PS)) (pl1 := va_pl LS (pE PS)) (T := va_pl L29 (pE P29)) hPT hDT [] [0, 1] rfl rfl (by decide) (by decide) hk1 hFc hP1 hD1
      replace hP := pk_back hP
      replace hD := pk_backD hD
      replace hK := (hK.sub (tys' := [(cI, .int), (cZ, .boolean)]) [0, 1] rfl).app hK1
      generalize H1 = H at hP hS ⊢
      clear hPc hDc hKc hFc hk1 hz1 hPT hDT
      replace hP : va_P (dC, dI) vwQ ([(hd, .inr (12, [v18_0, v18_1, v18_2, v18_3, v18_4, .ref lq, v18_6])), (hc, .inr (12, [.ref lb, .ref lr, .ref lp, .int (zI (e6_1_3)), .int (zI (e29_1_4)), .ref la, .int (zI (z0_57))]))] ++ (va_pl LS (pE PS) ++ va_pl L29 (pE P29))) H := hP
      replace hD : va_D A ([(hd, .inr (12, [v18_0, v18_1, v18_2, v18_3, v18_4, .ref lq, v18_6])), (hc, .inr (12, [.ref lb, .ref lr, .ref lp, .int (zI (e6_1_3)), .int (zI (e29_1_4)), .ref la, .int (zI (z0_57))]))] ++ (va_pl LS (pE PS) ++ va_pl L29 (pE P29))) := hD
      replace hK : va_K (dC, dI) vwQ [(cI, .int), (cZ, .boolean), (cO, .object "java/lang/Object")] s := hK
      refine W.widen (k := (kc29)) (n := (ks29)) (by omega) (by omega) ?_
      rw [hxt_444]
      clear hX_e0
      obtain ⟨xp_445, h9⟩ : ∃ q9 : Nat, q9 = x := ⟨_, rfl⟩
      subst h9
      have hm_446 := hxm
      have hk_447 := hxk
      have hpb_448 : PRB PS xp_445 (PS.lz lq) := (by have q9 := hX_s.2.2.1 xb_51 hi_52 (d29_5) (by omega) (by rw [epr_115.symm]; omega); rw [epr_115.symm, ← ex] at q9; exact q9)
      replace hP := pk_sw hP
      replace hD := pk_swD hD
      have hpz : xp_445 = PS.el (PS.bp (PS.el lq (d6_2))) (d29_5) := (by rw [← hx_54, epr_115.symm]; exact ex)
      replace hP := pk_sw hP
      replace hD := pk_swD hD
      refine va_castY (C := "SsaForgeModel$Phi") (nm := "SsaForgeModel$Phi") hx hb hown (ow (k := 36) rfl) hp14 (recv_15 hK (pk_A hP) hm_446 hk_447) dX13_copy_50 ?_
      replace hP := pk_sw hP
      replace hD := pk_swD hD
      refine lv_astore (lv' := [(6, .ref xp_445), (0, .ref hc), (1, .ref hd), (2, .int (zI (d6_2))), (3, .ref xb_51), (4, .ref q_56), (5, .int (zI (d29_5)))]) hx hb dX13_copy_53 hl (by decide) rfl (fun ls hl => ?_)
      refine lv_aload_n hx hb dX13_copy_55 rfl (lv_at hl 1 rfl) ?_
      refine lv_aload hx hb dX13_copy_56 (lv_at hl 0 rfl) ?_
      replace hP := pk_sw hP
      replace hD := pk_swD hD
      have hpv9 := hX_s.pk9 hm_446 hk_447
      have hpn := hpv9.2.2.2.2.1
      have hpt := hpv9.2.2.2.2.2.1
      clear hpv9
      obtain ⟨kp_449, hkp_449⟩ := pk_getA (T := va_pl L29 (pE P29)) (X := [(hd, .inr (12, [v18_0, v18_1, v18_2, v18_3, v18_4, .ref lq, v18_6])), (hc, .inr (12, [.ref lb, .ref lr, .ref lp, .int (zI (e6_1_3)), .int (zI (e29_1_4)), .ref la, .int (zI (z0_57))]))]) (f := pE PS) hm_446
      rw [pE_phi hk_447] at hkp_449
      refine va_get (D := (dC, dI)) (ci := 20) (v := .int (zI (PS.pt xp_445))) (C := RX15) (T := TX15) (N := 6) hx hb hts mem_P13_copyQ_10 hown hK hP kp_449 hkp_449 rfl 0 (by decide) (ow (k := 37) rfl) (fun _ h9 => h9) rfl dX13_copy_58 ?_
      replace hP := pk_sw hP
      replace hD := pk_swD hD
      skip
      have hPT := pk_asc hP
      have hDT := pk_ascD hD
      replace hP := pl_left hPT
      replace hD := pl_leftD hDT
      have hX_V := jv29
      have hX_g := aP29
      have hX_la : HID (la ∈ L29 ∧ P29.kd la = 30 ∧ P29.ek la = 12 ∧ P29.ow la = la) := HID.mk ⟨hq_98.1, hq_98.2, hek_105.out, how_106.out⟩
      have hX_lp : lp ∈ L29 ∧ P29.kd lp = 30 ∧ P29.ek lp = 15 ∧ P29.ow lp = lp := ⟨hq_101.1, hq_101.2, hek_111.out, how_112.out⟩
      have hnd_450 : L29.Nodup := (by first | exact pl_nd hD | exact pl_nd (pl_leftD (pk_ascD hD)))
      have hPc := hP.part (X := [(hd, .inr (12, [v18_0, v18_1, v18_2, v18_3, v18_4, .ref lq, v18_6])), (hc, .inr (12, [.ref lb, .ref lr, .ref lp, .int (zI (e6_1_3)), .int (zI (e29_1_4)), .ref la, .int (zI (z0_57))]))]) (cx := [(hc, .inr (12, [.ref lb, .ref lr, .ref lp, .int (zI (e6_1_3)), .int (zI (e29_1_4)), .ref la, .int (zI (z0_57))]))]) (pl := va_pl L29 (pE P29)) [1] rfl
      have hDc := hD.part (X := [(hd, .inr (12, [v18_0, v18_1, v18_2, v18_3, v18_4, .ref lq, v18_6])), (hc, .inr (12, [.ref lb, .ref lr, .ref lp, .int (zI (e6_1_3)), .int (zI (e29_1_4)), .ref la, .int (zI (z0_57))]))]) (cx := [(hc, .inr (12, [.ref lb, .ref lr, .ref lp, .int (zI (e6_1_3)), .int (zI (e29_1_4)), .ref la, .int (zI (z0_57))]))]) (pl := va_pl L29 (pE P29)) [1] (by decide) rfl
      have hKc := hK.sub (tys' := [(cO, .object "java/lang/Object"), (cI, .int), (cZ, .boolean)]) [2, 0, 1] rfl
      have hFc := va_freeP (X := [(hd, .inr (12, [v18_0, v18_1, v18_2, v18_3, v18_4, .ref lq, v18_6])), (hc, .inr (12, [.ref lb, .ref lr, .ref lp, .int (zI (e6_1_3)), .int (zI (e29_1_4)), .ref la, .int (zI (z0_57))]))]) (cx := [(hc, .inr (12, [.ref lb, .ref lr, .ref lp, .int (zI (e6_1_3)), .int (zI (e29_1_4)), .ref la, .int (zI (z0_57))]))]) (pl := va_pl L29 (pE P29)) hD hS hA [1] rfl
      refine W_knowS (fun hrmA => ?_)
      refine va_callr (va_runV (As := [.int (zI (PS.pt xp_445))]) (rest := []) ⟨hx, hb, hml, hown, hts⟩ (c_P13_phiQ l dC dI cI cZ hc (.ref lb) (.ref lr) (.int (zI (e6_1_3))) e29_1_4 (.int (zI (z0_57))) la lp cO L29 P29 sx_ed (PS.pt xp_445) (by omega) hX_g hX_la hX_lp (by omega) hX_V H.size H sx_mi) (cwV 1 hts g_P13_copyQ_P13_phiQ rfl rfl rfl (by decide +kernel) ⟨(Nat.le_of_ble_eq_true rfl), (Nat.le_of_ble_eq_true rfl)⟩) ⟨fun a U g mk q => by obtain ⟨q0, q1, qP, qK, qD, e0, e1, e2, e3, e4, e5, e6, e7, e8, e9, e10⟩ := q; exact ⟨q0, q1, qP, va_K.moved (u := U) (U := U.calling g mk a) (Vm.Alike.refl U.vm) qK, qD, va_Nw.same rfl (u := U) (U := U.calling g mk a) rfl e0, e1, va_Nw.same rfl (u := U) (U := U.calling g mk a) rfl e2, va_Nw.same rfl (u := U) (U := U.calling g mk a) rfl e3, va_Nw.same rfl (u := U) (U := U.calling g mk a) rfl e4, va_Nw.same rfl (u := U) (U := U.calling g mk a) rfl e5, va_Dc.moved (u := U) (U := U.calling g mk a) (Vm.Alike.refl U.vm) e6, va_Mi.moved (u := U) (U := U.calling g mk a) (Vm.Alike.refl U.vm) e7, va_AO.moved (u := U) (U := U.calling g mk a) (Vm.Alike.refl U.vm) e8, va_T.moved (u := U) (U := U.calling g mk a) (Vm.Alike.refl U.vm) e9, va_Z.moved (u := U) (U := U.calling g mk a) (Vm.Alike.refl U.vm) e10⟩, va_recv hKc hPc (ci := 12) (q0 := 0) rfl rfl, fun U hU hW => ⟨rfl, by rw [hU], by rw [hU]; exact hPc, va_K.moved hW.alike hKc, hDc.weaken (fun _ _ _ _ => trivial), va_Nw.warmC hW hp14, hU, va_Nw.warmM hW hp15, va_Nw.warmC hW hp2, va_Nw.warmC hW hp3, va_Nw.warmC hW hp4, va_Dc.moved hW.alike hp5, va_Mi.moved hW.alike hp6, va_AO.moved hW.alike hp7, by rw [hU]; exact va_T.narrow (va_T.moved hW.alike (va_T.kept hp8 hS.2.1)) hFc, by rw [hU]; exact va_Z.narrow (va_Z.moved hW.alike (va_Z.kept hp9 hS.2.1)) hFc⟩⟩ rfl rfl hl.1 rfl (lv_room (Nat.le_of_ble_eq_true rfl)) dX13_copy_61 ⟨(show (kc29) + 5 ≤ (2000 + (8735704 - PSI wCE L P) / 40).toNat from (by omega)), (show (ks29) + 6264 ≤ (1990000 - PSI wSL L P).toNat from (by omega))⟩) hS (fun q _ h => hFc q h) hFc (fun u q_451 t H1 locs ht hvm hw hB hz1 hk1 hS => ?_)
      obtain ⟨z0_452, Ln_453, Pn_454, kc_455, ks_456, hxt_456, hP1, hK1, hD1⟩ := hB
      rw [ht] at hP1
      have hK1 := va_K.moved hvm.symm hK1
      obtain ⟨hP, hD⟩ := va_joinPT (X := [(hd, .inr (12, [v18_0, v18_1, v18_2, v18_3, v18_4, .ref lq, v18_6])), (hc, .inr (12, [.ref lb, .ref lr, .ref lp, .int (zI (e6_1_3)), .int (zI (e29_1_4)), .ref la, .int (zI (z0_57))]))]) (cx := [(hc, .inr (12, [.ref lb, .ref lr, .ref lp, .int (zI (e6_1_3)), .int (zI (e29_1_4)), .ref la, .int (zI (z0_57))]))]) (wr := [(hd, .inr (12, [v18_0, v18_1, v18_2, v18_3, v18_4, .ref lq, v18_6]))]) (rx := [(hc, .inr (12, [.ref lb, .ref lr, .ref lp, .int (zI (e6_1_3)), .int (zI (z0_452)), .ref la, .int (zI (z0_57))]))]) (pl := va_pl L29 (pE P29)) (pl1 := va_pl Ln_453 (pE Pn_454)) (T := va_pl LS (pE PS)) hPT hDT [1] [0] rfl rfl (by decide) (by decide) hk1 hFc hP1 hD1
      replace hP := pk_back hP
      replace hD := pk_backD hD
      replace hK := (hK.sub (tys' := []) [] rfl).app hK1
      have hrmC := hxt_456.1.1
      rw [ht] at hrmC
      refine W_tightS (hrmA.trans hrmC) ?_
      have hrb := hxt_456.1.2
      generalize H1 = H at hP hS ⊢
      clear hPc hDc hKc hFc hk1 hz1 hPT hDT
      replace hP : va_P (dC, dI) vwQ ([(hd, .inr (12, [v18_0, v18_1, v18_2, v18_3, v18_4, .ref lq, v18_6])), (hc, .inr (12, [.ref lb, .ref lr, .ref lp, .int (zI (e6_1_3)), .int (zI (z0_452)), .ref la, .int (zI (z0_57))]))] ++ (va_pl Ln_453 (pE Pn_454) ++ va_pl LS (pE PS))) H := hP
      replace hD : va_D A ([(hd, .inr (12, [v18_0, v18_1, v18_2, v18_3, v18_4, .ref lq, v18_6])), (hc, .inr (12, [.ref lb, .ref lr, .ref lp, .int (zI (e6_1_3)), .int (zI (z0_452)), .ref la, .int (zI (z0_57))]))] ++ (va_pl Ln_453 (pE Pn_454) ++ va_pl LS (pE PS))) := hD
      replace hK : va_K (dC, dI) vwQ [(cO, .object "java/lang/Object"), (cI, .int), (cZ, .boolean)] s := hK
      refine W.widen (k := ((kc29) + kc_455)) (n := ((ks29) + ks_456)) (by omega) (by omega) ?_
      obtain ⟨rk_457, hu_457⟩ := hxt_456.2
      have huq_458 := hxt_456.2.2
      have huf_459 := And.intro huq_458.1 (And.intro huq_458.2.1 (And.intro (CPQ.cp8 huq_458.2.2.1 aP29 (show CLF L29 P29 lp 15 from ⟨hq_101.1, hq_101.2, hek_111.out, how_112.out⟩) huq_458.2.2.2.2.2.2) huq_458.2.2.2.1))
      have hu_460 := huf_459
      have hwk_461 := hu_460.1.wk (E' := [la, lb, lr, lp]) (fun _ h9 => CPI.mem4 (Or.inr (Or.inr (Or.inr rfl))) h9)
      have hkl_462 := hu_460.1.lst (show CLF L29 P29 la 12 from ⟨hq_98.1, hq_98.2, hek_105.out, how_106.out⟩) (by intro q9; simp at q9; exact absurd q9 (ek_ne hek_105.out hek_111.out (by decide)))
      have hkl_463 := hu_460.1.lst (show CLF L29 P29 lb 12 from ⟨hq_99.1, hq_99.2, hek_107.out, how_108.out⟩) (by intro q9; simp at q9; exact absurd q9 (ek_ne hek_107.out hek_111.out (by decide)))
      have hkl_464 := hu_460.1.lst (show CLF L29 P29 lr 17 from ⟨hq_100.1, hq_100.2, hek_109.out, how_110.out⟩) (by intro q9; simp at q9; exact absurd q9 (ek_ne hek_109.out hek_111.out (by decide)))
      have hfr_465 := hu_460.2.2.1.fresh jp29 (aP29.lk (show CLF L29 P29 lp 15 from ⟨hq_101.1, hq_101.2, hek_111.out, how_112.out⟩)) (by omega) (by omega)
      have hns_466 := hns_phiR (i := d6_2 + 1) (n := OFS 2 PS lq (d6_2)) (p := OFS 1 PS lq (d6_2) + d29_5) aP29 (aP29.lk (show CLF L29 P29 lb 12 from ⟨hq_99.1, hq_99.2, hek_107.out, how_108.out⟩)) (aP29.lk (show CLF L29 P29 lr 17 from ⟨hq_100.1, hq_100.2, hek_109.out, how_110.out⟩)) hek_109.out (aP29.lk (show CLF L29 P29 lp 15 from ⟨hq_101.1, hq_101.2, hek_111.out, how_112.out⟩)) how_112.out (by omega) (by omega) (by omega) (fun m9 => ⟨(hfr_465.1 m9).1, fun k9 k0 k1 => (hfr_465.1 m9).2 k9 k0 (by omega)⟩) (fun k9 k0 k1 => hfr_465.2.1 k9 k0 (by omega))
      have hci_467 : CPI Pn_454 PS lb lr lp lq (d6_2) (OFS 2 PS lq (d6_2)) (OFS 1 PS lq (d6_2) + d29_5) := jc29.frR aP29 hu_460.2.2.1.2.2.2.2.1 (aP29.lk (show CLF L29 P29 lb 12 from ⟨hq_99.1, hq_99.2, hek_107.out, how_108.out⟩)) (aP29.lk (show CLF L29 P29 lr 17 from ⟨hq_100.1, hq_100.2, hek_109.out, how_110.out⟩)) (aP29.lk (show CLF L29 P29 lp 15 from ⟨hq_101.1, hq_101.2, hek_111.out, how_112.out⟩)) (by omega) (by omega) (by omega) hLn1 hLn2 (by omega) (fun k9 k0 k1 => hkl_463.2 k9 k0 (by omega)) (fun k9 k0 k1 => hkl_464.2 k9 k0 (by omega)) (fun k9 k0 k1 => hu_460.2.2.1.2.2.2.1 k9 k0 (by omega)) (hns_466.wk (by omega) (by omega) (by omega))
      have hcu_468 : CUR Pn_454 PS lb lr lp lq (d6_2) (d29_5) (0) := ju29.frR aP29 hu_460.2.2.1.2.2.2.2.1 (show CLF L29 P29 lb 12 from ⟨hq_99.1, hq_99.2, hek_107.out, how_108.out⟩) (by omega) (by omega) (by omega) (by omega) (hkl_463.2 (d6_2) (by omega) (by omega)) (fun k9 k0 k1 => hkl_464.2 k9 k0 (by omega)) (fun k9 k0 k1 => hu_460.2.2.1.2.2.2.1 k9 k0 (by omega)) (hns_466.1 (d6_2) (by omega) (by omega)).1 (hns_466.1 (d6_2) (by omega) (by omega)).2.2.1 (hns_466.1 (d6_2) (by omega) (by omega)).2.2.2
      have hyb_469 : q_56 = Pn_454.el lb (d6_2) := jy29.trans (hkl_463.2 (d6_2) (by omega) (by omega)).symm
      have hds_470 := js29.kegR aP29 ⟨hq_99.1, hq_99.2, hek_107.out, how_108.out⟩ hu_460.1 (by intro q9; simp at q9; exact absurd q9 (ek_ne hek_107.out hek_111.out (by decide)))
      have hdl_471 := jr29.same hkl_464.1 hkl_464.2
      have hal_472 : ∀ b : Int, 0 ≤ b → b < Pn_454.lz la → Pn_454.el la b = Pn_454.el lb b := (fun b b0 b1 => by rw [hkl_462.1] at b1; rw [hkl_462.2 b b0 b1, hkl_463.2 b b0 (by omega)]; exact ja29 b b0 b1)
      have hq_474 : HID (la ∈ Ln_453 ∧ Pn_454.kd la = 30) := hwk_461.mem hq_98.1 hq_98.2 (by decide)
      have hq_475 : HID (lb ∈ Ln_453 ∧ Pn_454.kd lb = 30) := hwk_461.mem hq_99.1 hq_99.2 (by decide)
      have hq_476 : HID (lr ∈ Ln_453 ∧ Pn_454.kd lr = 30) := hwk_461.mem hq_100.1 hq_100.2 (by decide)
      have hq_477 : HID (lp ∈ Ln_453 ∧ Pn_454.kd lp = 30) := hwk_461.mem hq_101.1 hq_101.2 (by decide)
      have hq_478 : HID (q_56 ∈ Ln_453 ∧ Pn_454.kd q_56 = 12) := hwk_461.mem hq_102.1 hq_102.2 (by decide)
      have hA_479 : KEG [la, lb, lr, lp] L P Ln_453 Pn_454 := hA_103.trans hwk_461
      have hA_480 : KEG [la, lb, lr, lp] L6 P6 Ln_453 Pn_454 := hA_104.trans hwk_461
      have hA_481 : KEG [la, lb, lr, lp] L29 P29 Ln_453 Pn_454 := (KEG.refl [la, lb, lr, lp] L29 P29).trans hwk_461
      have hlg_473 : LG9 (Pn_454.lz lp) (P29.lz lp) (e29_1_4) := (by have q9 := hu_460.2.2.1.2.1.2; rcases q9 with q9 | q9; exact Or.inl q9; exact Or.inr ⟨q9.1, q9.2.1⟩)
      have := hlg_473.le
      have := hu_460.2.2.1.2.1.1
      have := hu_460.2.2.2
      have : Pn_454.lz la = P29.lz la := hkl_462.1
      have : Pn_454.lz lb = P29.lz lb := hkl_463.1
      have : Pn_454.lz lr = P29.lz lr := hkl_464.1
      have hek_482 : HID (Pn_454.ek la = 12) := (by rw [hwk_461.ek hq_98.1 hq_98.2 (by decide)]; exact hek_105.out)
      have how_483 : HID (Pn_454.ow la = la) := ((hwk_461.1 la hq_98.1 (by rw [hq_98.2]; decide)).2.2.2.1 hq_98.2 how_106.out).1
      have hek_484 : HID (Pn_454.ek lb = 12) := (by rw [hwk_461.ek hq_99.1 hq_99.2 (by decide)]; exact hek_107.out)
      have how_485 : HID (Pn_454.ow lb = lb) := ((hwk_461.1 lb hq_99.1 (by rw [hq_99.2]; decide)).2.2.2.1 hq_99.2 how_108.out).1
      have hek_486 : HID (Pn_454.ek lr = 17) := (by rw [hwk_461.ek hq_100.1 hq_100.2 (by decide)]; exact hek_109.out)
      have how_487 : HID (Pn_454.ow lr = lr) := ((hwk_461.1 lr hq_100.1 (by rw [hq_100.2]; decide)).2.2.2.1 hq_100.2 how_110.out).1
      have hek_488 : HID (Pn_454.ek lp = 15) := (by rw [hwk_461.ek hq_101.1 hq_101.2 (by decide)]; exact hek_111.out)
      have how_489 : HID (Pn_454.ow lp = lp) := ((hwk_461.1 lp hq_101.1 (by rw [hq_101.2]; decide)).2.2.2.1 hq_101.2 how_112.out).1
      have hakq_490 : GLR Ln_453 Pn_454 cO cI cZ sx_ed := hu_460.2.1
      have hmq_491 : q_451 ∈ Ln_453 := hu_460.2.2.1.1.1
      have hkq_492 : Pn_454.kd q_451 = 15 := hu_460.2.2.1.1.2.1
      have hdq_493 : DST Pn_454 lb := hds_470
      have hdq_494 : DSL Pn_454 lr := hdl_471
      have hdq_495 : DSL Pn_454 lp := hfr_465.2.2
      have hps := huq_458.2.2.2.2.2.1.1
      have hpc := huq_458.2.2.2.2.2.1.2
      have hlva_496 : LVA Ln_453 Pn_454 := huq_458.2.2.2.2.1
      have hlmt_497 : LMT Ln_453 Pn_454 la lb lr lp := LMT.phi jm29 aP29 hakq_490 hlva_496 (show CLF L29 P29 la 12 from ⟨hq_98.1, hq_98.2, hek_105.out, how_106.out⟩) (show CLF L29 P29 lb 12 from ⟨hq_99.1, hq_99.2, hek_107.out, how_108.out⟩) (show CLF L29 P29 lr 17 from ⟨hq_100.1, hq_100.2, hek_109.out, how_110.out⟩) (show CLF L29 P29 lp 15 from ⟨hq_101.1, hq_101.2, hek_111.out, how_112.out⟩) huq_458.1 huq_458.2.2.1 huq_458.2.2.2.2.2.2 (by omega) (by omega)
      have hnd_498 : Ln_453.Nodup := (by first | exact pl_nd hD | exact pl_nd (pl_leftD (pk_ascD hD)))
      have htp9 := hlmt_497.topS hnd_498 (hakq_490.lk (show CLF Ln_453 Pn_454 lb 12 from ⟨hq_475.1, hq_475.2, hek_484.out, how_485.out⟩)).2.2.1.1 (hakq_490.lk (show CLF Ln_453 Pn_454 lr 17 from ⟨hq_476.1, hq_476.2, hek_486.out, how_487.out⟩)).2.2.1.1 (hakq_490.lk (show CLF Ln_453 Pn_454 lp 15 from ⟨hq_477.1, hq_477.2, hek_488.out, how_489.out⟩)).2.2.1.1
      have htq9 := hlmt_497.topC hnd_498 (hakq_490.lk (show CLF Ln_453 Pn_454 lb 12 from ⟨hq_475.1, hq_475.2, hek_484.out, how_485.out⟩)).2.2.1.1 (hakq_490.lk (show CLF Ln_453 Pn_454 lr 17 from ⟨hq_476.1, hq_476.2, hek_486.out, how_487.out⟩)).2.2.1.1 (hakq_490.lk (show CLF Ln_453 Pn_454 lp 15 from ⟨hq_477.1, hq_477.2, hek_488.out, how_489.out⟩)).2.2.1.1
      have hms9 : xp_445 ∈ LS := hm_446
      have hks9 : PS.kd xp_445 = 15 := hk_447
      have hpk7 : (PS.pn xp_445 ≤ PS.an (PS.pp xp_445) ∧ PS.pn xp_445 ≤ PS.an (PS.pu xp_445) ∧ PS.pn xp_445 ≤ PS.an (PS.pr xp_445)) ∧ (PS.an (PS.pp xp_445) ≤ 1000 ∧ PS.an (PS.pu xp_445) ≤ 1000 ∧ PS.an (PS.pr xp_445) ≤ 1000) := (by have q9 := (hX_s.pk9 hms9 hks9).2.2.2.2.1; omega)
      have hpn6 : PS.pn xp_445 ≤ 60 := (by rw [hpz]; exact hsr0.2.2.2 (d29_5) (by omega) (by omega))
      have hcp0 : CPH Pn_454 q_451 PS xp_445 0 := CPH.first hu_460.2.2.1.2.2.1.1 hu_460.2.2.1.2.2.1.2
      have hxp0 : q_451 = Pn_454.el lp (OFS 1 PS lq (d6_2) + d29_5) := (by have q9 := hu_460.2.2.1.1.2.2; rw [show (e29_1_4 : Int) = OFS 1 PS lq (d6_2) + d29_5 from (by omega)] at q9; exact q9)
      skip
      refine lv_astore (lv' := [(7, .ref q_451), (6, .ref xp_445), (0, .ref hc), (1, .ref hd), (2, .int (zI (d6_2))), (3, .ref xb_51), (4, .ref q_56), (5, .int (zI (d29_5)))]) hx hb dX13_copy_64 hl (by decide) rfl (fun ls hl => ?_)
      refine lv_iconst (v := 0) hx hb dX13_copy_66 (by decide) ?_
      refine lv_istore (lv' := [(8, .int 0), (7, .ref q_451), (6, .ref xp_445), (0, .ref hc), (1, .ref hd), (2, .int (zI (d6_2))), (3, .ref xb_51), (4, .ref q_56), (5, .int (zI (d29_5)))]) hx hb dX13_copy_67 hl (by decide) rfl (fun ls hl => ?_)
      have key69 : ∀ n69 : Nat, ∀ (d69_8 : Int) (L69 : List Nat) (P69 : PO) (kc69 : Nat) (ks69 : Nat) (ls : Array Slot) (H : Heap) (locs : List Loc), (KEG [la, lb, lr, lp] Ln_453 Pn_454 L69 P69) → (GLR L69 P69 cO cI cZ sx_ed) → (0 ≤ d69_8 ∧ d69_8 ≤ PS.pn xp_445) → (LVA L69 P69) → (LMT L69 P69 la lb lr lp) → (CPI P69 PS lb lr lp lq (d6_2) (OFS 2 PS lq (d6_2)) (OFS 1 PS lq (d6_2) + d29_5)) → (DSL P69 lr) → (DSL P69 lp) → (DST P69 lb) → (∀ b : Int, 0 ≤ b → b < P69.lz la → P69.el la b = P69.el lb b) → (z0_57 = d6_2 + 1 ∧ e6_1_3 = OFS 2 PS lq (d6_2) ∧ z0_452 = OFS 1 PS lq (d6_2) + d29_5 + 1 ∧ P69.lz la = d6_2 + 1 ∧ z0_57 ≤ P69.lz lb ∧ e6_1_3 ≤ P69.lz lr ∧ z0_452 ≤ P69.lz lp) → (LGM (P69.lz lb) (P.lz lb) (z0_57) ∧ LGM (P69.lz lr) (P.lz lr) (e6_1_3) ∧ LGM (P69.lz lp) (P.lz lp) (z0_452)) → (CUR P69 PS lb lr lp lq (d6_2) (d29_5) (0)) → (q_56 = P69.el lb (d6_2)) → (q_451 = P69.el lp (OFS 1 PS lq (d6_2) + d29_5)) → (CPH P69 q_451 PS xp_445 (d69_8)) → ((ks69 : Int) ≤ PSI wSL L69 P69 - PSI wSL L P ∧ 40 * (kc69 : Int) ≤ PSI wCE L69 P69 - PSI wCE L P) → ((PS.pn xp_445 - d69_8 : Int).toNat) < n69 → lv_has ls 9 [(0, .ref hc), (1, .ref hd), (2, .int (zI (d6_2))), (3, .ref xb_51), (4, .ref q_56), (5, .int (zI (d29_5))), (6, .ref xp_445), (7, .ref q_451), (8, .int (zI (d69_8)))] → va_P (dC, dI) vwQ ([(hd, .inr (12, [v18_0, v18_1, v18_2, v18_3, v18_4, .ref lq, v18_6])), (hc, .inr (12, [.ref lb, .ref lr, .ref lp, .int (zI (e6_1_3)), .int (zI (z0_452)), .ref la, .int (zI (z0_57))]))] ++ (va_pl L69 (pE P69) ++ va_pl LS (pE PS))) H → va_D A ([(hd, .inr (12, [v18_0, v18_1, v18_2, v18_3, v18_4, .ref lq, v18_6])), (hc, .inr (12, [.ref lb, .ref lr, .ref lp, .int (zI (e6_1_3)), .int (zI (z0_452)), .ref la, .int (zI (z0_57))]))] ++ (va_pl L69 (pE P69) ++ va_pl LS (pE PS))) → va_S A s.heap H locs → W p l e (headSpec v_P13_copyQ ({ frames := 8, cells := ((2000 + (8735704 - PSI wCE L P) / 40).toNat), slots := ((1990000 - PSI wSL L P).toNat), locals := 213 })).room s m ([.ref hc, .ref hd] : List Value).toArray below meth c H locs (kc69) (ks69) Q (F0 m 69 ls []) := key69_P13_copyQ l dC dI hd v18_0 v18_1 v18_2 v18_3 v18_4 v18_6 lq cI cZ hc z13_rowN z13_phiN z13_made la lb lr lp cO L P sx_ed LS PS hNz13_rowN hNz13_phiN hNz13_made hX_g9 hC_la hX_lb hX_lr hC_lp hX_ab hX_dt hX_dr hX_dp hX_s hNr hX_Vc hX_m hX_n HU sx_mi p e s m below meth c s₁ B hml A hA hp0 hp1 hp2 hp3 hp4 hp5 hp6 hp7 hp8 hp9 hp10 hp11 hp12 hp13 hp14 hp15 Q hQ d6_2 e6_1_3 L6 P6 xb_51 q_56 z0_57 Ln_58 Pn_59 n29 d29_5 e29_1_4 L29 P29 kc29 ks29 pr_115 xp_445 q_451 z0_452 Ln_453 Pn_454 hot2 jd6_2 hcx6 hcx7 hon1 hon2 yb11 hom1 hom2 hos1 hos2 hgs7 hsrR hsrP hsr6 hb1 hb2 ih29 kP29 jd29_5 je29_1_4 jn29 jy29 hkr29 hm29 hlq yb38 hpb_448 hpz hq_474 hq_475 hq_476 hq_477 hq_478 hA_479 hA_480 hA_481 hek_482 how_483 hek_484 how_485 hek_486 how_487 hek_488 how_489 hmq_491 hkq_492 hms9 hks9 hpk7 hpn6 hK
      exact key69 ((PS.pn xp_445 - 0 : Int).toNat + 1) 0 Ln_453 Pn_454 (((kc29) + kc_455)) (((ks29) + ks_456)) ls H _ (KEG.refl _ _ _) hakq_490 (by omega) hlva_496 hlmt_497 (hci_467.to (by omega) (by omega)) hdq_494 hdq_495 hdq_493 hal_472 (by omega) ⟨((jl29.1.to2 (by omega) rfl).to (by omega)), ((jl29.2.1.to2 (by omega) rfl).to (by omega)), (((jl29.2.2.step hlg_473).to2 (by omega) rfl).to (by omega))⟩ (hcu_468.to (by omega) (by omega)) hyb_469 hxp0 hcp0 (by omega) (Nat.lt_succ_self _) (lv_sub hl [3, 4, 5, 6, 7, 8, 2, 1, 0] rfl) hP hD hS
