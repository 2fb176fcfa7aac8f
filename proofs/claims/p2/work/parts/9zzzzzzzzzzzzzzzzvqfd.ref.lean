set_option maxHeartbeats 40000000 in
set_option maxRecDepth 100000 in
theorem key6_P13_copyQ (l : Launch) (dC : Nat → ClassId) (dI : Nat → Nat → Nat) (hd : Nat) (v18_0 : Value) (v18_1 : Value) (v18_2 : Value) (v18_3 : Value) (v18_4 : Value) (v18_6 : Value) (lq : Nat) (cI : ClassId) (cZ : ClassId) (hc : Nat) (z13_rowN : Int) (z13_phiN : Int) (z13_made : Int) (la : Nat) (lb : Nat) (lr : Nat) (lp : Nat) (cO : ClassId) (L : List Nat) (P : PO) (sx_ed : Nat) (LS : List Nat) (PS : PO) (hNz13_rowN : 0 ≤ z13_rowN ∧ z13_rowN ≤ 19000) (hNz13_phiN : 0 ≤ z13_phiN ∧ z13_phiN ≤ 19000) (hNz13_made : 0 ≤ z13_made ∧ z13_made ≤ 9000) (hX_g : GLR L P cO cI cZ sx_ed) (hX_la : la ∈ L ∧ P.kd la = 30 ∧ P.ek la = 12 ∧ P.ow la = la) (hX_lb : lb ∈ L ∧ P.kd lb = 30 ∧ P.ek lb = 12 ∧ P.ow lb = lb) (hX_lr : lr ∈ L ∧ P.kd lr = 30 ∧ P.ek lr = 17 ∧ P.ow lr = lr) (hX_lp : lp ∈ L ∧ P.kd lp = 30 ∧ P.ek lp = 15 ∧ P.ow lp = lp) (hX_ab : la ≠ lb) (hX_dt : DST P lb) (hX_dr : DSL P lr) (hX_dp : DSL P lp) (hX_s : ALP LS PS cO cI cZ sx_ed lq) (hNr : P.lz lb ≤ 9000 ∧ P.lz lr ≤ 19000 ∧ P.lz lp ≤ 19000 ∧ PS.tot 2 lq ≤ 18000 ∧ PS.tot 1 lq ≤ 18000) (hX_Vc : LVA L P) (hX_m : LMT L P la lb lr lp) (hX_n : SRC9 PS lq) (HU : Heap) (sx_mi : Nat) (p : _) (e : _) (s : _) (m : _) (below : _) (meth : _) (c : _) (s₁ : _) (B : BodyLoose p l yX13_copy (headSpec v_P13_copyQ (({ frames := 8, cells := ((2000 + (8735704 - PSI wCE L P) / 40).toNat), slots := ((1990000 - PSI wSL L P).toNat), locals := 213 }))) cX13_copy 9 (none) e s m (([.ref hc, .ref hd] : List Value).toArray) below meth c s₁) (hml : c.maxLocals = 9) (A : Nat → Prop) (hA : ∀ q : Nat, s.heap.size ≤ q → A q) (hp0 : s.heap = HU) (hp1 : va_Nw (.castable "SsaForgeModel$Block" "SsaForgeModel$Block") s) (hp2 : va_Nw (.castable "SsaForgeModel$Row" "java/lang/Object") s) (hp3 : va_Nw (.castable "SsaForgeModel$Phi" "java/lang/Object") s) (hp4 : va_Nw (.castable "SsaForgeModel$Block" "java/lang/Object") s) (hp5 : va_Dc s) (hp6 : va_Mi "[Ljava/lang/Object;" sx_mi s) (hp7 : va_AO "java/lang/Object" s) (hp8 : va_T (.object "java/lang/Object") sx_ed 0 (fun _ => .null) A s s.heap) (hp9 : va_Z "java/util/ArrayList" "DEFAULTCAPACITY_EMPTY_ELEMENTDATA" "[Ljava/lang/Object;" (.ref sx_ed) A s s.heap) (hp10 : va_Nw (.methodLinkNest RX12 23 yX17_init "SsaForgeModel") s) (hp11 : va_Nw (.methodLinkNest RX13 44 yX12_init "SsaForgeModel") s) (hp12 : va_Nw (.castable "SsaForgeModel$Row" "SsaForgeModel$Row") s) (hp13 : va_Nw (.methodLinkNest RX13 57 yX17_init "SsaForgeModel") s) (hp14 : va_Nw (.castable "SsaForgeModel$Phi" "SsaForgeModel$Phi") s) (hp15 : va_Nw (.methodLinkNest RX13 79 yX15_init "SsaForgeModel") s) (Q : State → Prop) (hQ : Q = MQ below (va_Qv (fun _ : Unit => True) (fun (_ : Unit) (t : State) => ∃ (z0_9 : Int) (z1_9 : Int) (z2_9 : Int) (Ln_9 : List Nat) (Pn_9 : PO) (kc_9 : Nat) (ks_9 : Nat), ((RM HU t.heap kc_9 ks_9 ∧ ((ks_9 : Int) ≤ PSI wSL Ln_9 Pn_9 - PSI wSL L P ∧ 40 * (kc_9 : Int) ≤ PSI wCE Ln_9 Pn_9 - PSI wCE L P)) ∧ ((0 ≤ z0_9 ∧ z0_9 ≤ 19001) ∧ (0 ≤ z1_9 ∧ z1_9 ≤ 19001) ∧ (0 ≤ z2_9 ∧ z2_9 ≤ 9001) ∧ (KEG [la, lb, lr, lp] L P Ln_9 Pn_9 ∧ GLR Ln_9 Pn_9 cO cI cZ sx_ed ∧ CPI Pn_9 PS lb lr lp lq (PS.lz lq) (PS.tot 2 lq) (PS.tot 1 lq) ∧ (DST Pn_9 lb ∧ DSL Pn_9 lr ∧ DSL Pn_9 lp) ∧ (LVA Ln_9 Pn_9 ∧ LMT Ln_9 Pn_9 la lb lr lp ∧ Pn_9.lz la ≤ Pn_9.lz lb) ∧ (Pn_9.lz la = PS.lz lq ∧ ∀ b : Int, 0 ≤ b → b < Pn_9.lz la → Pn_9.el la b = Pn_9.el lb b)))) ∧ va_P (dC, dI) vwQ ([(hd, .inr (12, [v18_0, v18_1, v18_2, v18_3, v18_4, .ref lq, v18_6])), (hc, .inr (12, [.ref lb, .ref lr, .ref lp, .int (zI (z0_9)), .int (zI (z1_9)), .ref la, .int (zI (z2_9))]))] ++ (va_pl Ln_9 (pE Pn_9) ++ va_pl LS (pE PS))) t.heap ∧ va_K (dC, dI) vwQ [(cO, .object "java/lang/Object"), (cI, .int), (cZ, .boolean)] t ∧ va_D A ([(hd, .inr (12, [v18_0, v18_1, v18_2, v18_3, v18_4, .ref lq, v18_6])), (hc, .inr (12, [.ref lb, .ref lr, .ref lp, .int (zI (z0_9)), .int (zI (z1_9)), .ref la, .int (zI (z2_9))]))] ++ (va_pl Ln_9 (pE Pn_9) ++ va_pl LS (pE PS)))) A) (([.ref hc, .ref hd] : List Value).toArray) s ((2000 + (8735704 - PSI wCE L P) / 40).toNat) ((1990000 - PSI wSL L P).toNat) A) (Pn_4 : PO) (hot2 : OFS 2 PS lq (PS.lz lq) = PS.tot 2 lq) (hq_16 : HID (la ∈ L ∧ Pn_4.kd la = 30)) (hq_17 : HID (lb ∈ L ∧ Pn_4.kd lb = 30)) (hq_18 : HID (lr ∈ L ∧ Pn_4.kd lr = 30)) (hq_19 : HID (lp ∈ L ∧ Pn_4.kd lp = 30)) (hA_20 : KEG [la, lb, lr, lp] L P L Pn_4) (hek_21 : HID (Pn_4.ek la = 12)) (how_22 : HID (Pn_4.ow la = la)) (hek_23 : HID (Pn_4.ek lb = 12)) (how_24 : HID (Pn_4.ow lb = lb)) (hek_25 : HID (Pn_4.ek lr = 17)) (how_26 : HID (Pn_4.ow lr = lr)) (hek_27 : HID (Pn_4.ek lp = 15)) (how_28 : HID (Pn_4.ow lp = lp)) (hK : va_K (dC, dI) vwQ [(cO, .object "java/lang/Object"), (cI, .int), (cZ, .boolean)] s) : ∀ n6 : Nat, ∀ (d6_2 : Int) (e6_1_3 : Int) (e6_1_4 : Int) (e6_1_6 : Int) (L6 : List Nat) (P6 : PO) (kc6 : Nat) (ks6 : Nat) (ls : Array Slot) (H : Heap) (locs : List Loc), (KEG [la, lb, lr, lp] L Pn_4 L6 P6) → (GLR L6 P6 cO cI cZ sx_ed) → (0 ≤ d6_2 ∧ d6_2 ≤ PS.lz lq) → (0 ≤ e6_1_3 ∧ e6_1_3 ≤ 19001) → (0 ≤ e6_1_4 ∧ e6_1_4 ≤ 19001) → (0 ≤ e6_1_6 ∧ e6_1_6 ≤ 9001) → (LVA L6 P6) → (LMT L6 P6 la lb lr lp) → (CPI P6 PS lb lr lp lq (d6_2) (OFS 2 PS lq (d6_2)) (OFS 1 PS lq (d6_2))) → (DSL P6 lr) → (DSL P6 lp) → (DST P6 lb) → (∀ b : Int, 0 ≤ b → b < P6.lz la → P6.el la b = P6.el lb b) → (e6_1_6 = d6_2 ∧ e6_1_3 = OFS 2 PS lq (d6_2) ∧ e6_1_4 = OFS 1 PS lq (d6_2) ∧ P6.lz la = d6_2 ∧ e6_1_6 ≤ P6.lz lb ∧ e6_1_3 ≤ P6.lz lr ∧ e6_1_4 ≤ P6.lz lp) → (LGM (P6.lz lb) (P.lz lb) (e6_1_6) ∧ LGM (P6.lz lr) (P.lz lr) (e6_1_3) ∧ LGM (P6.lz lp) (P.lz lp) (e6_1_4)) → ((ks6 : Int) ≤ PSI wSL L6 P6 - PSI wSL L P ∧ 40 * (kc6 : Int) ≤ PSI wCE L6 P6 - PSI wCE L P) → ((PS.lz lq - d6_2 : Int).toNat) < n6 → lv_has ls 9 [(0, .ref hc), (1, .ref hd), (2, .int (zI (d6_2)))] → va_P (dC, dI) vwQ ([(hd, .inr (12, [v18_0, v18_1, v18_2, v18_3, v18_4, .ref lq, v18_6])), (hc, .inr (12, [.ref lb, .ref lr, .ref lp, .int (zI (e6_1_3)), .int (zI (e6_1_4)), .ref la, .int (zI (e6_1_6))]))] ++ (va_pl L6 (pE P6) ++ va_pl LS (pE PS))) H → va_D A ([(hd, .inr (12, [v18_0, v18_1, v18_2, v18_3, v18_4, .ref lq, v18_6])), (hc, .inr (12, [.ref lb, .ref lr, .ref lp, .int (zI (e6_1_3)), .int (zI (e6_1_4)), .ref la, .int (zI (e6_1_6))]))] ++ (va_pl L6 (pE P6) ++ va_pl LS (pE PS))) → va_S A s.heap H locs → W p l e (headSpec v_P13_copyQ ({ frames := 8, cells := ((2000 + (8735704 - PSI wCE L P) / 40).toNat), slots := ((1990000 - PSI wSL L P).toNat), locals := 213 })).room s m ([.ref hc, .ref hd] : List Value).toArray below meth c H locs (kc6) (ks6) Q (F0 m 6 ls []) := by
  have hx := B.exec
  have hb := B.bytes
  have hr := B.returns
  have hts := atoms_spec (ws := v_P13_copyQ) B.pre
  have hown : s.vm.findClass RX13 = some m.cls := findClass_of_methodNamed B.named
  have hlocks := B.notSynchronized
  have ow : ∀ {k : Nat} {w : Cond}, o_P13_copyQ[k]? = some w → w.before ([.ref hc, .ref hd] : List Value).toArray s = true := fun h => hts _ (mow_P13_copyQ _ (List.mem_of_getElem? h))
  have hX_g9 := hX_g
  have hC_la := hX_la
  have hC_lb := hX_lb
  have hC_lr := hX_lr
  have hC_lp := hX_lp
  have hln_la := (hX_g.lk (show CLF L P la 12 from hC_la)).2.2.1
  have hln_lb := (hX_g.lk (show CLF L P lb 12 from hC_lb)).2.2.1
  have hln_lr := (hX_g.lk (show CLF L P lr 17 from hC_lr)).2.2.1
  have hln_lp := (hX_g.lk (show CLF L P lp 15 from hC_lp)).2.2.1
  have hLn1 : LNN 1 PS lq := (fun c c0 c1 => (hX_s.inb ⟨c, c0, c1, rfl⟩).2.2.1.2.2.1.1)
  have hLn2 : LNN 2 PS lq := (fun c c0 c1 => (hX_s.inb ⟨c, c0, c1, rfl⟩).2.1.2.2.1.1)
  have hls9 := hX_s.lok.2.2.1
  have hls8 := hX_s.1.1.2.1
  have hof1 : OFS 1 PS lq 0 = 0 := rfl
  have hof2 : OFS 2 PS lq 0 = 0 := rfl
  have hsr1 : PS.lz lq ≤ 180 ∧ PS.tot 2 lq ≤ 4164 ∧ PS.tot 1 lq ≤ 1936 := hX_n.1
  have hlm0 := hX_m.2.2.2.1
  have hot1 : OFS 1 PS lq (PS.lz lq) = PS.tot 1 lq := rfl
  intro n6
  induction n6 with
  | zero => intro d6_2 e6_1_3 e6_1_4 e6_1_6 L6 P6 kc6 ks6 ls H locs kP6 aP6 jd6_2 je6_1_3 je6_1_4 je6_1_6 jv6 jm6 jc6 jr6 jp6 js6 ja6 jn6 jl6 hkr6 hm6; exact absurd hm6 (by omega)
  | succ n6 ih6 =>
    intro d6_2 e6_1_3 e6_1_4 e6_1_6 L6 P6 kc6 ks6 ls H locs kP6 aP6 jd6_2 je6_1_3 je6_1_4 je6_1_6 jv6 jm6 jc6 jr6 jp6 js6 ja6 jn6 jl6 hkr6 hm6 hl hP hD hS
    have hq_35 : HID (la ∈ L6 ∧ P6.kd la = 30) := kP6.mem hq_16.1 hq_16.2 (by decide)
    have hq_36 : HID (lb ∈ L6 ∧ P6.kd lb = 30) := kP6.mem hq_17.1 hq_17.2 (by decide)
    have hq_37 : HID (lr ∈ L6 ∧ P6.kd lr = 30) := kP6.mem hq_18.1 hq_18.2 (by decide)
    have hq_38 : HID (lp ∈ L6 ∧ P6.kd lp = 30) := kP6.mem hq_19.1 hq_19.2 (by decide)
    have hA_39 : KEG [la, lb, lr, lp] L P L6 P6 := hA_20.trans kP6
    have hek_40 : HID (P6.ek la = 12) := (by rw [kP6.ek hq_16.1 hq_16.2 (by decide)]; exact hek_21.out)
    have how_41 : HID (P6.ow la = la) := ((kP6.1 la hq_16.1 (by rw [hq_16.2]; decide)).2.2.2.1 hq_16.2 how_22.out).1
    have hek_42 : HID (P6.ek lb = 12) := (by rw [kP6.ek hq_17.1 hq_17.2 (by decide)]; exact hek_23.out)
    have how_43 : HID (P6.ow lb = lb) := ((kP6.1 lb hq_17.1 (by rw [hq_17.2]; decide)).2.2.2.1 hq_17.2 how_24.out).1
    have hek_44 : HID (P6.ek lr = 17) := (by rw [kP6.ek hq_18.1 hq_18.2 (by decide)]; exact hek_25.out)
    have how_45 : HID (P6.ow lr = lr) := ((kP6.1 lr hq_18.1 (by rw [hq_18.2]; decide)).2.2.2.1 hq_18.2 how_26.out).1
    have hek_46 : HID (P6.ek lp = 15) := (by rw [kP6.ek hq_19.1 hq_19.2 (by decide)]; exact hek_27.out)
    have how_47 : HID (P6.ow lp = lp) := ((kP6.1 lp hq_19.1 (by rw [hq_19.2]; decide)).2.2.2.1 hq_19.2 how_28.out).1
    have hj6 := kP6
    have hcx6 : OFS 1 PS lq (d6_2) ≤ OFS 1 PS lq (PS.lz lq) := OFS.le hLn1 (b := d6_2) (c := PS.lz lq) (by omega) (by omega) (Int.le_refl _)
    have hcx7 : OFS 2 PS lq (d6_2) ≤ OFS 2 PS lq (PS.lz lq) := OFS.le hLn2 (b := d6_2) (c := PS.lz lq) (by omega) (by omega) (Int.le_refl _)
    have hon1 : 0 ≤ OFS 1 PS lq (d6_2) := OFS.nn hLn1 (b := d6_2) (by omega)
    have hon2 : 0 ≤ OFS 2 PS lq (d6_2) := OFS.nn hLn2 (b := d6_2) (by omega)
    have hm1 := jl6.1.max (m := 9000) (by omega) (by omega)
    have hm2 := jl6.2.1.max (m := 19000) (by omega) (by omega)
    have hm3 := jl6.2.2.max (m := 19000) (by omega) (by omega)
    have hnd_48 : L6.Nodup := (by first | exact pl_nd hD | exact pl_nd (pl_leftD (pk_ascD hD)))
    have hlm9 := jm6.2.2.2.1
    have hnz_lb := (aP6.lk (show CLF L6 P6 lb 12 from ⟨hq_36.1, hq_36.2, hek_42.out, how_43.out⟩)).2.2.1
    have hnz_lr := (aP6.lk (show CLF L6 P6 lr 17 from ⟨hq_37.1, hq_37.2, hek_44.out, how_45.out⟩)).2.2.1
    have hnz_lp := (aP6.lk (show CLF L6 P6 lp 15 from ⟨hq_38.1, hq_38.2, hek_46.out, how_47.out⟩)).2.2.1
    have htp9 := jm6.topS hnd_48 hnz_lb.1 hnz_lr.1 hnz_lp.1
    have htq9 := jm6.topC hnd_48 hnz_lb.1 hnz_lr.1 hnz_lp.1
    skip
    refine lv_iload_n hx hb dX13_copy_6 rfl (lv_at hl 2 rfl) ?_
    refine lv_aload_n hx hb dX13_copy_7 rfl (lv_at hl 1 rfl) ?_
    replace hP := pk_sw hP
    replace hD := pk_swD hD
    have hPT := pk_asc hP
    have hDT := pk_ascD hD
    replace hP := pl_left hPT
    replace hD := pl_leftD hDT
    have hX_l := hX_s.lok
    have hlz9 := hX_l.2.2.1
    have hPc := hP.part (X := [(hd, .inr (12, [v18_0, v18_1, v18_2, v18_3, v18_4, .ref lq, v18_6])), (hc, .inr (12, [.ref lb, .ref lr, .ref lp, .int (zI (e6_1_3)), .int (zI (e6_1_4)), .ref la, .int (zI (e6_1_6))]))]) (cx := [(hd, .inr (12, [v18_0, v18_1, v18_2, v18_3, v18_4, .ref lq, v18_6]))]) (pl := va_pl LS (pE PS)) [0] rfl
    have hDc := hD.part (X := [(hd, .inr (12, [v18_0, v18_1, v18_2, v18_3, v18_4, .ref lq, v18_6])), (hc, .inr (12, [.ref lb, .ref lr, .ref lp, .int (zI (e6_1_3)), .int (zI (e6_1_4)), .ref la, .int (zI (e6_1_6))]))]) (cx := [(hd, .inr (12, [v18_0, v18_1, v18_2, v18_3, v18_4, .ref lq, v18_6]))]) (pl := va_pl LS (pE PS)) [0] (by decide) rfl
    have hKc := hK.sub (tys' := [(cO, .object "java/lang/Object")]) [0] rfl
    have hFc := va_freeP (X := [(hd, .inr (12, [v18_0, v18_1, v18_2, v18_3, v18_4, .ref lq, v18_6])), (hc, .inr (12, [.ref lb, .ref lr, .ref lp, .int (zI (e6_1_3)), .int (zI (e6_1_4)), .ref la, .int (zI (e6_1_6))]))]) (cx := [(hd, .inr (12, [v18_0, v18_1, v18_2, v18_3, v18_4, .ref lq, v18_6]))]) (pl := va_pl LS (pE PS)) hD hS hA [0] rfl
    refine va_calli (va_runV (As := []) (rest := [.int (zI (d6_2))]) ⟨hx, hb, hml, hown, hts⟩ (c_PC_size l dC dI hd v18_0 v18_1 v18_2 v18_3 v18_4 v18_6 lq cO LS PS hX_l H.size) (cwV 0 hts g_P13_copyQ_PC_size rfl rfl rfl (by decide +kernel) ⟨(Nat.le_of_ble_eq_true rfl), (Nat.le_of_ble_eq_true rfl)⟩) ⟨fun a U g mk q => by obtain ⟨q0, q1, qP, qK, qD⟩ := q; exact ⟨q0, q1, qP, va_K.moved (u := U) (U := U.calling g mk a) (Vm.Alike.refl U.vm) qK, qD⟩, va_recv hKc hPc (ci := 12) (q0 := 0) rfl rfl, fun U hU hW => ⟨rfl, by rw [hU], by rw [hU]; exact hPc, va_K.moved hW.alike hKc, hDc.weaken (fun _ _ _ _ => trivial)⟩⟩ rfl rfl hl.1 rfl (lv_room (Nat.le_of_ble_eq_true rfl)) dX13_copy_8 ⟨(show (kc6) + 0 ≤ (2000 + (8735704 - PSI wCE L P) / 40).toNat from (by omega)), (show (ks6) + 0 ≤ (1990000 - PSI wSL L P).toNat from (by omega))⟩) hS (fun q _ h => hFc q h) hFc (fun r_49 u t H1 locs ht hvm hw hB hz1 hk1 hS => ?_)
    obtain ⟨hP1, hK1, hD1⟩ := hB
    rw [ht] at hP1
    have hK1 := va_K.moved hvm.symm hK1
    obtain ⟨hP, hD⟩ := va_joinPT (X := [(hd, .inr (12, [v18_0, v18_1, v18_2, v18_3, v18_4, .ref lq, v18_6])), (hc, .inr (12, [.ref lb, .ref lr, .ref lp, .int (zI (e6_1_3)), .int (zI (e6_1_4)), .ref la, .int (zI (e6_1_6))]))]) (cx := [(hd, .inr (12, [v18_0, v18_1, v18_2, v18_3, v18_4, .ref lq, v18_6]))]) (wr := [(hc, .inr (12, [.ref lb, .ref lr, .ref lp, .int (zI (e6_1_3)), .int (zI (e6_1_4)), .ref la, .int (zI (e6_1_6))]))]) (rx := [(hd, .inr (12, [v18_0, v18_1, v18_2, v18_3, v18_4, .ref lq, v18_6]))]) (pl := va_pl LS (pE PS)) (pl1 := va_pl LS (pE PS)) (T := va_pl L6 (pE P6)) hPT hDT [0] [1] rfl rfl (by decide) (by decide) hk1 hFc hP1 hD1
    replace hP := pk_back hP
    replace hD := pk_backD hD
    replace hK := (hK.sub (tys' := [(cI, .int), (cZ, .boolean)]) [1, 2] rfl).app hK1
    generalize H1 = H at hP hS ⊢
    clear hPc hDc hKc hFc hk1 hz1 hPT hDT
    replace hP : va_P (dC, dI) vwQ ([(hc, .inr (12, [.ref lb, .ref lr, .ref lp, .int (zI (e6_1_3)), .int (zI (e6_1_4)), .ref la, .int (zI (e6_1_6))])), (hd, .inr (12, [v18_0, v18_1, v18_2, v18_3, v18_4, .ref lq, v18_6]))] ++ (va_pl LS (pE PS) ++ va_pl L6 (pE P6))) H := hP
    replace hD : va_D A ([(hc, .inr (12, [.ref lb, .ref lr, .ref lp, .int (zI (e6_1_3)), .int (zI (e6_1_4)), .ref la, .int (zI (e6_1_6))])), (hd, .inr (12, [v18_0, v18_1, v18_2, v18_3, v18_4, .ref lq, v18_6]))] ++ (va_pl LS (pE PS) ++ va_pl L6 (pE P6))) := hD
    replace hK : va_K (dC, dI) vwQ [(cI, .int), (cZ, .boolean), (cO, .object "java/lang/Object")] s := hK
    refine W.widen (k := (kc6)) (n := (ks6)) (by omega) (by omega) ?_
    obtain rfl : r_49 = (zI (PS.lz lq)) := hw
    replace hP := pk_sw hP
    replace hD := pk_swD hD
    refine lv_icmp_ge (tgt := 222) hx hb dX13_copy_11 (by decide) (fun b11 => ?_) (fun b11 => ?_)
    · have yb11 : (PS.lz lq : Int) ≤ (d6_2 : Int) := (zI_le (a := PS.lz lq) (b := d6_2) (by omega) (by omega) (by omega) (by omega)).mp b11
      subst hQ
      replace hP := hP.part (X := [(hc, .inr (12, [.ref lb, .ref lr, .ref lp, .int (zI (e6_1_3)), .int (zI (e6_1_4)), .ref la, .int (zI (e6_1_6))])), (hd, .inr (12, [v18_0, v18_1, v18_2, v18_3, v18_4, .ref lq, v18_6]))]) (cx := [(hd, .inr (12, [v18_0, v18_1, v18_2, v18_3, v18_4, .ref lq, v18_6])), (hc, .inr (12, [.ref lb, .ref lr, .ref lp, .int (zI (e6_1_3)), .int (zI (e6_1_4)), .ref la, .int (zI (e6_1_6))]))]) (pl := (va_pl L6 (pE P6) ++ va_pl LS (pE PS))) [1, 0] rfl
      replace hD := hD.part (X := [(hc, .inr (12, [.ref lb, .ref lr, .ref lp, .int (zI (e6_1_3)), .int (zI (e6_1_4)), .ref la, .int (zI (e6_1_6))])), (hd, .inr (12, [v18_0, v18_1, v18_2, v18_3, v18_4, .ref lq, v18_6]))]) (cx := [(hd, .inr (12, [v18_0, v18_1, v18_2, v18_3, v18_4, .ref lq, v18_6])), (hc, .inr (12, [.ref lb, .ref lr, .ref lp, .int (zI (e6_1_3)), .int (zI (e6_1_4)), .ref la, .int (zI (e6_1_6))]))]) (pl := (va_pl L6 (pE P6) ++ va_pl LS (pE PS))) [1, 0] (by decide) rfl
      replace hK := hK.sub (tys' := [(cO, .object "java/lang/Object"), (cI, .int), (cZ, .boolean)]) [2, 0, 1] rfl
      refine W_knowS (fun hrm9 => ?_)
      refine W.widen (k := ((2000 + (8735704 - PSI wCE L P) / 40).toNat)) (n := ((1990000 - PSI wSL L P).toNat)) (by omega) (by omega) ?_
      exact W.vret hx hb hr (fun t ht hW => ⟨⟨(), rfl, trivial, e6_1_3, e6_1_4, e6_1_6, L6, P6, (kc6), (ks6), ⟨⟨(by rw [ht, ← hp0]; exact hrm9), (by omega)⟩, ⟨(by omega), (by omega), (by omega), ⟨hA_39, aP6, (by have q9 := jc6.to9 (show PS.lz lq = d6_2 from (by omega)); rw [show d6_2 = PS.lz lq from (by omega), hot1, hot2] at q9; exact q9), ⟨js6, jr6, jp6⟩, ⟨jv6, jm6, by omega⟩, (by omega), ja6⟩⟩⟩, by rw [ht]; exact hP, va_K.moved hW.alike hK, hD⟩, hS.F ht⟩) hS.2.2 dX13_copy_222
    · have yb11 : ¬ (PS.lz lq : Int) ≤ (d6_2 : Int) := fun q => b11 ((zI_le (a := PS.lz lq) (b := d6_2) (by omega) (by omega) (by omega) (by omega)).mpr q)
      refine lv_aload_n hx hb dX13_copy_14 rfl (lv_at hl 1 rfl) ?_
      refine lv_iload_n hx hb dX13_copy_15 rfl (lv_at hl 2 rfl) ?_
      replace hP := pk_sw hP
      replace hD := pk_swD hD
      have hPT := pk_asc hP
      have hDT := pk_ascD hD
      replace hP := pl_left hPT
      replace hD := pl_leftD hDT
      have hX_l := hX_s.lok
      obtain ⟨x, ex⟩ : ∃ q9 : Nat, q9 = PS.el lq (d6_2) := ⟨_, rfl⟩
      have hX_el := ex
      have hPc := hP.part (X := [(hc, .inr (12, [.ref lb, .ref lr, .ref lp, .int (zI (e6_1_3)), .int (zI (e6_1_4)), .ref la, .int (zI (e6_1_6))])), (hd, .inr (12, [v18_0, v18_1, v18_2, v18_3, v18_4, .ref lq, v18_6]))]) (cx := [(hd, .inr (12, [v18_0, v18_1, v18_2, v18_3, v18_4, .ref lq, v18_6]))]) (pl := va_pl LS (pE PS)) [1] rfl
      have hDc := hD.part (X := [(hc, .inr (12, [.ref lb, .ref lr, .ref lp, .int (zI (e6_1_3)), .int (zI (e6_1_4)), .ref la, .int (zI (e6_1_6))])), (hd, .inr (12, [v18_0, v18_1, v18_2, v18_3, v18_4, .ref lq, v18_6]))]) (cx := [(hd, .inr (12, [v18_0, v18_1, v18_2, v18_3, v18_4, .ref lq, v18_6]))]) (pl := va_pl LS (pE PS)) [1] (by decide) rfl
      have hKc := hK.sub (tys' := [(cO, .object "java/lang/Object")]) [2] rfl
      have hFc := va_freeP (X := [(hc, .inr (12, [.ref lb, .ref lr, .ref lp, .int (zI (e6_1_3)), .int (zI (e6_1_4)), .ref la, .int (zI (e6_1_6))])), (hd, .inr (12, [v18_0, v18_1, v18_2, v18_3, v18_4, .ref lq, v18_6]))]) (cx := [(hd, .inr (12, [v18_0, v18_1, v18_2, v18_3, v18_4, .ref lq, v18_6]))]) (pl := va_pl LS (pE PS)) hD hS hA [1] rfl
      refine va_callr (va_runV (As := [.int (zI (d6_2))]) (rest := []) ⟨hx, hb, hml, hown, hts⟩ (c_PC_get l dC dI hd v18_0 v18_1 v18_2 v18_3 v18_4 v18_6 lq cO LS PS d6_2 x hX_l (by omega) hX_el H.size) (cwV 1 hts g_P13_copyQ_PC_get rfl rfl rfl (by decide +kernel) ⟨(Nat.le_of_ble_eq_true rfl), (Nat.le_of_ble_eq_true rfl)⟩) ⟨fun a U g mk q => by obtain ⟨q0, q1, qP, qK, qD, e0⟩ := q; exact ⟨q0, q1, qP, va_K.moved (u := U) (U := U.calling g mk a) (Vm.Alike.refl U.vm) qK, qD, va_Nw.same rfl (u := U) (U := U.calling g mk a) rfl e0⟩, va_recv hKc hPc (ci := 12) (q0 := 0) rfl rfl, fun U hU hW => ⟨rfl, by rw [hU], by rw [hU]; exact hPc, va_K.moved hW.alike hKc, hDc.weaken (fun _ _ _ _ => trivial), va_Nw.warmC hW hp1⟩⟩ rfl rfl hl.1 rfl (lv_room (Nat.le_of_ble_eq_true rfl)) dX13_copy_16 ⟨(show (kc6) + 0 ≤ (2000 + (8735704 - PSI wCE L P) / 40).toNat from (by omega)), (show (ks6) + 0 ≤ (1990000 - PSI wSL L P).toNat from (by omega))⟩) hS (fun q _ h => hFc q h) hFc (fun u q_50 t H1 locs ht hvm hw hB hz1 hk1 hS => ?_)
      obtain ⟨hxt_50, hP1, hK1, hD1⟩ := hB
      rw [ht] at hP1
      have hK1 := va_K.moved hvm.symm hK1
      obtain ⟨hP, hD⟩ := va_joinPT (X := [(hc, .inr (12, [.ref lb, .ref lr, .ref lp, .int (zI (e6_1_3)), .int (zI (e6_1_4)), .ref la, .int (zI (e6_1_6))])), (hd, .inr (12, [v18_0, v18_1, v18_2, v18_3, v18_4, .ref lq, v18_6]))]) (cx := [(hd, .inr (12, [v18_0, v18_1, v18_2, v18_3, v18_4, .ref lq, v18_6]))]) (wr := [(hc, .inr (12, [.ref lb, .ref lr, .ref lp, .int (zI (e6_1_3)), .int (zI (e6_1_4)), .ref la, .int (zI (e6_1_6))]))]) (rx := [(hd, .inr (12, [v18_0, v18_1, v18_2, v18_3, v18_4, .ref lq, v18_6]))]) (pl := va_pl LS (pE PS)) (pl1 := va_pl LS (pE PS)) (T := va_pl L6 (pE P6)) hPT hDT [1] [0] rfl rfl (by decide) (by decide) hk1 hFc hP1 hD1
      replace hP := pk_back hP
      replace hD := pk_backD hD
      replace hK := (hK.sub (tys' := [(cI, .int), (cZ, .boolean)]) [0, 1] rfl).app hK1
      generalize H1 = H at hP hS ⊢
      clear hPc hDc hKc hFc hk1 hz1 hPT hDT
      replace hP : va_P (dC, dI) vwQ ([(hc, .inr (12, [.ref lb, .ref lr, .ref lp, .int (zI (e6_1_3)), .int (zI (e6_1_4)), .ref la, .int (zI (e6_1_6))])), (hd, .inr (12, [v18_0, v18_1, v18_2, v18_3, v18_4, .ref lq, v18_6]))] ++ (va_pl LS (pE PS) ++ va_pl L6 (pE P6))) H := hP
      replace hD : va_D A ([(hc, .inr (12, [.ref lb, .ref lr, .ref lp, .int (zI (e6_1_3)), .int (zI (e6_1_4)), .ref la, .int (zI (e6_1_6))])), (hd, .inr (12, [v18_0, v18_1, v18_2, v18_3, v18_4, .ref lq, v18_6]))] ++ (va_pl LS (pE PS) ++ va_pl L6 (pE P6))) := hD
      replace hK : va_K (dC, dI) vwQ [(cI, .int), (cZ, .boolean), (cO, .object "java/lang/Object")] s := hK
      refine W.widen (k := (kc6)) (n := (ks6)) (by omega) (by omega) ?_
      rw [hxt_50]
      obtain ⟨xb_51, h9⟩ : ∃ q9 : Nat, q9 = x := ⟨_, rfl⟩
      subst h9
      have hi_52 : INB PS lq xb_51 := ⟨d6_2, by omega, by omega, ex⟩
      clear hX_el
      have hx_54 := ex
      have hB_53 := hX_s.inb hi_52
      have hfb := hB_53.2.2.2.2
      replace hP := pk_sw hP
      replace hD := pk_swD hD
      have hom1 : OFS 1 PS lq (d6_2) + PS.lz (PS.bp (PS.el lq (d6_2))) ≤ OFS 1 PS lq (PS.lz lq) := OFS.mono hLn1 (by omega) (by omega) (Int.le_refl _)
      have hom2 : OFS 2 PS lq (d6_2) + PS.lz (PS.br (PS.el lq (d6_2))) ≤ OFS 2 PS lq (PS.lz lq) := OFS.mono hLn2 (by omega) (by omega) (Int.le_refl _)
      have hos1 : OFS 1 PS lq (d6_2 + 1) = OFS 1 PS lq (d6_2) + PS.lz (PS.bp (PS.el lq (d6_2))) := OFS.succ (by omega)
      have hos2 : OFS 2 PS lq (d6_2 + 1) = OFS 2 PS lq (d6_2) + PS.lz (PS.br (PS.el lq (d6_2))) := OFS.succ (by omega)
      have hgs7 : (0 ≤ PS.bf xb_51 ∧ PS.bf xb_51 ≤ 299) ∧ (0 ≤ PS.bs xb_51 ∧ PS.bs xb_51 ≤ 299) := (by have q9 := (hX_s.glfR.gb hB_53.1.1 hB_53.1.2).2; omega)
      have hsr0 := hX_n.2 (d6_2) (by omega) (by omega)
      have hsrR : 1 ≤ d6_2 → PS.lz (PS.br (PS.el lq (d6_2))) ≤ 1800 := hsr0.1
      have hsrP : PS.lz (PS.bp (PS.el lq (d6_2))) ≤ 700 := hsr0.2.1
      have hsr6 : 60 ≤ d6_2 → PS.lz (PS.bp (PS.el lq (d6_2))) = 0 := hsr0.2.2.1
      have hb1 : 0 ≤ PS.lz (PS.bp (PS.el lq (d6_2))) := hLn1 (d6_2) (by omega) (by omega)
      have hb2 : 0 ≤ PS.lz (PS.br (PS.el lq (d6_2))) := hLn2 (d6_2) (by omega) (by omega)
      skip
      refine lv_astore_n (lv' := [(3, .ref xb_51), (0, .ref hc), (1, .ref hd), (2, .int (zI (d6_2)))]) hx hb dX13_copy_19 rfl hl (by decide) rfl (fun ls hl => ?_)
      refine lv_aload_n hx hb dX13_copy_20 rfl (lv_at hl 1 rfl) ?_
      skip
      have hPT := pk_asc hP
      have hDT := pk_ascD hD
      replace hP := pl_left hPT
      replace hD := pl_leftD hDT
      have hX_V := jv6
      have hX_g := aP6
      have hX_la : HID (la ∈ L6 ∧ P6.kd la = 30 ∧ P6.ek la = 12 ∧ P6.ow la = la) := HID.mk ⟨hq_35.1, hq_35.2, hek_40.out, how_41.out⟩
      have hX_lb : HID (lb ∈ L6 ∧ P6.kd lb = 30 ∧ P6.ek lb = 12 ∧ P6.ow lb = lb) := HID.mk ⟨hq_36.1, hq_36.2, hek_42.out, how_43.out⟩
      have hX_lr : HID (lr ∈ L6 ∧ P6.kd lr = 30 ∧ P6.ek lr = 17 ∧ P6.ow lr = lr) := HID.mk ⟨hq_37.1, hq_37.2, hek_44.out, how_45.out⟩
      have hX_ds := js6
      have hnd_55 : L6.Nodup := (by first | exact pl_nd hD | exact pl_nd (pl_leftD (pk_ascD hD)))
      have hPc := hP.part (X := [(hc, .inr (12, [.ref lb, .ref lr, .ref lp, .int (zI (e6_1_3)), .int (zI (e6_1_4)), .ref la, .int (zI (e6_1_6))])), (hd, .inr (12, [v18_0, v18_1, v18_2, v18_3, v18_4, .ref lq, v18_6]))]) (cx := [(hc, .inr (12, [.ref lb, .ref lr, .ref lp, .int (zI (e6_1_3)), .int (zI (e6_1_4)), .ref la, .int (zI (e6_1_6))]))]) (pl := va_pl L6 (pE P6)) [0] rfl
      have hDc := hD.part (X := [(hc, .inr (12, [.ref lb, .ref lr, .ref lp, .int (zI (e6_1_3)), .int (zI (e6_1_4)), .ref la, .int (zI (e6_1_6))])), (hd, .inr (12, [v18_0, v18_1, v18_2, v18_3, v18_4, .ref lq, v18_6]))]) (cx := [(hc, .inr (12, [.ref lb, .ref lr, .ref lp, .int (zI (e6_1_3)), .int (zI (e6_1_4)), .ref la, .int (zI (e6_1_6))]))]) (pl := va_pl L6 (pE P6)) [0] (by decide) rfl
      have hKc := hK.sub (tys' := [(cO, .object "java/lang/Object"), (cI, .int), (cZ, .boolean)]) [2, 0, 1] rfl
      have hFc := va_freeP (X := [(hc, .inr (12, [.ref lb, .ref lr, .ref lp, .int (zI (e6_1_3)), .int (zI (e6_1_4)), .ref la, .int (zI (e6_1_6))])), (hd, .inr (12, [v18_0, v18_1, v18_2, v18_3, v18_4, .ref lq, v18_6]))]) (cx := [(hc, .inr (12, [.ref lb, .ref lr, .ref lp, .int (zI (e6_1_3)), .int (zI (e6_1_4)), .ref la, .int (zI (e6_1_6))]))]) (pl := va_pl L6 (pE P6)) hD hS hA [0] rfl
      refine W_knowS (fun hrmA => ?_)
      refine va_callr (va_runV (As := []) (rest := []) ⟨hx, hb, hml, hown, hts⟩ (c_P13_blockQ l dC dI cI cZ hc (.ref lp) (.int (zI (e6_1_3))) (.int (zI (e6_1_4))) e6_1_6 la lb lr cO L6 P6 sx_ed (by omega) hX_g hX_la hX_lb hX_lr hX_ab hX_ds (by omega) hX_V H.size sx_mi H) (cwV 0 hts g_P13_copyQ_P13_blockQ rfl rfl rfl (by decide +kernel) ⟨(Nat.le_of_ble_eq_true rfl), (Nat.le_of_ble_eq_true rfl)⟩) ⟨fun a U g mk q => by obtain ⟨q0, q1, qP, qK, qD, e0, e1, e2, e3, e4, e5, e6, e7, e8, e9, e10, e11⟩ := q; exact ⟨q0, q1, qP, va_K.moved (u := U) (U := U.calling g mk a) (Vm.Alike.refl U.vm) qK, qD, va_Nw.same rfl (u := U) (U := U.calling g mk a) rfl e0, va_Nw.same rfl (u := U) (U := U.calling g mk a) rfl e1, va_Nw.same rfl (u := U) (U := U.calling g mk a) rfl e2, va_Nw.same rfl (u := U) (U := U.calling g mk a) rfl e3, va_Dc.moved (u := U) (U := U.calling g mk a) (Vm.Alike.refl U.vm) e4, va_Mi.moved (u := U) (U := U.calling g mk a) (Vm.Alike.refl U.vm) e5, va_AO.moved (u := U) (U := U.calling g mk a) (Vm.Alike.refl U.vm) e6, va_T.moved (u := U) (U := U.calling g mk a) (Vm.Alike.refl U.vm) e7, va_Z.moved (u := U) (U := U.calling g mk a) (Vm.Alike.refl U.vm) e8, e9, va_Nw.same rfl (u := U) (U := U.calling g mk a) rfl e10, va_Nw.same rfl (u := U) (U := U.calling g mk a) rfl e11⟩, va_recv hKc hPc (ci := 12) (q0 := 0) rfl rfl, fun U hU hW => ⟨rfl, by rw [hU], by rw [hU]; exact hPc, va_K.moved hW.alike hKc, hDc.weaken (fun _ _ _ _ => trivial), va_Nw.warmC hW hp1, va_Nw.warmC hW hp2, va_Nw.warmC hW hp3, va_Nw.warmC hW hp4, va_Dc.moved hW.alike hp5, va_Mi.moved hW.alike hp6, va_AO.moved hW.alike hp7, by rw [hU]; exact va_T.narrow (va_T.moved hW.alike (va_T.kept hp8 hS.2.1)) hFc, by rw [hU]; exact va_Z.narrow (va_Z.moved hW.alike (va_Z.kept hp9 hS.2.1)) hFc, hU, va_Nw.warmM hW hp10, va_Nw.warmM hW hp11⟩⟩ rfl rfl hl.1 rfl (lv_room (Nat.le_of_ble_eq_true rfl)) dX13_copy_21 ⟨(show (kc6) + 6 ≤ (2000 + (8735704 - PSI wCE L P) / 40).toNat from (by omega)), (show (ks6) + 12510 ≤ (1990000 - PSI wSL L P).toNat from (by omega))⟩) hS (fun q _ h => hFc q h) hFc (fun u q_56 t H1 locs ht hvm hw hB hz1 hk1 hS => ?_)
      obtain ⟨z0_57, Ln_58, Pn_59, kc_60, ks_61, hxt_61, hP1, hK1, hD1⟩ := hB
      rw [ht] at hP1
      have hK1 := va_K.moved hvm.symm hK1
      obtain ⟨hP, hD⟩ := va_joinPT (X := [(hc, .inr (12, [.ref lb, .ref lr, .ref lp, .int (zI (e6_1_3)), .int (zI (e6_1_4)), .ref la, .int (zI (e6_1_6))])), (hd, .inr (12, [v18_0, v18_1, v18_2, v18_3, v18_4, .ref lq, v18_6]))]) (cx := [(hc, .inr (12, [.ref lb, .ref lr, .ref lp, .int (zI (e6_1_3)), .int (zI (e6_1_4)), .ref la, .int (zI (e6_1_6))]))]) (wr := [(hd, .inr (12, [v18_0, v18_1, v18_2, v18_3, v18_4, .ref lq, v18_6]))]) (rx := [(hc, .inr (12, [.ref lb, .ref lr, .ref lp, .int (zI (e6_1_3)), .int (zI (e6_1_4)), .ref la, .int (zI (z0_57))]))]) (pl := va_pl L6 (pE P6)) (pl1 := va_pl Ln_58 (pE Pn_59)) (T := va_pl LS (pE PS)) hPT hDT [0] [1] rfl rfl (by decide) (by decide) hk1 hFc hP1 hD1
      replace hP := pk_back hP
      replace hD := pk_backD hD
      replace hK := (hK.sub (tys' := []) [] rfl).app hK1
      have hrmC := hxt_61.1.1
      rw [ht] at hrmC
      refine W_tightS (hrmA.trans hrmC) ?_
      have hrb := hxt_61.1.2
      generalize H1 = H at hP hS ⊢
      clear hPc hDc hKc hFc hk1 hz1 hPT hDT
      replace hP : va_P (dC, dI) vwQ ([(hd, .inr (12, [v18_0, v18_1, v18_2, v18_3, v18_4, .ref lq, v18_6])), (hc, .inr (12, [.ref lb, .ref lr, .ref lp, .int (zI (e6_1_3)), .int (zI (e6_1_4)), .ref la, .int (zI (z0_57))]))] ++ (va_pl Ln_58 (pE Pn_59) ++ va_pl LS (pE PS))) H := hP
      replace hD : va_D A ([(hd, .inr (12, [v18_0, v18_1, v18_2, v18_3, v18_4, .ref lq, v18_6])), (hc, .inr (12, [.ref lb, .ref lr, .ref lp, .int (zI (e6_1_3)), .int (zI (e6_1_4)), .ref la, .int (zI (z0_57))]))] ++ (va_pl Ln_58 (pE Pn_59) ++ va_pl LS (pE PS))) := hD
      replace hK : va_K (dC, dI) vwQ [(cO, .object "java/lang/Object"), (cI, .int), (cZ, .boolean)] s := hK
      refine W.widen (k := ((kc6) + kc_60)) (n := ((ks6) + ks_61)) (by omega) (by omega) ?_
      obtain ⟨rk_62, hu_62⟩ := hxt_61.2
      have hu_63 := HID.mk (hxt_61.2.2)
      replace hxt_61 := HID.mk hxt_61
      replace hu_62 := HID.mk hu_62
      have hwk_64 := hu_63.1.wk (E' := [la, lb, lr, lp]) (fun _ h9 => CPI.mem4 (Or.inr (Or.inl rfl)) h9)
      have hkl_65 := hu_63.1.lst (show CLF L6 P6 lr 17 from ⟨hq_37.1, hq_37.2, hek_44.out, how_45.out⟩) (by intro q9; simp at q9; rcases q9 with q9 | q9; exact absurd q9 (ek_ne hek_44.out hek_40.out (by decide)); exact absurd q9 (ek_ne hek_44.out hek_42.out (by decide)))
      have hkl_66 := hu_63.1.lst (show CLF L6 P6 lp 15 from ⟨hq_38.1, hq_38.2, hek_46.out, how_47.out⟩) (by intro q9; simp at q9; rcases q9 with q9 | q9; exact absurd q9 (ek_ne hek_46.out hek_40.out (by decide)); exact absurd q9 (ek_ne hek_46.out hek_42.out (by decide)))
      have hns_67 := hns_newR (i := d6_2) (n := OFS 2 PS lq (d6_2)) (p := OFS 1 PS lq (d6_2)) aP6 hu_63.2.1 hu_63.1 hu_63.2.2.1 hu_63.2.2.2.1 (by omega) (by omega) (show CLF L6 P6 la 12 from ⟨hq_35.1, hq_35.2, hek_40.out, how_41.out⟩) (show CLF L6 P6 lb 12 from ⟨hq_36.1, hq_36.2, hek_42.out, how_43.out⟩) (show CLF L6 P6 lr 17 from ⟨hq_37.1, hq_37.2, hek_44.out, how_45.out⟩) (show CLF L6 P6 lp 15 from ⟨hq_38.1, hq_38.2, hek_46.out, how_47.out⟩) (by omega) (by omega)
      have hci_68 : CPI Pn_59 PS lb lr lp lq (d6_2) (OFS 2 PS lq (d6_2)) (OFS 1 PS lq (d6_2)) := jc6.frR aP6 hu_63.2.2.1.2.2.2.2.c8 (aP6.lk (show CLF L6 P6 lb 12 from ⟨hq_36.1, hq_36.2, hek_42.out, how_43.out⟩)) (aP6.lk (show CLF L6 P6 lr 17 from ⟨hq_37.1, hq_37.2, hek_44.out, how_45.out⟩)) (aP6.lk (show CLF L6 P6 lp 15 from ⟨hq_38.1, hq_38.2, hek_46.out, how_47.out⟩)) (by omega) (by omega) (by omega) hLn1 hLn2 (by omega) (fun k9 k0 k1 => hu_63.2.2.1.2.2.2.1 k9 k0 (by omega)) (fun k9 k0 k1 => hkl_65.2 k9 k0 (by omega)) (fun k9 k0 k1 => hkl_66.2 k9 k0 (by omega)) hns_67
      have hdl_69 := jr6.same hkl_65.1 hkl_65.2
      have hdl_70 := jp6.same hkl_66.1 hkl_66.2
      have hal_71 := hu_63.2.2.1.alb ja6 (by omega) (by omega)
      have hcu_72 : CUR Pn_59 PS lb lr lp lq (d6_2) (0) (0) := (by have q9 := CUR.new (Q := PS) (lr := lr) (lp := lp) (ls := lq) hu_63.2.2.1; rw [show (e6_1_6 : Int) = d6_2 from (by omega)] at q9; exact q9)
      have hyb_73 : q_56 = Pn_59.el lb (d6_2) := (by have q9 := hu_63.2.2.1.1.2.2.1; rw [show (e6_1_6 : Int) = d6_2 from (by omega)] at q9; exact q9)
      have hq_75 : HID (la ∈ Ln_58 ∧ Pn_59.kd la = 30) := hwk_64.mem hq_35.1 hq_35.2 (by decide)
      have hq_76 : HID (lb ∈ Ln_58 ∧ Pn_59.kd lb = 30) := hwk_64.mem hq_36.1 hq_36.2 (by decide)
      have hq_77 : HID (lr ∈ Ln_58 ∧ Pn_59.kd lr = 30) := hwk_64.mem hq_37.1 hq_37.2 (by decide)
      have hq_78 : HID (lp ∈ Ln_58 ∧ Pn_59.kd lp = 30) := hwk_64.mem hq_38.1 hq_38.2 (by decide)
      have hA_79 : KEG [la, lb, lr, lp] L P Ln_58 Pn_59 := hA_39.trans hwk_64
      have hA_80 : KEG [la, lb, lr, lp] L6 P6 Ln_58 Pn_59 := (KEG.refl [la, lb, lr, lp] L6 P6).trans hwk_64
      have := hu_63.2.2.1.2.1.1
      have := hu_63.2.2.1.2.1.2.1
      have hlg_74 : LG9 (Pn_59.lz lb) (P6.lz lb) (e6_1_6) := hu_63.2.2.1.2.1.2.2
      have := hlg_74.le
      have := hu_63.2.2.2.2
      have : Pn_59.lz lr = P6.lz lr := hkl_65.1
      have : Pn_59.lz lp = P6.lz lp := hkl_66.1
      have hek_81 : HID (Pn_59.ek la = 12) := (by rw [hwk_64.ek hq_35.1 hq_35.2 (by decide)]; exact hek_40.out)
      have how_82 : HID (Pn_59.ow la = la) := ((hwk_64.1 la hq_35.1 (by rw [hq_35.2]; decide)).2.2.2.1 hq_35.2 how_41.out).1
      have hek_83 : HID (Pn_59.ek lb = 12) := (by rw [hwk_64.ek hq_36.1 hq_36.2 (by decide)]; exact hek_42.out)
      have how_84 : HID (Pn_59.ow lb = lb) := ((hwk_64.1 lb hq_36.1 (by rw [hq_36.2]; decide)).2.2.2.1 hq_36.2 how_43.out).1
      have hek_85 : HID (Pn_59.ek lr = 17) := (by rw [hwk_64.ek hq_37.1 hq_37.2 (by decide)]; exact hek_44.out)
      have how_86 : HID (Pn_59.ow lr = lr) := ((hwk_64.1 lr hq_37.1 (by rw [hq_37.2]; decide)).2.2.2.1 hq_37.2 how_45.out).1
      have hek_87 : HID (Pn_59.ek lp = 15) := (by rw [hwk_64.ek hq_38.1 hq_38.2 (by decide)]; exact hek_46.out)
      have how_88 : HID (Pn_59.ow lp = lp) := ((hwk_64.1 lp hq_38.1 (by rw [hq_38.2]; decide)).2.2.2.1 hq_38.2 how_47.out).1
      have hakq_89 : GLR Ln_58 Pn_59 cO cI cZ sx_ed := hu_63.2.1
      have hmq_90 : q_56 ∈ Ln_58 := hu_63.2.2.1.1.1
      have hkq_91 : Pn_59.kd q_56 = 12 := hu_63.2.2.1.1.2.1
      have hdq_92 : DST Pn_59 lb := hu_63.2.2.2.1
      have hdq_93 : DSL Pn_59 lr := hdl_69
      have hdq_94 : DSL Pn_59 lp := hdl_70
      have hps := hu_63.2.2.2.2.2.2.2.1.1
      have hpc := hu_63.2.2.2.2.2.2.2.1.2.1
      have hlva_95 : LVA Ln_58 Pn_59 := hu_63.2.2.2.2.2.2.1
      have hlmt_96 : LMT Ln_58 Pn_59 la lb lr lp := LMT.blk jm6 aP6 hakq_89 hlva_95 jv6 (show CLF L6 P6 la 12 from ⟨hq_35.1, hq_35.2, hek_40.out, how_41.out⟩) (show CLF L6 P6 lb 12 from ⟨hq_36.1, hq_36.2, hek_42.out, how_43.out⟩) (show CLF L6 P6 lr 17 from ⟨hq_37.1, hq_37.2, hek_44.out, how_45.out⟩) (show CLF L6 P6 lp 15 from ⟨hq_38.1, hq_38.2, hek_46.out, how_47.out⟩) hu_63.1 hu_63.2.2.1 hu_63.2.2.2.1 hu_63.2.2.2.2.2.2.2.2.2.1 hu_63.2.2.2.2.2.2.2.2.2.2 (by omega) (by omega) (by omega)
      have hnd_97 : Ln_58.Nodup := (by first | exact pl_nd hD | exact pl_nd (pl_leftD (pk_ascD hD)))
      have htp9 := hlmt_96.topS hnd_97 (hakq_89.lk (show CLF Ln_58 Pn_59 lb 12 from ⟨hq_76.1, hq_76.2, hek_83.out, how_84.out⟩)).2.2.1.1 (hakq_89.lk (show CLF Ln_58 Pn_59 lr 17 from ⟨hq_77.1, hq_77.2, hek_85.out, how_86.out⟩)).2.2.1.1 (hakq_89.lk (show CLF Ln_58 Pn_59 lp 15 from ⟨hq_78.1, hq_78.2, hek_87.out, how_88.out⟩)).2.2.1.1
      have htq9 := hlmt_96.topC hnd_97 (hakq_89.lk (show CLF Ln_58 Pn_59 lb 12 from ⟨hq_76.1, hq_76.2, hek_83.out, how_84.out⟩)).2.2.1.1 (hakq_89.lk (show CLF Ln_58 Pn_59 lr 17 from ⟨hq_77.1, hq_77.2, hek_85.out, how_86.out⟩)).2.2.1.1 (hakq_89.lk (show CLF Ln_58 Pn_59 lp 15 from ⟨hq_78.1, hq_78.2, hek_87.out, how_88.out⟩)).2.2.1.1
      skip
      refine lv_astore (lv' := [(4, .ref q_56), (3, .ref xb_51), (0, .ref hc), (1, .ref hd), (2, .int (zI (d6_2)))]) hx hb dX13_copy_24 hl (by decide) rfl (fun ls hl => ?_)
      refine lv_iconst (v := 0) hx hb dX13_copy_26 (by decide) ?_
      refine lv_istore (lv' := [(5, .int 0), (4, .ref q_56), (3, .ref xb_51), (0, .ref hc), (1, .ref hd), (2, .int (zI (d6_2)))]) hx hb dX13_copy_27 hl (by decide) rfl (fun ls hl => ?_)
      have key29 : ∀ n29 : Nat, ∀ (d29_5 : Int) (e29_1_4 : Int) (L29 : List Nat) (P29 : PO) (kc29 : Nat) (ks29 : Nat) (ls : Array Slot) (H : Heap) (locs : List Loc), (KEG [la, lb, lr, lp] Ln_58 Pn_59 L29 P29) → (GLR L29 P29 cO cI cZ sx_ed) → (0 ≤ d29_5 ∧ d29_5 ≤ PS.lz (PS.bp (PS.el lq (d6_2)))) → (0 ≤ e29_1_4 ∧ e29_1_4 ≤ 19001) → (LVA L29 P29) → (LMT L29 P29 la lb lr lp) → (CPI P29 PS lb lr lp lq (d6_2) (OFS 2 PS lq (d6_2)) (OFS 1 PS lq (d6_2) + d29_5)) → (DSL P29 lr) → (DSL P29 lp) → (DST P29 lb) → (∀ b : Int, 0 ≤ b → b < P29.lz la → P29.el la b = P29.el lb b) → (z0_57 = d6_2 + 1 ∧ e6_1_3 = OFS 2 PS lq (d6_2) ∧ e29_1_4 = OFS 1 PS lq (d6_2) + d29_5 ∧ P29.lz la = d6_2 + 1 ∧ z0_57 ≤ P29.lz lb ∧ e6_1_3 ≤ P29.lz lr ∧ e29_1_4 ≤ P29.lz lp) → (LGM (P29.lz lb) (P.lz lb) (z0_57) ∧ LGM (P29.lz lr) (P.lz lr) (e6_1_3) ∧ LGM (P29.lz lp) (P.lz lp) (e29_1_4)) → (CUR P29 PS lb lr lp lq (d6_2) (d29_5) (0)) → (q_56 = P29.el lb (d6_2)) → ((ks29 : Int) ≤ PSI wSL L29 P29 - PSI wSL L P ∧ 40 * (kc29 : Int) ≤ PSI wCE L29 P29 - PSI wCE L P) → ((PS.lz (PS.bp (PS.el lq (d6_2))) - d29_5 : Int).toNat) < n29 → lv_has ls 9 [(0, .ref hc), (1, .ref hd), (2, .int (zI (d6_2))), (3, .ref xb_51), (4, .ref q_56), (5, .int (zI (d29_5)))] → va_P (dC, dI) vwQ ([(hd, .inr (12, [v18_0, v18_1, v18_2, v18_3, v18_4, .ref lq, v18_6])), (hc, .inr (12, [.ref lb, .ref lr, .ref lp, .int (zI (e6_1_3)), .int (zI (e29_1_4)), .ref la, .int (zI (z0_57))]))] ++ (va_pl L29 (pE P29) ++ va_pl LS (pE PS))) H → va_D A ([(hd, .inr (12, [v18_0, v18_1, v18_2, v18_3, v18_4, .ref lq, v18_6])), (hc, .inr (12, [.ref lb, .ref lr, .ref lp, .int (zI (e6_1_3)), .int (zI (e29_1_4)), .ref la, .int (zI (z0_57))]))] ++ (va_pl L29 (pE P29) ++ va_pl LS (pE PS))) → va_S A s.heap H locs → W p l e (headSpec v_P13_copyQ ({ frames := 8, cells := ((2000 + (8735704 - PSI wCE L P) / 40).toNat), slots := ((1990000 - PSI wSL L P).toNat), locals := 213 })).room s m ([.ref hc, .ref hd] : List Value).toArray below meth c H locs (kc29) (ks29) Q (F0 m 29 ls []) := key29_P13_copyQ l dC dI hd v18_0 v18_1 v18_2 v18_3 v18_4 v18_6 lq cI cZ hc z13_rowN z13_phiN z13_made la lb lr lp cO L P sx_ed LS PS hNz13_rowN hNz13_phiN hNz13_made hX_g9 hC_la hC_lb hC_lr hX_lp hX_ab hX_dt hX_dr hX_dp hX_s hNr hX_Vc hX_m hX_n HU sx_mi p e s m below meth c s₁ B hml A hA hp0 hp1 hp2 hp3 hp4 hp5 hp6 hp7 hp8 hp9 hp10 hp11 hp12 hp13 hp14 hp15 Q hQ Pn_4 n6 d6_2 e6_1_3 e6_1_4 e6_1_6 L6 P6 kc6 ks6 xb_51 q_56 z0_57 Ln_58 Pn_59 hot2 ih6 kP6 jd6_2 je6_1_3 je6_1_4 je6_1_6 jn6 hkr6 hm6 hcx6 hcx7 hon1 hon2 yb11 ex hi_52 hom1 hom2 hos1 hos2 hgs7 hsrR hsrP hsr6 hb1 hb2 hq_75 hq_76 hq_77 hq_78 hA_79 hA_80 hek_81 how_82 hek_83 how_84 hek_85 how_86 hek_87 how_88 hmq_90 hkq_91 hK
      exact key29 ((PS.lz (PS.bp (PS.el lq (d6_2))) - 0 : Int).toNat + 1) 0 e6_1_4 Ln_58 Pn_59 (((kc6) + kc_60)) (((ks6) + ks_61)) ls H _ (KEG.refl _ _ _) hakq_89 (by omega) (by omega) hlva_95 hlmt_96 (hci_68.to (by omega) (by omega)) hdq_93 hdq_94 hdq_92 hal_71 (by omega) ⟨(((jl6.1.step hlg_74).to2 (by omega) rfl).to (by omega)), ((jl6.2.1.to2 (by omega) rfl).to (by omega)), ((jl6.2.2.to2 (by omega) rfl).to (by omega))⟩ (hcu_72.to (by omega) (by omega)) hyb_73 (by omega) (Nat.lt_succ_self _) (lv_sub hl [3, 4, 5, 2, 1, 0] rfl) hP hD hS
