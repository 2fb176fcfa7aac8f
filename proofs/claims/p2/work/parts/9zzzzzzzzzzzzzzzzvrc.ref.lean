def o_P19_copyRowT : List Cond := [.methodLink RX19 153 yX13_row, .instanceMethod yX13_row, .selects RX13 yX13_row yX13_row, .initialized RX13, .fieldLink RX19 64 "SsaForgeModel$Row" "op" "I", .fieldLink RX19 122 "SsaForgeModel$Row" "t" "I", .fieldLink RX19 204 "SsaForgeModel$Row" "a" "I", .fieldLink RX19 233 "SsaForgeModel$Row" "regA" "Z", .fieldLink RX19 116 "SsaForgeModel$Block" "rows" "Ljava/util/ArrayList;", .methodLink RX19 181 yJx4a65c_add_9ea2d, .instanceMethod yJx4a65c_add_9ea2d, .selects RJx4a65c yJx4a65c_add_9ea2d yJx4a65c_add_9ea2d, .initialized RJx4a65c]
def v_P19_copyRowT : List Cond := .code yX19_copy cX19_copy 6 none :: (o_P19_copyRowT ++ (v_P13_rowQ ++ (wsX170 ++ (wsX120 ++ (v_PL_addAX ++ [])))))
theorem mow_P19_copyRowT : ∀ w ∈ o_P19_copyRowT, w ∈ v_P19_copyRowT := fun _ h => List.mem_cons_of_mem _ (List.mem_append_left _ h)
theorem mem_P19_copyRowT_0 : ∀ w ∈ v_P13_rowQ, w ∈ v_P19_copyRowT := fun _ h => List.mem_cons_of_mem _ (List.mem_append_right _ (List.mem_append_left _ h))
theorem mem_P19_copyRowT_1 : ∀ w ∈ wsX170, w ∈ v_P19_copyRowT := fun _ h => List.mem_cons_of_mem _ (List.mem_append_right _ (List.mem_append_right _ (List.mem_append_left _ h)))
theorem mem_P19_copyRowT_2 : ∀ w ∈ wsX120, w ∈ v_P19_copyRowT := fun _ h => List.mem_cons_of_mem _ (List.mem_append_right _ (List.mem_append_right _ (List.mem_append_right _ (List.mem_append_left _ h))))
theorem mem_P19_copyRowT_3 : ∀ w ∈ v_PL_addAX, w ∈ v_P19_copyRowT := fun _ h => List.mem_cons_of_mem _ (List.mem_append_right _ (List.mem_append_right _ (List.mem_append_right _ (List.mem_append_right _ (List.mem_append_left _ h)))))
set_option maxRecDepth 20000 in
theorem gw_P19_copyRowT : v_P19_copyRowT.all goodWord = true := by decide +kernel
set_option maxRecDepth 20000 in
theorem g_P19_copyRowT_P13_rowQ : GoodIn v_P19_copyRowT (wsV RX19 153 RX13 yX13_row v_P13_rowQ) := goodIn_app (goodIn_sub (fun w h => mow_P19_copyRowT w (by revert w h; decide +kernel)) (by decide +kernel)) (goodIn_sub mem_P19_copyRowT_0 gw_P13_rowQ)
set_option maxRecDepth 20000 in
theorem g_P19_copyRowT_PL_addAX : GoodIn v_P19_copyRowT (wsV RX19 181 RJx4a65c yJx4a65c_add_9ea2d v_PL_addAX) := goodIn_app (goodIn_sub (fun w h => mow_P19_copyRowT w (by revert w h; decide +kernel)) (by decide +kernel)) (goodIn_sub mem_P19_copyRowT_3 gw_PL_addAX)
set_option maxHeartbeats 4000000 in
set_option maxRecDepth 100000 in
theorem c_P19_copyRowT (l : Launch) (dC : Nat → ClassId) (dI : Nat → Nat → Nat) (cI : ClassId) (cZ : ClassId) (hc : Nat) (z13_rowN : Int) (z13_phiN : Int) (v13_6 : Value) (la : Nat) (lb : Nat) (lr : Nat) (lp : Nat) (cO : ClassId) (L : List Nat) (P : PO) (sx_ed : Nat) (xb : Nat) (y0 : Int) (t0 : Int) (o0 : Int) (b0 : Int) (s0 : Int) (c0 : Int) (hNz13_rowN : 0 ≤ z13_rowN ∧ z13_rowN ≤ 19000) (hNz13_phiN : 0 ≤ z13_phiN ∧ z13_phiN ≤ 19000) (hX_a : ALP L P cO cI cZ sx_ed la) (hX_b : xb = P.el la y0) (hNb : 0 ≤ z13_rowN ∧ z13_rowN ≤ 4163 ∧ 0 ≤ z13_phiN ∧ z13_phiN ≤ 4164 ∧ 0 ≤ y0 ∧ y0 < P.lz la ∧ 0 ≤ t0 ∧ t0 ≤ 1001 ∧ -2147483648 ≤ o0 ∧ o0 ≤ 2147483647 ∧ 0 ≤ b0 ∧ b0 ≤ 1 ∧ P.tot 2 la ≤ 4000 ∧ P.lz (P.br xb) ≤ 1800) (hX_o : OPQ b0 o0) (hX_V : LVA L P) (hX_m : LMZ L P la lb lr lp) (hX_q : ATW L P cO cI cZ sx_ed la lb lr lp (z13_rowN) (z13_phiN) (s0) (c0)) (sz : Nat) (sx_mi : Nat) (HU : Heap) : Met l yX19_copy v_P19_copyRowT ({ frames := 8, cells := ((2000 + (8735704 - (c0)) / 40).toNat), slots := ((1980000 - (s0)).toNat), locals := 212 }) (va_Pc [.ref hc, .ref xb, .int (zI (t0)), .int (zI (o0)), .int (zI (b0))] (fun U => U.heap.size = sz ∧ va_P (dC, dI) vwQ ([(hc, .inr (12, [.ref lb, .ref lr, .ref lp, .int (zI (z13_rowN)), .int (zI (z13_phiN)), .ref la, v13_6]))] ++ va_pl L (pE P)) U.heap ∧ va_K (dC, dI) vwQ [(cO, .object "java/lang/Object"), (cI, .int), (cZ, .boolean)] U ∧ va_D (fun _ => True) ([(hc, .inr (12, [.ref lb, .ref lr, .ref lp, .int (zI (z13_rowN)), .int (zI (z13_phiN)), .ref la, v13_6]))] ++ va_pl L (pE P)) ∧ va_Nw (.castable "SsaForgeModel$Row" "SsaForgeModel$Row") U ∧ va_Nw (.methodLinkNest RX13 57 yX17_init "SsaForgeModel") U ∧ va_Nw (.castable "SsaForgeModel$Row" "java/lang/Object") U ∧ va_Nw (.castable "SsaForgeModel$Phi" "java/lang/Object") U ∧ va_Nw (.castable "SsaForgeModel$Block" "java/lang/Object") U ∧ va_Dc U ∧ va_Mi "[Ljava/lang/Object;" sx_mi U ∧ va_AO "java/lang/Object" U ∧ va_T (.object "java/lang/Object") sx_ed 0 (fun _ => .null) (va_A ([(hc, .inr (12, [.ref lb, .ref lr, .ref lp, .int (zI (z13_rowN)), .int (zI (z13_phiN)), .ref la, v13_6]))] ++ va_pl L (pE P)) sz) U U.heap ∧ va_Z "java/util/ArrayList" "DEFAULTCAPACITY_EMPTY_ELEMENTDATA" "[Ljava/lang/Object;" (.ref sx_ed) (va_A ([(hc, .inr (12, [.ref lb, .ref lr, .ref lp, .int (zI (z13_rowN)), .int (zI (z13_phiN)), .ref la, v13_6]))] ++ va_pl L (pE P)) sz) U U.heap ∧ U.heap = HU)) (va_Qv (fun _ : Unit => True) (fun (_ : Unit) (t : State) => ∃ (z0_9 : Int) (Ln_9 : List Nat) (Pn_9 : PO) (kc_9 : Nat) (ks_9 : Nat), ((RM HU t.heap kc_9 ks_9 ∧ (True)) ∧ ((0 ≤ z0_9 ∧ z0_9 ≤ 19001) ∧ (ATW Ln_9 Pn_9 cO cI cZ sx_ed la lb lr lp (z0_9) (z13_phiN) (s0 + (ks_9 : Int)) (c0 + 40 * (kc_9 : Int)) ∧ ALP Ln_9 Pn_9 cO cI cZ sx_ed la ∧ LMZ Ln_9 Pn_9 la lb lr lp ∧ LVA Ln_9 Pn_9 ∧ TKA L P Ln_9 Pn_9 ∧ ROA P Pn_9 la y0 1 ∧ Pn_9.tot 2 la = P.tot 2 la + 1 ∧ Pn_9.tot 1 la = P.tot 1 la ∧ z0_9 = z13_rowN + 1 ∧ z13_phiN = z13_phiN))) ∧ va_P (dC, dI) vwQ ([(hc, .inr (12, [.ref lb, .ref lr, .ref lp, .int (zI (z0_9)), .int (zI (z13_phiN)), .ref la, v13_6]))] ++ va_pl Ln_9 (pE Pn_9)) t.heap ∧ va_K (dC, dI) vwQ [(cO, .object "java/lang/Object"), (cI, .int), (cZ, .boolean)] t ∧ va_D (va_A ([(hc, .inr (12, [.ref lb, .ref lr, .ref lp, .int (zI (z13_rowN)), .int (zI (z13_phiN)), .ref la, v13_6]))] ++ va_pl L (pE P)) sz) ([(hc, .inr (12, [.ref lb, .ref lr, .ref lp, .int (zI (z0_9)), .int (zI (z13_phiN)), .ref la, v13_6]))] ++ va_pl Ln_9 (pE Pn_9))) (va_A ([(hc, .inr (12, [.ref lb, .ref lr, .ref lp, .int (zI (z13_rowN)), .int (zI (z13_phiN)), .ref la, v13_6]))] ++ va_pl L (pE P)) sz)) ((2000 + (8735704 - (c0)) / 40).toNat) ((1980000 - (s0)).toNat) (va_A ([(hc, .inr (12, [.ref lb, .ref lr, .ref lp, .int (zI (z13_rowN)), .int (zI (z13_phiN)), .ref la, v13_6]))] ++ va_pl L (pE P)) sz) := by
  refine Met.ofW (cc := cX19_copy) (maxL := 6) (ret := none) (by decide) rfl ?_
  intro p e s m args below meth c s₁ B hml hv
  obtain ⟨rfl, hsz, hP, hK, hD0, hp0, hp1, hp2, hp3, hp4, hp5, hp6, hp7, hp8, hp9, hp10⟩ := hv
  have hx := B.exec
  have hb := B.bytes
  have hr := B.returns
  have hts := atoms_spec (ws := v_P19_copyRowT) B.pre
  have hown : s.vm.findClass RX19 = some m.cls := findClass_of_methodNamed B.named
  have hlocks := B.notSynchronized
  have ow : ∀ {k : Nat} {w : Cond}, o_P19_copyRowT[k]? = some w → w.before ([.ref hc, .ref xb, .int (zI (t0)), .int (zI (o0)), .int (zI (b0))] : List Value).toArray s = true := fun h => hts _ (mow_P19_copyRowT _ (List.mem_of_getElem? h))
  subst hsz
  have hD := hD0.self (sz := s.heap.size)
  generalize hAe : va_A ([(hc, .inr (12, [.ref lb, .ref lr, .ref lp, .int (zI (z13_rowN)), .int (zI (z13_phiN)), .ref la, v13_6]))] ++ va_pl L (pE P)) s.heap.size = A at hD hp7 hp8 hp9 ⊢
  have hA : ∀ q : Nat, s.heap.size ≤ q → A q := fun q h => by rw [← hAe]; exact Or.inr h
  have hS : va_S A s.heap s.heap [] := va_S.rf
  have hP : va_P (dC, dI) vwQ ([(hc, .inr (12, [.ref lb, .ref lr, .ref lp, .int (zI (z13_rowN)), .int (zI (z13_phiN)), .ref la, v13_6]))] ++ va_pl L (pE P)) s.heap := hP
  have hl := lv_entry ([.ref hc, .ref xb, .int (zI (t0)), .int (zI (o0)), .int (zI (b0))]) (n := 6) (Nat.le_of_ble_eq_true rfl)
  rw [lg_entry_eq]
  generalize (lg_sl ([.ref hc, .ref xb, .int (zI (t0)), .int (zI (o0)), .int (zI (b0))]) ++ List.replicate (6 - (lg_sl ([.ref hc, .ref xb, .int (zI (t0)), .int (zI (o0)), .int (zI (b0))])).length) Slot.unset).toArray = ls at hl ⊢
  have hl : lv_has ls 6 [(0, .ref hc), (1, .ref xb), (2, .int (zI (t0))), (3, .int (zI (o0))), (4, .int (zI (b0)))] := hl
  obtain ⟨H, hH⟩ : ∃ H, H = s.heap := ⟨_, rfl⟩
  rw [← hH] at hP
  have hS : va_S A s.heap H [] := by rw [hH]; exact hS
  rw [← hH]
  refine zW_cap (fun Q hQ => ?_)
  have hX_a9 := hX_a
  have hla := hX_a.lok.2.2.1
  have hla2 := hX_a.1.1.2.1
  have hA0 := hX_a
  have hV0 := hX_V
  have hB0 := hX_b
  have hnd0 : L.Nodup := pl_nd hD
  have htp0 := ATW.top hX_q hX_m.1 hnd0
  have hta0 := TKA.refl L P
  have hib : INB P la xb := ⟨y0, by omega, by omega, hX_b⟩
  have hxb := hX_a.inb hib
  have htn := hX_a.totnn
  have hla := hA0.lok.2.2.1
  have hla2 := hA0.1.1.2.1
  have hX_q0 : ATW L P cO cI cZ sx_ed la lb lr lp (z13_rowN) (z13_phiN) (s0 + (((0 : Nat) : Int) - 0)) (c0 + 40 * (((0 : Nat) : Int) - 0)) := hX_q.le (by omega) (by omega)
  refine lv_aload_n hx hb dX19_copy_0 rfl (lv_at hl 0 rfl) ?_
  obtain ⟨ga_1, eg_2, tg_3, hb_4⟩ := hX_q0
  obtain ⟨Pq_5, ePq_5⟩ : ∃ q9 : PO, q9 = P.kin ga_1 := ⟨_, rfl⟩
  rw [← ePq_5] at eg_2 hb_4
  have hne_7 : sx_ed ∉ L := (by first | exact va_T_notin hp0 hD | exact va_T_notin hp1 hD | exact va_T_notin hp2 hD | exact va_T_notin hp3 hD | exact va_T_notin hp4 hD | exact va_T_notin hp5 hD | exact va_T_notin hp6 hD | exact va_T_notin hp7 hD | exact va_T_notin hp8 hD | exact va_T_notin hp9 hD | exact va_T_notin hp10 hD | exact va_T_notin hp11 hD | exact va_T_notin hp12 hD | exact va_T_notin hp13 hD)
  have hl0_6 : 0 < Pq_5.lz la := (by rw [ePq_5]; show 0 < P.lz la; omega)
  have hrg9 := hb_4.2.2.2.1.2.2
  rw [← eg_2] at hP hD
  have hX_g := hb_4.1.1
  have hX_la := hb_4.1.2.1.1
  have hX_lr := hb_4.2.1.2.1
  have hX_V := hb_4.1.2.2
  have hmqQ : LMZ L Pq_5 la lb lr lp := (by rw [ePq_5] at eg_2 ⊢; exact LMZ.kin hX_m eg_2)
  have hP : va_P (dC, dI) vwQ ([(hc, .inr (12, [.ref lb, .ref lr, .ref lp, .int (zI (z13_rowN)), .int (zI (z13_phiN)), .ref la, v13_6]))] ++ va_pl L (pE Pq_5)) H := hP
  have hD : va_D A ([(hc, .inr (12, [.ref lb, .ref lr, .ref lp, .int (zI (z13_rowN)), .int (zI (z13_phiN)), .ref la, v13_6]))] ++ va_pl L (pE Pq_5)) := hD
  have hPc := hP.part (X := [(hc, .inr (12, [.ref lb, .ref lr, .ref lp, .int (zI (z13_rowN)), .int (zI (z13_phiN)), .ref la, v13_6]))]) (cx := [(hc, .inr (12, [.ref lb, .ref lr, .ref lp, .int (zI (z13_rowN)), .int (zI (z13_phiN)), .ref la, v13_6]))]) (pl := va_pl L (pE Pq_5)) [0] rfl
  have hDc := hD.part (X := [(hc, .inr (12, [.ref lb, .ref lr, .ref lp, .int (zI (z13_rowN)), .int (zI (z13_phiN)), .ref la, v13_6]))]) (cx := [(hc, .inr (12, [.ref lb, .ref lr, .ref lp, .int (zI (z13_rowN)), .int (zI (z13_phiN)), .ref la, v13_6]))]) (pl := va_pl L (pE Pq_5)) [0] (by decide) rfl
  have hKc := hK.sub (tys' := [(cO, .object "java/lang/Object"), (cI, .int), (cZ, .boolean)]) [0, 1, 2] rfl
  have hFc := va_freeP (X := [(hc, .inr (12, [.ref lb, .ref lr, .ref lp, .int (zI (z13_rowN)), .int (zI (z13_phiN)), .ref la, v13_6]))]) (cx := [(hc, .inr (12, [.ref lb, .ref lr, .ref lp, .int (zI (z13_rowN)), .int (zI (z13_phiN)), .ref la, v13_6]))]) (pl := va_pl L (pE Pq_5)) hD hS hA [0] rfl
  refine W_knowS (fun hrmA => ?_)
  refine va_callr (va_runV (As := []) (rest := []) ⟨hx, hb, hml, hown, hts⟩ (c_P13_rowQ l dC dI cI cZ hc (.ref lb) (.ref lp) z13_rowN (.int (zI (z13_phiN))) v13_6 la lr cO L Pq_5 sx_ed (by omega) hX_g hX_la hX_lr (by omega) hX_V H.size H sx_mi) (cwV 0 hts g_P19_copyRowT_P13_rowQ rfl rfl rfl (by decide +kernel) ⟨(Nat.le_of_ble_eq_true rfl), (Nat.le_of_ble_eq_true rfl)⟩) ⟨fun a U g mk q => by obtain ⟨q0, q1, qP, qK, qD, e0, e1, e2, e3, e4, e5, e6, e7, e8, e9, e10⟩ := q; exact ⟨q0, q1, qP, va_K.moved (u := U) (U := U.calling g mk a) (Vm.Alike.refl U.vm) qK, qD, va_Nw.same rfl (u := U) (U := U.calling g mk a) rfl e0, e1, va_Nw.same rfl (u := U) (U := U.calling g mk a) rfl e2, va_Nw.same rfl (u := U) (U := U.calling g mk a) rfl e3, va_Nw.same rfl (u := U) (U := U.calling g mk a) rfl e4, va_Nw.same rfl (u := U) (U := U.calling g mk a) rfl e5, va_Dc.moved (u := U) (U := U.calling g mk a) (Vm.Alike.refl U.vm) e6, va_Mi.moved (u := U) (U := U.calling g mk a) (Vm.Alike.refl U.vm) e7, va_AO.moved (u := U) (U := U.calling g mk a) (Vm.Alike.refl U.vm) e8, va_T.moved (u := U) (U := U.calling g mk a) (Vm.Alike.refl U.vm) e9, va_Z.moved (u := U) (U := U.calling g mk a) (Vm.Alike.refl U.vm) e10⟩, va_recv hKc hPc (ci := 12) (q0 := 0) rfl rfl, fun U hU hW => ⟨rfl, by rw [hU], by rw [hU]; exact hPc, va_K.moved hW.alike hKc, hDc.weaken (fun _ _ _ _ => trivial), va_Nw.warmC hW hp0, hU, va_Nw.warmM hW hp1, va_Nw.warmC hW hp2, va_Nw.warmC hW hp3, va_Nw.warmC hW hp4, va_Dc.moved hW.alike hp5, va_Mi.moved hW.alike hp6, va_AO.moved hW.alike hp7, by rw [hU]; exact va_T.narrow (va_T.moved hW.alike (va_T.kept hp8 hS.2.1)) hFc, by rw [hU]; exact va_Z.narrow (va_Z.moved hW.alike (va_Z.kept hp9 hS.2.1)) hFc⟩⟩ rfl rfl hl.1 rfl (lv_room (Nat.le_of_ble_eq_true rfl)) dX19_copy_1 ⟨(show 0 + 2 ≤ (2000 + (8735704 - (c0)) / 40).toNat from (by omega)), (show 0 + 6253 ≤ (1980000 - (s0)).toNat from (by omega))⟩) hS (fun q _ h => hFc q h) hFc (fun u q_8 t H1 locs ht hvm hw hB hz1 hk1 hS => ?_)
  obtain ⟨z0_9, Ln_10, Pn_11, kc_12, ks_13, hxt_13, hP1, hK1, hD1⟩ := hB
  rw [ht] at hP1
  have hK1 := va_K.moved hvm.symm hK1
  obtain ⟨hP, hD⟩ := va_joinP (X := [(hc, .inr (12, [.ref lb, .ref lr, .ref lp, .int (zI (z13_rowN)), .int (zI (z13_phiN)), .ref la, v13_6]))]) (cx := [(hc, .inr (12, [.ref lb, .ref lr, .ref lp, .int (zI (z13_rowN)), .int (zI (z13_phiN)), .ref la, v13_6]))]) (wr := []) (rx := [(hc, .inr (12, [.ref lb, .ref lr, .ref lp, .int (zI (z0_9)), .int (zI (z13_phiN)), .ref la, v13_6]))]) (pl := va_pl L (pE Pq_5)) (pl1 := va_pl Ln_10 (pE Pn_11)) hP hD [0] [] rfl rfl (by decide) (by decide) hk1 hFc hP1 hD1
  have hK := (hK.sub (tys' := []) [] rfl).app hK1
  have hrmC := hxt_13.1.1
  rw [ht] at hrmC
  refine W_tightS (hrmA.trans hrmC) ?_
  have hrb := hxt_13.1.2
  generalize H1 = H at hP hS ⊢
  have hP : va_P (dC, dI) vwQ ([(hc, .inr (12, [.ref lb, .ref lr, .ref lp, .int (zI (z0_9)), .int (zI (z13_phiN)), .ref la, v13_6]))] ++ va_pl Ln_10 (pE Pn_11)) H := hP
  have hD : va_D A ([(hc, .inr (12, [.ref lb, .ref lr, .ref lp, .int (zI (z0_9)), .int (zI (z13_phiN)), .ref la, v13_6]))] ++ va_pl Ln_10 (pE Pn_11)) := hD
  have hK : va_K (dC, dI) vwQ [(cO, .object "java/lang/Object"), (cI, .int), (cZ, .boolean)] s := hK
  refine W.widen (k := (0 + kc_12)) (n := (0 + ks_13)) (by omega) (by omega) ?_
  obtain ⟨rk_14, hu_14⟩ := hxt_13.2
  have hu_15 := hu_14
  have hne_16 : sx_ed ∉ Ln_10 := (by first | exact va_T_notin hp0 hD | exact va_T_notin hp1 hD | exact va_T_notin hp2 hD | exact va_T_notin hp3 hD | exact va_T_notin hp4 hD | exact va_T_notin hp5 hD | exact va_T_notin hp6 hD | exact va_T_notin hp7 hD | exact va_T_notin hp8 hD | exact va_T_notin hp9 hD | exact va_T_notin hp10 hD | exact va_T_notin hp11 hD | exact va_T_notin hp12 hD | exact va_T_notin hp13 hD)
  have hrw9 := hu_15.2.2.2.2.1
  have hrp9 := hu_15.2.2.2.2.2.2.2.1
  have hrl9 : Pn_11.lz lr ≤ Pq_5.lz lr + 1 := hu_15.2.2.1.2.1.2.le.2
  have hr_17 := ATB.row (s := s0 + (((0 : Nat) : Int) - 0)) (c := c0 + 40 * (((0 : Nat) : Int) - 0)) (s' := s0 + ((((0 + ks_13) : Nat) : Int) - 0)) (c' := c0 + 40 * ((((0 + kc_12) : Nat) : Int) - 0)) hb_4 hne_7 hne_16 hu_15.1 hu_15.2.1 hu_15.2.2.2.2.2.1 hu_15.2.2.1 hu_15.2.2.2.1 hu_15.2.2.2.2.2.2.1.1 hl0_6 (by omega) (by omega) (by omega)
  have hh_18 := hr_17.1.handr hne_16 (by omega) hr_17.2.1 (by rw [show (z13_rowN + 1 - 1 : Int) = z13_rowN from by omega]; exact hu_15.2.2.2.1.1)
  have hmqN := LMZ.row hmqQ hb_4 hu_15.1 hu_15.2.1 hu_15.2.2.1 hu_15.2.2.2.1 hu_15.2.2.2.2.2.2.2.2 (by omega)
  obtain ⟨Pv_19, ePv_19⟩ : ∃ q9 : PO, q9 = Pn_11.park (fun z => FNP Pn_11 la z ∨ z = q_8) := ⟨_, rfl⟩
  rw [← ePv_19] at hh_18
  have ev9 : pE Pn_11 = pE Pv_19 := (by rw [ePv_19]; exact (funext (pE_park _ _)).symm)
  rw [ev9] at hP hD
  clear ev9
  have hfn_20 : FNE P Pv_19 la := (by have q9 := hr_17.2.2.2; rw [ePq_5] at q9; rw [ePv_19]; exact q9)
  have hlv_22 : LVA Ln_10 Pv_19 := (by rw [ePv_19]; exact LVA.park hu_15.2.2.2.2.2.1)
  have hnd_23 : Ln_10.Nodup := pl_nd hD
  have htk_21 : TKA L P Ln_10 Pv_19 := (by have q9 := hu_15.2.2.1; have c9 := hb_4.2.1.2.1; rw [ePq_5] at q9 c9; rw [ePv_19]; exact TKA.row tg_3 q9 c9 _)
  have hft9 := FNE.tot hfn_20
  have hft7 : Pv_19.tot 2 la = P.tot 2 la ∧ Pv_19.tot 1 la = P.tot 1 la := hft9
  have htr9 := LVS.top (hu_15.2.2.2.2.2.1 lr hr_17.1.2.1.2.1.1 hr_17.1.2.1.2.1.2.1).1
  have htq9 := LVS.nn (Pq_5.cap lr)
  have hP : va_P (dC, dI) vwQ ([(hc, .inr (12, [.ref lb, .ref lr, .ref lp, .int (zI (z0_9)), .int (zI (z13_phiN)), .ref la, v13_6]))] ++ va_pl Ln_10 (pE Pv_19)) H := hP
  have hD : va_D A ([(hc, .inr (12, [.ref lb, .ref lr, .ref lp, .int (zI (z0_9)), .int (zI (z13_phiN)), .ref la, v13_6]))] ++ va_pl Ln_10 (pE Pv_19)) := hD
  have hmq_24 : LMZ Ln_10 Pv_19 la lb lr lp := (by rw [ePv_19]; exact hmqN.park _)
  have hat_25 : ATT Ln_10 Pv_19 cO cI cZ sx_ed la lb lr lp (z0_9) (z13_phiN) (s0 + ((((0 + ks_13) : Nat) : Int) - 0)) (c0 + 40 * ((((0 + kc_12) : Nat) : Int) - 0)) := (by rw [show (z0_9 : Int) = z13_rowN + 1 from (by omega)]; exact hh_18.2)
  have htp6 : s0 + ((((0 + ks_13) : Nat) : Int) - 0) ≤ 1950614 ∧ c0 + 40 * ((((0 + kc_12) : Nat) : Int) - 0) ≤ 8735704 := ATT.top hat_25 hmq_24.1 hnd_23
  have hrz7 : (z0_9 : Int) = z13_rowN + 1 := (by omega)
  have hA_26 : ALP Ln_10 Pv_19 cO cI cZ sx_ed la := hh_18.1
  have hla := hA_26.lok.2.2.1
  have hla2 := hA_26.1.1.2.1
  have hta_27 := hta0.trans htk_21
  have hx_29 : xb = Pv_19.el la (y0) := hX_b.trans (hfn_20.2 (y0) (by omega) (by omega)).1.symm
  have hi_28 : INB Pv_19 la xb := ⟨y0, by omega, (by rw [hfn_20.1]; omega), hx_29⟩
  have hB_30 := hA_26.inb hi_28
  have hnf_31 : ¬ FNP Pv_19 la q_8 := (by rw [ePv_19]; exact hr_17.2.2.1)
  have : Pv_19.rt q_8 = 0 := (by rw [ePv_19]; exact hu_15.2.2.2.2.2.2.1.1)
  have : Pv_19.ra q_8 = 0 := (by rw [ePv_19]; exact hu_15.2.2.2.2.2.2.1.2.1)
  have : Pv_19.rg q_8 = 0 := (by rw [ePv_19]; exact hu_15.2.2.2.2.2.2.1.2.2)
  have : Pv_19.rA q_8 = 0 := (by rw [ePv_19]; exact hu_15.2.2.1.2.2.1.1)
  have : Pv_19.rB q_8 = 0 := (by rw [ePv_19]; exact hu_15.2.2.1.2.2.1.2)
  have hm_32 : q_8 ∈ Ln_10 := hu_15.2.2.1.1.1
  have hk_33 : Pv_19.kd q_8 = 17 := (by rw [ePv_19]; exact (park_in (Or.inr rfl)).trans hu_15.2.2.1.1.2.1)
  have hE_34 : Pv_19.ek q_8 ≠ 1 := (by rw [ePv_19]; exact hu_15.2.2.1.1.2.2)
  refine lv_astore (lv' := [(5, .ref q_8), (0, .ref hc), (1, .ref xb), (2, .int (zI (t0))), (3, .int (zI (o0))), (4, .int (zI (b0)))]) hx hb dX19_copy_4 hl (by decide) rfl (fun ls hl => ?_)
  refine lv_aload hx hb dX19_copy_6 (lv_at hl 0 rfl) ?_
  refine lv_iconst (v := 0) hx hb dX19_copy_8 (by decide) ?_
  have how_35 := (hat_25).ow
  have hzv9 := hfn_20.1
  have ⟨hr1, hr2, hr3, hr4, hr5, hr6, hr7, hr8, hr9⟩ := hA_26.rok hm_32 hk_33
  refine lv_topi (fun z ez => ?_)
  obtain rfl : z = zI (0) := ez
  obtain ⟨kp_36, gkp_36⟩ := va_pl_get (X := [(hc, .inr (12, [.ref lb, .ref lr, .ref lp, .int (zI (z0_9)), .int (zI (z13_phiN)), .ref la, v13_6]))]) (f := pE Pv_19) hm_32
  have hkp_36 := gkp_36
  rw [pE_row hk_33] at hkp_36
  have hD0 := hD
  refine va_put (D := (dC, dI)) (ci := 21) (v := .int (zI (0))) (ty := .int) (C := RX17) (T := TX17) (N := 7) hx hb hts mem_P19_copyRowT_1 tyX17 tyX17_ok nmX17 hown hK hP hD hS kp_36 hkp_36 rfl 0 (by decide) (ow (k := 4) rfl) (fun _ h9 => h9) rfl (by decide +kernel) rfl rfl (by first | exact Nat.le_of_ble_eq_true rfl | exact (show (0 + kc_12) ≤ (2000 + (8735704 - (c0)) / 40).toNat from (by omega)) | exact (show (0 + ks_13) ≤ (1980000 - (s0)).toNat from (by omega))) dX19_copy_9 (fun H locs hP hD hS => ?_)
  obtain ⟨Pw_37, ePw_37⟩ : ∃ q9 : PO, q9 = Pv_19.rw9 0 q_8 (0) := ⟨_, rfl⟩
  have eU : (([(hc, .inr (12, [.ref lb, .ref lr, .ref lp, .int (zI (z0_9)), .int (zI (z13_phiN)), .ref la, v13_6]))] : va_W) ++ va_pl Ln_10 (pE Pv_19)).set kp_36 (q_8, rowE (0) (Pv_19.rt q_8) (Pv_19.ra q_8) (Pv_19.rb q_8) (Pv_19.rA q_8) (Pv_19.rB q_8) (Pv_19.rg q_8)) = ([(hc, .inr (12, [.ref lb, .ref lr, .ref lp, .int (zI (z0_9)), .int (zI (z13_phiN)), .ref la, v13_6]))] : va_W) ++ va_pl Ln_10 (pE Pw_37) := (by rw [va_pl_set hD0 hm_32 gkp_36, ePw_37]; exact congrArg (fun f9 => ([(hc, .inr (12, [.ref lb, .ref lr, .ref lp, .int (zI (z0_9)), .int (zI (z13_phiN)), .ref la, v13_6]))] : va_W) ++ va_pl Ln_10 f9) (put17_0 hk_33))
  have hP : va_P (dC, dI) vwQ ([(hc, .inr (12, [.ref lb, .ref lr, .ref lp, .int (zI (z0_9)), .int (zI (z13_phiN)), .ref la, v13_6]))] ++ va_pl Ln_10 (pE Pw_37)) H := (by rw [← eU]; exact hP)
  have hD : va_D A ([(hc, .inr (12, [.ref lb, .ref lr, .ref lp, .int (zI (z0_9)), .int (zI (z13_phiN)), .ref la, v13_6]))] ++ va_pl Ln_10 (pE Pw_37)) := (by rw [← eU]; exact hD)
  clear eU hD0 gkp_36 hkp_36
  have wPw_37 : RW1 q_8 Pv_19 Pw_37 := (by rw [ePw_37]; exact RW1.put _ _ _ _)
  have hy_38 : Pw_37.kd la = 30 := (by rw [ePw_37]; exact hA_26.lok.2.1)
  have hy_39 : Pw_37.kd xb = 12 := (by rw [ePw_37]; exact hB_30.1.2)
  have : Pw_37.bf xb = Pv_19.bf xb := wPw_37.2 _ (kd_ne hB_30.1.2 hk_33 (by decide)) _
  have : Pw_37.bs xb = Pv_19.bs xb := wPw_37.2 _ (kd_ne hB_30.1.2 hk_33 (by decide)) _
  have hy_40 : Pw_37.kd q_8 = 17 := (by rw [ePw_37]; exact hk_33)
  have : Pw_37.ro q_8 = 0 := (by rw [ePw_37]; exact rw9_at _ _ _ _)
  have : Pw_37.rt q_8 = Pv_19.rt q_8 := (by rw [ePw_37]; exact rw9_of _ (by decide))
  have : Pw_37.ra q_8 = Pv_19.ra q_8 := (by rw [ePw_37]; exact rw9_of _ (by decide))
  have : Pw_37.rb q_8 = Pv_19.rb q_8 := (by rw [ePw_37]; exact rw9_of _ (by decide))
  have : Pw_37.rA q_8 = Pv_19.rA q_8 := (by rw [ePw_37]; exact rw9_of _ (by decide))
  have : Pw_37.rB q_8 = Pv_19.rB q_8 := (by rw [ePw_37]; exact rw9_of _ (by decide))
  have : Pw_37.rg q_8 = Pv_19.rg q_8 := (by rw [ePw_37]; exact rw9_of _ (by decide))
  refine lv_aload hx hb dX19_copy_12 (lv_at hl 0 rfl) ?_
  refine lv_iload_n hx hb dX19_copy_14 rfl (lv_at hl 3 rfl) ?_
  obtain ⟨kp_41, gkp_41⟩ := va_pl_get (X := [(hc, .inr (12, [.ref lb, .ref lr, .ref lp, .int (zI (z0_9)), .int (zI (z13_phiN)), .ref la, v13_6]))]) (f := pE Pw_37) hm_32
  have hkp_41 := gkp_41
  rw [pE_row hy_40] at hkp_41
  have hD0 := hD
  refine va_put (D := (dC, dI)) (ci := 21) (v := .int (zI (t0))) (ty := .int) (C := RX17) (T := TX17) (N := 7) hx hb hts mem_P19_copyRowT_1 tyX17 tyX17_ok nmX17 hown hK hP hD hS kp_41 hkp_41 rfl 1 (by decide) (ow (k := 5) rfl) (fun _ h9 => h9) rfl (by decide +kernel) rfl rfl (by first | exact Nat.le_of_ble_eq_true rfl | exact (show (0 + kc_12) ≤ (2000 + (8735704 - (c0)) / 40).toNat from (by omega)) | exact (show (0 + ks_13) ≤ (1980000 - (s0)).toNat from (by omega))) dX19_copy_15 (fun H locs hP hD hS => ?_)
  obtain ⟨Pw_42, ePw_42⟩ : ∃ q9 : PO, q9 = Pw_37.rw9 1 q_8 (t0) := ⟨_, rfl⟩
  have eU : (([(hc, .inr (12, [.ref lb, .ref lr, .ref lp, .int (zI (z0_9)), .int (zI (z13_phiN)), .ref la, v13_6]))] : va_W) ++ va_pl Ln_10 (pE Pw_37)).set kp_41 (q_8, rowE (Pw_37.ro q_8) (t0) (Pw_37.ra q_8) (Pw_37.rb q_8) (Pw_37.rA q_8) (Pw_37.rB q_8) (Pw_37.rg q_8)) = ([(hc, .inr (12, [.ref lb, .ref lr, .ref lp, .int (zI (z0_9)), .int (zI (z13_phiN)), .ref la, v13_6]))] : va_W) ++ va_pl Ln_10 (pE Pw_42) := (by rw [va_pl_set hD0 hm_32 gkp_41, ePw_42]; exact congrArg (fun f9 => ([(hc, .inr (12, [.ref lb, .ref lr, .ref lp, .int (zI (z0_9)), .int (zI (z13_phiN)), .ref la, v13_6]))] : va_W) ++ va_pl Ln_10 f9) (put17_1 hy_40))
  have hP : va_P (dC, dI) vwQ ([(hc, .inr (12, [.ref lb, .ref lr, .ref lp, .int (zI (z0_9)), .int (zI (z13_phiN)), .ref la, v13_6]))] ++ va_pl Ln_10 (pE Pw_42)) H := (by rw [← eU]; exact hP)
  have hD : va_D A ([(hc, .inr (12, [.ref lb, .ref lr, .ref lp, .int (zI (z0_9)), .int (zI (z13_phiN)), .ref la, v13_6]))] ++ va_pl Ln_10 (pE Pw_42)) := (by rw [← eU]; exact hD)
  clear eU hD0 gkp_41 hkp_41
  have wPw_42 : RW1 q_8 Pw_37 Pw_42 := (by rw [ePw_42]; exact RW1.put _ _ _ _)
  have hy_43 : Pw_42.kd la = 30 := (by rw [ePw_42]; exact hy_38)
  have hy_44 : Pw_42.kd xb = 12 := (by rw [ePw_42]; exact hy_39)
  have : Pw_42.bf xb = Pw_37.bf xb := wPw_42.2 _ (kd_ne hy_39 hy_40 (by decide)) _
  have : Pw_42.bs xb = Pw_37.bs xb := wPw_42.2 _ (kd_ne hy_39 hy_40 (by decide)) _
  have hy_45 : Pw_42.kd q_8 = 17 := (by rw [ePw_42]; exact hy_40)
  have : Pw_42.ro q_8 = Pw_37.ro q_8 := (by rw [ePw_42]; exact rw9_of _ (by decide))
  have : Pw_42.rt q_8 = t0 := (by rw [ePw_42]; exact rw9_at _ _ _ _)
  have : Pw_42.ra q_8 = Pw_37.ra q_8 := (by rw [ePw_42]; exact rw9_of _ (by decide))
  have : Pw_42.rb q_8 = Pw_37.rb q_8 := (by rw [ePw_42]; exact rw9_of _ (by decide))
  have : Pw_42.rA q_8 = Pw_37.rA q_8 := (by rw [ePw_42]; exact rw9_of _ (by decide))
  have : Pw_42.rB q_8 = Pw_37.rB q_8 := (by rw [ePw_42]; exact rw9_of _ (by decide))
  have : Pw_42.rg q_8 = Pw_37.rg q_8 := (by rw [ePw_42]; exact rw9_of _ (by decide))
  refine lv_aload hx hb dX19_copy_18 (lv_at hl 0 rfl) ?_
  refine lv_iload_n hx hb dX19_copy_20 rfl (lv_at hl 4 rfl) ?_
  obtain ⟨kp_46, gkp_46⟩ := va_pl_get (X := [(hc, .inr (12, [.ref lb, .ref lr, .ref lp, .int (zI (z0_9)), .int (zI (z13_phiN)), .ref la, v13_6]))]) (f := pE Pw_42) hm_32
  have hkp_46 := gkp_46
  rw [pE_row hy_45] at hkp_46
  have hD0 := hD
  refine va_put (D := (dC, dI)) (ci := 21) (v := .int (zI (o0))) (ty := .int) (C := RX17) (T := TX17) (N := 7) hx hb hts mem_P19_copyRowT_1 tyX17 tyX17_ok nmX17 hown hK hP hD hS kp_46 hkp_46 rfl 2 (by decide) (ow (k := 6) rfl) (fun _ h9 => h9) rfl (by decide +kernel) rfl rfl (by first | exact Nat.le_of_ble_eq_true rfl | exact (show (0 + kc_12) ≤ (2000 + (8735704 - (c0)) / 40).toNat from (by omega)) | exact (show (0 + ks_13) ≤ (1980000 - (s0)).toNat from (by omega))) dX19_copy_21 (fun H locs hP hD hS => ?_)
  obtain ⟨Pw_47, ePw_47⟩ : ∃ q9 : PO, q9 = Pw_42.rw9 2 q_8 (o0) := ⟨_, rfl⟩
  have eU : (([(hc, .inr (12, [.ref lb, .ref lr, .ref lp, .int (zI (z0_9)), .int (zI (z13_phiN)), .ref la, v13_6]))] : va_W) ++ va_pl Ln_10 (pE Pw_42)).set kp_46 (q_8, rowE (Pw_42.ro q_8) (Pw_42.rt q_8) (o0) (Pw_42.rb q_8) (Pw_42.rA q_8) (Pw_42.rB q_8) (Pw_42.rg q_8)) = ([(hc, .inr (12, [.ref lb, .ref lr, .ref lp, .int (zI (z0_9)), .int (zI (z13_phiN)), .ref la, v13_6]))] : va_W) ++ va_pl Ln_10 (pE Pw_47) := (by rw [va_pl_set hD0 hm_32 gkp_46, ePw_47]; exact congrArg (fun f9 => ([(hc, .inr (12, [.ref lb, .ref lr, .ref lp, .int (zI (z0_9)), .int (zI (z13_phiN)), .ref la, v13_6]))] : va_W) ++ va_pl Ln_10 f9) (put17_2 hy_45))
  have hP : va_P (dC, dI) vwQ ([(hc, .inr (12, [.ref lb, .ref lr, .ref lp, .int (zI (z0_9)), .int (zI (z13_phiN)), .ref la, v13_6]))] ++ va_pl Ln_10 (pE Pw_47)) H := (by rw [← eU]; exact hP)
  have hD : va_D A ([(hc, .inr (12, [.ref lb, .ref lr, .ref lp, .int (zI (z0_9)), .int (zI (z13_phiN)), .ref la, v13_6]))] ++ va_pl Ln_10 (pE Pw_47)) := (by rw [← eU]; exact hD)
  clear eU hD0 gkp_46 hkp_46
  have wPw_47 : RW1 q_8 Pw_42 Pw_47 := (by rw [ePw_47]; exact RW1.put _ _ _ _)
  have hy_48 : Pw_47.kd la = 30 := (by rw [ePw_47]; exact hy_43)
  have hy_49 : Pw_47.kd xb = 12 := (by rw [ePw_47]; exact hy_44)
  have : Pw_47.bf xb = Pw_42.bf xb := wPw_47.2 _ (kd_ne hy_44 hy_45 (by decide)) _
  have : Pw_47.bs xb = Pw_42.bs xb := wPw_47.2 _ (kd_ne hy_44 hy_45 (by decide)) _
  have hy_50 : Pw_47.kd q_8 = 17 := (by rw [ePw_47]; exact hy_45)
  have : Pw_47.ro q_8 = Pw_42.ro q_8 := (by rw [ePw_47]; exact rw9_of _ (by decide))
  have : Pw_47.rt q_8 = Pw_42.rt q_8 := (by rw [ePw_47]; exact rw9_of _ (by decide))
  have : Pw_47.ra q_8 = o0 := (by rw [ePw_47]; exact rw9_at _ _ _ _)
  have : Pw_47.rb q_8 = Pw_42.rb q_8 := (by rw [ePw_47]; exact rw9_of _ (by decide))
  have : Pw_47.rA q_8 = Pw_42.rA q_8 := (by rw [ePw_47]; exact rw9_of _ (by decide))
  have : Pw_47.rB q_8 = Pw_42.rB q_8 := (by rw [ePw_47]; exact rw9_of _ (by decide))
  have : Pw_47.rg q_8 = Pw_42.rg q_8 := (by rw [ePw_47]; exact rw9_of _ (by decide))
  refine lv_aload hx hb dX19_copy_24 (lv_at hl 0 rfl) ?_
  refine lv_iload hx hb dX19_copy_26 (lv_at hl 5 rfl) ?_
  have ho9 : b0 = 0 ∨ (0 ≤ o0 ∧ o0 ≤ 1001) := hX_o
  obtain ⟨kp_51, gkp_51⟩ := va_pl_get (X := [(hc, .inr (12, [.ref lb, .ref lr, .ref lp, .int (zI (z0_9)), .int (zI (z13_phiN)), .ref la, v13_6]))]) (f := pE Pw_47) hm_32
  have hkp_51 := gkp_51
  rw [pE_row hy_50] at hkp_51
  have hD0 := hD
  refine va_put (D := (dC, dI)) (ci := 21) (v := .int (zI (b0))) (ty := .boolean) (C := RX17) (T := TX17) (N := 7) hx hb hts mem_P19_copyRowT_1 tyX17 tyX17_ok nmX17 hown hK hP hD hS kp_51 hkp_51 rfl 4 (by decide) (ow (k := 7) rfl) (fun _ h9 => h9) rfl (by decide +kernel) (zI_bool (by omega) (by omega)) (zI_fitb (by omega) (by omega)) (by first | exact Nat.le_of_ble_eq_true rfl | exact (show (0 + kc_12) ≤ (2000 + (8735704 - (c0)) / 40).toNat from (by omega)) | exact (show (0 + ks_13) ≤ (1980000 - (s0)).toNat from (by omega))) dX19_copy_28 (fun H locs hP hD hS => ?_)
  obtain ⟨Pw_52, ePw_52⟩ : ∃ q9 : PO, q9 = Pw_47.rw9 4 q_8 (b0) := ⟨_, rfl⟩
  have eU : (([(hc, .inr (12, [.ref lb, .ref lr, .ref lp, .int (zI (z0_9)), .int (zI (z13_phiN)), .ref la, v13_6]))] : va_W) ++ va_pl Ln_10 (pE Pw_47)).set kp_51 (q_8, rowE (Pw_47.ro q_8) (Pw_47.rt q_8) (Pw_47.ra q_8) (Pw_47.rb q_8) (b0) (Pw_47.rB q_8) (Pw_47.rg q_8)) = ([(hc, .inr (12, [.ref lb, .ref lr, .ref lp, .int (zI (z0_9)), .int (zI (z13_phiN)), .ref la, v13_6]))] : va_W) ++ va_pl Ln_10 (pE Pw_52) := (by rw [va_pl_set hD0 hm_32 gkp_51, ePw_52]; exact congrArg (fun f9 => ([(hc, .inr (12, [.ref lb, .ref lr, .ref lp, .int (zI (z0_9)), .int (zI (z13_phiN)), .ref la, v13_6]))] : va_W) ++ va_pl Ln_10 f9) (put17_4 hy_50))
  have hP : va_P (dC, dI) vwQ ([(hc, .inr (12, [.ref lb, .ref lr, .ref lp, .int (zI (z0_9)), .int (zI (z13_phiN)), .ref la, v13_6]))] ++ va_pl Ln_10 (pE Pw_52)) H := (by rw [← eU]; exact hP)
  have hD : va_D A ([(hc, .inr (12, [.ref lb, .ref lr, .ref lp, .int (zI (z0_9)), .int (zI (z13_phiN)), .ref la, v13_6]))] ++ va_pl Ln_10 (pE Pw_52)) := (by rw [← eU]; exact hD)
  clear eU hD0 gkp_51 hkp_51
  have wPw_52 : RW1 q_8 Pw_47 Pw_52 := (by rw [ePw_52]; exact RW1.put _ _ _ _)
  have hy_53 : Pw_52.kd la = 30 := (by rw [ePw_52]; exact hy_48)
  have hy_54 : Pw_52.kd xb = 12 := (by rw [ePw_52]; exact hy_49)
  have : Pw_52.bf xb = Pw_47.bf xb := wPw_52.2 _ (kd_ne hy_49 hy_50 (by decide)) _
  have : Pw_52.bs xb = Pw_47.bs xb := wPw_52.2 _ (kd_ne hy_49 hy_50 (by decide)) _
  have hy_55 : Pw_52.kd q_8 = 17 := (by rw [ePw_52]; exact hy_50)
  have : Pw_52.ro q_8 = Pw_47.ro q_8 := (by rw [ePw_52]; exact rw9_of _ (by decide))
  have : Pw_52.rt q_8 = Pw_47.rt q_8 := (by rw [ePw_52]; exact rw9_of _ (by decide))
  have : Pw_52.ra q_8 = Pw_47.ra q_8 := (by rw [ePw_52]; exact rw9_of _ (by decide))
  have : Pw_52.rb q_8 = Pw_47.rb q_8 := (by rw [ePw_52]; exact rw9_of _ (by decide))
  have : Pw_52.rA q_8 = b0 := (by rw [ePw_52]; exact rw9_at _ _ _ _)
  have : Pw_52.rB q_8 = Pw_47.rB q_8 := (by rw [ePw_52]; exact rw9_of _ (by decide))
  have : Pw_52.rg q_8 = Pw_47.rg q_8 := (by rw [ePw_52]; exact rw9_of _ (by decide))
  have hW_56 : RW1 q_8 Pv_19 Pw_52 := wPw_37.trans (wPw_42.trans (wPw_47.trans (wPw_52)))
  have hrw_59 : RWD Pv_19 Pw_52 := hW_56.rwd (Or.inl hk_33)
  have hak_58 : ALP Ln_10 Pw_52 cO cI cZ sx_ed la := hA_26.row hW_56 hk_33 (ROK9.of (by omega) (by omega) (by omega) (by omega) (by omega) (by omega) (by omega) (rUA9 (by have q9 := rUsA_spec (Pv_19.ro q_8) (Pv_19.rA q_8); omega)) (rUB9 (by have q9 := rUsB_spec (Pv_19.ro q_8) (Pv_19.rB q_8); omega))) (fun e9 => by have q9 := hA_26.op21 hm_32 hk_33 e9; omega)
  have hke_57 : KEP [] Ln_10 Pv_19 Ln_10 Pw_52 la := hrw_59.kep _ hA_26.lok.2.1
  have hq_60 : la ∈ Ln_10 ∧ Pw_52.kd la = 30 := hke_57.mem hA_26.lok.1 hA_26.lok.2.1 (by decide)
  have hq_61 : xb ∈ Ln_10 ∧ Pw_52.kd xb = 12 := hke_57.mem hB_30.1.1 hB_30.1.2 (by decide)
  have hq_62 : q_8 ∈ Ln_10 ∧ Pw_52.kd q_8 = 17 := hke_57.mem hm_32 hk_33 (by decide)
  have hi_63 : INB Pw_52 la xb := hke_57.inb hi_28
  have hE_64 : Pw_52.ek q_8 ≠ 1 := (by rw [hke_57.ek hm_32 hk_33 (by decide)]; exact hE_34)
  have hz9 := hke_57.2.2.1
  have hA_65 : KEP [] Ln_10 Pv_19 Ln_10 Pw_52 la := (KEP.refl [] Ln_10 Pv_19 la).trans hke_57
  have : Pw_52.lz la = Pv_19.lz la := hrw_59.lz hA_26.lok.2.1
  have ht9 := hrw_59.tot hA_26 2 (Or.inr rfl)
  have ht8 := hrw_59.tot hA_26 1 (Or.inl rfl)
  have htk_66 : TKA Ln_10 Pv_19 Ln_10 Pw_52 := TKA.rw1 hW_56 (by rw [hk_33]; decide)
  have hlv_67 : LVA Ln_10 Pw_52 := LVA.same hlv_22 (by rw [hW_56.1])
  have hta_68 := hta_27.trans htk_66
  have hmq_69 : LMZ Ln_10 Pw_52 la lb lr lp := LMZ.rw17 hmq_24 hW_56 hk_33
  have hpS9 : PSI wSL Ln_10 Pw_52 = PSI wSL Ln_10 Pv_19 := (PSI.same (by rw [hW_56.1]))
  have hpC9 : PSI wCE Ln_10 Pw_52 = PSI wCE Ln_10 Pv_19 := (PSI.same (by rw [hW_56.1]))
  clear ho9
  have hf_72 := FNE.rw9 hW_56 hA_26 (by omega) hnf_31
  have hf_73 := hfn_20.trans9 hf_72
  have hne_71 : sx_ed ∉ Ln_10 := (by first | exact va_T_notin hp0 hD | exact va_T_notin hp1 hD | exact va_T_notin hp2 hD | exact va_T_notin hp3 hD | exact va_T_notin hp4 hD | exact va_T_notin hp5 hD | exact va_T_notin hp6 hD | exact va_T_notin hp7 hD | exact va_T_notin hp8 hD | exact va_T_notin hp9 hD | exact va_T_notin hp10 hD | exact va_T_notin hp11 hD | exact va_T_notin hp12 hD | exact va_T_notin hp13 hD)
  have hnf_70 : ¬ FNP Pw_52 la q_8 := FNP.rwn hW_56 hA_26 hne_71 how_35 hnf_31
  have hg9 := hf_73.2 y0 (by omega) (by omega)
  have hbr9 : Pw_52.br xb = P.br xb := (by rw [hB0]; exact hg9.2.1.2.1)
  have hlz9 : Pw_52.lz (P.br xb) = P.lz (P.br xb) := (by rw [hB0]; exact hg9.2.2.2.1.1)
  have hlw9 : Pw_52.lz (Pw_52.br xb) = P.lz (P.br xb) := (by rw [hbr9]; exact hlz9)
  refine lv_aload_n hx hb dX19_copy_31 rfl (lv_at hl 2 rfl) ?_
  have hfb := (hak_58.inb hi_63).2.2.2.2
  obtain ⟨kp_74, hkp_74⟩ := va_pl_get (X := [(hc, .inr (12, [.ref lb, .ref lr, .ref lp, .int (zI (z0_9)), .int (zI (z13_phiN)), .ref la, v13_6]))]) (f := pE Pw_52) hq_61.1
  rw [pE_block hq_61.2] at hkp_74
  refine va_get (D := (dC, dI)) (ci := 19) (v := .ref (Pw_52.br xb)) (C := RX12) (T := TX12) (N := 5) hx hb hts mem_P19_copyRowT_2 hown hK hP kp_74 hkp_74 rfl 1 (by decide) (ow (k := 8) rfl) (fun _ h9 => h9) rfl dX19_copy_32 ?_
  obtain ⟨pr_75, epr_75⟩ : ∃ q9 : Nat, q9 = Pw_52.br xb := ⟨_, rfl⟩
  rw [← epr_75]
  have hlk_76 : LOK Ln_10 Pw_52 cO 17 pr_75 := (by rw [epr_75]; exact (hak_58.inb hi_63).2.1)
  have hlz9 := hlk_76.2.2.1
  have : Pw_52.lz pr_75 = Pw_52.lz (Pw_52.br xb) := (by rw [epr_75])
  refine lv_aload hx hb dX19_copy_35 (lv_at hl 0 rfl) ?_
  have hlk_77 := (show LOK Ln_10 Pw_52 cO 17 pr_75 from (by rw [← epr_75.symm]; exact (hak_58.inb hi_63).2.1))
  have hX_x := hlk_77.1
  have hX_k := hlk_77.2.1
  have hlz9 := hlk_77.2.2.1
  have hX_c := hak_58.adc hlk_77
  have hX_y : q_8 ∈ Ln_10 ∧ OBK (Pw_52.kd q_8) := ⟨hq_62.1, (by rw [hq_62.2]; unfold OBK; decide)⟩
  have hiq := hak_58.in hi_63
  have haq : Pw_52.lz pr_75 = Pw_52.lz (Pw_52.br xb) := (by rw [epr_75.symm])
  have hvv_78 := hlv_67 pr_75 hlk_77.1 hlk_77.2.1
  have hX_v := hvv_78.1
  have hnd_79 : Ln_10.Nodup := pl_nd hD
  have had_80 := hX_c
  have hPc := hP.part (X := [(hc, .inr (12, [.ref lb, .ref lr, .ref lp, .int (zI (z0_9)), .int (zI (z13_phiN)), .ref la, v13_6]))]) (cx := []) (pl := va_pl Ln_10 (pE Pw_52)) [] rfl
  have hDc := hD.part (X := [(hc, .inr (12, [.ref lb, .ref lr, .ref lp, .int (zI (z0_9)), .int (zI (z13_phiN)), .ref la, v13_6]))]) (cx := []) (pl := va_pl Ln_10 (pE Pw_52)) [] (by decide) rfl
  have hKc := hK.sub (tys' := [(cO, .object "java/lang/Object")]) [0] rfl
  have hFc := va_freeP (X := [(hc, .inr (12, [.ref lb, .ref lr, .ref lp, .int (zI (z0_9)), .int (zI (z13_phiN)), .ref la, v13_6]))]) (cx := []) (pl := va_pl Ln_10 (pE Pw_52)) hD hS hA [] rfl
  have hgl := ADC.gl6 hX_c (by omega)
  refine va_calli (va_runV (As := [.ref q_8]) (rest := []) ⟨hx, hb, hml, hown, hts⟩ (c_PL_addAX l dC dI cO Ln_10 Pw_52 pr_75 q_8 sx_ed hX_x hX_k (by omega) hX_c hX_y hX_v H.size sx_mi) (cwV 1 hts g_P19_copyRowT_PL_addAX rfl rfl rfl (by decide +kernel) ⟨(Nat.le_of_ble_eq_true rfl), (Nat.le_of_ble_eq_true rfl)⟩) ⟨fun a U g mk q => by obtain ⟨q0, q1, qP, qK, qD, e0, e1, e2, e3, e4, e5, e6, e7⟩ := q; exact ⟨q0, q1, qP, va_K.moved (u := U) (U := U.calling g mk a) (Vm.Alike.refl U.vm) qK, qD, va_Nw.same rfl (u := U) (U := U.calling g mk a) rfl e0, va_Nw.same rfl (u := U) (U := U.calling g mk a) rfl e1, va_Nw.same rfl (u := U) (U := U.calling g mk a) rfl e2, va_Dc.moved (u := U) (U := U.calling g mk a) (Vm.Alike.refl U.vm) e3, va_Mi.moved (u := U) (U := U.calling g mk a) (Vm.Alike.refl U.vm) e4, va_AO.moved (u := U) (U := U.calling g mk a) (Vm.Alike.refl U.vm) e5, va_T.moved (u := U) (U := U.calling g mk a) (Vm.Alike.refl U.vm) e6, va_Z.moved (u := U) (U := U.calling g mk a) (Vm.Alike.refl U.vm) e7⟩, recv_30 hKc hPc hlk_76.1 hlk_76.2.1, fun U hU hW => ⟨rfl, by rw [hU], by rw [hU]; exact hPc, va_K.moved hW.alike hKc, hDc.weaken (fun _ _ _ _ => trivial), va_Nw.warmC hW hp2, va_Nw.warmC hW hp3, va_Nw.warmC hW hp4, va_Dc.moved hW.alike hp5, va_Mi.moved hW.alike hp6, va_AO.moved hW.alike hp7, by rw [hU]; exact va_T.narrow (va_T.moved hW.alike (va_T.kept hp8 hS.2.1)) hFc, by rw [hU]; exact va_Z.narrow (va_Z.moved hW.alike (va_Z.kept hp9 hS.2.1)) hFc⟩⟩ rfl rfl hl.1 rfl (lv_room (Nat.le_of_ble_eq_true rfl)) dX19_copy_37 ⟨(show (0 + kc_12) + (Pw_52.gc pr_75) ≤ (2000 + (8735704 - (c0)) / 40).toNat from (by omega)), (show (0 + ks_13) + (Pw_52.gx pr_75) ≤ (1980000 - (s0)).toNat from (by omega))⟩) hS (fun q _ h => hFc q h) hFc (fun r_81 z_82 t H1 locs ht hvm hw hB hz1 hk1 hS => ?_)
  obtain ⟨Ln_83, Pn_84, hxt_84, hP1, hK1, hD1⟩ := hB
  rw [ht] at hP1
  have hK1 := va_K.moved hvm.symm hK1
  obtain ⟨hP, hD⟩ := va_joinP (X := [(hc, .inr (12, [.ref lb, .ref lr, .ref lp, .int (zI (z0_9)), .int (zI (z13_phiN)), .ref la, v13_6]))]) (cx := []) (wr := [(hc, .inr (12, [.ref lb, .ref lr, .ref lp, .int (zI (z0_9)), .int (zI (z13_phiN)), .ref la, v13_6]))]) (rx := []) (pl := va_pl Ln_10 (pE Pw_52)) (pl1 := va_pl Ln_83 (pE Pn_84)) hP hD [] [0] rfl rfl (by decide) (by decide) hk1 hFc hP1 hD1
  have hK := (hK.sub (tys' := [(cI, .int), (cZ, .boolean)]) [1, 2] rfl).app hK1
  generalize H1 = H at hP hS ⊢
  have hP : va_P (dC, dI) vwQ ([(hc, .inr (12, [.ref lb, .ref lr, .ref lp, .int (zI (z0_9)), .int (zI (z13_phiN)), .ref la, v13_6]))] ++ va_pl Ln_83 (pE Pn_84)) H := hP
  have hD : va_D A ([(hc, .inr (12, [.ref lb, .ref lr, .ref lp, .int (zI (z0_9)), .int (zI (z13_phiN)), .ref la, v13_6]))] ++ va_pl Ln_83 (pE Pn_84)) := hD
  have hK : va_K (dC, dI) vwQ [(cI, .int), (cZ, .boolean), (cO, .object "java/lang/Object")] s := hK
  refine W.widen (k := ((0 + kc_12) + (Pw_52.gc pr_75))) (n := ((0 + ks_13) + (Pw_52.gx pr_75))) (by omega) (by omega) ?_
  obtain ⟨rfl, hzz_82⟩ := hw
  have hx_85 : xb = Pw_52.el la (y0) := hx_29.trans ((hA_65).2.2.2 (y0) (by omega) (by omega)).symm
  have hzw9 := (hA_65).2.2.1
  have hlq_86 : pr_75 = Pw_52.br (Pw_52.el la (y0)) := (by rw [← hx_85]; exact (epr_75.symm).symm)
  have hex_87 : pr_75 = Pw_52.br xb := (epr_75.symm).symm
  have hrs9 : rSets (Pw_52.ro q_8) ≠ 0 := (by have q9 := rSets_spec (Pw_52.ro q_8); omega)
  have hrg9 : Pw_52.rg q_8 = 0 := (by omega)
  have hu_88 := hxt_84
  have hek_91 : Pw_52.ek pr_75 = 17 := (by rw [← epr_75.symm]; exact (hak_58.2.1.2.2.1 xb hq_61.1 hq_61.2).1.1)
  have hfx := hu_88.2.2.2.2.2.2.2
  have han := hu_88.2.2.2.1
  have hic := hak_58.in hi_63
  have hal : Pw_52.lz pr_75 = Pw_52.lz (Pw_52.br xb) := (by rw [epr_75.symm])
  have hke_89 : KEP [] Ln_10 Pw_52 Ln_83 Pn_84 la := hu_88.1.kep hak_58 hlk_77.1 hlk_77.2.1 hfx (by rw [hek_91]; decide) (Or.inl (fun e9 => kd_ne hq_61.2 hlk_77.2.1 (by decide) (show xb = pr_75 from (by have q9 := (hak_58.2.1.2.2.1 xb hq_61.1 hq_61.2).1.2.1; rw [epr_75.symm, e9] at q9; exact q9.symm))))
  have hak_90 : ALP Ln_83 Pn_84 cO cI cZ sx_ed la := hak_58.add hu_88.1 hlk_77.1 hlk_77.2.1 hfx hek_91 (by decide) hlk_77 hq_62.1 hq_62.2 hu_88.2.1 (by omega) hu_88.2.2.1 hu_88.2.2.2.1.1 (by have q9 := hak_58.adc40 hlk_77; omega) hu_88.2.2.2.2.1 hu_88.2.2.2.2.2.1 hu_88.2.2.2.2.2.2.1 (fun q9 => absurd q9 (by decide)) (fun _ => hE_64)
  have ht9 : Pn_84.tot 2 la = Pw_52.tot 2 la + (1) ∧ Pn_84.tot 1 la = Pw_52.tot 1 la := hak_58.tots hke_89 hi_63 2 (Or.inr rfl) epr_75.symm (d := 1) hu_88.2.1 (fun y m9 k9 n9 => hu_88.1.lz hak_58 hlk_77.1 hlk_77.2.1 hfx m9 k9 n9)
  have hq_92 : la ∈ Ln_83 ∧ Pn_84.kd la = 30 := hke_89.mem hq_60.1 hq_60.2 (by decide)
  have hq_93 : xb ∈ Ln_83 ∧ Pn_84.kd xb = 12 := hke_89.mem hq_61.1 hq_61.2 (by decide)
  have hq_94 : q_8 ∈ Ln_83 ∧ Pn_84.kd q_8 = 17 := hke_89.mem hq_62.1 hq_62.2 (by decide)
  have hq_95 : pr_75 ∈ Ln_83 ∧ Pn_84.kd pr_75 = 30 := hke_89.mem hlk_76.1 hlk_76.2.1 (by decide)
  have hi_96 : INB Pn_84 la xb := hke_89.inb hi_63
  have hE_97 : Pn_84.ek q_8 ≠ 1 := (by rw [hke_89.ek hq_62.1 hq_62.2 (by decide)]; exact hE_64)
  have ha_98 : Pn_84.br xb = pr_75 := hke_89.br hq_61.1 hq_61.2 epr_75.symm
  have hz9 := hke_89.2.2.1
  have hA_99 : KEP [] Ln_10 Pv_19 Ln_83 Pn_84 la := hA_65.trans hke_89
  have hza := hu_88.2.1
  have hnd_100 : Ln_83.Nodup := pl_nd hD
  have hpu_101 := PSI.put hnd_79 hnd_100 hak_58.glf hu_88.1 hlk_76.1 hlk_76.2.1 hu_88.2.2.2.2.2.2.2 hvv_78.1 (by omega) hu_88.2.2.2.1.2.2.1 hu_88.2.2.2.1.2.2.2 had_80 hvv_78.2
  have hlv_102 : LVA Ln_83 Pn_84 := LVA.gl1 hlv_67 hak_58.glf hu_88.1 hlk_76.1 hlk_76.2.1 hu_88.2.2.2.2.2.2.2 hpu_101.2.2
  have htk_103 : TKA Ln_10 Pw_52 Ln_83 Pn_84 := TKA.gl9 hu_88.1 hak_58.glf.owa hlk_76.1 hlk_76.2.1 hu_88.2.2.2.2.2.2.2
  have hra_104 : ROA Pw_52 Pn_84 la (y0) 1 := ROA.add hak_58 hu_88.1 hke_89 hlq_86 hlk_76.1 hlk_76.2.1 hu_88.2.2.2.2.2.2.2 (by omega) (by omega) hu_88.2.1 hu_88.2.2.2.2.2.1 hu_88.2.2.2.2.2.2.1 hnf_70 hq_62.1 hq_62.2 hrs9 hrg9
  have hpS9 := hpu_101.1
  have hpC9 := hpu_101.2.1
  have hmq_105 : LMZ Ln_83 Pn_84 la lb lr lp := LMZ.brn hmq_69 hu_88.1 hlk_76.1 hlk_76.2.1 hu_88.2.2.2.2.2.2.2 hq_61.1 hq_61.2 hex_87 (cap18 hvv_78.1 hpu_101.2.2.1 (LGW.of hu_88.1 hu_88.2.2.2.1.2.2.1 hu_88.2.2.2.1.2.2.2) (by omega))
  have hta_106 := hta_68.trans htk_103
  have hra_107 := (ROA.fne hf_73 (y0)).trans hra_104 (hA0).lr0
  refine lv_pop hx hb dX19_copy_40 rfl ?_
  subst hQ
  have hK := hK.sub (tys' := [(cO, .object "java/lang/Object"), (cI, .int), (cZ, .boolean)]) [2, 0, 1] rfl
  have hnd_109 : Ln_83.Nodup := pl_nd hD
  have hne_110 : sx_ed ∉ Ln_83 := (by first | exact va_T_notin hp0 hD | exact va_T_notin hp1 hD | exact va_T_notin hp2 hD | exact va_T_notin hp3 hD | exact va_T_notin hp4 hD | exact va_T_notin hp5 hD | exact va_T_notin hp6 hD | exact va_T_notin hp7 hD | exact va_T_notin hp8 hD | exact va_T_notin hp9 hD | exact va_T_notin hp10 hD | exact va_T_notin hp11 hD | exact va_T_notin hp12 hD | exact va_T_notin hp13 hD)
  have haw_108 : ATW Ln_83 Pn_84 cO cI cZ sx_ed la lb lr lp (z0_9) (z13_phiN) (s0 + (((((0 + ks_13) + (Pw_52.gx pr_75)) : Nat) : Int) - 0)) (c0 + 40 * (((((0 + kc_12) + (Pw_52.gc pr_75)) : Nat) : Int) - 0)) := (hat_25.keg hne_110 hnd_23 hnd_109 hak_90 hlv_102 (hA_99).keg).le (by omega) (by omega)
  refine W_knowS (fun hrm9 => ?_)
  refine W.widen (k := ((2000 + (8735704 - (c0)) / 40).toNat)) (n := ((1980000 - (s0)).toNat)) (by omega) (by omega) ?_
  exact W.vret hx hb hr (fun t ht hW => ⟨⟨(), rfl, trivial, z0_9, Ln_83, Pn_84, ((0 + kc_12) + (Pw_52.gc pr_75)), ((0 + ks_13) + (Pw_52.gx pr_75)), ⟨⟨(by rw [ht, ← hp10]; exact hrm9), trivial⟩, ⟨(by omega), ⟨haw_108, hak_90, hmq_105, hlv_102, hta_106, hra_107.to (by omega), by omega, by omega, by omega, by omega⟩⟩⟩, by rw [ht]; exact hP, va_K.moved hW.alike hK, hD⟩, hS.F ht⟩) hS.2.2 dX19_copy_41
