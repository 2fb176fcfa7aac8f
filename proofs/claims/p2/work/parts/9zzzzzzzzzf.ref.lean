theorem dX19_copy_0 : decode cX19_copy 0 = .ok (.aload_n 0, 1) := by decide +kernel
theorem dX19_copy_1 : decode cX19_copy 1 = .ok (.invokevirtual 153, 3) := by decide +kernel
theorem dX19_copy_4 : decode cX19_copy 4 = .ok (.astore 5, 2) := by decide +kernel
theorem dX19_copy_6 : decode cX19_copy 6 = .ok (.aload 5, 2) := by decide +kernel
theorem dX19_copy_8 : decode cX19_copy 8 = .ok (.iconst 0, 1) := by decide +kernel
theorem dX19_copy_9 : decode cX19_copy 9 = .ok (.putfield 64, 3) := by decide +kernel
theorem dX19_copy_12 : decode cX19_copy 12 = .ok (.aload 5, 2) := by decide +kernel
theorem dX19_copy_14 : decode cX19_copy 14 = .ok (.iload_n 2, 1) := by decide +kernel
theorem dX19_copy_15 : decode cX19_copy 15 = .ok (.putfield 122, 3) := by decide +kernel
theorem dX19_copy_18 : decode cX19_copy 18 = .ok (.aload 5, 2) := by decide +kernel
theorem dX19_copy_20 : decode cX19_copy 20 = .ok (.iload_n 3, 1) := by decide +kernel
theorem dX19_copy_21 : decode cX19_copy 21 = .ok (.putfield 204, 3) := by decide +kernel
theorem dX19_copy_24 : decode cX19_copy 24 = .ok (.aload 5, 2) := by decide +kernel
theorem dX19_copy_26 : decode cX19_copy 26 = .ok (.iload 4, 2) := by decide +kernel
theorem dX19_copy_28 : decode cX19_copy 28 = .ok (.putfield 233, 3) := by decide +kernel
theorem dX19_copy_31 : decode cX19_copy 31 = .ok (.aload_n 1, 1) := by decide +kernel
theorem dX19_copy_32 : decode cX19_copy 32 = .ok (.getfield 116, 3) := by decide +kernel
theorem dX19_copy_35 : decode cX19_copy 35 = .ok (.aload 5, 2) := by decide +kernel
theorem dX19_copy_37 : decode cX19_copy 37 = .ok (.invokevirtual 181, 3) := by decide +kernel
theorem dX19_copy_40 : decode cX19_copy 40 = .ok (.pop, 1) := by decide +kernel
theorem dX19_copy_41 : decode cX19_copy 41 = .ok (.return_, 1) := by decide +kernel
def o_P19_copyRow : List Cond := [.methodLink RX19 153 yX13_row, .instanceMethod yX13_row, .selects RX13 yX13_row yX13_row, .initialized RX13, .fieldLink RX19 64 "SsaForgeModel$Row" "op" "I", .fieldLink RX19 122 "SsaForgeModel$Row" "t" "I", .fieldLink RX19 204 "SsaForgeModel$Row" "a" "I", .fieldLink RX19 233 "SsaForgeModel$Row" "regA" "Z", .fieldLink RX19 116 "SsaForgeModel$Block" "rows" "Ljava/util/ArrayList;", .methodLink RX19 181 yJx4a65c_add_9ea2d, .instanceMethod yJx4a65c_add_9ea2d, .selects RJx4a65c yJx4a65c_add_9ea2d yJx4a65c_add_9ea2d, .initialized RJx4a65c]
def v_P19_copyRow : List Cond := .code yX19_copy cX19_copy 6 none :: (o_P19_copyRow ++ (v_P13_row ++ (wsX170 ++ (wsX120 ++ (v_PL_addAR ++ [])))))
theorem mow_P19_copyRow : ∀ w ∈ o_P19_copyRow, w ∈ v_P19_copyRow := fun _ h => List.mem_cons_of_mem _ (List.mem_append_left _ h)
theorem mem_P19_copyRow_0 : ∀ w ∈ v_P13_row, w ∈ v_P19_copyRow := fun _ h => List.mem_cons_of_mem _ (List.mem_append_right _ (List.mem_append_left _ h))
theorem mem_P19_copyRow_1 : ∀ w ∈ wsX170, w ∈ v_P19_copyRow := fun _ h => List.mem_cons_of_mem _ (List.mem_append_right _ (List.mem_append_right _ (List.mem_append_left _ h)))
theorem mem_P19_copyRow_2 : ∀ w ∈ wsX120, w ∈ v_P19_copyRow := fun _ h => List.mem_cons_of_mem _ (List.mem_append_right _ (List.mem_append_right _ (List.mem_append_right _ (List.mem_append_left _ h))))
theorem mem_P19_copyRow_3 : ∀ w ∈ v_PL_addAR, w ∈ v_P19_copyRow := fun _ h => List.mem_cons_of_mem _ (List.mem_append_right _ (List.mem_append_right _ (List.mem_append_right _ (List.mem_append_right _ (List.mem_append_left _ h)))))
set_option maxRecDepth 20000 in
theorem gw_P19_copyRow : v_P19_copyRow.all goodWord = true := by decide +kernel
set_option maxRecDepth 20000 in
theorem g_P19_copyRow_P13_row : GoodIn v_P19_copyRow (wsV RX19 153 RX13 yX13_row v_P13_row) := goodIn_app (goodIn_sub (fun w h => mow_P19_copyRow w (by revert w h; decide +kernel)) (by decide +kernel)) (goodIn_sub mem_P19_copyRow_0 gw_P13_row)
set_option maxRecDepth 20000 in
theorem g_P19_copyRow_PL_addAR : GoodIn v_P19_copyRow (wsV RX19 181 RJx4a65c yJx4a65c_add_9ea2d v_PL_addAR) := goodIn_app (goodIn_sub (fun w h => mow_P19_copyRow w (by revert w h; decide +kernel)) (by decide +kernel)) (goodIn_sub mem_P19_copyRow_3 gw_PL_addAR)
set_option maxHeartbeats 4000000 in
set_option maxRecDepth 100000 in
theorem c_P19_copyRow (l : Launch) (dC : Nat → ClassId) (dI : Nat → Nat → Nat) (cI : ClassId) (cZ : ClassId) (hc : Nat) (v13_0 : Value) (v13_2 : Value) (z13_rowN : Int) (v13_4 : Value) (v13_6 : Value) (la : Nat) (lr : Nat) (cO : ClassId) (L : List Nat) (P : PO) (sx_ed : Nat) (xb : Nat) (t0 : Int) (o0 : Int) (b0 : Int) (hNz13_rowN : 0 ≤ z13_rowN ∧ z13_rowN ≤ 19000) (hX_a : ALP L P cO cI cZ sx_ed la) (hX_lr : lr ∈ L ∧ P.kd lr = 30 ∧ P.ek lr = 17 ∧ P.ow lr = lr) (hX_b : INB P la xb) (hNr : z13_rowN ≤ P.lz lr ∧ P.lz lr ≤ 19000 ∧ 0 ≤ z13_rowN ∧ 0 ≤ t0 ∧ t0 ≤ 1001 ∧ -2147483648 ≤ o0 ∧ o0 ≤ 2147483647 ∧ 0 ≤ b0 ∧ b0 ≤ 1 ∧ P.tot 2 la ≤ 19000) (hX_o : OPQ b0 o0) (sz : Nat) (sx_mi : Nat) (HU : Heap) : Met l yX19_copy v_P19_copyRow ({ frames := 8, cells := 3, slots := 200007, locals := 212 }) (va_Pc [.ref hc, .ref xb, .int (zI (t0)), .int (zI (o0)), .int (zI (b0))] (fun U => U.heap.size = sz ∧ va_P (dC, dI) vwQ ([(hc, .inr (12, [v13_0, .ref lr, v13_2, .int (zI (z13_rowN)), v13_4, .ref la, v13_6]))] ++ va_pl L (pE P)) U.heap ∧ va_K (dC, dI) vwQ [(cO, .object "java/lang/Object"), (cI, .int), (cZ, .boolean)] U ∧ va_D (fun _ => True) ([(hc, .inr (12, [v13_0, .ref lr, v13_2, .int (zI (z13_rowN)), v13_4, .ref la, v13_6]))] ++ va_pl L (pE P)) ∧ va_Nw (.castable "SsaForgeModel$Row" "SsaForgeModel$Row") U ∧ va_Nw (.methodLinkNest RX13 57 yX17_init "SsaForgeModel") U ∧ va_Nw (.castable "SsaForgeModel$Row" "java/lang/Object") U ∧ va_Nw (.castable "SsaForgeModel$Phi" "java/lang/Object") U ∧ va_Nw (.castable "SsaForgeModel$Block" "java/lang/Object") U ∧ va_Dc U ∧ va_Mi "[Ljava/lang/Object;" sx_mi U ∧ va_AO "java/lang/Object" U ∧ va_T (.object "java/lang/Object") sx_ed 0 (fun _ => .null) (va_A ([(hc, .inr (12, [v13_0, .ref lr, v13_2, .int (zI (z13_rowN)), v13_4, .ref la, v13_6]))] ++ va_pl L (pE P)) sz) U U.heap ∧ va_Z "java/util/ArrayList" "DEFAULTCAPACITY_EMPTY_ELEMENTDATA" "[Ljava/lang/Object;" (.ref sx_ed) (va_A ([(hc, .inr (12, [v13_0, .ref lr, v13_2, .int (zI (z13_rowN)), v13_4, .ref la, v13_6]))] ++ va_pl L (pE P)) sz) U U.heap ∧ U.heap = HU)) (va_Qv (fun _ : Unit => True) (fun (_ : Unit) (t : State) => ∃ (z0_9 : Int) (Ln_9 : List Nat) (Pn_9 : PO) (kc_9 : Nat) (ks_9 : Nat), ((RM HU t.heap kc_9 ks_9 ∧ ((ks_9 : Int) ≤ 7 * (Pn_9.lz lr - P.lz lr) + 5 * (Pn_9.cap lr - P.cap lr) + 5 * (Pn_9.cat 2 la - P.cat 2 la) ∧ (kc_9 : Int) ≤ (Pn_9.lz lr - P.lz lr) + (Pn_9.cap lr - P.cap lr) + (Pn_9.cat 2 la - P.cat 2 la))) ∧ ((0 ≤ z0_9 ∧ z0_9 ≤ 19001) ∧ (KEP [lr] L P Ln_9 Pn_9 la ∧ ALP Ln_9 Pn_9 cO cI cZ sx_ed la ∧ (Pn_9.tot 2 la = P.tot 2 la + 1 ∧ Pn_9.tot 1 la = P.tot 1 la ∧ z0_9 = z13_rowN + 1 ∧ z0_9 ≤ Pn_9.lz lr) ∧ LG9 (Pn_9.lz lr) (P.lz lr) z13_rowN))) ∧ va_P (dC, dI) vwQ ([(hc, .inr (12, [v13_0, .ref lr, v13_2, .int (zI (z0_9)), v13_4, .ref la, v13_6]))] ++ va_pl Ln_9 (pE Pn_9)) t.heap ∧ va_K (dC, dI) vwQ [(cO, .object "java/lang/Object"), (cI, .int), (cZ, .boolean)] t ∧ va_D (va_A ([(hc, .inr (12, [v13_0, .ref lr, v13_2, .int (zI (z13_rowN)), v13_4, .ref la, v13_6]))] ++ va_pl L (pE P)) sz) ([(hc, .inr (12, [v13_0, .ref lr, v13_2, .int (zI (z0_9)), v13_4, .ref la, v13_6]))] ++ va_pl Ln_9 (pE Pn_9))) (va_A ([(hc, .inr (12, [v13_0, .ref lr, v13_2, .int (zI (z13_rowN)), v13_4, .ref la, v13_6]))] ++ va_pl L (pE P)) sz)) 3 200007 (va_A ([(hc, .inr (12, [v13_0, .ref lr, v13_2, .int (zI (z13_rowN)), v13_4, .ref la, v13_6]))] ++ va_pl L (pE P)) sz) := by
  refine Met.ofW (cc := cX19_copy) (maxL := 6) (ret := none) (by decide) rfl ?_
  intro p e s m args below meth c s₁ B hml hv
  obtain ⟨rfl, hsz, hP, hK, hD0, hp0, hp1, hp2, hp3, hp4, hp5, hp6, hp7, hp8, hp9, hp10⟩ := hv
  have hx := B.exec
  have hb := B.bytes
  have hr := B.returns
  have hts := atoms_spec (ws := v_P19_copyRow) B.pre
  have hown : s.vm.findClass RX19 = some m.cls := findClass_of_methodNamed B.named
  have hlocks := B.notSynchronized
  have ow : ∀ {k : Nat} {w : Cond}, o_P19_copyRow[k]? = some w → w.before ([.ref hc, .ref xb, .int (zI (t0)), .int (zI (o0)), .int (zI (b0))] : List Value).toArray s = true := fun h => hts _ (mow_P19_copyRow _ (List.mem_of_getElem? h))
  subst hsz
  have hD := hD0.self (sz := s.heap.size)
  generalize hAe : va_A ([(hc, .inr (12, [v13_0, .ref lr, v13_2, .int (zI (z13_rowN)), v13_4, .ref la, v13_6]))] ++ va_pl L (pE P)) s.heap.size = A at hD hp7 hp8 hp9 ⊢
  have hA : ∀ q : Nat, s.heap.size ≤ q → A q := fun q h => by rw [← hAe]; exact Or.inr h
  have hS : va_S A s.heap s.heap [] := va_S.rf
  have hP : va_P (dC, dI) vwQ ([(hc, .inr (12, [v13_0, .ref lr, v13_2, .int (zI (z13_rowN)), v13_4, .ref la, v13_6]))] ++ va_pl L (pE P)) s.heap := hP
  have hl := lv_entry ([.ref hc, .ref xb, .int (zI (t0)), .int (zI (o0)), .int (zI (b0))]) (n := 6) (Nat.le_of_ble_eq_true rfl)
  rw [lg_entry_eq]
  generalize (lg_sl ([.ref hc, .ref xb, .int (zI (t0)), .int (zI (o0)), .int (zI (b0))]) ++ List.replicate (6 - (lg_sl ([.ref hc, .ref xb, .int (zI (t0)), .int (zI (o0)), .int (zI (b0))])).length) Slot.unset).toArray = ls at hl ⊢
  have hl : lv_has ls 6 [(0, .ref hc), (1, .ref xb), (2, .int (zI (t0))), (3, .int (zI (o0))), (4, .int (zI (b0)))] := hl
  obtain ⟨H, hH⟩ : ∃ H, H = s.heap := ⟨_, rfl⟩
  rw [← hH] at hP
  have hS : va_S A s.heap H [] := by rw [hH]; exact hS
  rw [← hH]
  refine zW_cap (fun Q hQ => ?_)
  have hX_a9 := hX_a
  have hla := hX_a.lok.2.2.1
  have hla2 := hX_a.1.1.2.1
  have hC_lr := hX_lr
  have hxb := hX_a.inb hX_b
  have htn := hX_a.totnn
  refine lv_aload_n hx hb dX19_copy_0 rfl (lv_at hl 0 rfl) ?_
  have hX_a := hX_a9
  have hX_lr : lr ∈ L ∧ P.kd lr = 30 ∧ P.ek lr = 17 ∧ P.ow lr = lr := ⟨hC_lr.1, hC_lr.2.1, hC_lr.2.2.1, hC_lr.2.2.2⟩
  have hPc := hP.part (X := [(hc, .inr (12, [v13_0, .ref lr, v13_2, .int (zI (z13_rowN)), v13_4, .ref la, v13_6]))]) (cx := [(hc, .inr (12, [v13_0, .ref lr, v13_2, .int (zI (z13_rowN)), v13_4, .ref la, v13_6]))]) (pl := va_pl L (pE P)) [0] rfl
  have hDc := hD.part (X := [(hc, .inr (12, [v13_0, .ref lr, v13_2, .int (zI (z13_rowN)), v13_4, .ref la, v13_6]))]) (cx := [(hc, .inr (12, [v13_0, .ref lr, v13_2, .int (zI (z13_rowN)), v13_4, .ref la, v13_6]))]) (pl := va_pl L (pE P)) [0] (by decide) rfl
  have hKc := hK.sub (tys' := [(cO, .object "java/lang/Object"), (cI, .int), (cZ, .boolean)]) [0, 1, 2] rfl
  have hFc := va_freeP (X := [(hc, .inr (12, [v13_0, .ref lr, v13_2, .int (zI (z13_rowN)), v13_4, .ref la, v13_6]))]) (cx := [(hc, .inr (12, [v13_0, .ref lr, v13_2, .int (zI (z13_rowN)), v13_4, .ref la, v13_6]))]) (pl := va_pl L (pE P)) hD hS hA [0] rfl
  refine W_knowS (fun hrmA => ?_)
  refine va_callr (va_runV (As := []) (rest := []) ⟨hx, hb, hml, hown, hts⟩ (c_P13_row l dC dI cI cZ hc v13_0 v13_2 z13_rowN v13_4 v13_6 la lr cO L P sx_ed (by omega) hX_a hX_lr (by omega) H.size H sx_mi) (cwV 0 hts g_P19_copyRow_P13_row rfl rfl rfl (by decide +kernel) ⟨(Nat.le_of_ble_eq_true rfl), (Nat.le_of_ble_eq_true rfl)⟩) ⟨fun a U g mk q => by obtain ⟨q0, q1, qP, qK, qD, e0, e1, e2, e3, e4, e5, e6, e7, e8, e9, e10⟩ := q; exact ⟨q0, q1, qP, va_K.moved (u := U) (U := U.calling g mk a) (Vm.Alike.refl U.vm) qK, qD, va_Nw.same rfl (u := U) (U := U.calling g mk a) rfl e0, e1, va_Nw.same rfl (u := U) (U := U.calling g mk a) rfl e2, va_Nw.same rfl (u := U) (U := U.calling g mk a) rfl e3, va_Nw.same rfl (u := U) (U := U.calling g mk a) rfl e4, va_Nw.same rfl (u := U) (U := U.calling g mk a) rfl e5, va_Dc.moved (u := U) (U := U.calling g mk a) (Vm.Alike.refl U.vm) e6, va_Mi.moved (u := U) (U := U.calling g mk a) (Vm.Alike.refl U.vm) e7, va_AO.moved (u := U) (U := U.calling g mk a) (Vm.Alike.refl U.vm) e8, va_T.moved (u := U) (U := U.calling g mk a) (Vm.Alike.refl U.vm) e9, va_Z.moved (u := U) (U := U.calling g mk a) (Vm.Alike.refl U.vm) e10⟩, va_recv hKc hPc (ci := 12) (q0 := 0) rfl rfl, fun U hU hW => ⟨rfl, by rw [hU], by rw [hU]; exact hPc, va_K.moved hW.alike hKc, hDc.weaken (fun _ _ _ _ => trivial), va_Nw.warmC hW hp0, hU, va_Nw.warmM hW hp1, va_Nw.warmC hW hp2, va_Nw.warmC hW hp3, va_Nw.warmC hW hp4, va_Dc.moved hW.alike hp5, va_Mi.moved hW.alike hp6, va_AO.moved hW.alike hp7, by rw [hU]; exact va_T.narrow (va_T.moved hW.alike (va_T.kept hp8 hS.2.1)) hFc, by rw [hU]; exact va_Z.narrow (va_Z.moved hW.alike (va_Z.kept hp9 hS.2.1)) hFc⟩⟩ rfl rfl hl.1 rfl (lv_room (Nat.le_of_ble_eq_true rfl)) dX19_copy_1 ⟨(Nat.le_of_ble_eq_true rfl), (Nat.le_of_ble_eq_true rfl)⟩) hS (fun q _ h => hFc q h) hFc (fun u q_1 t H1 locs ht hvm hw hB hz1 hk1 hS => ?_)
  obtain ⟨z0_2, Ln_3, Pn_4, kc_5, ks_6, hxt_6, hP1, hK1, hD1⟩ := hB
  rw [ht] at hP1
  have hK1 := va_K.moved hvm.symm hK1
  obtain ⟨hP, hD⟩ := va_joinP (X := [(hc, .inr (12, [v13_0, .ref lr, v13_2, .int (zI (z13_rowN)), v13_4, .ref la, v13_6]))]) (cx := [(hc, .inr (12, [v13_0, .ref lr, v13_2, .int (zI (z13_rowN)), v13_4, .ref la, v13_6]))]) (wr := []) (rx := [(hc, .inr (12, [v13_0, .ref lr, v13_2, .int (zI (z0_2)), v13_4, .ref la, v13_6]))]) (pl := va_pl L (pE P)) (pl1 := va_pl Ln_3 (pE Pn_4)) hP hD [0] [] rfl rfl (by decide) (by decide) hk1 hFc hP1 hD1
  have hK := (hK.sub (tys' := []) [] rfl).app hK1
  have hrmC := hxt_6.1.1
  rw [ht] at hrmC
  refine W_tightS (hrmA.trans hrmC) ?_
  have hrb := hxt_6.1.2
  generalize H1 = H at hP hS ⊢
  have hP : va_P (dC, dI) vwQ ([(hc, .inr (12, [v13_0, .ref lr, v13_2, .int (zI (z0_2)), v13_4, .ref la, v13_6]))] ++ va_pl Ln_3 (pE Pn_4)) H := hP
  have hD : va_D A ([(hc, .inr (12, [v13_0, .ref lr, v13_2, .int (zI (z0_2)), v13_4, .ref la, v13_6]))] ++ va_pl Ln_3 (pE Pn_4)) := hD
  have hK : va_K (dC, dI) vwQ [(cO, .object "java/lang/Object"), (cI, .int), (cZ, .boolean)] s := hK
  refine W.widen (k := (0 + kc_5)) (n := (0 + ks_6)) (by omega) (by omega) ?_
  obtain ⟨rk_7, hu_7⟩ := hxt_6.2
  have hu_8 := hxt_6.2.2
  have hq_10 : la ∈ Ln_3 ∧ Pn_4.kd la = 30 := hu_8.1.mem hX_a.lok.1 hX_a.lok.2.1 (by decide)
  have hq_11 : lr ∈ Ln_3 ∧ Pn_4.kd lr = 30 := hu_8.1.mem hC_lr.1 hC_lr.2.1 (by decide)
  have hq_12 : xb ∈ Ln_3 ∧ Pn_4.kd xb = 12 := hu_8.1.mem hxb.1.1 hxb.1.2 (by decide)
  have hi_13 : INB Pn_4 la xb := hu_8.1.inb hX_b
  have hz9 := hu_8.1.2.2.1
  have hA_14 : KEP [lr] L P Ln_3 Pn_4 la := (KEP.refl [lr] L P la).trans hu_8.1
  have hcr1 := hu_8.2.2.1.2.1.1
  have hlg_9 : LG9 (Pn_4.lz lr) (P.lz lr) z13_rowN := hu_8.2.2.1.2.1.2
  have hcr3 := hlg_9.le
  have hcx := hu_8.2.2.1.2.2.1
  have hn9 := hu_8.2.2.2
  have hek_15 : Pn_4.ek lr = 17 := (by rw [hu_8.1.ek hC_lr.1 hC_lr.2.1 (by decide)]; exact hC_lr.2.2.1)
  have how_16 : Pn_4.ow lr = lr := ((hu_8.1.1 lr hC_lr.1 (by rw [hC_lr.2.1]; decide)).2.2.2.1 hC_lr.2.1 hC_lr.2.2.2).1
  refine lv_astore (lv' := [(5, .ref q_1), (0, .ref hc), (1, .ref xb), (2, .int (zI (t0))), (3, .int (zI (o0))), (4, .int (zI (b0)))]) hx hb dX19_copy_4 hl (by decide) rfl (fun ls hl => ?_)
  refine lv_aload hx hb dX19_copy_6 (lv_at hl 0 rfl) ?_
  refine lv_iconst (v := 0) hx hb dX19_copy_8 (by decide) ?_
  have ⟨hr1, hr2, hr3, hr4, hr5, hr6, hr7, hr8, hr9⟩ := hu_8.2.1.rok hu_8.2.2.1.1.1 hu_8.2.2.1.1.2.1
  refine lv_topi (fun z ez => ?_)
  obtain rfl : z = zI (0) := ez
  obtain ⟨kp_17, gkp_17⟩ := va_pl_get (X := [(hc, .inr (12, [v13_0, .ref lr, v13_2, .int (zI (z0_2)), v13_4, .ref la, v13_6]))]) (f := pE Pn_4) hu_8.2.2.1.1.1
  have hkp_17 := gkp_17
  rw [pE_row hu_8.2.2.1.1.2.1] at hkp_17
  have hD0 := hD
  refine va_put (D := (dC, dI)) (ci := 21) (v := .int (zI (0))) (ty := .int) (C := RX17) (T := TX17) (N := 7) hx hb hts mem_P19_copyRow_1 tyX17 tyX17_ok nmX17 hown hK hP hD hS kp_17 hkp_17 rfl 0 (by decide) (ow (k := 4) rfl) (fun _ h9 => h9) rfl (by decide +kernel) rfl rfl (by first | exact Nat.le_of_ble_eq_true rfl | exact Nat.le_trans (show (0 + kc_5) ≤ 2 from (by omega)) (Nat.le_of_ble_eq_true rfl) | exact Nat.le_trans (show (0 + ks_6) ≤ 100007 from (by omega)) (Nat.le_of_ble_eq_true rfl)) dX19_copy_9 (fun H locs hP hD hS => ?_)
  obtain ⟨Pw_18, ePw_18⟩ : ∃ q9 : PO, q9 = Pn_4.rw9 0 q_1 (0) := ⟨_, rfl⟩
  have eU : (([(hc, .inr (12, [v13_0, .ref lr, v13_2, .int (zI (z0_2)), v13_4, .ref la, v13_6]))] : va_W) ++ va_pl Ln_3 (pE Pn_4)).set kp_17 (q_1, rowE (0) (Pn_4.rt q_1) (Pn_4.ra q_1) (Pn_4.rb q_1) (Pn_4.rA q_1) (Pn_4.rB q_1) (Pn_4.rg q_1)) = ([(hc, .inr (12, [v13_0, .ref lr, v13_2, .int (zI (z0_2)), v13_4, .ref la, v13_6]))] : va_W) ++ va_pl Ln_3 (pE Pw_18) := (by rw [va_pl_set hD0 hu_8.2.2.1.1.1 gkp_17, ePw_18]; exact congrArg (fun f9 => ([(hc, .inr (12, [v13_0, .ref lr, v13_2, .int (zI (z0_2)), v13_4, .ref la, v13_6]))] : va_W) ++ va_pl Ln_3 f9) (put17_0 hu_8.2.2.1.1.2.1))
  have hP : va_P (dC, dI) vwQ ([(hc, .inr (12, [v13_0, .ref lr, v13_2, .int (zI (z0_2)), v13_4, .ref la, v13_6]))] ++ va_pl Ln_3 (pE Pw_18)) H := (by rw [← eU]; exact hP)
  have hD : va_D A ([(hc, .inr (12, [v13_0, .ref lr, v13_2, .int (zI (z0_2)), v13_4, .ref la, v13_6]))] ++ va_pl Ln_3 (pE Pw_18)) := (by rw [← eU]; exact hD)
  clear eU hD0 gkp_17 hkp_17
  have wPw_18 : RW1 q_1 Pn_4 Pw_18 := (by rw [ePw_18]; exact RW1.put _ _ _ _)
  have hy_19 : Pw_18.kd la = 30 := (by rw [ePw_18]; exact hq_10.2)
  have hy_20 : Pw_18.kd lr = 30 := (by rw [ePw_18]; exact hq_11.2)
  have hy_21 : Pw_18.kd xb = 12 := (by rw [ePw_18]; exact hq_12.2)
  have : Pw_18.bf xb = Pn_4.bf xb := wPw_18.2 _ (kd_ne hq_12.2 hu_8.2.2.1.1.2.1 (by decide)) _
  have : Pw_18.bs xb = Pn_4.bs xb := wPw_18.2 _ (kd_ne hq_12.2 hu_8.2.2.1.1.2.1 (by decide)) _
  have hy_22 : Pw_18.kd q_1 = 17 := (by rw [ePw_18]; exact hu_8.2.2.1.1.2.1)
  have : Pw_18.ro q_1 = 0 := (by rw [ePw_18]; exact rw9_at _ _ _ _)
  have : Pw_18.rt q_1 = Pn_4.rt q_1 := (by rw [ePw_18]; exact rw9_of _ (by decide))
  have : Pw_18.ra q_1 = Pn_4.ra q_1 := (by rw [ePw_18]; exact rw9_of _ (by decide))
  have : Pw_18.rb q_1 = Pn_4.rb q_1 := (by rw [ePw_18]; exact rw9_of _ (by decide))
  have : Pw_18.rA q_1 = Pn_4.rA q_1 := (by rw [ePw_18]; exact rw9_of _ (by decide))
  have : Pw_18.rB q_1 = Pn_4.rB q_1 := (by rw [ePw_18]; exact rw9_of _ (by decide))
  have : Pw_18.rg q_1 = Pn_4.rg q_1 := (by rw [ePw_18]; exact rw9_of _ (by decide))
  refine lv_aload hx hb dX19_copy_12 (lv_at hl 0 rfl) ?_
  refine lv_iload_n hx hb dX19_copy_14 rfl (lv_at hl 3 rfl) ?_
  obtain ⟨kp_23, gkp_23⟩ := va_pl_get (X := [(hc, .inr (12, [v13_0, .ref lr, v13_2, .int (zI (z0_2)), v13_4, .ref la, v13_6]))]) (f := pE Pw_18) hu_8.2.2.1.1.1
  have hkp_23 := gkp_23
  rw [pE_row hy_22] at hkp_23
  have hD0 := hD
  refine va_put (D := (dC, dI)) (ci := 21) (v := .int (zI (t0))) (ty := .int) (C := RX17) (T := TX17) (N := 7) hx hb hts mem_P19_copyRow_1 tyX17 tyX17_ok nmX17 hown hK hP hD hS kp_23 hkp_23 rfl 1 (by decide) (ow (k := 5) rfl) (fun _ h9 => h9) rfl (by decide +kernel) rfl rfl (by first | exact Nat.le_of_ble_eq_true rfl | exact Nat.le_trans (show (0 + kc_5) ≤ 2 from (by omega)) (Nat.le_of_ble_eq_true rfl) | exact Nat.le_trans (show (0 + ks_6) ≤ 100007 from (by omega)) (Nat.le_of_ble_eq_true rfl)) dX19_copy_15 (fun H locs hP hD hS => ?_)
  obtain ⟨Pw_24, ePw_24⟩ : ∃ q9 : PO, q9 = Pw_18.rw9 1 q_1 (t0) := ⟨_, rfl⟩
  have eU : (([(hc, .inr (12, [v13_0, .ref lr, v13_2, .int (zI (z0_2)), v13_4, .ref la, v13_6]))] : va_W) ++ va_pl Ln_3 (pE Pw_18)).set kp_23 (q_1, rowE (Pw_18.ro q_1) (t0) (Pw_18.ra q_1) (Pw_18.rb q_1) (Pw_18.rA q_1) (Pw_18.rB q_1) (Pw_18.rg q_1)) = ([(hc, .inr (12, [v13_0, .ref lr, v13_2, .int (zI (z0_2)), v13_4, .ref la, v13_6]))] : va_W) ++ va_pl Ln_3 (pE Pw_24) := (by rw [va_pl_set hD0 hu_8.2.2.1.1.1 gkp_23, ePw_24]; exact congrArg (fun f9 => ([(hc, .inr (12, [v13_0, .ref lr, v13_2, .int (zI (z0_2)), v13_4, .ref la, v13_6]))] : va_W) ++ va_pl Ln_3 f9) (put17_1 hy_22))
  have hP : va_P (dC, dI) vwQ ([(hc, .inr (12, [v13_0, .ref lr, v13_2, .int (zI (z0_2)), v13_4, .ref la, v13_6]))] ++ va_pl Ln_3 (pE Pw_24)) H := (by rw [← eU]; exact hP)
  have hD : va_D A ([(hc, .inr (12, [v13_0, .ref lr, v13_2, .int (zI (z0_2)), v13_4, .ref la, v13_6]))] ++ va_pl Ln_3 (pE Pw_24)) := (by rw [← eU]; exact hD)
  clear eU hD0 gkp_23 hkp_23
  have wPw_24 : RW1 q_1 Pw_18 Pw_24 := (by rw [ePw_24]; exact RW1.put _ _ _ _)
  have hy_25 : Pw_24.kd la = 30 := (by rw [ePw_24]; exact hy_19)
  have hy_26 : Pw_24.kd lr = 30 := (by rw [ePw_24]; exact hy_20)
  have hy_27 : Pw_24.kd xb = 12 := (by rw [ePw_24]; exact hy_21)
  have : Pw_24.bf xb = Pw_18.bf xb := wPw_24.2 _ (kd_ne hy_21 hy_22 (by decide)) _
  have : Pw_24.bs xb = Pw_18.bs xb := wPw_24.2 _ (kd_ne hy_21 hy_22 (by decide)) _
  have hy_28 : Pw_24.kd q_1 = 17 := (by rw [ePw_24]; exact hy_22)
  have : Pw_24.ro q_1 = Pw_18.ro q_1 := (by rw [ePw_24]; exact rw9_of _ (by decide))
  have : Pw_24.rt q_1 = t0 := (by rw [ePw_24]; exact rw9_at _ _ _ _)
  have : Pw_24.ra q_1 = Pw_18.ra q_1 := (by rw [ePw_24]; exact rw9_of _ (by decide))
  have : Pw_24.rb q_1 = Pw_18.rb q_1 := (by rw [ePw_24]; exact rw9_of _ (by decide))
  have : Pw_24.rA q_1 = Pw_18.rA q_1 := (by rw [ePw_24]; exact rw9_of _ (by decide))
  have : Pw_24.rB q_1 = Pw_18.rB q_1 := (by rw [ePw_24]; exact rw9_of _ (by decide))
  have : Pw_24.rg q_1 = Pw_18.rg q_1 := (by rw [ePw_24]; exact rw9_of _ (by decide))
  refine lv_aload hx hb dX19_copy_18 (lv_at hl 0 rfl) ?_
  refine lv_iload_n hx hb dX19_copy_20 rfl (lv_at hl 4 rfl) ?_
  obtain ⟨kp_29, gkp_29⟩ := va_pl_get (X := [(hc, .inr (12, [v13_0, .ref lr, v13_2, .int (zI (z0_2)), v13_4, .ref la, v13_6]))]) (f := pE Pw_24) hu_8.2.2.1.1.1
  have hkp_29 := gkp_29
  rw [pE_row hy_28] at hkp_29
  have hD0 := hD
  refine va_put (D := (dC, dI)) (ci := 21) (v := .int (zI (o0))) (ty := .int) (C := RX17) (T := TX17) (N := 7) hx hb hts mem_P19_copyRow_1 tyX17 tyX17_ok nmX17 hown hK hP hD hS kp_29 hkp_29 rfl 2 (by decide) (ow (k := 6) rfl) (fun _ h9 => h9) rfl (by decide +kernel) rfl rfl (by first | exact Nat.le_of_ble_eq_true rfl | exact Nat.le_trans (show (0 + kc_5) ≤ 2 from (by omega)) (Nat.le_of_ble_eq_true rfl) | exact Nat.le_trans (show (0 + ks_6) ≤ 100007 from (by omega)) (Nat.le_of_ble_eq_true rfl)) dX19_copy_21 (fun H locs hP hD hS => ?_)
  obtain ⟨Pw_30, ePw_30⟩ : ∃ q9 : PO, q9 = Pw_24.rw9 2 q_1 (o0) := ⟨_, rfl⟩
  have eU : (([(hc, .inr (12, [v13_0, .ref lr, v13_2, .int (zI (z0_2)), v13_4, .ref la, v13_6]))] : va_W) ++ va_pl Ln_3 (pE Pw_24)).set kp_29 (q_1, rowE (Pw_24.ro q_1) (Pw_24.rt q_1) (o0) (Pw_24.rb q_1) (Pw_24.rA q_1) (Pw_24.rB q_1) (Pw_24.rg q_1)) = ([(hc, .inr (12, [v13_0, .ref lr, v13_2, .int (zI (z0_2)), v13_4, .ref la, v13_6]))] : va_W) ++ va_pl Ln_3 (pE Pw_30) := (by rw [va_pl_set hD0 hu_8.2.2.1.1.1 gkp_29, ePw_30]; exact congrArg (fun f9 => ([(hc, .inr (12, [v13_0, .ref lr, v13_2, .int (zI (z0_2)), v13_4, .ref la, v13_6]))] : va_W) ++ va_pl Ln_3 f9) (put17_2 hy_28))
  have hP : va_P (dC, dI) vwQ ([(hc, .inr (12, [v13_0, .ref lr, v13_2, .int (zI (z0_2)), v13_4, .ref la, v13_6]))] ++ va_pl Ln_3 (pE Pw_30)) H := (by rw [← eU]; exact hP)
  have hD : va_D A ([(hc, .inr (12, [v13_0, .ref lr, v13_2, .int (zI (z0_2)), v13_4, .ref la, v13_6]))] ++ va_pl Ln_3 (pE Pw_30)) := (by rw [← eU]; exact hD)
  clear eU hD0 gkp_29 hkp_29
  have wPw_30 : RW1 q_1 Pw_24 Pw_30 := (by rw [ePw_30]; exact RW1.put _ _ _ _)
  have hy_31 : Pw_30.kd la = 30 := (by rw [ePw_30]; exact hy_25)
  have hy_32 : Pw_30.kd lr = 30 := (by rw [ePw_30]; exact hy_26)
  have hy_33 : Pw_30.kd xb = 12 := (by rw [ePw_30]; exact hy_27)
  have : Pw_30.bf xb = Pw_24.bf xb := wPw_30.2 _ (kd_ne hy_27 hy_28 (by decide)) _
  have : Pw_30.bs xb = Pw_24.bs xb := wPw_30.2 _ (kd_ne hy_27 hy_28 (by decide)) _
  have hy_34 : Pw_30.kd q_1 = 17 := (by rw [ePw_30]; exact hy_28)
  have : Pw_30.ro q_1 = Pw_24.ro q_1 := (by rw [ePw_30]; exact rw9_of _ (by decide))
  have : Pw_30.rt q_1 = Pw_24.rt q_1 := (by rw [ePw_30]; exact rw9_of _ (by decide))
  have : Pw_30.ra q_1 = o0 := (by rw [ePw_30]; exact rw9_at _ _ _ _)
  have : Pw_30.rb q_1 = Pw_24.rb q_1 := (by rw [ePw_30]; exact rw9_of _ (by decide))
  have : Pw_30.rA q_1 = Pw_24.rA q_1 := (by rw [ePw_30]; exact rw9_of _ (by decide))
  have : Pw_30.rB q_1 = Pw_24.rB q_1 := (by rw [ePw_30]; exact rw9_of _ (by decide))
  have : Pw_30.rg q_1 = Pw_24.rg q_1 := (by rw [ePw_30]; exact rw9_of _ (by decide))
  refine lv_aload hx hb dX19_copy_24 (lv_at hl 0 rfl) ?_
  refine lv_iload hx hb dX19_copy_26 (lv_at hl 5 rfl) ?_
  have ho9 : b0 = 0 ∨ (0 ≤ o0 ∧ o0 ≤ 1001) := hX_o
  obtain ⟨kp_35, gkp_35⟩ := va_pl_get (X := [(hc, .inr (12, [v13_0, .ref lr, v13_2, .int (zI (z0_2)), v13_4, .ref la, v13_6]))]) (f := pE Pw_30) hu_8.2.2.1.1.1
  have hkp_35 := gkp_35
  rw [pE_row hy_34] at hkp_35
  have hD0 := hD
  refine va_put (D := (dC, dI)) (ci := 21) (v := .int (zI (b0))) (ty := .boolean) (C := RX17) (T := TX17) (N := 7) hx hb hts mem_P19_copyRow_1 tyX17 tyX17_ok nmX17 hown hK hP hD hS kp_35 hkp_35 rfl 4 (by decide) (ow (k := 7) rfl) (fun _ h9 => h9) rfl (by decide +kernel) (zI_bool (by omega) (by omega)) (zI_fitb (by omega) (by omega)) (by first | exact Nat.le_of_ble_eq_true rfl | exact Nat.le_trans (show (0 + kc_5) ≤ 2 from (by omega)) (Nat.le_of_ble_eq_true rfl) | exact Nat.le_trans (show (0 + ks_6) ≤ 100007 from (by omega)) (Nat.le_of_ble_eq_true rfl)) dX19_copy_28 (fun H locs hP hD hS => ?_)
  obtain ⟨Pw_36, ePw_36⟩ : ∃ q9 : PO, q9 = Pw_30.rw9 4 q_1 (b0) := ⟨_, rfl⟩
  have eU : (([(hc, .inr (12, [v13_0, .ref lr, v13_2, .int (zI (z0_2)), v13_4, .ref la, v13_6]))] : va_W) ++ va_pl Ln_3 (pE Pw_30)).set kp_35 (q_1, rowE (Pw_30.ro q_1) (Pw_30.rt q_1) (Pw_30.ra q_1) (Pw_30.rb q_1) (b0) (Pw_30.rB q_1) (Pw_30.rg q_1)) = ([(hc, .inr (12, [v13_0, .ref lr, v13_2, .int (zI (z0_2)), v13_4, .ref la, v13_6]))] : va_W) ++ va_pl Ln_3 (pE Pw_36) := (by rw [va_pl_set hD0 hu_8.2.2.1.1.1 gkp_35, ePw_36]; exact congrArg (fun f9 => ([(hc, .inr (12, [v13_0, .ref lr, v13_2, .int (zI (z0_2)), v13_4, .ref la, v13_6]))] : va_W) ++ va_pl Ln_3 f9) (put17_4 hy_34))
  have hP : va_P (dC, dI) vwQ ([(hc, .inr (12, [v13_0, .ref lr, v13_2, .int (zI (z0_2)), v13_4, .ref la, v13_6]))] ++ va_pl Ln_3 (pE Pw_36)) H := (by rw [← eU]; exact hP)
  have hD : va_D A ([(hc, .inr (12, [v13_0, .ref lr, v13_2, .int (zI (z0_2)), v13_4, .ref la, v13_6]))] ++ va_pl Ln_3 (pE Pw_36)) := (by rw [← eU]; exact hD)
  clear eU hD0 gkp_35 hkp_35
  have wPw_36 : RW1 q_1 Pw_30 Pw_36 := (by rw [ePw_36]; exact RW1.put _ _ _ _)
  have hy_37 : Pw_36.kd la = 30 := (by rw [ePw_36]; exact hy_31)
  have hy_38 : Pw_36.kd lr = 30 := (by rw [ePw_36]; exact hy_32)
  have hy_39 : Pw_36.kd xb = 12 := (by rw [ePw_36]; exact hy_33)
  have : Pw_36.bf xb = Pw_30.bf xb := wPw_36.2 _ (kd_ne hy_33 hy_34 (by decide)) _
  have : Pw_36.bs xb = Pw_30.bs xb := wPw_36.2 _ (kd_ne hy_33 hy_34 (by decide)) _
  have hy_40 : Pw_36.kd q_1 = 17 := (by rw [ePw_36]; exact hy_34)
  have : Pw_36.ro q_1 = Pw_30.ro q_1 := (by rw [ePw_36]; exact rw9_of _ (by decide))
  have : Pw_36.rt q_1 = Pw_30.rt q_1 := (by rw [ePw_36]; exact rw9_of _ (by decide))
  have : Pw_36.ra q_1 = Pw_30.ra q_1 := (by rw [ePw_36]; exact rw9_of _ (by decide))
  have : Pw_36.rb q_1 = Pw_30.rb q_1 := (by rw [ePw_36]; exact rw9_of _ (by decide))
  have : Pw_36.rA q_1 = b0 := (by rw [ePw_36]; exact rw9_at _ _ _ _)
  have : Pw_36.rB q_1 = Pw_30.rB q_1 := (by rw [ePw_36]; exact rw9_of _ (by decide))
  have : Pw_36.rg q_1 = Pw_30.rg q_1 := (by rw [ePw_36]; exact rw9_of _ (by decide))
  have hW_41 : RW1 q_1 Pn_4 Pw_36 := wPw_18.trans (wPw_24.trans (wPw_30.trans (wPw_36)))
  have hrw_44 : RWD Pn_4 Pw_36 := hW_41.rwd (Or.inl hu_8.2.2.1.1.2.1)
  have hak_43 : ALP Ln_3 Pw_36 cO cI cZ sx_ed la := hu_8.2.1.row hW_41 hu_8.2.2.1.1.2.1 (ROK9.of (by omega) (by omega) (by omega) (by omega) (by omega) (by omega) (by omega) (rUA9 (by have q9 := rUsA_spec (Pn_4.ro q_1) (Pn_4.rA q_1); omega)) (rUB9 (by have q9 := rUsB_spec (Pn_4.ro q_1) (Pn_4.rB q_1); omega))) (fun e9 => by have q9 := hu_8.2.1.op21 hu_8.2.2.1.1.1 hu_8.2.2.1.1.2.1 e9; omega)
  have hke_42 : KEP [lr] Ln_3 Pn_4 Ln_3 Pw_36 la := hrw_44.kep _ hq_10.2
  have hc9 := hke_42.cat (by rw [hW_41.1]) 2
  have hc8 := hke_42.cat (by rw [hW_41.1]) 1
  have hq_45 : la ∈ Ln_3 ∧ Pw_36.kd la = 30 := hke_42.mem hq_10.1 hq_10.2 (by decide)
  have hq_46 : lr ∈ Ln_3 ∧ Pw_36.kd lr = 30 := hke_42.mem hq_11.1 hq_11.2 (by decide)
  have hq_47 : xb ∈ Ln_3 ∧ Pw_36.kd xb = 12 := hke_42.mem hq_12.1 hq_12.2 (by decide)
  have hq_48 : q_1 ∈ Ln_3 ∧ Pw_36.kd q_1 = 17 := hke_42.mem hu_8.2.2.1.1.1 hu_8.2.2.1.1.2.1 (by decide)
  have hi_49 : INB Pw_36 la xb := hke_42.inb hi_13
  have hE_50 : Pw_36.ek q_1 ≠ 1 := (by rw [hke_42.ek hu_8.2.2.1.1.1 hu_8.2.2.1.1.2.1 (by decide)]; exact hu_8.2.2.1.1.2.2.1)
  have hz9 := hke_42.2.2.1
  have hA_51 : KEP [lr] L P Ln_3 Pw_36 la := hA_14.trans hke_42
  have : Pw_36.lz la = Pn_4.lz la := hrw_44.lz hq_10.2
  have : Pw_36.lz lr = Pn_4.lz lr := hrw_44.lz hq_11.2
  have ht9 := hrw_44.tot hu_8.2.1 2 (Or.inr rfl)
  have ht8 := hrw_44.tot hu_8.2.1 1 (Or.inl rfl)
  have : Pw_36.cap lr = Pn_4.cap lr := hW_41.cap lr
  have hek_52 : Pw_36.ek lr = 17 := (by rw [hke_42.ek hq_11.1 hq_11.2 (by decide)]; exact hek_15)
  have how_53 : Pw_36.ow lr = lr := ((hke_42.1 lr hq_11.1 (by rw [hq_11.2]; decide)).2.2.2.1 hq_11.2 how_16).1
  clear ho9 hr8 hr9
  refine lv_aload_n hx hb dX19_copy_31 rfl (lv_at hl 2 rfl) ?_
  have hfb := (hak_43.inb hi_49).2.2.2.2
  obtain ⟨kp_54, hkp_54⟩ := va_pl_get (X := [(hc, .inr (12, [v13_0, .ref lr, v13_2, .int (zI (z0_2)), v13_4, .ref la, v13_6]))]) (f := pE Pw_36) hq_47.1
  rw [pE_block hq_47.2] at hkp_54
  refine va_get (D := (dC, dI)) (ci := 19) (v := .ref (Pw_36.br xb)) (C := RX12) (T := TX12) (N := 5) hx hb hts mem_P19_copyRow_2 hown hK hP kp_54 hkp_54 rfl 1 (by decide) (ow (k := 8) rfl) (fun _ h9 => h9) rfl dX19_copy_32 ?_
  obtain ⟨pr_55, epr_55⟩ : ∃ q9 : Nat, q9 = Pw_36.br xb := ⟨_, rfl⟩
  rw [← epr_55]
  have hlk_56 : LOK Ln_3 Pw_36 cO 17 pr_55 := (by rw [epr_55]; exact (hak_43.inb hi_49).2.1)
  have hlz9 := hlk_56.2.2.1
  refine lv_aload hx hb dX19_copy_35 (lv_at hl 0 rfl) ?_
  have hlk_57 := (show LOK Ln_3 Pw_36 cO 17 pr_55 from (by rw [← epr_55.symm]; exact (hak_43.inb hi_49).2.1))
  have hX_x := hlk_57.1
  have hX_k := hlk_57.2.1
  have hlz9 := hlk_57.2.2.1
  have hX_c := hak_43.adc hlk_57
  have hX_y : q_1 ∈ Ln_3 ∧ OBK (Pw_36.kd q_1) := ⟨hq_48.1, (by rw [hq_48.2]; unfold OBK; decide)⟩
  have hPc := hP.part (X := [(hc, .inr (12, [v13_0, .ref lr, v13_2, .int (zI (z0_2)), v13_4, .ref la, v13_6]))]) (cx := []) (pl := va_pl Ln_3 (pE Pw_36)) [] rfl
  have hDc := hD.part (X := [(hc, .inr (12, [v13_0, .ref lr, v13_2, .int (zI (z0_2)), v13_4, .ref la, v13_6]))]) (cx := []) (pl := va_pl Ln_3 (pE Pw_36)) [] (by decide) rfl
  have hKc := hK.sub (tys' := [(cO, .object "java/lang/Object")]) [0] rfl
  have hFc := va_freeP (X := [(hc, .inr (12, [v13_0, .ref lr, v13_2, .int (zI (z0_2)), v13_4, .ref la, v13_6]))]) (cx := []) (pl := va_pl Ln_3 (pE Pw_36)) hD hS hA [] rfl
  have hgl := ADC.gl hX_c
  refine va_calli (va_runV (As := [.ref q_1]) (rest := []) ⟨hx, hb, hml, hown, hts⟩ (c_PL_addAR l dC dI cO Ln_3 Pw_36 pr_55 q_1 sx_ed hX_x hX_k (by omega) hX_c hX_y H.size sx_mi) (cwV 1 hts g_P19_copyRow_PL_addAR rfl rfl rfl (by decide +kernel) ⟨(Nat.le_of_ble_eq_true rfl), (Nat.le_of_ble_eq_true rfl)⟩) ⟨fun a U g mk q => by obtain ⟨q0, q1, qP, qK, qD, e0, e1, e2, e3, e4, e5, e6, e7⟩ := q; exact ⟨q0, q1, qP, va_K.moved (u := U) (U := U.calling g mk a) (Vm.Alike.refl U.vm) qK, qD, va_Nw.same rfl (u := U) (U := U.calling g mk a) rfl e0, va_Nw.same rfl (u := U) (U := U.calling g mk a) rfl e1, va_Nw.same rfl (u := U) (U := U.calling g mk a) rfl e2, va_Dc.moved (u := U) (U := U.calling g mk a) (Vm.Alike.refl U.vm) e3, va_Mi.moved (u := U) (U := U.calling g mk a) (Vm.Alike.refl U.vm) e4, va_AO.moved (u := U) (U := U.calling g mk a) (Vm.Alike.refl U.vm) e5, va_T.moved (u := U) (U := U.calling g mk a) (Vm.Alike.refl U.vm) e6, va_Z.moved (u := U) (U := U.calling g mk a) (Vm.Alike.refl U.vm) e7⟩, recv_30 hKc hPc hlk_56.1 hlk_56.2.1, fun U hU hW => ⟨rfl, by rw [hU], by rw [hU]; exact hPc, va_K.moved hW.alike hKc, hDc.weaken (fun _ _ _ _ => trivial), va_Nw.warmC hW hp2, va_Nw.warmC hW hp3, va_Nw.warmC hW hp4, va_Dc.moved hW.alike hp5, va_Mi.moved hW.alike hp6, va_AO.moved hW.alike hp7, by rw [hU]; exact va_T.narrow (va_T.moved hW.alike (va_T.kept hp8 hS.2.1)) hFc, by rw [hU]; exact va_Z.narrow (va_Z.moved hW.alike (va_Z.kept hp9 hS.2.1)) hFc⟩⟩ rfl rfl hl.1 rfl (lv_room (Nat.le_of_ble_eq_true rfl)) dX19_copy_37 ⟨(Nat.le_trans (show (0 + kc_5) + (Pw_36.gc pr_55) ≤ 3 by omega) (Nat.le_of_ble_eq_true rfl)), (Nat.le_trans (show (0 + ks_6) + (Pw_36.gs pr_55) ≤ 200007 by omega) (Nat.le_of_ble_eq_true rfl))⟩) hS (fun q _ h => hFc q h) hFc (fun r_58 z_59 t H1 locs ht hvm hw hB hz1 hk1 hS => ?_)
  obtain ⟨Ln_60, Pn_61, hxt_61, hP1, hK1, hD1⟩ := hB
  rw [ht] at hP1
  have hK1 := va_K.moved hvm.symm hK1
  obtain ⟨hP, hD⟩ := va_joinP (X := [(hc, .inr (12, [v13_0, .ref lr, v13_2, .int (zI (z0_2)), v13_4, .ref la, v13_6]))]) (cx := []) (wr := [(hc, .inr (12, [v13_0, .ref lr, v13_2, .int (zI (z0_2)), v13_4, .ref la, v13_6]))]) (rx := []) (pl := va_pl Ln_3 (pE Pw_36)) (pl1 := va_pl Ln_60 (pE Pn_61)) hP hD [] [0] rfl rfl (by decide) (by decide) hk1 hFc hP1 hD1
  have hK := (hK.sub (tys' := [(cI, .int), (cZ, .boolean)]) [1, 2] rfl).app hK1
  generalize H1 = H at hP hS ⊢
  have hP : va_P (dC, dI) vwQ ([(hc, .inr (12, [v13_0, .ref lr, v13_2, .int (zI (z0_2)), v13_4, .ref la, v13_6]))] ++ va_pl Ln_60 (pE Pn_61)) H := hP
  have hD : va_D A ([(hc, .inr (12, [v13_0, .ref lr, v13_2, .int (zI (z0_2)), v13_4, .ref la, v13_6]))] ++ va_pl Ln_60 (pE Pn_61)) := hD
  have hK : va_K (dC, dI) vwQ [(cI, .int), (cZ, .boolean), (cO, .object "java/lang/Object")] s := hK
  refine W.widen (k := ((0 + kc_5) + (Pw_36.gc pr_55))) (n := ((0 + ks_6) + (Pw_36.gs pr_55))) (by omega) (by omega) ?_
  obtain ⟨rfl, hzz_59⟩ := hw
  have hu_62 := hxt_61
  have hek_65 : Pw_36.ek pr_55 = 17 := (by rw [← epr_55.symm]; exact (hak_43.2.1.2.2.1 xb hq_47.1 hq_47.2).1.1)
  have hfx := hu_62.2.2.2.2.2.2.2
  have han := hu_62.2.2.2.1
  have hic := hak_43.in hi_49
  have hal : Pw_36.lz pr_55 = Pw_36.lz (Pw_36.br xb) := (by rw [epr_55.symm])
  have hke_63 : KEP [lr] Ln_3 Pw_36 Ln_60 Pn_61 la := hu_62.1.kep hak_43 hlk_57.1 hlk_57.2.1 hfx (by rw [hek_65]; decide) (Or.inl (fun e9 => kd_ne hq_47.2 hlk_57.2.1 (by decide) (show xb = pr_55 from (by have q9 := (hak_43.2.1.2.2.1 xb hq_47.1 hq_47.2).1.2.1; rw [epr_55.symm, e9] at q9; exact q9.symm))))
  have hak_64 : ALP Ln_60 Pn_61 cO cI cZ sx_ed la := hak_43.add hu_62.1 hlk_57.1 hlk_57.2.1 hfx hek_65 (by decide) hlk_57 hq_48.1 hq_48.2 hu_62.2.1 (by omega) hu_62.2.2.1 hu_62.2.2.2.1.1 (by have q9 := hak_43.adc40 hlk_57; omega) hu_62.2.2.2.2.1 hu_62.2.2.2.2.2.1 hu_62.2.2.2.2.2.2.1 (fun q9 => absurd q9 (by decide)) (fun _ => hE_50)
  have ht9 : Pn_61.tot 2 la = Pw_36.tot 2 la + (1) ∧ Pn_61.tot 1 la = Pw_36.tot 1 la := hak_43.tots hke_63 hi_49 2 (Or.inr rfl) epr_55.symm (d := 1) hu_62.2.1 (fun y m9 k9 n9 => hu_62.1.lz hak_43 hlk_57.1 hlk_57.2.1 hfx m9 k9 n9)
  have hgr9 := gro_cap (P := Pw_36) (P' := Pn_61) (x := pr_55) (hak_43.adc hlk_57) hu_62.1.1.2.2.2.2.2.2.2.2 hu_62.2.2.2.1.1 hu_62.2.2.2.1.2.2.1 hu_62.2.2.2.1.2.2.2 hu_62.2.2.2.1.2.1
  clear han
  have hc9 : Pn_61.cat 2 la = Pw_36.cat 2 la + (Pn_61.cap pr_55 - Pw_36.cap pr_55) ∧ Pn_61.cat 1 la = Pw_36.cat 1 la := hak_43.cats hke_63 hi_49 2 (Or.inr rfl) epr_55.symm (by omega) (fun y m9 k9 n9 => hu_62.1.cap hak_43 hlk_57.1 hlk_57.2.1 hfx m9 k9 n9)
  have hq_66 : la ∈ Ln_60 ∧ Pn_61.kd la = 30 := hke_63.mem hq_45.1 hq_45.2 (by decide)
  have hq_67 : lr ∈ Ln_60 ∧ Pn_61.kd lr = 30 := hke_63.mem hq_46.1 hq_46.2 (by decide)
  have hq_68 : xb ∈ Ln_60 ∧ Pn_61.kd xb = 12 := hke_63.mem hq_47.1 hq_47.2 (by decide)
  have hq_69 : q_1 ∈ Ln_60 ∧ Pn_61.kd q_1 = 17 := hke_63.mem hq_48.1 hq_48.2 (by decide)
  have hq_70 : pr_55 ∈ Ln_60 ∧ Pn_61.kd pr_55 = 30 := hke_63.mem hlk_56.1 hlk_56.2.1 (by decide)
  have hi_71 : INB Pn_61 la xb := hke_63.inb hi_49
  have hE_72 : Pn_61.ek q_1 ≠ 1 := (by rw [hke_63.ek hq_48.1 hq_48.2 (by decide)]; exact hE_50)
  have ha_73 : Pn_61.br xb = pr_55 := hke_63.br hq_47.1 hq_47.2 epr_55.symm
  have hz9 := hke_63.2.2.1
  have hA_74 : KEP [lr] L P Ln_60 Pn_61 la := hA_51.trans hke_63
  have hza := hu_62.2.1
  have : Pn_61.lz lr = Pw_36.lz lr := hu_62.1.lz hak_43 hlk_57.1 hlk_57.2.1 hfx hq_46.1 hq_46.2 (fun e9 => (show Pw_36.ow pr_55 ≠ pr_55 from (fun e9 => kd_ne hq_47.2 hlk_57.2.1 (by decide) (show xb = pr_55 from (by have q9 := (hak_43.2.1.2.2.1 xb hq_47.1 hq_47.2).1.2.1; rw [epr_55.symm, e9] at q9; exact q9.symm)))) (by rw [← e9]; exact how_53))
  have : Pn_61.cap lr = Pw_36.cap lr := hu_62.1.capO hak_43.owa hlk_57.1 hlk_57.2.1 hfx hq_46.1 hq_46.2 (fun e9 => (show Pw_36.ow pr_55 ≠ pr_55 from (fun e9 => kd_ne hq_47.2 hlk_57.2.1 (by decide) (show xb = pr_55 from (by have q9 := (hak_43.2.1.2.2.1 xb hq_47.1 hq_47.2).1.2.1; rw [epr_55.symm, e9] at q9; exact q9.symm)))) (by rw [← e9]; exact how_53))
  have hek_75 : Pn_61.ek lr = 17 := (by rw [hke_63.ek hq_46.1 hq_46.2 (by decide)]; exact hek_52)
  have how_76 : Pn_61.ow lr = lr := ((hke_63.1 lr hq_46.1 (by rw [hq_46.2]; decide)).2.2.2.1 hq_46.2 how_53).1
  have hgr8 := hgr9.1
  clear hgr9 hfx
  refine lv_pop hx hb dX19_copy_40 rfl ?_
  subst hQ
  have hK := hK.sub (tys' := [(cO, .object "java/lang/Object"), (cI, .int), (cZ, .boolean)]) [2, 0, 1] rfl
  refine W_knowS (fun hrm9 => ?_)
  refine W.widen (k := 3) (n := 200007) (by omega) (by omega) ?_
  exact W.vret hx hb hr (fun t ht hW => ⟨⟨(), rfl, trivial, z0_2, Ln_60, Pn_61, ((0 + kc_5) + (Pw_36.gc pr_55)), ((0 + ks_6) + (Pw_36.gs pr_55)), ⟨⟨(by rw [ht, ← hp10]; exact hrm9), (by refine ⟨?_, ?_⟩ <;> omega)⟩, ⟨(by omega), ⟨hA_74, hak_64, ⟨by omega, by omega, by omega, by omega⟩, hlg_9.to (by omega)⟩⟩⟩, by rw [ht]; exact hP, va_K.moved hW.alike hK, hD⟩, hS.F ht⟩) hS.2.2 dX19_copy_41
