theorem dX13_phi_0 : decode cX13_phi 0 = .ok (.aload_n 0, 1) := by decide +kernel
theorem dX13_phi_1 : decode cX13_phi 1 = .ok (.getfield 29, 3) := by decide +kernel
theorem dX13_phi_4 : decode cX13_phi 4 = .ok (.aload_n 0, 1) := by decide +kernel
theorem dX13_phi_5 : decode cX13_phi 5 = .ok (.getfield 19, 3) := by decide +kernel
theorem dX13_phi_8 : decode cX13_phi 8 = .ok (.invokevirtual 38, 3) := by decide +kernel
theorem dX13_phi_11 : decode cX13_phi 11 = .ok (.if_icmp .ne 18, 3) := by decide +kernel
theorem dX13_phi_29 : decode cX13_phi 29 = .ok (.aload_n 0, 1) := by decide +kernel
theorem dX13_phi_30 : decode cX13_phi 30 = .ok (.getfield 19, 3) := by decide +kernel
theorem dX13_phi_33 : decode cX13_phi 33 = .ok (.aload_n 0, 1) := by decide +kernel
theorem dX13_phi_34 : decode cX13_phi 34 = .ok (.getfield 29, 3) := by decide +kernel
theorem dX13_phi_37 : decode cX13_phi 37 = .ok (.invokevirtual 49, 3) := by decide +kernel
theorem dX13_phi_40 : decode cX13_phi 40 = .ok (.checkcast 77, 3) := by decide +kernel
theorem dX13_phi_43 : decode cX13_phi 43 = .ok (.astore_n 2, 1) := by decide +kernel
theorem dX13_phi_44 : decode cX13_phi 44 = .ok (.aload_n 0, 1) := by decide +kernel
theorem dX13_phi_45 : decode cX13_phi 45 = .ok (.dup, 1) := by decide +kernel
theorem dX13_phi_46 : decode cX13_phi 46 = .ok (.getfield 29, 3) := by decide +kernel
theorem dX13_phi_49 : decode cX13_phi 49 = .ok (.iconst 1, 1) := by decide +kernel
theorem dX13_phi_50 : decode cX13_phi 50 = .ok (.iadd, 1) := by decide +kernel
theorem dX13_phi_51 : decode cX13_phi 51 = .ok (.putfield 29, 3) := by decide +kernel
theorem dX13_phi_54 : decode cX13_phi 54 = .ok (.aload_n 2, 1) := by decide +kernel
theorem dX13_phi_55 : decode cX13_phi 55 = .ok (.iload_n 1, 1) := by decide +kernel
theorem dX13_phi_56 : decode cX13_phi 56 = .ok (.invokevirtual 80, 3) := by decide +kernel
theorem dX13_phi_59 : decode cX13_phi 59 = .ok (.aload_n 2, 1) := by decide +kernel
theorem dX13_phi_60 : decode cX13_phi 60 = .ok (.areturn, 1) := by decide +kernel
theorem dX13_phi_14 : decode cX13_phi 14 = .ok (.aload_n 0, 1) := by decide +kernel
theorem dX13_phi_15 : decode cX13_phi 15 = .ok (.getfield 19, 3) := by decide +kernel
theorem dX13_phi_18 : decode cX13_phi 18 = .ok (.new 77, 3) := by decide +kernel
theorem dX13_phi_21 : decode cX13_phi 21 = .ok (.dup, 1) := by decide +kernel
theorem dX13_phi_22 : decode cX13_phi 22 = .ok (.invokespecial 79, 3) := by decide +kernel
theorem dX13_phi_25 : decode cX13_phi 25 = .ok (.invokevirtual 45, 3) := by decide +kernel
theorem dX13_phi_28 : decode cX13_phi 28 = .ok (.pop, 1) := by decide +kernel
def o_P13_phi : List Cond := [.fieldLink RX13 29 "SsaForgeModel$Code" "phiN" "I", .fieldLink RX13 19 "SsaForgeModel$Code" "phis" "Ljava/util/ArrayList;", .methodLink RX13 38 yJx4a65c_size_8abf5, .instanceMethod yJx4a65c_size_8abf5, .selects RJx4a65c yJx4a65c_size_8abf5 yJx4a65c_size_8abf5, .initialized RJx4a65c, .methodLink RX13 49 yJx4a65c_get_915e3, .instanceMethod yJx4a65c_get_915e3, .selects RJx4a65c yJx4a65c_get_915e3 yJx4a65c_get_915e3, .classLink RX13 77 "SsaForgeModel$Phi", .methodLink RX13 80 yX15_begin, .instanceMethod yX15_begin, .selects RX15 yX15_begin yX15_begin, .initialized RX15, .classLink RX13 77 RX15, .instantiable RX15 6, .instanceMethod yX15_init, .methodLink RX13 45 yJx4a65c_add_9ea2d, .instanceMethod yJx4a65c_add_9ea2d, .selects RJx4a65c yJx4a65c_add_9ea2d yJx4a65c_add_9ea2d]
def v_P13_phi : List Cond := .code yX13_phi cX13_phi 3 (some (.object "SsaForgeModel$Phi")) :: (o_P13_phi ++ (wsX130 ++ (v_PL_size ++ (v_PL_get ++ (v_PP_begin ++ (wsX150 ++ (v_X15_init ++ (v_PL_addAR ++ []))))))))
theorem mow_P13_phi : ∀ w ∈ o_P13_phi, w ∈ v_P13_phi := fun _ h => List.mem_cons_of_mem _ (List.mem_append_left _ h)
theorem mem_P13_phi_0 : ∀ w ∈ wsX130, w ∈ v_P13_phi := fun _ h => List.mem_cons_of_mem _ (List.mem_append_right _ (List.mem_append_left _ h))
theorem mem_P13_phi_1 : ∀ w ∈ v_PL_size, w ∈ v_P13_phi := fun _ h => List.mem_cons_of_mem _ (List.mem_append_right _ (List.mem_append_right _ (List.mem_append_left _ h)))
theorem mem_P13_phi_2 : ∀ w ∈ v_PL_get, w ∈ v_P13_phi := fun _ h => List.mem_cons_of_mem _ (List.mem_append_right _ (List.mem_append_right _ (List.mem_append_right _ (List.mem_append_left _ h))))
theorem mem_P13_phi_3 : ∀ w ∈ v_PP_begin, w ∈ v_P13_phi := fun _ h => List.mem_cons_of_mem _ (List.mem_append_right _ (List.mem_append_right _ (List.mem_append_right _ (List.mem_append_right _ (List.mem_append_left _ h)))))
theorem mem_P13_phi_4 : ∀ w ∈ wsX150, w ∈ v_P13_phi := fun _ h => List.mem_cons_of_mem _ (List.mem_append_right _ (List.mem_append_right _ (List.mem_append_right _ (List.mem_append_right _ (List.mem_append_right _ (List.mem_append_left _ h))))))
theorem mem_P13_phi_5 : ∀ w ∈ v_X15_init, w ∈ v_P13_phi := fun _ h => List.mem_cons_of_mem _ (List.mem_append_right _ (List.mem_append_right _ (List.mem_append_right _ (List.mem_append_right _ (List.mem_append_right _ (List.mem_append_right _ (List.mem_append_left _ h)))))))
theorem mem_P13_phi_6 : ∀ w ∈ v_PL_addAR, w ∈ v_P13_phi := fun _ h => List.mem_cons_of_mem _ (List.mem_append_right _ (List.mem_append_right _ (List.mem_append_right _ (List.mem_append_right _ (List.mem_append_right _ (List.mem_append_right _ (List.mem_append_right _ (List.mem_append_left _ h))))))))
set_option maxRecDepth 20000 in
theorem gw_P13_phi : v_P13_phi.all goodWord = true := by decide +kernel
set_option maxRecDepth 20000 in
theorem g_P13_phi_PL_size : GoodIn v_P13_phi (wsV RX13 38 RJx4a65c yJx4a65c_size_8abf5 v_PL_size) := goodIn_app (goodIn_sub (fun w h => mow_P13_phi w (by revert w h; decide +kernel)) (by decide +kernel)) (goodIn_sub mem_P13_phi_1 gw_PL_size)
set_option maxRecDepth 20000 in
theorem g_P13_phi_PL_get : GoodIn v_P13_phi (wsV RX13 49 RJx4a65c yJx4a65c_get_915e3 v_PL_get) := goodIn_app (goodIn_sub (fun w h => mow_P13_phi w (by revert w h; decide +kernel)) (by decide +kernel)) (goodIn_sub mem_P13_phi_2 gw_PL_get)
set_option maxRecDepth 20000 in
theorem g_P13_phi_PP_begin : GoodIn v_P13_phi (wsV RX13 80 RX15 yX15_begin v_PP_begin) := goodIn_app (goodIn_sub (fun w h => mow_P13_phi w (by revert w h; decide +kernel)) (by decide +kernel)) (goodIn_sub mem_P13_phi_3 gw_PP_begin)
set_option maxRecDepth 20000 in
theorem g_P13_phi_PL_addAR : GoodIn v_P13_phi (wsV RX13 45 RJx4a65c yJx4a65c_add_9ea2d v_PL_addAR) := goodIn_app (goodIn_sub (fun w h => mow_P13_phi w (by revert w h; decide +kernel)) (by decide +kernel)) (goodIn_sub mem_P13_phi_6 gw_PL_addAR)
set_option maxHeartbeats 4000000 in
set_option maxRecDepth 100000 in
theorem c_P13_phi (l : Launch) (dC : Nat → ClassId) (dI : Nat → Nat → Nat) (cI : ClassId) (cZ : ClassId) (hc : Nat) (v13_0 : Value) (v13_1 : Value) (v13_3 : Value) (z13_phiN : Int) (v13_6 : Value) (la : Nat) (lp : Nat) (cO : ClassId) (L : List Nat) (P : PO) (sx_ed : Nat) (t0 : Int) (hNz13_phiN : 0 ≤ z13_phiN ∧ z13_phiN ≤ 19000) (hX_a : ALP L P cO cI cZ sx_ed la) (hX_lp : lp ∈ L ∧ P.kd lp = 30 ∧ P.ek lp = 15 ∧ P.ow lp = lp) (hNr : z13_phiN ≤ P.lz lp ∧ P.lz lp ≤ 19000 ∧ 0 ≤ z13_phiN ∧ 0 ≤ t0 ∧ t0 ≤ 1001) (sz : Nat) (HU : Heap) (sx_mi : Nat) : Met l yX13_phi v_P13_phi ({ frames := 7, cells := 5, slots := 100018, locals := 191 }) (va_Pc [.ref hc, .int (zI (t0))] (fun U => U.heap.size = sz ∧ va_P (dC, dI) vwQ ([(hc, .inr (12, [v13_0, v13_1, .ref lp, v13_3, .int (zI (z13_phiN)), .ref la, v13_6]))] ++ va_pl L (pE P)) U.heap ∧ va_K (dC, dI) vwQ [(cO, .object "java/lang/Object"), (cI, .int), (cZ, .boolean)] U ∧ va_D (fun _ => True) ([(hc, .inr (12, [v13_0, v13_1, .ref lp, v13_3, .int (zI (z13_phiN)), .ref la, v13_6]))] ++ va_pl L (pE P)) ∧ va_Nw (.castable "SsaForgeModel$Phi" "SsaForgeModel$Phi") U ∧ U.heap = HU ∧ va_Nw (.methodLinkNest RX13 79 yX15_init "SsaForgeModel") U ∧ va_Nw (.castable "SsaForgeModel$Row" "java/lang/Object") U ∧ va_Nw (.castable "SsaForgeModel$Phi" "java/lang/Object") U ∧ va_Nw (.castable "SsaForgeModel$Block" "java/lang/Object") U ∧ va_Dc U ∧ va_Mi "[Ljava/lang/Object;" sx_mi U ∧ va_AO "java/lang/Object" U ∧ va_T (.object "java/lang/Object") sx_ed 0 (fun _ => .null) (va_A ([(hc, .inr (12, [v13_0, v13_1, .ref lp, v13_3, .int (zI (z13_phiN)), .ref la, v13_6]))] ++ va_pl L (pE P)) sz) U U.heap ∧ va_Z "java/util/ArrayList" "DEFAULTCAPACITY_EMPTY_ELEMENTDATA" "[Ljava/lang/Object;" (.ref sx_ed) (va_A ([(hc, .inr (12, [v13_0, v13_1, .ref lp, v13_3, .int (zI (z13_phiN)), .ref la, v13_6]))] ++ va_pl L (pE P)) sz) U U.heap)) (va_Qr (fun _ : Unit => True) (fun (_ : Unit) (rq : Nat) (t : State) => ∃ (z0_9 : Int) (Ln_9 : List Nat) (Pn_9 : PO) (kc_9 : Nat) (ks_9 : Nat), ((RM HU t.heap kc_9 ks_9 ∧ ((ks_9 : Int) ≤ 18 * (Pn_9.lz lp - P.lz lp) + 5 * (Pn_9.cap lp - P.cap lp) ∧ (kc_9 : Int) ≤ 4 * (Pn_9.lz lp - P.lz lp) + (Pn_9.cap lp - P.cap lp) ∧ (ks_9 : Int) ≤ 100018 ∧ (kc_9 : Int) ≤ 5)) ∧ ((0 ≤ z0_9 ∧ z0_9 ≤ 19001) ∧ (KEP [lp] L P Ln_9 Pn_9 la ∧ ALP Ln_9 Pn_9 cO cI cZ sx_ed la ∧ CP9 lp rq (z13_phiN) t0 L P Ln_9 Pn_9 ∧ (z0_9 = z13_phiN + 1 ∧ Pn_9.tot 2 la = P.tot 2 la ∧ Pn_9.tot 1 la = P.tot 1 la ∧ Pn_9.cat 2 la = P.cat 2 la ∧ Pn_9.cat 1 la = P.cat 1 la)))) ∧ va_P (dC, dI) vwQ ([(hc, .inr (12, [v13_0, v13_1, .ref lp, v13_3, .int (zI (z0_9)), .ref la, v13_6]))] ++ va_pl Ln_9 (pE Pn_9)) t.heap ∧ va_K (dC, dI) vwQ [(cO, .object "java/lang/Object"), (cI, .int), (cZ, .boolean)] t ∧ va_D (va_A ([(hc, .inr (12, [v13_0, v13_1, .ref lp, v13_3, .int (zI (z13_phiN)), .ref la, v13_6]))] ++ va_pl L (pE P)) sz) ([(hc, .inr (12, [v13_0, v13_1, .ref lp, v13_3, .int (zI (z0_9)), .ref la, v13_6]))] ++ va_pl Ln_9 (pE Pn_9))) (va_A ([(hc, .inr (12, [v13_0, v13_1, .ref lp, v13_3, .int (zI (z13_phiN)), .ref la, v13_6]))] ++ va_pl L (pE P)) sz)) 5 100018 (va_A ([(hc, .inr (12, [v13_0, v13_1, .ref lp, v13_3, .int (zI (z13_phiN)), .ref la, v13_6]))] ++ va_pl L (pE P)) sz) := by
  refine Met.ofW (cc := cX13_phi) (maxL := 3) (ret := (some (.object "SsaForgeModel$Phi"))) (by decide) rfl ?_
  intro p e s m args below meth c s₁ B hml hv
  obtain ⟨rfl, hsz, hP, hK, hD0, hp0, hp1, hp2, hp3, hp4, hp5, hp6, hp7, hp8, hp9, hp10⟩ := hv
  have hx := B.exec
  have hb := B.bytes
  have hr := B.returns
  have hts := atoms_spec (ws := v_P13_phi) B.pre
  have hown : s.vm.findClass RX13 = some m.cls := findClass_of_methodNamed B.named
  have hlocks := B.notSynchronized
  have ow : ∀ {k : Nat} {w : Cond}, o_P13_phi[k]? = some w → w.before ([.ref hc, .int (zI (t0))] : List Value).toArray s = true := fun h => hts _ (mow_P13_phi _ (List.mem_of_getElem? h))
  subst hsz
  have hD := hD0.self (sz := s.heap.size)
  generalize hAe : va_A ([(hc, .inr (12, [v13_0, v13_1, .ref lp, v13_3, .int (zI (z13_phiN)), .ref la, v13_6]))] ++ va_pl L (pE P)) s.heap.size = A at hD hp8 hp9 hp10 ⊢
  have hA : ∀ q : Nat, s.heap.size ≤ q → A q := fun q h => by rw [← hAe]; exact Or.inr h
  have hS : va_S A s.heap s.heap [] := va_S.rf
  have hP : va_P (dC, dI) vwQ ([(hc, .inr (12, [v13_0, v13_1, .ref lp, v13_3, .int (zI (z13_phiN)), .ref la, v13_6]))] ++ va_pl L (pE P)) s.heap := hP
  have hl := lv_entry ([.ref hc, .int (zI (t0))]) (n := 3) (Nat.le_of_ble_eq_true rfl)
  rw [lg_entry_eq]
  generalize (lg_sl ([.ref hc, .int (zI (t0))]) ++ List.replicate (3 - (lg_sl ([.ref hc, .int (zI (t0))])).length) Slot.unset).toArray = ls at hl ⊢
  have hl : lv_has ls 3 [(0, .ref hc), (1, .int (zI (t0)))] := hl
  obtain ⟨H, hH⟩ : ∃ H, H = s.heap := ⟨_, rfl⟩
  rw [← hH] at hP
  have hS : va_S A s.heap H [] := by rw [hH]; exact hS
  rw [← hH]
  refine zW_cap (fun Q hQ => ?_)
  have hX_a9 := hX_a
  have hla := hX_a.lok.2.2.1
  have hla2 := hX_a.1.1.2.1
  have hC_lp := hX_lp
  refine lv_aload_n hx hb dX13_phi_0 rfl (lv_at hl 0 rfl) ?_
  refine va_get (D := (dC, dI)) (ci := 12) (v := .int (zI (z13_phiN))) (C := RX13) (T := TX13) (N := 7) hx hb hts mem_P13_phi_0 hown hK hP 0 rfl rfl 4 (by decide) (ow (k := 0) rfl) (fun _ h9 => h9) rfl dX13_phi_1 ?_
  refine lv_aload_n hx hb dX13_phi_4 rfl (lv_at hl 0 rfl) ?_
  refine va_get (D := (dC, dI)) (ci := 12) (v := .ref lp) (C := RX13) (T := TX13) (N := 7) hx hb hts mem_P13_phi_0 hown hK hP 0 rfl rfl 2 (by decide) (ow (k := 1) rfl) (fun _ h9 => h9) rfl dX13_phi_5 ?_
  have hlk_1 := (show LOK L P cO 15 lp from (by have q9 := (hX_a9.gla lp hC_lp.1 hC_lp.2.1).1; rw [hC_lp.2.2.1] at q9; exact q9))
  have hX_x := hlk_1.1
  have hX_k := hlk_1.2.1
  have hlz9 := hlk_1.2.2.1
  have hPc := hP.part (X := [(hc, .inr (12, [v13_0, v13_1, .ref lp, v13_3, .int (zI (z13_phiN)), .ref la, v13_6]))]) (cx := []) (pl := va_pl L (pE P)) [] rfl
  have hDc := hD.part (X := [(hc, .inr (12, [v13_0, v13_1, .ref lp, v13_3, .int (zI (z13_phiN)), .ref la, v13_6]))]) (cx := []) (pl := va_pl L (pE P)) [] (by decide) rfl
  have hKc := hK.sub (tys' := [(cO, .object "java/lang/Object")]) [0] rfl
  have hFc := va_freeP (X := [(hc, .inr (12, [v13_0, v13_1, .ref lp, v13_3, .int (zI (z13_phiN)), .ref la, v13_6]))]) (cx := []) (pl := va_pl L (pE P)) hD hS hA [] rfl
  refine va_calli (va_runV (As := []) (rest := [.int (zI (z13_phiN))]) ⟨hx, hb, hml, hown, hts⟩ (c_PL_size l dC dI cO L P lp hX_x hX_k (by omega) H.size) (cwV 0 hts g_P13_phi_PL_size rfl rfl rfl (by decide +kernel) ⟨(Nat.le_of_ble_eq_true rfl), (Nat.le_of_ble_eq_true rfl)⟩) ⟨fun a U g mk q => by obtain ⟨q0, q1, qP, qK, qD⟩ := q; exact ⟨q0, q1, qP, va_K.moved (u := U) (U := U.calling g mk a) (Vm.Alike.refl U.vm) qK, qD⟩, recv_30 hKc hPc hC_lp.1 hC_lp.2.1, fun U hU hW => ⟨rfl, by rw [hU], by rw [hU]; exact hPc, va_K.moved hW.alike hKc, hDc.weaken (fun _ _ _ _ => trivial)⟩⟩ rfl rfl hl.1 rfl (lv_room (Nat.le_of_ble_eq_true rfl)) dX13_phi_8 ⟨(Nat.le_of_ble_eq_true rfl), (Nat.le_of_ble_eq_true rfl)⟩) hS (fun q _ h => hFc q h) hFc (fun r_2 u t H1 locs ht hvm hw hB hz1 hk1 hS => ?_)
  obtain ⟨hP1, hK1, hD1⟩ := hB
  rw [ht] at hP1
  have hK1 := va_K.moved hvm.symm hK1
  obtain ⟨hP, hD⟩ := va_joinP (X := [(hc, .inr (12, [v13_0, v13_1, .ref lp, v13_3, .int (zI (z13_phiN)), .ref la, v13_6]))]) (cx := []) (wr := [(hc, .inr (12, [v13_0, v13_1, .ref lp, v13_3, .int (zI (z13_phiN)), .ref la, v13_6]))]) (rx := []) (pl := va_pl L (pE P)) (pl1 := va_pl L (pE P)) hP hD [] [0] rfl rfl (by decide) (by decide) hk1 hFc hP1 hD1
  have hK := (hK.sub (tys' := [(cI, .int), (cZ, .boolean)]) [1, 2] rfl).app hK1
  generalize H1 = H at hP hS ⊢
  have hP : va_P (dC, dI) vwQ ([(hc, .inr (12, [v13_0, v13_1, .ref lp, v13_3, .int (zI (z13_phiN)), .ref la, v13_6]))] ++ va_pl L (pE P)) H := hP
  have hD : va_D A ([(hc, .inr (12, [v13_0, v13_1, .ref lp, v13_3, .int (zI (z13_phiN)), .ref la, v13_6]))] ++ va_pl L (pE P)) := hD
  have hK : va_K (dC, dI) vwQ [(cI, .int), (cZ, .boolean), (cO, .object "java/lang/Object")] s := hK
  refine W.widen (k := 0) (n := 0) (Nat.le_of_ble_eq_true rfl) (Nat.le_of_ble_eq_true rfl) ?_
  obtain rfl : r_2 = (zI (P.lz lp)) := hw
  refine lv_icmp_ne (tgt := 29) hx hb dX13_phi_11 (by decide) (fun b11 => ?_) (fun b11 => ?_)
  · have yb11 : ¬ (z13_phiN : Int) = (P.lz lp : Int) := fun q => b11 ((zI_eq (a := z13_phiN) (b := P.lz lp) (by omega) (by omega) (by omega) (by omega)).mpr q)
    refine lv_aload_n hx hb dX13_phi_29 rfl (lv_at hl 0 rfl) ?_
    refine va_get (D := (dC, dI)) (ci := 12) (v := .ref lp) (C := RX13) (T := TX13) (N := 7) hx hb hts mem_P13_phi_0 hown hK hP 0 rfl rfl 2 (by decide) (ow (k := 1) rfl) (fun _ h9 => h9) rfl dX13_phi_30 ?_
    refine lv_aload_n hx hb dX13_phi_33 rfl (lv_at hl 0 rfl) ?_
    refine va_get (D := (dC, dI)) (ci := 12) (v := .int (zI (z13_phiN))) (C := RX13) (T := TX13) (N := 7) hx hb hts mem_P13_phi_0 hown hK hP 0 rfl rfl 4 (by decide) (ow (k := 0) rfl) (fun _ h9 => h9) rfl dX13_phi_34 ?_
    have hlk_3 := (show LOK L P cO 15 lp from (by have q9 := (hX_a9.gla lp hC_lp.1 hC_lp.2.1).1; rw [hC_lp.2.2.1] at q9; exact q9))
    obtain ⟨x, ex⟩ : ∃ q9 : Nat, q9 = P.el lp (z13_phiN) := ⟨_, rfl⟩
    have hX_x := hlk_3.1
    have hX_k := hlk_3.2.1
    have hq9 := hlk_3.row (i := z13_phiN) (by omega) (by omega)
    have hX_q : P.le lp ∈ L ∧ P.kd (P.le lp) = 31 ∧ P.ac (P.le lp) = cO := ⟨hq9.1, hq9.2.1, hq9.2.2.1⟩
    have hq8 := hq9.2.2.2
    have hX_e0 : P.oa (P.le lp) (z13_phiN).toNat = some x := (by rw [ex]; exact (hlk_3.2.2.2.2 (z13_phiN) (by omega) (by omega)).1)
    have hxm : x ∈ L := (by rw [ex]; exact (hlk_3.2.2.2.2 (z13_phiN) (by omega) (by omega)).2.1)
    have hxk := (hlk_3.2.2.2.2 (z13_phiN) (by omega) (by omega)).2.2
    rw [← ex] at hxk
    have hPc := hP.part (X := [(hc, .inr (12, [v13_0, v13_1, .ref lp, v13_3, .int (zI (z13_phiN)), .ref la, v13_6]))]) (cx := []) (pl := va_pl L (pE P)) [] rfl
    have hDc := hD.part (X := [(hc, .inr (12, [v13_0, v13_1, .ref lp, v13_3, .int (zI (z13_phiN)), .ref la, v13_6]))]) (cx := []) (pl := va_pl L (pE P)) [] (by decide) rfl
    have hKc := hK.sub (tys' := [(cO, .object "java/lang/Object")]) [2] rfl
    have hFc := va_freeP (X := [(hc, .inr (12, [v13_0, v13_1, .ref lp, v13_3, .int (zI (z13_phiN)), .ref la, v13_6]))]) (cx := []) (pl := va_pl L (pE P)) hD hS hA [] rfl
    refine va_callr (va_runV (As := [.int (zI (z13_phiN))]) (rest := []) ⟨hx, hb, hml, hown, hts⟩ (c_PL_get l dC dI cO L P lp z13_phiN x hX_x hX_k hX_q (by omega) hX_e0 H.size) (cwV 1 hts g_P13_phi_PL_get rfl rfl rfl (by decide +kernel) ⟨(Nat.le_of_ble_eq_true rfl), (Nat.le_of_ble_eq_true rfl)⟩) ⟨fun a U g mk q => by obtain ⟨q0, q1, qP, qK, qD⟩ := q; exact ⟨q0, q1, qP, va_K.moved (u := U) (U := U.calling g mk a) (Vm.Alike.refl U.vm) qK, qD⟩, recv_30 hKc hPc hC_lp.1 hC_lp.2.1, fun U hU hW => ⟨rfl, by rw [hU], by rw [hU]; exact hPc, va_K.moved hW.alike hKc, hDc.weaken (fun _ _ _ _ => trivial)⟩⟩ rfl rfl hl.1 rfl (lv_room (Nat.le_of_ble_eq_true rfl)) dX13_phi_37 ⟨(Nat.le_of_ble_eq_true rfl), (Nat.le_of_ble_eq_true rfl)⟩) hS (fun q _ h => hFc q h) hFc (fun u q_4 t H1 locs ht hvm hw hB hz1 hk1 hS => ?_)
    obtain ⟨hxt_4, hP1, hK1, hD1⟩ := hB
    rw [ht] at hP1
    have hK1 := va_K.moved hvm.symm hK1
    obtain ⟨hP, hD⟩ := va_joinP (X := [(hc, .inr (12, [v13_0, v13_1, .ref lp, v13_3, .int (zI (z13_phiN)), .ref la, v13_6]))]) (cx := []) (wr := [(hc, .inr (12, [v13_0, v13_1, .ref lp, v13_3, .int (zI (z13_phiN)), .ref la, v13_6]))]) (rx := []) (pl := va_pl L (pE P)) (pl1 := va_pl L (pE P)) hP hD [] [0] rfl rfl (by decide) (by decide) hk1 hFc hP1 hD1
    have hK := (hK.sub (tys' := [(cI, .int), (cZ, .boolean)]) [0, 1] rfl).app hK1
    generalize H1 = H at hP hS ⊢
    have hP : va_P (dC, dI) vwQ ([(hc, .inr (12, [v13_0, v13_1, .ref lp, v13_3, .int (zI (z13_phiN)), .ref la, v13_6]))] ++ va_pl L (pE P)) H := hP
    have hD : va_D A ([(hc, .inr (12, [v13_0, v13_1, .ref lp, v13_3, .int (zI (z13_phiN)), .ref la, v13_6]))] ++ va_pl L (pE P)) := hD
    have hK : va_K (dC, dI) vwQ [(cI, .int), (cZ, .boolean), (cO, .object "java/lang/Object")] s := hK
    refine W.widen (k := 0) (n := 0) (Nat.le_of_ble_eq_true rfl) (Nat.le_of_ble_eq_true rfl) ?_
    rw [hxt_4]
    clear hX_e0
    obtain ⟨xp_5, h9⟩ : ∃ q9 : Nat, q9 = x := ⟨_, rfl⟩
    subst h9
    have hm_6 := hxm
    have hk_7 := hxk
    have hel9 := ex
    refine va_castY (C := "SsaForgeModel$Phi") (nm := "SsaForgeModel$Phi") hx hb hown (ow (k := 9) rfl) hp0 (recv_15 hK hP hm_6 hk_7) dX13_phi_40 ?_
    refine lv_astore_n (lv' := [(2, .ref xp_5), (0, .ref hc), (1, .int (zI (t0)))]) hx hb dX13_phi_43 rfl hl (by decide) rfl (fun ls hl => ?_)
    refine lv_aload_n hx hb dX13_phi_44 rfl (lv_at hl 1 rfl) ?_
    refine lv_dup hx hb dX13_phi_45 rfl ?_
    refine va_get (D := (dC, dI)) (ci := 12) (v := .int (zI (z13_phiN))) (C := RX13) (T := TX13) (N := 7) hx hb hts mem_P13_phi_0 hown hK hP 0 rfl rfl 4 (by decide) (ow (k := 0) rfl) (fun _ h9 => h9) rfl dX13_phi_46 ?_
    refine lv_iconst (v := 1) hx hb dX13_phi_49 (by decide) ?_
    refine lv_iadd hx hb dX13_phi_50 ?_
    refine lv_topi (fun z ez => ?_)
    obtain rfl : z = zI (z13_phiN + 1) := ez.trans (zI_add (z13_phiN) (1))
    refine va_put (D := (dC, dI)) (ci := 12) (v := .int (zI (z13_phiN + 1))) (ty := .int) (C := RX13) (T := TX13) (N := 7) hx hb hts mem_P13_phi_0 tyX13 tyX13_ok nmX13 hown hK hP hD hS 0 rfl rfl 4 (by decide) (ow (k := 0) rfl) (fun _ h9 => h9) rfl (by decide +kernel) rfl rfl (Nat.le_of_ble_eq_true rfl) dX13_phi_51 (fun H locs hP hD hS => ?_)
    have hP : va_P (dC, dI) vwQ ([(hc, .inr (12, [v13_0, v13_1, .ref lp, v13_3, .int (zI (z13_phiN + 1)), .ref la, v13_6]))] ++ va_pl L (pE P)) H := hP
    have hD : va_D A ([(hc, .inr (12, [v13_0, v13_1, .ref lp, v13_3, .int (zI (z13_phiN + 1)), .ref la, v13_6]))] ++ va_pl L (pE P)) := hD
    obtain ⟨z_9, ez_9⟩ : ∃ z9 : Int, z9 = z13_phiN + 1 := ⟨_, rfl⟩
    rw [← ez_9] at hP hD
    have hP : va_P (dC, dI) vwQ ([(hc, .inr (12, [v13_0, v13_1, .ref lp, v13_3, .int (zI (z_9)), .ref la, v13_6]))] ++ va_pl L (pE P)) H := hP
    have hD : va_D A ([(hc, .inr (12, [v13_0, v13_1, .ref lp, v13_3, .int (zI (z_9)), .ref la, v13_6]))] ++ va_pl L (pE P)) := hD
    refine lv_aload_n hx hb dX13_phi_54 rfl (lv_at hl 0 rfl) ?_
    refine lv_iload_n hx hb dX13_phi_55 rfl (lv_at hl 2 rfl) ?_
    have hX_p := hX_a9.pik hm_6 hk_7
    have hp9 := hX_a9.pik hm_6 hk_7
    have hpn := hp9.2.2.2.2.1
    have hpt := hp9.2.2.2.2.2.1
    clear hp9
    have hPc := hP.part (X := [(hc, .inr (12, [v13_0, v13_1, .ref lp, v13_3, .int (zI (z_9)), .ref la, v13_6]))]) (cx := []) (pl := va_pl L (pE P)) [] rfl
    have hDc := hD.part (X := [(hc, .inr (12, [v13_0, v13_1, .ref lp, v13_3, .int (zI (z_9)), .ref la, v13_6]))]) (cx := []) (pl := va_pl L (pE P)) [] (by decide) rfl
    have hKc := hK.sub (tys' := [(cO, .object "java/lang/Object"), (cI, .int), (cZ, .boolean)]) [2, 0, 1] rfl
    have hFc := va_freeP (X := [(hc, .inr (12, [v13_0, v13_1, .ref lp, v13_3, .int (zI (z_9)), .ref la, v13_6]))]) (cx := []) (pl := va_pl L (pE P)) hD hS hA [] rfl
    refine va_callv (va_runV (As := [.int (zI (t0))]) (rest := []) ⟨hx, hb, hml, hown, hts⟩ (c_PP_begin l dC dI cO cI cZ L P xp_5 t0 hX_p (by omega) H.size) (cwV 1 hts g_P13_phi_PP_begin rfl rfl rfl (by decide +kernel) ⟨(Nat.le_of_ble_eq_true rfl), (Nat.le_of_ble_eq_true rfl)⟩) ⟨fun a U g mk q => by obtain ⟨q0, q1, qP, qK, qD⟩ := q; exact ⟨q0, q1, qP, va_K.moved (u := U) (U := U.calling g mk a) (Vm.Alike.refl U.vm) qK, qD⟩, recv_15 hKc hPc hm_6 hk_7, fun U hU hW => ⟨rfl, by rw [hU], by rw [hU]; exact hPc, va_K.moved hW.alike hKc, hDc.weaken (fun _ _ _ _ => trivial)⟩⟩ rfl rfl hl.1 rfl (lv_room (Nat.le_of_ble_eq_true rfl)) dX13_phi_56 ⟨(Nat.le_of_ble_eq_true rfl), (Nat.le_of_ble_eq_true rfl)⟩) hS (fun q _ h => hFc q h) hFc (fun  u t H1 locs ht hvm hw hB hz1 hk1 hS => ?_)
    obtain ⟨Pn_10, hxt_10, hP1, hK1, hD1⟩ := hB
    rw [ht] at hP1
    have hK1 := va_K.moved hvm.symm hK1
    obtain ⟨hP, hD⟩ := va_joinP (X := [(hc, .inr (12, [v13_0, v13_1, .ref lp, v13_3, .int (zI (z_9)), .ref la, v13_6]))]) (cx := []) (wr := [(hc, .inr (12, [v13_0, v13_1, .ref lp, v13_3, .int (zI (z_9)), .ref la, v13_6]))]) (rx := []) (pl := va_pl L (pE P)) (pl1 := va_pl L (pE Pn_10)) hP hD [] [0] rfl rfl (by decide) (by decide) hk1 hFc hP1 hD1
    have hK := (hK.sub (tys' := []) [] rfl).app hK1
    generalize H1 = H at hP hS ⊢
    have hP : va_P (dC, dI) vwQ ([(hc, .inr (12, [v13_0, v13_1, .ref lp, v13_3, .int (zI (z_9)), .ref la, v13_6]))] ++ va_pl L (pE Pn_10)) H := hP
    have hD : va_D A ([(hc, .inr (12, [v13_0, v13_1, .ref lp, v13_3, .int (zI (z_9)), .ref la, v13_6]))] ++ va_pl L (pE Pn_10)) := hD
    have hK : va_K (dC, dI) vwQ [(cO, .object "java/lang/Object"), (cI, .int), (cZ, .boolean)] s := hK
    refine W.widen (k := 0) (n := 0) (Nat.le_of_ble_eq_true rfl) (Nat.le_of_ble_eq_true rfl) ?_
    have hu_11 := hxt_10
    have hrw_12 : RWD P Pn_10 := hu_11.1.rwd hk_7
    have hke_13 : KEP [lp] L P L Pn_10 la := hrw_12.kep _ hX_a.lok.2.1
    have hak_14 : ALP L Pn_10 cO cI cZ sx_ed la := hX_a9.phi hu_11.1 hk_7 hu_11.2.1 (by first | exact hu_11.2.2.2.2 | exact hu_11.2.2.2.2.2)
    have hc9 := hke_13.cat hrw_12.1.1 2
    have hc8 := hke_13.cat hrw_12.1.1 1
    have hq_15 : la ∈ L ∧ Pn_10.kd la = 30 := hke_13.mem hX_a.lok.1 hX_a.lok.2.1 (by decide)
    have hq_16 : lp ∈ L ∧ Pn_10.kd lp = 30 := hke_13.mem hC_lp.1 hC_lp.2.1 (by decide)
    have hq_17 : xp_5 ∈ L ∧ Pn_10.kd xp_5 = 15 := hke_13.mem hm_6 hk_7 (by decide)
    have hz9 := hke_13.2.2.1
    have hA_18 : KEP [lp] L P L Pn_10 la := (KEP.refl [lp] L P la).trans hke_13
    have : Pn_10.lz la = P.lz la := hrw_12.lz hX_a.lok.2.1
    have : Pn_10.lz lp = P.lz lp := hrw_12.lz hC_lp.2.1
    have ht9 := hrw_12.tot hX_a9 2 (Or.inr rfl)
    have ht8 := hrw_12.tot hX_a9 1 (Or.inl rfl)
    have hpn9 := hu_11.2.2.1
    have : Pn_10.cap lp = P.cap lp := hrw_12.cap lp
    have hek_19 : Pn_10.ek lp = 15 := (by rw [hke_13.ek hC_lp.1 hC_lp.2.1 (by decide)]; exact hC_lp.2.2.1)
    have how_20 : Pn_10.ow lp = lp := ((hke_13.1 lp hC_lp.1 (by rw [hC_lp.2.1]; decide)).2.2.2.1 hC_lp.2.1 hC_lp.2.2.2).1
    refine lv_aload_n hx hb dX13_phi_59 rfl (lv_at hl 0 rfl) ?_
    subst hQ
    refine W_knowS (fun hrm9 => ?_)
    refine W.widen (k := 5) (n := 100018) (Nat.le_of_ble_eq_true rfl) (Nat.le_of_ble_eq_true rfl) ?_
    exact W.aret (v := .ref xp_5) hx hb hr (Or.inl ⟨_, rfl⟩) (Or.inr ⟨_, rfl⟩) (fun t ht hW => ⟨⟨(), xp_5, rfl, trivial, z_9, L, Pn_10, 0, 0, ⟨⟨(by rw [ht, ← hp1]; exact hrm9), (by omega)⟩, ⟨(by omega), ⟨hA_18, hak_14, ⟨⟨hq_17.1, hq_17.2, (by rw [hrw_12.el]; exact hel9)⟩, ⟨by omega, by omega⟩, ⟨hu_11.2.2.1, hu_11.2.2.2.1, hu_11.2.2.2.2.1⟩, (fun i i0 i1 => hrw_12.el _ _), ((hu_11.1.chg _).wk (fun z m q9 => by rcases q9 with q9 | q9; exact Or.inl q9; exact Or.inr (Or.inr (Or.inr q9))))⟩, by omega⟩⟩⟩, by rw [ht]; exact hP, va_K.moved hW.alike hK, hD⟩, hS.F ht⟩) hS.2.2 dX13_phi_60
  · have yb11 : (z13_phiN : Int) = (P.lz lp : Int) := (zI_eq (a := z13_phiN) (b := P.lz lp) (by omega) (by omega) (by omega) (by omega)).mp b11
    refine lv_aload_n hx hb dX13_phi_14 rfl (lv_at hl 0 rfl) ?_
    refine va_get (D := (dC, dI)) (ci := 12) (v := .ref lp) (C := RX13) (T := TX13) (N := 7) hx hb hts mem_P13_phi_0 hown hK hP 0 rfl rfl 2 (by decide) (ow (k := 1) rfl) (fun _ h9 => h9) rfl dX13_phi_15 ?_
    refine va_new (ci := 20) (fs := [.int 0, .int 0, .null, .null, .null, .int 0]) (C := RX15) (T := TX15) (N := 6) hx hb hts mem_P13_phi_4 tyX15 tyX15_ok hown (ow (k := 14) rfl) (ow (k := 15) rfl) (ow (k := 13) rfl) hK hP hD hS hA rfl (df_X15) (Nat.le_of_ble_eq_true rfl) (Nat.le_of_ble_eq_true rfl) dX13_phi_18 (fun q_21 H hP hD hS => ?_)
    have hP := pl_Pp (pl_new (X := [(hc, .inr (12, [v13_0, v13_1, .ref lp, v13_3, .int (zI (z13_phiN)), .ref la, v13_6]))]) (pl := va_pl L (pE P))) hP
    have hD := pl_Dp (pl_new (X := [(hc, .inr (12, [v13_0, v13_1, .ref lp, v13_3, .int (zI (z13_phiN)), .ref la, v13_6]))]) (pl := va_pl L (pE P))) hD
    have hP : va_P (dC, dI) vwQ ([(hc, .inr (12, [v13_0, v13_1, .ref lp, v13_3, .int (zI (z13_phiN)), .ref la, v13_6])), (q_21, .inr (20, [.int 0, .int 0, .null, .null, .null, .int 0]))] ++ va_pl L (pE P)) H := hP
    have hD : va_D A ([(hc, .inr (12, [v13_0, v13_1, .ref lp, v13_3, .int (zI (z13_phiN)), .ref la, v13_6])), (q_21, .inr (20, [.int 0, .int 0, .null, .null, .null, .int 0]))] ++ va_pl L (pE P)) := hD
    refine W.widen (k := 1) (n := 6) (Nat.le_of_ble_eq_true rfl) (Nat.le_of_ble_eq_true rfl) ?_
    refine lv_dup hx hb dX13_phi_21 rfl ?_
    have hPc := hP.part (X := [(hc, .inr (12, [v13_0, v13_1, .ref lp, v13_3, .int (zI (z13_phiN)), .ref la, v13_6])), (q_21, .inr (20, [.int 0, .int 0, .null, .null, .null, .int 0]))]) (cx := [(q_21, .inr (20, [.int 0, .int 0, .null, .null, .null, .int 0]))]) (pl := va_pl L (pE P)) [1] rfl
    have hDc := hD.part (X := [(hc, .inr (12, [v13_0, v13_1, .ref lp, v13_3, .int (zI (z13_phiN)), .ref la, v13_6])), (q_21, .inr (20, [.int 0, .int 0, .null, .null, .null, .int 0]))]) (cx := [(q_21, .inr (20, [.int 0, .int 0, .null, .null, .null, .int 0]))]) (pl := va_pl L (pE P)) [1] (by decide) rfl
    have hKc := hK.sub (tys' := [(cO, .object "java/lang/Object"), (cI, .int), (cZ, .boolean)]) [2, 0, 1] rfl
    have hFc := va_freeP (X := [(hc, .inr (12, [v13_0, v13_1, .ref lp, v13_3, .int (zI (z13_phiN)), .ref la, v13_6])), (q_21, .inr (20, [.int 0, .int 0, .null, .null, .null, .int 0]))]) (cx := [(q_21, .inr (20, [.int 0, .int 0, .null, .null, .null, .int 0]))]) (pl := va_pl L (pE P)) hD hS hA [1] rfl
    refine va_callv (va_runIN (As := []) (rest := [.ref q_21, .ref lp]) ⟨hx, hb, hml, hown, hts⟩ (c_X15_init l dC dI cI cZ q_21 (.int 0) (.int 0) .null .null .null (.int 0) cO L P H.size) ⟨va_cnB 0 hts (goodIn_sub mem_P13_phi_5 gw_X15_init) rfl rfl rfl hp2 (ow (k := 13) rfl) (by decide +kernel) ⟨(Nat.le_of_ble_eq_true rfl), (Nat.le_of_ble_eq_true rfl)⟩, rfl, (ow (k := 16) rfl)⟩ ⟨fun a U g mk q => by obtain ⟨q0, q1, qP, qK, qD⟩ := q; exact ⟨q0, q1, qP, va_K.moved (u := U) (U := U.calling g mk a) (Vm.Alike.refl U.vm) qK, qD⟩, fun U hU hW => ⟨rfl, by rw [hU], by rw [hU]; exact hPc, va_K.moved hW.alike hKc, hDc.weaken (fun _ _ _ _ => trivial)⟩⟩ rfl rfl hl.1 rfl (lv_room (Nat.le_of_ble_eq_true rfl)) dX13_phi_22 ⟨(Nat.le_of_ble_eq_true rfl), (Nat.le_of_ble_eq_true rfl)⟩) hS (fun q _ h => hFc q h) hFc (fun  u t H1 locs ht hvm hw hB hz1 hk1 hS => ?_)
    obtain ⟨q0_22, q1_23, q2_24, Ln_25, Pn_26, hxt_26, hP1, hK1, hD1⟩ := hB
    rw [ht] at hP1
    have hK1 := va_K.moved hvm.symm hK1
    obtain ⟨hP, hD⟩ := va_joinP (X := [(hc, .inr (12, [v13_0, v13_1, .ref lp, v13_3, .int (zI (z13_phiN)), .ref la, v13_6])), (q_21, .inr (20, [.int 0, .int 0, .null, .null, .null, .int 0]))]) (cx := [(q_21, .inr (20, [.int 0, .int 0, .null, .null, .null, .int 0]))]) (wr := [(hc, .inr (12, [v13_0, v13_1, .ref lp, v13_3, .int (zI (z13_phiN)), .ref la, v13_6]))]) (rx := [(q_21, .inr (20, [.int 0, .int 0, .ref q0_22, .ref q1_23, .ref q2_24, .int 0]))]) (pl := va_pl L (pE P)) (pl1 := va_pl Ln_25 (pE Pn_26)) hP hD [1] [0] rfl rfl (by decide) (by decide) hk1 hFc hP1 hD1
    have hK := (hK.sub (tys' := []) [] rfl).app hK1
    generalize H1 = H at hP hS ⊢
    have hP : va_P (dC, dI) vwQ ([(hc, .inr (12, [v13_0, v13_1, .ref lp, v13_3, .int (zI (z13_phiN)), .ref la, v13_6])), (q_21, .inr (20, [.int 0, .int 0, .ref q0_22, .ref q1_23, .ref q2_24, .int 0]))] ++ va_pl Ln_25 (pE Pn_26)) H := hP
    have hD : va_D A ([(hc, .inr (12, [v13_0, v13_1, .ref lp, v13_3, .int (zI (z13_phiN)), .ref la, v13_6])), (q_21, .inr (20, [.int 0, .int 0, .ref q0_22, .ref q1_23, .ref q2_24, .int 0]))] ++ va_pl Ln_25 (pE Pn_26)) := hD
    have hK : va_K (dC, dI) vwQ [(cO, .object "java/lang/Object"), (cI, .int), (cZ, .boolean)] s := hK
    refine W.widen (k := 4) (n := 18) (Nat.le_of_ble_eq_true rfl) (Nat.le_of_ble_eq_true rfl) ?_
    have hu_27 := hxt_26
    have hak_29 : ALP Ln_25 Pn_26 cO cI cZ sx_ed la := hX_a9.ext hu_27.1 hu_27.2.1.new
    have hke_28 : KEP [lp] L P Ln_25 Pn_26 la := hu_27.1.kep hX_a9
    have hq_30 : la ∈ Ln_25 ∧ Pn_26.kd la = 30 := hke_28.mem hX_a.lok.1 hX_a.lok.2.1 (by decide)
    have hq_31 : lp ∈ Ln_25 ∧ Pn_26.kd lp = 30 := hke_28.mem hC_lp.1 hC_lp.2.1 (by decide)
    have hz9 := hke_28.2.2.1
    have hA_32 : KEP [lp] L P Ln_25 Pn_26 la := (KEP.refl [lp] L P la).trans hke_28
    have : Pn_26.lz la = P.lz la := (hu_27.1 la hX_a.lok.1).2.1 0
    have : Pn_26.lz lp = P.lz lp := (hu_27.1 lp hC_lp.1).2.1 0
    have ht9 := hu_27.1.tot hX_a9
    have hc9 := hu_27.1.cat hX_a9
    have : Pn_26.cap lp = P.cap lp := hu_27.1.cap hX_a9.owa hC_lp.1 hC_lp.2.1
    have hek_33 : Pn_26.ek lp = 15 := (by rw [hke_28.ek hC_lp.1 hC_lp.2.1 (by decide)]; exact hC_lp.2.2.1)
    have how_34 : Pn_26.ow lp = lp := ((hke_28.1 lp hC_lp.1 (by rw [hC_lp.2.1]; decide)).2.2.2.1 hC_lp.2.1 hC_lp.2.2.2).1
    have hqn_37 : q_21 ∉ Ln_25 := pl_notin (X := [(hc, .inr (12, [v13_0, v13_1, .ref lp, v13_3, .int (zI (z13_phiN)), .ref la, v13_6]))]) hD
    obtain ⟨Pm_35, ePm_35⟩ : ∃ Q9 : PO, Q9 = Pn_26.mphi q_21 q0_22 q1_23 q2_24 := ⟨_, rfl⟩
    obtain ⟨Lm_36, eLm_36⟩ : ∃ l9 : List Nat, l9 = q_21 :: Ln_25 := ⟨_, rfl⟩
    obtain ⟨hP, hD⟩ := pool_new (X := [(hc, .inr (12, [v13_0, v13_1, .ref lp, v13_3, .int (zI (z13_phiN)), .ref la, v13_6]))]) (P' := Pm_35) (by rw [ePm_35]; exact pE_mphi Pn_26 q_21 q0_22 q1_23 q2_24) hP hD
    rw [← eLm_36] at hP hD
    have hex_38 : EXT9 Ln_25 Pn_26 Lm_36 Pm_35 := (by rw [eLm_36, ePm_35]; exact EXT9.one hqn_37)
    have hm9 := mphi_at Pn_26 q_21 q0_22 q1_23 q2_24
    rw [← ePm_35] at hm9
    have hak_39 : ALP Lm_36 Pm_35 cO cI cZ sx_ed la := (by rw [eLm_36] at hex_38 ⊢; exact hak_29.new1 hex_38 (by rw [ePm_35]; exact mphi_new hqn_37 hu_27.2.2.1 hu_27.2.2.2.1 hu_27.2.2.2.2))
    have hke_40 : KEP [lp] Ln_25 Pn_26 Lm_36 Pm_35 la := hex_38.kep hak_29
    have hP : va_P (dC, dI) vwQ ([(hc, .inr (12, [v13_0, v13_1, .ref lp, v13_3, .int (zI (z13_phiN)), .ref la, v13_6]))] ++ va_pl Lm_36 (pE Pm_35)) H := hP
    have hD : va_D A ([(hc, .inr (12, [v13_0, v13_1, .ref lp, v13_3, .int (zI (z13_phiN)), .ref la, v13_6]))] ++ va_pl Lm_36 (pE Pm_35)) := hD
    have hq_41 : la ∈ Lm_36 ∧ Pm_35.kd la = 30 := hke_40.mem hq_30.1 hq_30.2 (by decide)
    have hq_42 : lp ∈ Lm_36 ∧ Pm_35.kd lp = 30 := hke_40.mem hq_31.1 hq_31.2 (by decide)
    have hz9 := hke_40.2.2.1
    have hA_43 : KEP [lp] L P Lm_36 Pm_35 la := hA_32.trans hke_40
    have : Pm_35.lz la = Pn_26.lz la := (hex_38 la hq_30.1).2.1 0
    have : Pm_35.lz lp = Pn_26.lz lp := (hex_38 lp hq_31.1).2.1 0
    have ht9 := hex_38.tot hak_29
    have hc9 := hex_38.cat hak_29
    have : Pm_35.cap lp = Pn_26.cap lp := hex_38.cap hak_29.owa hq_31.1 hq_31.2
    have hek_44 : Pm_35.ek lp = 15 := (by rw [hke_40.ek hq_31.1 hq_31.2 (by decide)]; exact hek_33)
    have how_45 : Pm_35.ow lp = lp := ((hke_40.1 lp hq_31.1 (by rw [hq_31.2]; decide)).2.2.2.1 hq_31.2 how_34).1
    have hex_46 := hu_27.1.trans hex_38
    have hm_47 : q_21 ∈ Lm_36 := (by rw [eLm_36]; exact List.mem_cons_self)
    have hk_48 := hm9.1
    have hpb_49 : ∀ n9 : Int, PRB Pm_35 q_21 n9 := (fun _ i i0 i1 => by rw [hm9.2.2.2.2.1] at i1; omega)
    have hlk_50 := (show LOK Lm_36 Pm_35 cO 15 lp from (by have q9 := (hak_39.gla lp hq_42.1 hq_42.2).1; rw [hek_44] at q9; exact q9))
    have hX_x := hlk_50.1
    have hX_k := hlk_50.2.1
    have hlz9 := hlk_50.2.2.1
    have hX_c := hak_39.adc hlk_50
    have hX_y : q_21 ∈ Lm_36 ∧ OBK (Pm_35.kd q_21) := ⟨hm_47, (by rw [hk_48]; unfold OBK; decide)⟩
    have hPc := hP.part (X := [(hc, .inr (12, [v13_0, v13_1, .ref lp, v13_3, .int (zI (z13_phiN)), .ref la, v13_6]))]) (cx := []) (pl := va_pl Lm_36 (pE Pm_35)) [] rfl
    have hDc := hD.part (X := [(hc, .inr (12, [v13_0, v13_1, .ref lp, v13_3, .int (zI (z13_phiN)), .ref la, v13_6]))]) (cx := []) (pl := va_pl Lm_36 (pE Pm_35)) [] (by decide) rfl
    have hKc := hK.sub (tys' := [(cO, .object "java/lang/Object")]) [0] rfl
    have hFc := va_freeP (X := [(hc, .inr (12, [v13_0, v13_1, .ref lp, v13_3, .int (zI (z13_phiN)), .ref la, v13_6]))]) (cx := []) (pl := va_pl Lm_36 (pE Pm_35)) hD hS hA [] rfl
    have hgl := ADC.gl hX_c
    refine va_calli (va_runV (As := [.ref q_21]) (rest := []) ⟨hx, hb, hml, hown, hts⟩ (c_PL_addAR l dC dI cO Lm_36 Pm_35 lp q_21 sx_ed hX_x hX_k (by omega) hX_c hX_y H.size sx_mi) (cwV 1 hts g_P13_phi_PL_addAR rfl rfl rfl (by decide +kernel) ⟨(Nat.le_of_ble_eq_true rfl), (Nat.le_of_ble_eq_true rfl)⟩) ⟨fun a U g mk q => by obtain ⟨q0, q1, qP, qK, qD, e0, e1, e2, e3, e4, e5, e6, e7⟩ := q; exact ⟨q0, q1, qP, va_K.moved (u := U) (U := U.calling g mk a) (Vm.Alike.refl U.vm) qK, qD, va_Nw.same rfl (u := U) (U := U.calling g mk a) rfl e0, va_Nw.same rfl (u := U) (U := U.calling g mk a) rfl e1, va_Nw.same rfl (u := U) (U := U.calling g mk a) rfl e2, va_Dc.moved (u := U) (U := U.calling g mk a) (Vm.Alike.refl U.vm) e3, va_Mi.moved (u := U) (U := U.calling g mk a) (Vm.Alike.refl U.vm) e4, va_AO.moved (u := U) (U := U.calling g mk a) (Vm.Alike.refl U.vm) e5, va_T.moved (u := U) (U := U.calling g mk a) (Vm.Alike.refl U.vm) e6, va_Z.moved (u := U) (U := U.calling g mk a) (Vm.Alike.refl U.vm) e7⟩, recv_30 hKc hPc hq_42.1 hq_42.2, fun U hU hW => ⟨rfl, by rw [hU], by rw [hU]; exact hPc, va_K.moved hW.alike hKc, hDc.weaken (fun _ _ _ _ => trivial), va_Nw.warmC hW hp3, va_Nw.warmC hW hp4, va_Nw.warmC hW hp5, va_Dc.moved hW.alike hp6, va_Mi.moved hW.alike hp7, va_AO.moved hW.alike hp8, by rw [hU]; exact va_T.narrow (va_T.moved hW.alike (va_T.kept hp9 hS.2.1)) hFc, by rw [hU]; exact va_Z.narrow (va_Z.moved hW.alike (va_Z.kept hp10 hS.2.1)) hFc⟩⟩ rfl rfl hl.1 rfl (lv_room (Nat.le_of_ble_eq_true rfl)) dX13_phi_25 ⟨(Nat.le_trans (show 4 + (Pm_35.gc lp) ≤ 5 by omega) (Nat.le_of_ble_eq_true rfl)), (Nat.le_trans (show 18 + (Pm_35.gs lp) ≤ 100018 by omega) (Nat.le_of_ble_eq_true rfl))⟩) hS (fun q _ h => hFc q h) hFc (fun r_51 z_52 t H1 locs ht hvm hw hB hz1 hk1 hS => ?_)
    obtain ⟨Ln_53, Pn_54, hxt_54, hP1, hK1, hD1⟩ := hB
    rw [ht] at hP1
    have hK1 := va_K.moved hvm.symm hK1
    obtain ⟨hP, hD⟩ := va_joinP (X := [(hc, .inr (12, [v13_0, v13_1, .ref lp, v13_3, .int (zI (z13_phiN)), .ref la, v13_6]))]) (cx := []) (wr := [(hc, .inr (12, [v13_0, v13_1, .ref lp, v13_3, .int (zI (z13_phiN)), .ref la, v13_6]))]) (rx := []) (pl := va_pl Lm_36 (pE Pm_35)) (pl1 := va_pl Ln_53 (pE Pn_54)) hP hD [] [0] rfl rfl (by decide) (by decide) hk1 hFc hP1 hD1
    have hK := (hK.sub (tys' := [(cI, .int), (cZ, .boolean)]) [1, 2] rfl).app hK1
    generalize H1 = H at hP hS ⊢
    have hP : va_P (dC, dI) vwQ ([(hc, .inr (12, [v13_0, v13_1, .ref lp, v13_3, .int (zI (z13_phiN)), .ref la, v13_6]))] ++ va_pl Ln_53 (pE Pn_54)) H := hP
    have hD : va_D A ([(hc, .inr (12, [v13_0, v13_1, .ref lp, v13_3, .int (zI (z13_phiN)), .ref la, v13_6]))] ++ va_pl Ln_53 (pE Pn_54)) := hD
    have hK : va_K (dC, dI) vwQ [(cI, .int), (cZ, .boolean), (cO, .object "java/lang/Object")] s := hK
    refine W.widen (k := (4 + (Pm_35.gc lp))) (n := (18 + (Pm_35.gs lp))) (by omega) (by omega) ?_
    obtain ⟨rfl, hzz_52⟩ := hw
    have hu_55 := hxt_54
    have hfx := hu_55.2.2.2.2.2.2.2
    have han := hu_55.2.2.2.1
    have hke_56 : KEP [lp] Lm_36 Pm_35 Ln_53 Pn_54 la := hu_55.1.kep hak_39 hq_42.1 hq_42.2 hfx (by rw [hek_44]; decide) (Or.inr (by simp))
    have hak_57 : ALP Ln_53 Pn_54 cO cI cZ sx_ed la := hak_39.add hu_55.1 hq_42.1 hq_42.2 hfx hek_44 (by decide) hlk_50 hm_47 hk_48 hu_55.2.1 (by omega) hu_55.2.2.1 hu_55.2.2.2.1.1 (by have q9 := hak_39.adc40 hlk_50; omega) hu_55.2.2.2.2.1 hu_55.2.2.2.2.2.1 hu_55.2.2.2.2.2.2.1 (fun _ => hpb_49 _) (fun q9 => absurd q9 (by decide))
    have hgr9 := (gro_cap (P := Pm_35) (P' := Pn_54) (x := lp) (hak_39.adcl hlk_50) hu_55.1.1.2.2.2.2.2.2.2.2 hu_55.2.2.2.1.1 hu_55.2.2.2.1.2.2.1 hu_55.2.2.2.1.2.2.2 hu_55.2.2.2.1.2.1).1
    clear han
    have hq_58 : la ∈ Ln_53 ∧ Pn_54.kd la = 30 := hke_56.mem hq_41.1 hq_41.2 (by decide)
    have hq_59 : lp ∈ Ln_53 ∧ Pn_54.kd lp = 30 := hke_56.mem hq_42.1 hq_42.2 (by decide)
    have hq_60 : q_21 ∈ Ln_53 ∧ Pn_54.kd q_21 = 15 := hke_56.mem hm_47 hk_48 (by decide)
    have hz9 := hke_56.2.2.1
    have hA_61 : KEP [lp] L P Ln_53 Pn_54 la := hA_43.trans hke_56
    have ht9 := hak_39.tot0 hke_56 (fun y9 m9 k9 o9 => hu_55.1.lz hak_39 hq_42.1 hq_42.2 hfx m9 k9 (fun e9 => o9 (by rw [e9]; exact how_45)))
    have hc9 := hak_39.cat0 hke_56 (fun y9 m9 k9 o9 => hu_55.1.cap hak_39 hq_42.1 hq_42.2 hfx m9 k9 (fun e9 => o9 (by rw [e9]; exact how_45)))
    have hza := hu_55.2.1
    have hek_62 : Pn_54.ek lp = 15 := (by rw [hke_56.ek hq_42.1 hq_42.2 (by decide)]; exact hek_44)
    have how_63 : Pn_54.ow lp = lp := ((hke_56.1 lp hq_42.1 (by rw [hq_42.2]; decide)).2.2.2.1 hq_42.2 how_45).1
    clear hfx
    refine lv_pop hx hb dX13_phi_28 rfl ?_
    refine lv_aload_n hx hb dX13_phi_29 rfl (lv_at hl 0 rfl) ?_
    refine va_get (D := (dC, dI)) (ci := 12) (v := .ref lp) (C := RX13) (T := TX13) (N := 7) hx hb hts mem_P13_phi_0 hown hK hP 0 rfl rfl 2 (by decide) (ow (k := 1) rfl) (fun _ h9 => h9) rfl dX13_phi_30 ?_
    refine lv_aload_n hx hb dX13_phi_33 rfl (lv_at hl 0 rfl) ?_
    refine va_get (D := (dC, dI)) (ci := 12) (v := .int (zI (z13_phiN))) (C := RX13) (T := TX13) (N := 7) hx hb hts mem_P13_phi_0 hown hK hP 0 rfl rfl 4 (by decide) (ow (k := 0) rfl) (fun _ h9 => h9) rfl dX13_phi_34 ?_
    have hlk_64 := (show LOK Ln_53 Pn_54 cO 15 lp from (by have q9 := (hak_57.gla lp hq_59.1 hq_59.2).1; rw [hek_62] at q9; exact q9))
    obtain ⟨x, ex⟩ : ∃ q9 : Nat, q9 = Pn_54.el lp (z13_phiN) := ⟨_, rfl⟩
    have hX_x := hlk_64.1
    have hX_k := hlk_64.2.1
    have hq9 := hlk_64.row (i := z13_phiN) (by omega) (by omega)
    have hX_q : Pn_54.le lp ∈ Ln_53 ∧ Pn_54.kd (Pn_54.le lp) = 31 ∧ Pn_54.ac (Pn_54.le lp) = cO := ⟨hq9.1, hq9.2.1, hq9.2.2.1⟩
    have hq8 := hq9.2.2.2
    have hX_e0 : Pn_54.oa (Pn_54.le lp) (z13_phiN).toNat = some x := (by rw [ex]; exact (hlk_64.2.2.2.2 (z13_phiN) (by omega) (by omega)).1)
    have hxm : x ∈ Ln_53 := (by rw [ex]; exact (hlk_64.2.2.2.2 (z13_phiN) (by omega) (by omega)).2.1)
    have hxk := (hlk_64.2.2.2.2 (z13_phiN) (by omega) (by omega)).2.2
    rw [← ex] at hxk
    have hPc := hP.part (X := [(hc, .inr (12, [v13_0, v13_1, .ref lp, v13_3, .int (zI (z13_phiN)), .ref la, v13_6]))]) (cx := []) (pl := va_pl Ln_53 (pE Pn_54)) [] rfl
    have hDc := hD.part (X := [(hc, .inr (12, [v13_0, v13_1, .ref lp, v13_3, .int (zI (z13_phiN)), .ref la, v13_6]))]) (cx := []) (pl := va_pl Ln_53 (pE Pn_54)) [] (by decide) rfl
    have hKc := hK.sub (tys' := [(cO, .object "java/lang/Object")]) [2] rfl
    have hFc := va_freeP (X := [(hc, .inr (12, [v13_0, v13_1, .ref lp, v13_3, .int (zI (z13_phiN)), .ref la, v13_6]))]) (cx := []) (pl := va_pl Ln_53 (pE Pn_54)) hD hS hA [] rfl
    refine va_callr (va_runV (As := [.int (zI (z13_phiN))]) (rest := []) ⟨hx, hb, hml, hown, hts⟩ (c_PL_get l dC dI cO Ln_53 Pn_54 lp z13_phiN x hX_x hX_k hX_q (by omega) hX_e0 H.size) (cwV 1 hts g_P13_phi_PL_get rfl rfl rfl (by decide +kernel) ⟨(Nat.le_of_ble_eq_true rfl), (Nat.le_of_ble_eq_true rfl)⟩) ⟨fun a U g mk q => by obtain ⟨q0, q1, qP, qK, qD⟩ := q; exact ⟨q0, q1, qP, va_K.moved (u := U) (U := U.calling g mk a) (Vm.Alike.refl U.vm) qK, qD⟩, recv_30 hKc hPc hq_59.1 hq_59.2, fun U hU hW => ⟨rfl, by rw [hU], by rw [hU]; exact hPc, va_K.moved hW.alike hKc, hDc.weaken (fun _ _ _ _ => trivial)⟩⟩ rfl rfl hl.1 rfl (lv_room (Nat.le_of_ble_eq_true rfl)) dX13_phi_37 ⟨(Nat.le_trans (show (4 + (Pm_35.gc lp)) + 0 ≤ 5 by omega) (Nat.le_of_ble_eq_true rfl)), (Nat.le_trans (show (18 + (Pm_35.gs lp)) + 0 ≤ 100018 by omega) (Nat.le_of_ble_eq_true rfl))⟩) hS (fun q _ h => hFc q h) hFc (fun u q_65 t H1 locs ht hvm hw hB hz1 hk1 hS => ?_)
    obtain ⟨hxt_65, hP1, hK1, hD1⟩ := hB
    rw [ht] at hP1
    have hK1 := va_K.moved hvm.symm hK1
    obtain ⟨hP, hD⟩ := va_joinP (X := [(hc, .inr (12, [v13_0, v13_1, .ref lp, v13_3, .int (zI (z13_phiN)), .ref la, v13_6]))]) (cx := []) (wr := [(hc, .inr (12, [v13_0, v13_1, .ref lp, v13_3, .int (zI (z13_phiN)), .ref la, v13_6]))]) (rx := []) (pl := va_pl Ln_53 (pE Pn_54)) (pl1 := va_pl Ln_53 (pE Pn_54)) hP hD [] [0] rfl rfl (by decide) (by decide) hk1 hFc hP1 hD1
    have hK := (hK.sub (tys' := [(cI, .int), (cZ, .boolean)]) [0, 1] rfl).app hK1
    generalize H1 = H at hP hS ⊢
    have hP : va_P (dC, dI) vwQ ([(hc, .inr (12, [v13_0, v13_1, .ref lp, v13_3, .int (zI (z13_phiN)), .ref la, v13_6]))] ++ va_pl Ln_53 (pE Pn_54)) H := hP
    have hD : va_D A ([(hc, .inr (12, [v13_0, v13_1, .ref lp, v13_3, .int (zI (z13_phiN)), .ref la, v13_6]))] ++ va_pl Ln_53 (pE Pn_54)) := hD
    have hK : va_K (dC, dI) vwQ [(cI, .int), (cZ, .boolean), (cO, .object "java/lang/Object")] s := hK
    refine W.widen (k := (4 + (Pm_35.gc lp))) (n := (18 + (Pm_35.gs lp))) (by omega) (by omega) ?_
    rw [hxt_65]
    clear hX_e0
    obtain ⟨xp_66, h9⟩ : ∃ q9 : Nat, q9 = x := ⟨_, rfl⟩
    subst h9
    have hm_67 := hxm
    have hk_68 := hxk
    have hel9 := ex
    refine va_castY (C := "SsaForgeModel$Phi") (nm := "SsaForgeModel$Phi") hx hb hown (ow (k := 9) rfl) hp0 (recv_15 hK hP hm_67 hk_68) dX13_phi_40 ?_
    refine lv_astore_n (lv' := [(2, .ref xp_66), (0, .ref hc), (1, .int (zI (t0)))]) hx hb dX13_phi_43 rfl hl (by decide) rfl (fun ls hl => ?_)
    refine lv_aload_n hx hb dX13_phi_44 rfl (lv_at hl 1 rfl) ?_
    refine lv_dup hx hb dX13_phi_45 rfl ?_
    refine va_get (D := (dC, dI)) (ci := 12) (v := .int (zI (z13_phiN))) (C := RX13) (T := TX13) (N := 7) hx hb hts mem_P13_phi_0 hown hK hP 0 rfl rfl 4 (by decide) (ow (k := 0) rfl) (fun _ h9 => h9) rfl dX13_phi_46 ?_
    refine lv_iconst (v := 1) hx hb dX13_phi_49 (by decide) ?_
    refine lv_iadd hx hb dX13_phi_50 ?_
    refine lv_topi (fun z ez => ?_)
    obtain rfl : z = zI (z13_phiN + 1) := ez.trans (zI_add (z13_phiN) (1))
    refine va_put (D := (dC, dI)) (ci := 12) (v := .int (zI (z13_phiN + 1))) (ty := .int) (C := RX13) (T := TX13) (N := 7) hx hb hts mem_P13_phi_0 tyX13 tyX13_ok nmX13 hown hK hP hD hS 0 rfl rfl 4 (by decide) (ow (k := 0) rfl) (fun _ h9 => h9) rfl (by decide +kernel) rfl rfl (by first | exact Nat.le_of_ble_eq_true rfl | exact Nat.le_trans (show (4 + (Pm_35.gc lp)) ≤ 5 from (by omega)) (Nat.le_of_ble_eq_true rfl) | exact Nat.le_trans (show (18 + (Pm_35.gs lp)) ≤ 100018 from (by omega)) (Nat.le_of_ble_eq_true rfl)) dX13_phi_51 (fun H locs hP hD hS => ?_)
    have hP : va_P (dC, dI) vwQ ([(hc, .inr (12, [v13_0, v13_1, .ref lp, v13_3, .int (zI (z13_phiN + 1)), .ref la, v13_6]))] ++ va_pl Ln_53 (pE Pn_54)) H := hP
    have hD : va_D A ([(hc, .inr (12, [v13_0, v13_1, .ref lp, v13_3, .int (zI (z13_phiN + 1)), .ref la, v13_6]))] ++ va_pl Ln_53 (pE Pn_54)) := hD
    obtain ⟨z_70, ez_70⟩ : ∃ z9 : Int, z9 = z13_phiN + 1 := ⟨_, rfl⟩
    rw [← ez_70] at hP hD
    have hP : va_P (dC, dI) vwQ ([(hc, .inr (12, [v13_0, v13_1, .ref lp, v13_3, .int (zI (z_70)), .ref la, v13_6]))] ++ va_pl Ln_53 (pE Pn_54)) H := hP
    have hD : va_D A ([(hc, .inr (12, [v13_0, v13_1, .ref lp, v13_3, .int (zI (z_70)), .ref la, v13_6]))] ++ va_pl Ln_53 (pE Pn_54)) := hD
    refine lv_aload_n hx hb dX13_phi_54 rfl (lv_at hl 0 rfl) ?_
    refine lv_iload_n hx hb dX13_phi_55 rfl (lv_at hl 2 rfl) ?_
    have hX_p := hak_57.pik hm_67 hk_68
    have hp9 := hak_57.pik hm_67 hk_68
    have hpn := hp9.2.2.2.2.1
    have hpt := hp9.2.2.2.2.2.1
    clear hp9
    have hPc := hP.part (X := [(hc, .inr (12, [v13_0, v13_1, .ref lp, v13_3, .int (zI (z_70)), .ref la, v13_6]))]) (cx := []) (pl := va_pl Ln_53 (pE Pn_54)) [] rfl
    have hDc := hD.part (X := [(hc, .inr (12, [v13_0, v13_1, .ref lp, v13_3, .int (zI (z_70)), .ref la, v13_6]))]) (cx := []) (pl := va_pl Ln_53 (pE Pn_54)) [] (by decide) rfl
    have hKc := hK.sub (tys' := [(cO, .object "java/lang/Object"), (cI, .int), (cZ, .boolean)]) [2, 0, 1] rfl
    have hFc := va_freeP (X := [(hc, .inr (12, [v13_0, v13_1, .ref lp, v13_3, .int (zI (z_70)), .ref la, v13_6]))]) (cx := []) (pl := va_pl Ln_53 (pE Pn_54)) hD hS hA [] rfl
    refine va_callv (va_runV (As := [.int (zI (t0))]) (rest := []) ⟨hx, hb, hml, hown, hts⟩ (c_PP_begin l dC dI cO cI cZ Ln_53 Pn_54 xp_66 t0 hX_p (by omega) H.size) (cwV 1 hts g_P13_phi_PP_begin rfl rfl rfl (by decide +kernel) ⟨(Nat.le_of_ble_eq_true rfl), (Nat.le_of_ble_eq_true rfl)⟩) ⟨fun a U g mk q => by obtain ⟨q0, q1, qP, qK, qD⟩ := q; exact ⟨q0, q1, qP, va_K.moved (u := U) (U := U.calling g mk a) (Vm.Alike.refl U.vm) qK, qD⟩, recv_15 hKc hPc hm_67 hk_68, fun U hU hW => ⟨rfl, by rw [hU], by rw [hU]; exact hPc, va_K.moved hW.alike hKc, hDc.weaken (fun _ _ _ _ => trivial)⟩⟩ rfl rfl hl.1 rfl (lv_room (Nat.le_of_ble_eq_true rfl)) dX13_phi_56 ⟨(Nat.le_trans (show (4 + (Pm_35.gc lp)) + 0 ≤ 5 by omega) (Nat.le_of_ble_eq_true rfl)), (Nat.le_trans (show (18 + (Pm_35.gs lp)) + 0 ≤ 100018 by omega) (Nat.le_of_ble_eq_true rfl))⟩) hS (fun q _ h => hFc q h) hFc (fun  u t H1 locs ht hvm hw hB hz1 hk1 hS => ?_)
    obtain ⟨Pn_71, hxt_71, hP1, hK1, hD1⟩ := hB
    rw [ht] at hP1
    have hK1 := va_K.moved hvm.symm hK1
    obtain ⟨hP, hD⟩ := va_joinP (X := [(hc, .inr (12, [v13_0, v13_1, .ref lp, v13_3, .int (zI (z_70)), .ref la, v13_6]))]) (cx := []) (wr := [(hc, .inr (12, [v13_0, v13_1, .ref lp, v13_3, .int (zI (z_70)), .ref la, v13_6]))]) (rx := []) (pl := va_pl Ln_53 (pE Pn_54)) (pl1 := va_pl Ln_53 (pE Pn_71)) hP hD [] [0] rfl rfl (by decide) (by decide) hk1 hFc hP1 hD1
    have hK := (hK.sub (tys' := []) [] rfl).app hK1
    generalize H1 = H at hP hS ⊢
    have hP : va_P (dC, dI) vwQ ([(hc, .inr (12, [v13_0, v13_1, .ref lp, v13_3, .int (zI (z_70)), .ref la, v13_6]))] ++ va_pl Ln_53 (pE Pn_71)) H := hP
    have hD : va_D A ([(hc, .inr (12, [v13_0, v13_1, .ref lp, v13_3, .int (zI (z_70)), .ref la, v13_6]))] ++ va_pl Ln_53 (pE Pn_71)) := hD
    have hK : va_K (dC, dI) vwQ [(cO, .object "java/lang/Object"), (cI, .int), (cZ, .boolean)] s := hK
    refine W.widen (k := (4 + (Pm_35.gc lp))) (n := (18 + (Pm_35.gs lp))) (by omega) (by omega) ?_
    have hu_72 := hxt_71
    have hrw_73 : RWD Pn_54 Pn_71 := hu_72.1.rwd hk_68
    have hke_74 : KEP [lp] Ln_53 Pn_54 Ln_53 Pn_71 la := hrw_73.kep _ hq_58.2
    have hak_75 : ALP Ln_53 Pn_71 cO cI cZ sx_ed la := hak_57.phi hu_72.1 hk_68 hu_72.2.1 (by first | exact hu_72.2.2.2.2 | exact hu_72.2.2.2.2.2)
    have hc9 := hke_74.cat hrw_73.1.1 2
    have hc8 := hke_74.cat hrw_73.1.1 1
    have hq_76 : la ∈ Ln_53 ∧ Pn_71.kd la = 30 := hke_74.mem hq_58.1 hq_58.2 (by decide)
    have hq_77 : lp ∈ Ln_53 ∧ Pn_71.kd lp = 30 := hke_74.mem hq_59.1 hq_59.2 (by decide)
    have hq_78 : q_21 ∈ Ln_53 ∧ Pn_71.kd q_21 = 15 := hke_74.mem hq_60.1 hq_60.2 (by decide)
    have hq_79 : xp_66 ∈ Ln_53 ∧ Pn_71.kd xp_66 = 15 := hke_74.mem hm_67 hk_68 (by decide)
    have hz9 := hke_74.2.2.1
    have hA_80 : KEP [lp] L P Ln_53 Pn_71 la := hA_61.trans hke_74
    have : Pn_71.lz la = Pn_54.lz la := hrw_73.lz hq_58.2
    have : Pn_71.lz lp = Pn_54.lz lp := hrw_73.lz hq_59.2
    have ht9 := hrw_73.tot hak_57 2 (Or.inr rfl)
    have ht8 := hrw_73.tot hak_57 1 (Or.inl rfl)
    have hpn9 := hu_72.2.2.1
    have : Pn_71.cap lp = Pn_54.cap lp := hrw_73.cap lp
    have hek_81 : Pn_71.ek lp = 15 := (by rw [hke_74.ek hq_59.1 hq_59.2 (by decide)]; exact hek_62)
    have how_82 : Pn_71.ow lp = lp := ((hke_74.1 lp hq_59.1 (by rw [hq_59.2]; decide)).2.2.2.1 hq_59.2 how_63).1
    refine lv_aload_n hx hb dX13_phi_59 rfl (lv_at hl 0 rfl) ?_
    subst hQ
    refine W_knowS (fun hrm9 => ?_)
    refine W.widen (k := 5) (n := 100018) (by omega) (by omega) ?_
    exact W.aret (v := .ref xp_66) hx hb hr (Or.inl ⟨_, rfl⟩) (Or.inr ⟨_, rfl⟩) (fun t ht hW => ⟨⟨(), xp_66, rfl, trivial, z_70, Ln_53, Pn_71, (4 + (Pm_35.gc lp)), (18 + (Pm_35.gs lp)), ⟨⟨(by rw [ht, ← hp1]; exact hrm9), (by omega)⟩, ⟨(by omega), ⟨hA_80, hak_75, ⟨⟨hq_79.1, hq_79.2, (by rw [hrw_73.el]; exact hel9)⟩, ⟨by omega, by omega⟩, ⟨hu_72.2.2.1, hu_72.2.2.2.1, hu_72.2.2.2.2.1⟩, (fun i i0 i1 => by rw [hrw_73.el, hu_55.1.elx hu_55.2.2.2.2.2.2.1 i0 (by omega)]; exact hex_46.el hX_a.owa hX_lp.1 hX_lp.2.1 i0 i1), (chg_phi1 hex_46 hu_55.1 hu_72.1 hX_lp.1)⟩, by omega⟩⟩⟩, by rw [ht]; exact hP, va_K.moved hW.alike hK, hD⟩, hS.F ht⟩) hS.2.2 dX13_phi_60
