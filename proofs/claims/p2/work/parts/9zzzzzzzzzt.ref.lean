def o_P13_beginH : List Cond := [.fieldLink RX13 25 "SsaForgeModel$Code" "rowN" "I", .fieldLink RX13 29 "SsaForgeModel$Code" "phiN" "I", .fieldLink RX13 22 "SsaForgeModel$Code" "all" "Ljava/util/ArrayList;", .methodLink RX13 32 yJx4a65c_clear_da8c8, .instanceMethod yJx4a65c_clear_da8c8, .selects RJx4a65c yJx4a65c_clear_da8c8 yJx4a65c_clear_da8c8, .initialized RJx4a65c, .fieldLink RX13 35 "SsaForgeModel$Code" "made" "I"]
def v_P13_beginH : List Cond := .code yX13_begin cX13_begin 1 none :: (o_P13_beginH ++ (wsX130 ++ (v_PL_clearA ++ [])))
theorem mow_P13_beginH : ∀ w ∈ o_P13_beginH, w ∈ v_P13_beginH := fun _ h => List.mem_cons_of_mem _ (List.mem_append_left _ h)
theorem mem_P13_beginH_0 : ∀ w ∈ wsX130, w ∈ v_P13_beginH := fun _ h => List.mem_cons_of_mem _ (List.mem_append_right _ (List.mem_append_left _ h))
theorem mem_P13_beginH_1 : ∀ w ∈ v_PL_clearA, w ∈ v_P13_beginH := fun _ h => List.mem_cons_of_mem _ (List.mem_append_right _ (List.mem_append_right _ (List.mem_append_left _ h)))
set_option maxRecDepth 20000 in
theorem gw_P13_beginH : v_P13_beginH.all goodWord = true := by decide +kernel
set_option maxRecDepth 20000 in
theorem g_P13_beginH_PL_clearA : GoodIn v_P13_beginH (wsV RX13 32 RJx4a65c yJx4a65c_clear_da8c8 v_PL_clearA) := goodIn_app (goodIn_sub (fun w h => mow_P13_beginH w (by revert w h; decide +kernel)) (by decide +kernel)) (goodIn_sub mem_P13_beginH_1 gw_PL_clearA)
set_option maxHeartbeats 4000000 in
set_option maxRecDepth 100000 in
theorem c_P13_beginH (l : Launch) (dC : Nat → ClassId) (dI : Nat → Nat → Nat) (cI : ClassId) (cZ : ClassId) (hc : Nat) (v13_0 : Value) (v13_1 : Value) (v13_2 : Value) (z13_rowN : Int) (z13_phiN : Int) (z13_made : Int) (la : Nat) (cO : ClassId) (L : List Nat) (P : PO) (sx_ed : Nat) (hNz13_rowN : 0 ≤ z13_rowN ∧ z13_rowN ≤ 19000) (hNz13_phiN : 0 ≤ z13_phiN ∧ z13_phiN ≤ 19000) (hNz13_made : 0 ≤ z13_made ∧ z13_made ≤ 9000) (hX_g : GLF L P cO cI cZ sx_ed) (hX_la : la ∈ L ∧ P.kd la = 30 ∧ P.ek la = 12 ∧ P.ow la = la) (sz : Nat) : Met l yX13_begin v_P13_beginH ({ frames := 1, cells := 0, slots := 0, locals := 23 }) (va_Pc [.ref hc] (fun U => U.heap.size = sz ∧ va_P (dC, dI) vwQ ([(hc, .inr (12, [v13_0, v13_1, v13_2, .int (zI (z13_rowN)), .int (zI (z13_phiN)), .ref la, .int (zI (z13_made))]))] ++ va_pl L (pE P)) U.heap ∧ va_K (dC, dI) vwQ [(cO, .object "java/lang/Object"), (cI, .int), (cZ, .boolean)] U ∧ va_D (fun _ => True) ([(hc, .inr (12, [v13_0, v13_1, v13_2, .int (zI (z13_rowN)), .int (zI (z13_phiN)), .ref la, .int (zI (z13_made))]))] ++ va_pl L (pE P)))) (va_Qv (fun _ : Unit => True) (fun (_ : Unit) (t : State) => ∃ (z0_9 : Int) (z1_9 : Int) (z2_9 : Int) (Pn_9 : PO), ((0 ≤ z0_9 ∧ z0_9 ≤ 19001) ∧ (0 ≤ z1_9 ∧ z1_9 ≤ 19001) ∧ (0 ≤ z2_9 ∧ z2_9 ≤ 9001) ∧ (KEG [la] L P L Pn_9 ∧ GLF L Pn_9 cO cI cZ sx_ed ∧ CLR la L P Pn_9 ∧ (z0_9 = 0 ∧ z1_9 = 0 ∧ z2_9 = 0))) ∧ va_P (dC, dI) vwQ ([(hc, .inr (12, [v13_0, v13_1, v13_2, .int (zI (z0_9)), .int (zI (z1_9)), .ref la, .int (zI (z2_9))]))] ++ va_pl L (pE Pn_9)) t.heap ∧ va_K (dC, dI) vwQ [(cO, .object "java/lang/Object"), (cI, .int), (cZ, .boolean)] t ∧ va_D (va_A ([(hc, .inr (12, [v13_0, v13_1, v13_2, .int (zI (z13_rowN)), .int (zI (z13_phiN)), .ref la, .int (zI (z13_made))]))] ++ va_pl L (pE P)) sz) ([(hc, .inr (12, [v13_0, v13_1, v13_2, .int (zI (z0_9)), .int (zI (z1_9)), .ref la, .int (zI (z2_9))]))] ++ va_pl L (pE Pn_9))) (va_A ([(hc, .inr (12, [v13_0, v13_1, v13_2, .int (zI (z13_rowN)), .int (zI (z13_phiN)), .ref la, .int (zI (z13_made))]))] ++ va_pl L (pE P)) sz)) 0 0 (va_A ([(hc, .inr (12, [v13_0, v13_1, v13_2, .int (zI (z13_rowN)), .int (zI (z13_phiN)), .ref la, .int (zI (z13_made))]))] ++ va_pl L (pE P)) sz) := by
  refine Met.ofW (cc := cX13_begin) (maxL := 1) (ret := none) (by decide) rfl ?_
  intro p e s m args below meth c s₁ B hml hv
  obtain ⟨rfl, hsz, hP, hK, hD0⟩ := hv
  have hx := B.exec
  have hb := B.bytes
  have hr := B.returns
  have hts := atoms_spec (ws := v_P13_beginH) B.pre
  have hown : s.vm.findClass RX13 = some m.cls := findClass_of_methodNamed B.named
  have hlocks := B.notSynchronized
  have ow : ∀ {k : Nat} {w : Cond}, o_P13_beginH[k]? = some w → w.before ([.ref hc] : List Value).toArray s = true := fun h => hts _ (mow_P13_beginH _ (List.mem_of_getElem? h))
  subst hsz
  have hD := hD0.self (sz := s.heap.size)
  generalize hAe : va_A ([(hc, .inr (12, [v13_0, v13_1, v13_2, .int (zI (z13_rowN)), .int (zI (z13_phiN)), .ref la, .int (zI (z13_made))]))] ++ va_pl L (pE P)) s.heap.size = A at hD ⊢
  have hA : ∀ q : Nat, s.heap.size ≤ q → A q := fun q h => by rw [← hAe]; exact Or.inr h
  have hS : va_S A s.heap s.heap [] := va_S.rf
  have hP : va_P (dC, dI) vwQ ([(hc, .inr (12, [v13_0, v13_1, v13_2, .int (zI (z13_rowN)), .int (zI (z13_phiN)), .ref la, .int (zI (z13_made))]))] ++ va_pl L (pE P)) s.heap := hP
  have hl := lv_entry ([.ref hc]) (n := 1) (Nat.le_of_ble_eq_true rfl)
  rw [lg_entry_eq]
  generalize (lg_sl ([.ref hc]) ++ List.replicate (1 - (lg_sl ([.ref hc])).length) Slot.unset).toArray = ls at hl ⊢
  have hl : lv_has ls 1 [(0, .ref hc)] := hl
  obtain ⟨H, hH⟩ : ∃ H, H = s.heap := ⟨_, rfl⟩
  rw [← hH] at hP
  have hS : va_S A s.heap H [] := by rw [hH]; exact hS
  rw [← hH]
  refine zW_cap (fun Q hQ => ?_)
  have hX_g9 := hX_g
  have hC_la := hX_la
  refine lv_aload_n hx hb dX13_begin_0 rfl (lv_at hl 0 rfl) ?_
  refine lv_iconst (v := 0) hx hb dX13_begin_1 (by decide) ?_
  refine va_put (D := (dC, dI)) (ci := 12) (v := .int 0) (ty := .int) (C := RX13) (T := TX13) (N := 7) hx hb hts mem_P13_beginH_0 tyX13 tyX13_ok nmX13 hown hK hP hD hS 0 rfl rfl 3 (by decide) (ow (k := 0) rfl) (fun _ h9 => h9) rfl (by decide +kernel) rfl rfl (Nat.le_of_ble_eq_true rfl) dX13_begin_2 (fun H locs hP hD hS => ?_)
  have hP : va_P (dC, dI) vwQ ([(hc, .inr (12, [v13_0, v13_1, v13_2, .int 0, .int (zI (z13_phiN)), .ref la, .int (zI (z13_made))]))] ++ va_pl L (pE P)) H := hP
  have hD : va_D A ([(hc, .inr (12, [v13_0, v13_1, v13_2, .int 0, .int (zI (z13_phiN)), .ref la, .int (zI (z13_made))]))] ++ va_pl L (pE P)) := hD
  refine lv_aload_n hx hb dX13_begin_5 rfl (lv_at hl 0 rfl) ?_
  refine lv_iconst (v := 0) hx hb dX13_begin_6 (by decide) ?_
  refine va_put (D := (dC, dI)) (ci := 12) (v := .int 0) (ty := .int) (C := RX13) (T := TX13) (N := 7) hx hb hts mem_P13_beginH_0 tyX13 tyX13_ok nmX13 hown hK hP hD hS 0 rfl rfl 4 (by decide) (ow (k := 1) rfl) (fun _ h9 => h9) rfl (by decide +kernel) rfl rfl (Nat.le_of_ble_eq_true rfl) dX13_begin_7 (fun H locs hP hD hS => ?_)
  have hP : va_P (dC, dI) vwQ ([(hc, .inr (12, [v13_0, v13_1, v13_2, .int 0, .int 0, .ref la, .int (zI (z13_made))]))] ++ va_pl L (pE P)) H := hP
  have hD : va_D A ([(hc, .inr (12, [v13_0, v13_1, v13_2, .int 0, .int 0, .ref la, .int (zI (z13_made))]))] ++ va_pl L (pE P)) := hD
  refine lv_aload_n hx hb dX13_begin_10 rfl (lv_at hl 0 rfl) ?_
  refine va_get (D := (dC, dI)) (ci := 12) (v := .ref la) (C := RX13) (T := TX13) (N := 7) hx hb hts mem_P13_beginH_0 hown hK hP 0 rfl rfl 5 (by decide) (ow (k := 2) rfl) (fun _ h9 => h9) rfl dX13_begin_11 ?_
  have hlk_1 := (show LOK L P cO 12 la from (by have q9 := (hX_g9.gla la hC_la.1 hC_la.2.1).1; rw [hC_la.2.2.1] at q9; exact q9))
  have hX_x := hlk_1.1
  have hX_k := hlk_1.2.1
  have hlz9 := hlk_1.2.2.1
  have hX_c := hX_g9.adc hlk_1
  have hPc := hP.part (X := [(hc, .inr (12, [v13_0, v13_1, v13_2, .int 0, .int 0, .ref la, .int (zI (z13_made))]))]) (cx := []) (pl := va_pl L (pE P)) [] rfl
  have hDc := hD.part (X := [(hc, .inr (12, [v13_0, v13_1, v13_2, .int 0, .int 0, .ref la, .int (zI (z13_made))]))]) (cx := []) (pl := va_pl L (pE P)) [] (by decide) rfl
  have hKc := hK.sub (tys' := [(cO, .object "java/lang/Object")]) [0] rfl
  have hFc := va_freeP (X := [(hc, .inr (12, [v13_0, v13_1, v13_2, .int 0, .int 0, .ref la, .int (zI (z13_made))]))]) (cx := []) (pl := va_pl L (pE P)) hD hS hA [] rfl
  refine va_callv (va_runV (As := []) (rest := []) ⟨hx, hb, hml, hown, hts⟩ (c_PL_clearA l dC dI cO L P la sx_ed hX_x hX_k (by omega) hX_c H.size) (cwV 0 hts g_P13_beginH_PL_clearA rfl rfl rfl (by decide +kernel) ⟨(Nat.le_of_ble_eq_true rfl), (Nat.le_of_ble_eq_true rfl)⟩) ⟨fun a U g mk q => by obtain ⟨q0, q1, qP, qK, qD⟩ := q; exact ⟨q0, q1, qP, va_K.moved (u := U) (U := U.calling g mk a) (Vm.Alike.refl U.vm) qK, qD⟩, recv_30 hKc hPc hC_la.1 hC_la.2.1, fun U hU hW => ⟨rfl, by rw [hU], by rw [hU]; exact hPc, va_K.moved hW.alike hKc, hDc.weaken (fun _ _ _ _ => trivial)⟩⟩ rfl rfl hl.1 rfl (lv_room (Nat.le_of_ble_eq_true rfl)) dX13_begin_14 ⟨(Nat.le_of_ble_eq_true rfl), (Nat.le_of_ble_eq_true rfl)⟩) hS (fun q _ h => hFc q h) hFc (fun  u t H1 locs ht hvm hw hB hz1 hk1 hS => ?_)
  obtain ⟨Pn_2, hxt_2, hP1, hK1, hD1⟩ := hB
  rw [ht] at hP1
  have hK1 := va_K.moved hvm.symm hK1
  obtain ⟨hP, hD⟩ := va_joinP (X := [(hc, .inr (12, [v13_0, v13_1, v13_2, .int 0, .int 0, .ref la, .int (zI (z13_made))]))]) (cx := []) (wr := [(hc, .inr (12, [v13_0, v13_1, v13_2, .int 0, .int 0, .ref la, .int (zI (z13_made))]))]) (rx := []) (pl := va_pl L (pE P)) (pl1 := va_pl L (pE Pn_2)) hP hD [] [0] rfl rfl (by decide) (by decide) hk1 hFc hP1 hD1
  have hK := (hK.sub (tys' := [(cI, .int), (cZ, .boolean)]) [1, 2] rfl).app hK1
  generalize H1 = H at hP hS ⊢
  have hP : va_P (dC, dI) vwQ ([(hc, .inr (12, [v13_0, v13_1, v13_2, .int 0, .int 0, .ref la, .int (zI (z13_made))]))] ++ va_pl L (pE Pn_2)) H := hP
  have hD : va_D A ([(hc, .inr (12, [v13_0, v13_1, v13_2, .int 0, .int 0, .ref la, .int (zI (z13_made))]))] ++ va_pl L (pE Pn_2)) := hD
  have hK : va_K (dC, dI) vwQ [(cI, .int), (cZ, .boolean), (cO, .object "java/lang/Object")] s := hK
  refine W.widen (k := 0) (n := 0) (Nat.le_of_ble_eq_true rfl) (Nat.le_of_ble_eq_true rfl) ?_
  have hu_3 := hxt_2
  have hke_4 : KEG [la] L P L Pn_2 := hu_3.keg hX_g9 hC_la.1 hC_la.2.1 (Or.inr (by simp))
  have hak_5 : GLF L Pn_2 cO cI cZ sx_ed := hu_3.glf hX_g9 hC_la.1 hC_la.2.1
  have hq_6 : la ∈ L ∧ Pn_2.kd la = 30 := hke_4.mem hC_la.1 hC_la.2.1 (by decide)
  have hA_7 : KEG [la] L P L Pn_2 := (KEG.refl [la] L P).trans hke_4
  have : Pn_2.lz la = 0 := hu_3.2.1
  have : Pn_2.cap la = P.cap la := hu_3.cap la
  have hek_8 : Pn_2.ek la = 12 := (by rw [hke_4.ek hC_la.1 hC_la.2.1 (by decide)]; exact hC_la.2.2.1)
  have how_9 : Pn_2.ow la = la := ((hke_4.1 la hC_la.1 (by rw [hC_la.2.1]; decide)).2.2.2.1 hC_la.2.1 hC_la.2.2.2).1
  refine lv_aload_n hx hb dX13_begin_17 rfl (lv_at hl 0 rfl) ?_
  refine lv_iconst (v := 0) hx hb dX13_begin_18 (by decide) ?_
  refine va_put (D := (dC, dI)) (ci := 12) (v := .int 0) (ty := .int) (C := RX13) (T := TX13) (N := 7) hx hb hts mem_P13_beginH_0 tyX13 tyX13_ok nmX13 hown hK hP hD hS 0 rfl rfl 6 (by decide) (ow (k := 7) rfl) (fun _ h9 => h9) rfl (by decide +kernel) rfl rfl (Nat.le_of_ble_eq_true rfl) dX13_begin_19 (fun H locs hP hD hS => ?_)
  have hP : va_P (dC, dI) vwQ ([(hc, .inr (12, [v13_0, v13_1, v13_2, .int 0, .int 0, .ref la, .int 0]))] ++ va_pl L (pE Pn_2)) H := hP
  have hD : va_D A ([(hc, .inr (12, [v13_0, v13_1, v13_2, .int 0, .int 0, .ref la, .int 0]))] ++ va_pl L (pE Pn_2)) := hD
  subst hQ
  have hK := hK.sub (tys' := [(cO, .object "java/lang/Object"), (cI, .int), (cZ, .boolean)]) [2, 0, 1] rfl
  refine W.widen (k := 0) (n := 0) (Nat.le_of_ble_eq_true rfl) (Nat.le_of_ble_eq_true rfl) ?_
  exact W.vret hx hb hr (fun t ht hW => ⟨⟨(), rfl, trivial, 0, 0, 0, Pn_2, ⟨(by omega), (by omega), (by omega), ⟨hA_7, hak_5, hu_3, by omega⟩⟩, by rw [ht]; exact hP, va_K.moved hW.alike hK, hD⟩, hS.F ht⟩) hS.2.2 dX13_begin_22
