theorem dX13_begin_0 : decode cX13_begin 0 = .ok (.aload_n 0, 1) := by decide +kernel
theorem dX13_begin_1 : decode cX13_begin 1 = .ok (.iconst 0, 1) := by decide +kernel
theorem dX13_begin_2 : decode cX13_begin 2 = .ok (.putfield 25, 3) := by decide +kernel
theorem dX13_begin_5 : decode cX13_begin 5 = .ok (.aload_n 0, 1) := by decide +kernel
theorem dX13_begin_6 : decode cX13_begin 6 = .ok (.iconst 0, 1) := by decide +kernel
theorem dX13_begin_7 : decode cX13_begin 7 = .ok (.putfield 29, 3) := by decide +kernel
theorem dX13_begin_10 : decode cX13_begin 10 = .ok (.aload_n 0, 1) := by decide +kernel
theorem dX13_begin_11 : decode cX13_begin 11 = .ok (.getfield 22, 3) := by decide +kernel
theorem dX13_begin_14 : decode cX13_begin 14 = .ok (.invokevirtual 32, 3) := by decide +kernel
theorem dX13_begin_17 : decode cX13_begin 17 = .ok (.aload_n 0, 1) := by decide +kernel
theorem dX13_begin_18 : decode cX13_begin 18 = .ok (.iconst 0, 1) := by decide +kernel
theorem dX13_begin_19 : decode cX13_begin 19 = .ok (.putfield 35, 3) := by decide +kernel
theorem dX13_begin_22 : decode cX13_begin 22 = .ok (.return_, 1) := by decide +kernel
def o_P13_beginG : List Cond := [.fieldLink RX13 25 "SsaForgeModel$Code" "rowN" "I", .fieldLink RX13 29 "SsaForgeModel$Code" "phiN" "I", .fieldLink RX13 22 "SsaForgeModel$Code" "all" "Ljava/util/ArrayList;", .methodLink RX13 32 yJx4a65c_clear_da8c8, .instanceMethod yJx4a65c_clear_da8c8, .selects RJx4a65c yJx4a65c_clear_da8c8 yJx4a65c_clear_da8c8, .initialized RJx4a65c, .fieldLink RX13 35 "SsaForgeModel$Code" "made" "I"]
def v_P13_beginG : List Cond := .code yX13_begin cX13_begin 1 none :: (o_P13_beginG ++ (wsX130 ++ (v_PL_clearA ++ [])))
theorem mow_P13_beginG : ∀ w ∈ o_P13_beginG, w ∈ v_P13_beginG := fun _ h => List.mem_cons_of_mem _ (List.mem_append_left _ h)
theorem mem_P13_beginG_0 : ∀ w ∈ wsX130, w ∈ v_P13_beginG := fun _ h => List.mem_cons_of_mem _ (List.mem_append_right _ (List.mem_append_left _ h))
theorem mem_P13_beginG_1 : ∀ w ∈ v_PL_clearA, w ∈ v_P13_beginG := fun _ h => List.mem_cons_of_mem _ (List.mem_append_right _ (List.mem_append_right _ (List.mem_append_left _ h)))
set_option maxRecDepth 20000 in
theorem gw_P13_beginG : v_P13_beginG.all goodWord = true := by decide +kernel
set_option maxRecDepth 20000 in
theorem g_P13_beginG_PL_clearA : GoodIn v_P13_beginG (wsV RX13 32 RJx4a65c yJx4a65c_clear_da8c8 v_PL_clearA) := goodIn_app (goodIn_sub (fun w h => mow_P13_beginG w (by revert w h; decide +kernel)) (by decide +kernel)) (goodIn_sub mem_P13_beginG_1 gw_PL_clearA)
set_option maxHeartbeats 4000000 in
set_option maxRecDepth 100000 in
theorem c_P13_beginG (l : Launch) (dC : Nat → ClassId) (dI : Nat → Nat → Nat) (cI : ClassId) (cZ : ClassId) (hc : Nat) (v13_0 : Value) (v13_1 : Value) (v13_2 : Value) (z13_rowN : Int) (z13_phiN : Int) (z13_made : Int) (la : Nat) (cO : ClassId) (L : List Nat) (P : PO) (sx_ed : Nat) (hNz13_rowN : 0 ≤ z13_rowN ∧ z13_rowN ≤ 19000) (hNz13_phiN : 0 ≤ z13_phiN ∧ z13_phiN ≤ 19000) (hNz13_made : 0 ≤ z13_made ∧ z13_made ≤ 300) (hX_g : GLF L P cO cI cZ sx_ed) (hX_la : la ∈ L ∧ P.kd la = 30 ∧ P.ek la = 12 ∧ P.ow la = la) (sz : Nat) : Met l yX13_begin v_P13_beginG ({ frames := 1, cells := 0, slots := 0, locals := 23 }) (va_Pc [.ref hc] (fun U => U.heap.size = sz ∧ va_P (dC, dI) vwQ ([(hc, .inr (12, [v13_0, v13_1, v13_2, .int (zI (z13_rowN)), .int (zI (z13_phiN)), .ref la, .int (zI (z13_made))]))] ++ va_pl L (pE P)) U.heap ∧ va_K (dC, dI) vwQ [(cO, .object "java/lang/Object"), (cI, .int), (cZ, .boolean)] U ∧ va_D (fun _ => True) ([(hc, .inr (12, [v13_0, v13_1, v13_2, .int (zI (z13_rowN)), .int (zI (z13_phiN)), .ref la, .int (zI (z13_made))]))] ++ va_pl L (pE P)))) (va_Qv (fun _ : Unit => True) (fun (_ : Unit) (t : State) => ∃ (z0_9 : Int) (z1_9 : Int) (z2_9 : Int) (Pn_9 : PO), ((0 ≤ z0_9 ∧ z0_9 ≤ 19001) ∧ (0 ≤ z1_9 ∧ z1_9 ≤ 19001) ∧ (0 ≤ z2_9 ∧ z2_9 ≤ 301) ∧ (KEG [la] L P L Pn_9 ∧ GLF L Pn_9 cO cI cZ sx_ed ∧ CLR la L P Pn_9 ∧ (z0_9 = 0 ∧ z1_9 = 0 ∧ z2_9 = 0))) ∧ va_P (dC, dI) vwQ ([(hc, .inr (12, [v13_0, v13_1, v13_2, .int (zI (z0_9)), .int (zI (z1_9)), .ref la, .int (zI (z2_9))]))] ++ va_pl L (pE Pn_9)) t.heap ∧ va_K (dC, dI) vwQ [(cO, .object "java/lang/Object"), (cI, .int), (cZ, .boolean)] t ∧ va_D (va_A ([(hc, .inr (12, [v13_0, v13_1, v13_2, .int (zI (z13_rowN)), .int (zI (z13_phiN)), .ref la, .int (zI (z13_made))]))] ++ va_pl L (pE P)) sz) ([(hc, .inr (12, [v13_0, v13_1, v13_2, .int (zI (z0_9)), .int (zI (z1_9)), .ref la, .int (zI (z2_9))]))] ++ va_pl L (pE Pn_9))) (va_A ([(hc, .inr (12, [v13_0, v13_1, v13_2, .int (zI (z13_rowN)), .int (zI (z13_phiN)), .ref la, .int (zI (z13_made))]))] ++ va_pl L (pE P)) sz)) 0 0 (va_A ([(hc, .inr (12, [v13_0, v13_1, v13_2, .int (zI (z13_rowN)), .int (zI (z13_phiN)), .ref la, .int (zI (z13_made))]))] ++ va_pl L (pE P)) sz) := by
  refine Met.ofW (cc := cX13_begin) (maxL := 1) (ret := none) (by decide) rfl ?_
  intro p e s m args below meth c s₁ B hml hv
  obtain ⟨rfl, hsz, hP, hK, hD0⟩ := hv
  have hx := B.exec
  have hb := B.bytes
  have hr := B.returns
  have hts := atoms_spec (ws := v_P13_beginG) B.pre
  have hown : s.vm.findClass RX13 = some m.cls := findClass_of_methodNamed B.named
  have hlocks := B.notSynchronized
  have ow : ∀ {k : Nat} {w : Cond}, o_P13_beginG[k]? = some w → w.before ([.ref hc] : List Value).toArray s = true := fun h => hts _ (mow_P13_beginG _ (List.mem_of_getElem? h))
  subst hsz
  have hD := hD0.self (sz := s.heap.size)
  generalize hAe : va_A ([(hc, .inr (12, [v13_0, v13_1, v13_2, .int (zI (z13_rowN)), .int (zI (z13_phiN)), .ref la, .int (zI (z13_made))]))] ++ va_pl L (pE P)) s.heap.size = A at hD ⊢
  have hA : ∀ q : Nat, s.heap.size ≤ q → A q := fun q h => by rw [← hAe]; exact Or.inr h
  have hS : va_S A s.heap s.heap [] := va_S.rf
  have hP : va_P (dC, dI) vwQ ([(hc, .inr (12, [v13_0, v13_1, v13_2, .int (zI (z13_rowN)), .int (zI (z13_phiN)), .ref la, .int (zI (z13_made))]))] ++ va_pl L (pE P)) s.heap := hP
  have hl := lv_entry ([.ref hc]) (n := 1) (Nat.le_of_ble_eq_true rfl)
  rw [lg_entry_eq]
  generalize (lg_sl ([.ref hc]) ++ List.replicate (1 - (lg_sl ([.ref hc])).length) Slot.unset).toArray = ls at hl ⊢
  have hl : lv_has ls 1 [(0, .ref hc)] := hl
  obtain ⟨H, hH⟩ : ∃ H, H = s.heap := ⟨_, rfl⟩
  rw [← hH] at hP
  have hS : va_S A s.heap H [] := by rw [hH]; exact hS
  rw [← hH]
  refine zW_cap (fun Q hQ => ?_)
  have hX_g9 := hX_g
  have hC_la := hX_la
  refine lv_aload_n hx hb dX13_begin_0 rfl (lv_at hl 0 rfl) ?_
  refine lv_iconst (v := 0) hx hb dX13_begin_1 (by decide) ?_
  refine va_put (D := (dC, dI)) (ci := 12) (v := .int 0) (ty := .int) (C := RX13) (T := TX13) (N := 7) hx hb hts mem_P13_beginG_0 tyX13 tyX13_ok nmX13 hown hK hP hD hS 0 rfl rfl 3 (by decide) (ow (k := 0) rfl) (fun _ h9 => h9) rfl (by decide +kernel) rfl rfl (Nat.le_of_ble_eq_true rfl) dX13_begin_2 (fun H locs hP hD hS => ?_)
  have hP : va_P (dC, dI) vwQ ([(hc, .inr (12, [v13_0, v13_1, v13_2, .int 0, .int (zI (z13_phiN)), .ref la, .int (zI (z13_made))]))] ++ va_pl L (pE P)) H := hP
  have hD : va_D A ([(hc, .inr (12, [v13_0, v13_1, v13_2, .int 0, .int (zI (z13_phiN)), .ref la, .int (zI (z13_made))]))] ++ va_pl L (pE P)) := hD
  refine lv_aload_n hx hb dX13_begin_5 rfl (lv_at hl 0 rfl) ?_
  refine lv_iconst (v := 0) hx hb dX13_begin_6 (by decide) ?_
  refine va_put (D := (dC, dI)) (ci := 12) (v := .int 0) (ty := .int) (C := RX13) (T := TX13) (N := 7) hx hb hts mem_P13_beginG_0 tyX13 tyX13_ok nmX13 hown hK hP hD hS 0 rfl rfl 4 (by decide) (ow (k := 1) rfl) (fun _ h9 => h9) rfl (by decide +kernel) rfl rfl (Nat.le_of_ble_eq_true rfl) dX13_begin_7 (fun H locs hP hD hS => ?_)
  have hP : va_P (dC, dI) vwQ ([(hc, .inr (12, [v13_0, v13_1, v13_2, .int 0, .int 0, .ref la, .int (zI (z13_made))]))] ++ va_pl L (pE P)) H := hP
  have hD : va_D A ([(hc, .inr (12, [v13_0, v13_1, v13_2, .int 0, .int 0, .ref la, .int (zI (z13_made))]))] ++ va_pl L (pE P)) := hD
  refine lv_aload_n hx hb dX13_begin_10 rfl (lv_at hl 0 rfl) ?_
  refine va_get (D := (dC, dI)) (ci := 12) (v := .ref la) (C := RX13) (T := TX13) (N := 7) hx hb hts mem_P13_beginG_0 hown hK hP 0 rfl rfl 5 (by decide) (ow (k := 2) rfl) (fun _ h9 => h9) rfl dX13_begin_11 ?_
  have hlk_1 := (show LOK L P cO 12 la from (by have q9 := (hX_g9.gla la hC_la.1 hC_la.2.1).1; rw [hC_la.2.2.1] at q9; exact q9))
  have hX_x := hlk_1.1
  have hX_k := hlk_1.2.1
  have hlz9 := hlk_1.2.2.1
  have hX_c := hX_g9.adc hlk_1
  have hPc := hP.part (X := [(hc, .inr (12, [v13_0, v13_1, v13_2, .int 0, .int 0, .ref la, .int (zI (z13_made))]))]) (cx := []) (pl := va_pl L (pE P)) [] rfl
  have hDc := hD.part (X := [(hc, .inr (12, [v13_0, v13_1, v13_2, .int 0, .int 0, .ref la, .int (zI (z13_made))]))]) (cx := []) (pl := va_pl L (pE P)) [] (by decide) rfl
  have hKc := hK.sub (tys' := [(cO, .object "java/lang/Object")]) [0] rfl
  have hFc := va_freeP (X := [(hc, .inr (12, [v13_0, v13_1, v13_2, .int 0, .int 0, .ref la, .int (zI (z13_made))]))]) (cx := []) (pl := va_pl L (pE P)) hD hS hA [] rfl
  refine va_callv (va_runV (As := []) (rest := []) ⟨hx, hb, hml, hown, hts⟩ (c_PL_clearA l dC dI cO L P la sx_ed hX_x hX_k (by omega) hX_c H.size) (cwV 0 hts g_P13_beginG_PL_clearA rfl rfl rfl (by decide +kernel) ⟨(Nat.le_of_ble_eq_true rfl), (Nat.le_of_ble_eq_true rfl)⟩) ⟨fun a U g mk q => by obtain ⟨q0, q1, qP, qK, qD⟩ := q; exact ⟨q0, q1, qP, va_K.moved (u := U) (U := U.calling g mk a) (Vm.Alike.refl U.vm) qK, qD⟩, recv_30 hKc hPc hC_la.1 hC_la.2.1, fun U hU hW => ⟨rfl, by rw [hU], by rw [hU]; exact hPc, va_K.moved hW.alike hKc, hDc.weaken (fun _ _ _ _ => trivial)⟩⟩ rfl rfl hl.1 rfl (lv_room (Nat.le_of_ble_eq_true rfl)) dX13_begin_14 ⟨(Nat.le_of_ble_eq_true rfl), (Nat.le_of_ble_eq_true rfl)⟩) hS (fun q _ h => hFc q h) hFc (fun  u t H1 locs ht hvm hw hB hz1 hk1 hS => ?_)
  obtain ⟨Pn_2, hxt_2, hP1, hK1, hD1⟩ := hB
  rw [ht] at hP1
  have hK1 := va_K.moved hvm.symm hK1
  obtain ⟨hP, hD⟩ := va_joinP (X := [(hc, .inr (12, [v13_0, v13_1, v13_2, .int 0, .int 0, .ref la, .int (zI (z13_made))]))]) (cx := []) (wr := [(hc, .inr (12, [v13_0, v13_1, v13_2, .int 0, .int 0, .ref la, .int (zI (z13_made))]))]) (rx := []) (pl := va_pl L (pE P)) (pl1 := va_pl L (pE Pn_2)) hP hD [] [0] rfl rfl (by decide) (by decide) hk1 hFc hP1 hD1
  have hK := (hK.sub (tys' := [(cI, .int), (cZ, .boolean)]) [1, 2] rfl).app hK1
  generalize H1 = H at hP hS ⊢
  have hP : va_P (dC, dI) vwQ ([(hc, .inr (12, [v13_0, v13_1, v13_2, .int 0, .int 0, .ref la, .int (zI (z13_made))]))] ++ va_pl L (pE Pn_2)) H := hP
  have hD : va_D A ([(hc, .inr (12, [v13_0, v13_1, v13_2, .int 0, .int 0, .ref la, .int (zI (z13_made))]))] ++ va_pl L (pE Pn_2)) := hD
  have hK : va_K (dC, dI) vwQ [(cI, .int), (cZ, .boolean), (cO, .object "java/lang/Object")] s := hK
  refine W.widen (k := 0) (n := 0) (Nat.le_of_ble_eq_true rfl) (Nat.le_of_ble_eq_true rfl) ?_
  have hu_3 := hxt_2
  have hke_4 : KEG [la] L P L Pn_2 := hu_3.keg hX_g9 hC_la.1 hC_la.2.1 (Or.inr (by simp))
  have hak_5 : GLF L Pn_2 cO cI cZ sx_ed := hu_3.glf hX_g9 hC_la.1 hC_la.2.1
  have hq_6 : la ∈ L ∧ Pn_2.kd la = 30 := hke_4.mem hC_la.1 hC_la.2.1 (by decide)
  have hA_7 : KEG [la] L P L Pn_2 := (KEG.refl [la] L P).trans hke_4
  have : Pn_2.lz la = 0 := hu_3.2.1
  have : Pn_2.cap la = P.cap la := hu_3.cap la
  have hek_8 : Pn_2.ek la = 12 := (by rw [hke_4.ek hC_la.1 hC_la.2.1 (by decide)]; exact hC_la.2.2.1)
  have how_9 : Pn_2.ow la = la := ((hke_4.1 la hC_la.1 (by rw [hC_la.2.1]; decide)).2.2.2.1 hC_la.2.1 hC_la.2.2.2).1
  refine lv_aload_n hx hb dX13_begin_17 rfl (lv_at hl 0 rfl) ?_
  refine lv_iconst (v := 0) hx hb dX13_begin_18 (by decide) ?_
  refine va_put (D := (dC, dI)) (ci := 12) (v := .int 0) (ty := .int) (C := RX13) (T := TX13) (N := 7) hx hb hts mem_P13_beginG_0 tyX13 tyX13_ok nmX13 hown hK hP hD hS 0 rfl rfl 6 (by decide) (ow (k := 7) rfl) (fun _ h9 => h9) rfl (by decide +kernel) rfl rfl (Nat.le_of_ble_eq_true rfl) dX13_begin_19 (fun H locs hP hD hS => ?_)
  have hP : va_P (dC, dI) vwQ ([(hc, .inr (12, [v13_0, v13_1, v13_2, .int 0, .int 0, .ref la, .int 0]))] ++ va_pl L (pE Pn_2)) H := hP
  have hD : va_D A ([(hc, .inr (12, [v13_0, v13_1, v13_2, .int 0, .int 0, .ref la, .int 0]))] ++ va_pl L (pE Pn_2)) := hD
  subst hQ
  have hK := hK.sub (tys' := [(cO, .object "java/lang/Object"), (cI, .int), (cZ, .boolean)]) [2, 0, 1] rfl
  refine W.widen (k := 0) (n := 0) (Nat.le_of_ble_eq_true rfl) (Nat.le_of_ble_eq_true rfl) ?_
  exact W.vret hx hb hr (fun t ht hW => ⟨⟨(), rfl, trivial, 0, 0, 0, Pn_2, ⟨(by omega), (by omega), (by omega), ⟨hA_7, hak_5, hu_3, by omega⟩⟩, by rw [ht]; exact hP, va_K.moved hW.alike hK, hD⟩, hS.F ht⟩) hS.2.2 dX13_begin_22
theorem dX13_block_0 : decode cX13_block 0 = .ok (.aload_n 0, 1) := by decide +kernel
theorem dX13_block_1 : decode cX13_block 1 = .ok (.getfield 35, 3) := by decide +kernel
theorem dX13_block_4 : decode cX13_block 4 = .ok (.aload_n 0, 1) := by decide +kernel
theorem dX13_block_5 : decode cX13_block 5 = .ok (.getfield 10, 3) := by decide +kernel
theorem dX13_block_8 : decode cX13_block 8 = .ok (.invokevirtual 38, 3) := by decide +kernel
theorem dX13_block_11 : decode cX13_block 11 = .ok (.if_icmp .ne 18, 3) := by decide +kernel
theorem dX13_block_29 : decode cX13_block 29 = .ok (.aload_n 0, 1) := by decide +kernel
theorem dX13_block_30 : decode cX13_block 30 = .ok (.getfield 10, 3) := by decide +kernel
theorem dX13_block_33 : decode cX13_block 33 = .ok (.aload_n 0, 1) := by decide +kernel
theorem dX13_block_34 : decode cX13_block 34 = .ok (.getfield 35, 3) := by decide +kernel
theorem dX13_block_37 : decode cX13_block 37 = .ok (.invokevirtual 49, 3) := by decide +kernel
theorem dX13_block_40 : decode cX13_block 40 = .ok (.checkcast 42, 3) := by decide +kernel
theorem dX13_block_43 : decode cX13_block 43 = .ok (.astore_n 1, 1) := by decide +kernel
theorem dX13_block_44 : decode cX13_block 44 = .ok (.aload_n 0, 1) := by decide +kernel
theorem dX13_block_45 : decode cX13_block 45 = .ok (.dup, 1) := by decide +kernel
theorem dX13_block_46 : decode cX13_block 46 = .ok (.getfield 35, 3) := by decide +kernel
theorem dX13_block_49 : decode cX13_block 49 = .ok (.iconst 1, 1) := by decide +kernel
theorem dX13_block_50 : decode cX13_block 50 = .ok (.iadd, 1) := by decide +kernel
theorem dX13_block_51 : decode cX13_block 51 = .ok (.putfield 35, 3) := by decide +kernel
theorem dX13_block_54 : decode cX13_block 54 = .ok (.aload_n 1, 1) := by decide +kernel
theorem dX13_block_55 : decode cX13_block 55 = .ok (.getfield 53, 3) := by decide +kernel
theorem dX13_block_58 : decode cX13_block 58 = .ok (.invokevirtual 32, 3) := by decide +kernel
theorem dX13_block_61 : decode cX13_block 61 = .ok (.aload_n 1, 1) := by decide +kernel
theorem dX13_block_62 : decode cX13_block 62 = .ok (.getfield 54, 3) := by decide +kernel
theorem dX13_block_65 : decode cX13_block 65 = .ok (.invokevirtual 32, 3) := by decide +kernel
theorem dX13_block_68 : decode cX13_block 68 = .ok (.aload_n 0, 1) := by decide +kernel
theorem dX13_block_69 : decode cX13_block 69 = .ok (.getfield 22, 3) := by decide +kernel
theorem dX13_block_72 : decode cX13_block 72 = .ok (.aload_n 1, 1) := by decide +kernel
theorem dX13_block_73 : decode cX13_block 73 = .ok (.invokevirtual 45, 3) := by decide +kernel
theorem dX13_block_76 : decode cX13_block 76 = .ok (.pop, 1) := by decide +kernel
theorem dX13_block_77 : decode cX13_block 77 = .ok (.aload_n 1, 1) := by decide +kernel
theorem dX13_block_78 : decode cX13_block 78 = .ok (.areturn, 1) := by decide +kernel
theorem dX13_block_14 : decode cX13_block 14 = .ok (.aload_n 0, 1) := by decide +kernel
theorem dX13_block_15 : decode cX13_block 15 = .ok (.getfield 10, 3) := by decide +kernel
theorem dX13_block_18 : decode cX13_block 18 = .ok (.new 42, 3) := by decide +kernel
theorem dX13_block_21 : decode cX13_block 21 = .ok (.dup, 1) := by decide +kernel
theorem dX13_block_22 : decode cX13_block 22 = .ok (.invokespecial 44, 3) := by decide +kernel
theorem dX13_block_25 : decode cX13_block 25 = .ok (.invokevirtual 45, 3) := by decide +kernel
theorem dX13_block_28 : decode cX13_block 28 = .ok (.pop, 1) := by decide +kernel
def o_P13_blockG : List Cond := [.fieldLink RX13 35 "SsaForgeModel$Code" "made" "I", .fieldLink RX13 10 "SsaForgeModel$Code" "blocks" "Ljava/util/ArrayList;", .methodLink RX13 38 yJx4a65c_size_8abf5, .instanceMethod yJx4a65c_size_8abf5, .selects RJx4a65c yJx4a65c_size_8abf5 yJx4a65c_size_8abf5, .initialized RJx4a65c, .methodLink RX13 49 yJx4a65c_get_915e3, .instanceMethod yJx4a65c_get_915e3, .selects RJx4a65c yJx4a65c_get_915e3 yJx4a65c_get_915e3, .classLink RX13 42 "SsaForgeModel$Block", .fieldLink RX13 53 "SsaForgeModel$Block" "phis" "Ljava/util/ArrayList;", .methodLink RX13 32 yJx4a65c_clear_da8c8, .instanceMethod yJx4a65c_clear_da8c8, .selects RJx4a65c yJx4a65c_clear_da8c8 yJx4a65c_clear_da8c8, .fieldLink RX13 54 "SsaForgeModel$Block" "rows" "Ljava/util/ArrayList;", .fieldLink RX13 22 "SsaForgeModel$Code" "all" "Ljava/util/ArrayList;", .methodLink RX13 45 yJx4a65c_add_9ea2d, .instanceMethod yJx4a65c_add_9ea2d, .selects RJx4a65c yJx4a65c_add_9ea2d yJx4a65c_add_9ea2d, .classLink RX13 42 RX12, .instantiable RX12 5, .initialized RX12, .instanceMethod yX12_init]
def v_P13_blockG : List Cond := .code yX13_block cX13_block 2 (some (.object "SsaForgeModel$Block")) :: (o_P13_blockG ++ (wsX130 ++ (v_PL_size ++ (v_PL_get ++ (wsX120 ++ (v_PL_clearA ++ (v_PL_addAR ++ (v_X12_init ++ []))))))))
theorem mow_P13_blockG : ∀ w ∈ o_P13_blockG, w ∈ v_P13_blockG := fun _ h => List.mem_cons_of_mem _ (List.mem_append_left _ h)
theorem mem_P13_blockG_0 : ∀ w ∈ wsX130, w ∈ v_P13_blockG := fun _ h => List.mem_cons_of_mem _ (List.mem_append_right _ (List.mem_append_left _ h))
theorem mem_P13_blockG_1 : ∀ w ∈ v_PL_size, w ∈ v_P13_blockG := fun _ h => List.mem_cons_of_mem _ (List.mem_append_right _ (List.mem_append_right _ (List.mem_append_left _ h)))
theorem mem_P13_blockG_2 : ∀ w ∈ v_PL_get, w ∈ v_P13_blockG := fun _ h => List.mem_cons_of_mem _ (List.mem_append_right _ (List.mem_append_right _ (List.mem_append_right _ (List.mem_append_left _ h))))
theorem mem_P13_blockG_3 : ∀ w ∈ wsX120, w ∈ v_P13_blockG := fun _ h => List.mem_cons_of_mem _ (List.mem_append_right _ (List.mem_append_right _ (List.mem_append_right _ (List.mem_append_right _ (List.mem_append_left _ h)))))
theorem mem_P13_blockG_4 : ∀ w ∈ v_PL_clearA, w ∈ v_P13_blockG := fun _ h => List.mem_cons_of_mem _ (List.mem_append_right _ (List.mem_append_right _ (List.mem_append_right _ (List.mem_append_right _ (List.mem_append_right _ (List.mem_append_left _ h))))))
theorem mem_P13_blockG_5 : ∀ w ∈ v_PL_addAR, w ∈ v_P13_blockG := fun _ h => List.mem_cons_of_mem _ (List.mem_append_right _ (List.mem_append_right _ (List.mem_append_right _ (List.mem_append_right _ (List.mem_append_right _ (List.mem_append_right _ (List.mem_append_left _ h)))))))
theorem mem_P13_blockG_6 : ∀ w ∈ v_X12_init, w ∈ v_P13_blockG := fun _ h => List.mem_cons_of_mem _ (List.mem_append_right _ (List.mem_append_right _ (List.mem_append_right _ (List.mem_append_right _ (List.mem_append_right _ (List.mem_append_right _ (List.mem_append_right _ (List.mem_append_left _ h))))))))
set_option maxRecDepth 20000 in
theorem gw_P13_blockG : v_P13_blockG.all goodWord = true := by decide +kernel
set_option maxRecDepth 20000 in
theorem g_P13_blockG_PL_size : GoodIn v_P13_blockG (wsV RX13 38 RJx4a65c yJx4a65c_size_8abf5 v_PL_size) := goodIn_app (goodIn_sub (fun w h => mow_P13_blockG w (by revert w h; decide +kernel)) (by decide +kernel)) (goodIn_sub mem_P13_blockG_1 gw_PL_size)
set_option maxRecDepth 20000 in
theorem g_P13_blockG_PL_get : GoodIn v_P13_blockG (wsV RX13 49 RJx4a65c yJx4a65c_get_915e3 v_PL_get) := goodIn_app (goodIn_sub (fun w h => mow_P13_blockG w (by revert w h; decide +kernel)) (by decide +kernel)) (goodIn_sub mem_P13_blockG_2 gw_PL_get)
set_option maxRecDepth 20000 in
theorem g_P13_blockG_PL_clearA : GoodIn v_P13_blockG (wsV RX13 32 RJx4a65c yJx4a65c_clear_da8c8 v_PL_clearA) := goodIn_app (goodIn_sub (fun w h => mow_P13_blockG w (by revert w h; decide +kernel)) (by decide +kernel)) (goodIn_sub mem_P13_blockG_4 gw_PL_clearA)
set_option maxRecDepth 20000 in
theorem g_P13_blockG_PL_addAR : GoodIn v_P13_blockG (wsV RX13 45 RJx4a65c yJx4a65c_add_9ea2d v_PL_addAR) := goodIn_app (goodIn_sub (fun w h => mow_P13_blockG w (by revert w h; decide +kernel)) (by decide +kernel)) (goodIn_sub mem_P13_blockG_5 gw_PL_addAR)
set_option maxHeartbeats 4000000 in
set_option maxRecDepth 100000 in
theorem c_P13_blockG (l : Launch) (dC : Nat → ClassId) (dI : Nat → Nat → Nat) (cI : ClassId) (cZ : ClassId) (hc : Nat) (v13_1 : Value) (v13_2 : Value) (v13_3 : Value) (v13_4 : Value) (z13_made : Int) (la : Nat) (lb : Nat) (cO : ClassId) (L : List Nat) (P : PO) (sx_ed : Nat) (hNz13_made : 0 ≤ z13_made ∧ z13_made ≤ 300) (hX_g : GLF L P cO cI cZ sx_ed) (hX_la : la ∈ L ∧ P.kd la = 30 ∧ P.ek la = 12 ∧ P.ow la = la) (hX_lb : lb ∈ L ∧ P.kd lb = 30 ∧ P.ek lb = 12 ∧ P.ow lb = lb) (hX_ab : la ≠ lb) (hNr : z13_made ≤ P.lz lb ∧ P.lz lb ≤ 300 ∧ 0 ≤ z13_made ∧ P.lz la ≤ 300 ∧ 0 ≤ P.lz la) (sz : Nat) (sx_mi : Nat) (HU : Heap) : Met l yX13_block v_P13_blockG ({ frames := 7, cells := 6, slots := 200018, locals := 191 }) (va_Pc [.ref hc] (fun U => U.heap.size = sz ∧ va_P (dC, dI) vwQ ([(hc, .inr (12, [.ref lb, v13_1, v13_2, v13_3, v13_4, .ref la, .int (zI (z13_made))]))] ++ va_pl L (pE P)) U.heap ∧ va_K (dC, dI) vwQ [(cO, .object "java/lang/Object"), (cI, .int), (cZ, .boolean)] U ∧ va_D (fun _ => True) ([(hc, .inr (12, [.ref lb, v13_1, v13_2, v13_3, v13_4, .ref la, .int (zI (z13_made))]))] ++ va_pl L (pE P)) ∧ va_Nw (.castable "SsaForgeModel$Block" "SsaForgeModel$Block") U ∧ va_Nw (.castable "SsaForgeModel$Row" "java/lang/Object") U ∧ va_Nw (.castable "SsaForgeModel$Phi" "java/lang/Object") U ∧ va_Nw (.castable "SsaForgeModel$Block" "java/lang/Object") U ∧ va_Dc U ∧ va_Mi "[Ljava/lang/Object;" sx_mi U ∧ va_AO "java/lang/Object" U ∧ va_T (.object "java/lang/Object") sx_ed 0 (fun _ => .null) (va_A ([(hc, .inr (12, [.ref lb, v13_1, v13_2, v13_3, v13_4, .ref la, .int (zI (z13_made))]))] ++ va_pl L (pE P)) sz) U U.heap ∧ va_Z "java/util/ArrayList" "DEFAULTCAPACITY_EMPTY_ELEMENTDATA" "[Ljava/lang/Object;" (.ref sx_ed) (va_A ([(hc, .inr (12, [.ref lb, v13_1, v13_2, v13_3, v13_4, .ref la, .int (zI (z13_made))]))] ++ va_pl L (pE P)) sz) U U.heap ∧ U.heap = HU ∧ va_Nw (.methodLinkNest RX12 23 yX17_init "SsaForgeModel") U ∧ va_Nw (.methodLinkNest RX13 44 yX12_init "SsaForgeModel") U)) (va_Qr (fun _ : Unit => True) (fun (_ : Unit) (rq : Nat) (t : State) => ∃ (z0_9 : Int) (Ln_9 : List Nat) (Pn_9 : PO) (kc_9 : Nat) (ks_9 : Nat), ((RM HU t.heap kc_9 ks_9 ∧ ((ks_9 : Int) ≤ 18 * (Pn_9.lz lb - P.lz lb) + 5 * (Pn_9.cap lb - P.cap lb) + 5 * (Pn_9.cap la - P.cap la) ∧ (kc_9 : Int) ≤ 4 * (Pn_9.lz lb - P.lz lb) + (Pn_9.cap lb - P.cap lb) + (Pn_9.cap la - P.cap la) ∧ (ks_9 : Int) ≤ 200018 ∧ (kc_9 : Int) ≤ 6)) ∧ ((0 ≤ z0_9 ∧ z0_9 ≤ 301) ∧ (KEG [la, lb] L P Ln_9 Pn_9 ∧ GLF Ln_9 Pn_9 cO cI cZ sx_ed ∧ CB9 la lb rq (z13_made) L P Ln_9 Pn_9 ∧ (z0_9 = z13_made + 1)))) ∧ va_P (dC, dI) vwQ ([(hc, .inr (12, [.ref lb, v13_1, v13_2, v13_3, v13_4, .ref la, .int (zI (z0_9))]))] ++ va_pl Ln_9 (pE Pn_9)) t.heap ∧ va_K (dC, dI) vwQ [(cO, .object "java/lang/Object"), (cI, .int), (cZ, .boolean)] t ∧ va_D (va_A ([(hc, .inr (12, [.ref lb, v13_1, v13_2, v13_3, v13_4, .ref la, .int (zI (z13_made))]))] ++ va_pl L (pE P)) sz) ([(hc, .inr (12, [.ref lb, v13_1, v13_2, v13_3, v13_4, .ref la, .int (zI (z0_9))]))] ++ va_pl Ln_9 (pE Pn_9))) (va_A ([(hc, .inr (12, [.ref lb, v13_1, v13_2, v13_3, v13_4, .ref la, .int (zI (z13_made))]))] ++ va_pl L (pE P)) sz)) 6 200018 (va_A ([(hc, .inr (12, [.ref lb, v13_1, v13_2, v13_3, v13_4, .ref la, .int (zI (z13_made))]))] ++ va_pl L (pE P)) sz) := by
  refine Met.ofW (cc := cX13_block) (maxL := 2) (ret := (some (.object "SsaForgeModel$Block"))) (by decide) rfl ?_
  intro p e s m args below meth c s₁ B hml hv
  obtain ⟨rfl, hsz, hP, hK, hD0, hp0, hp1, hp2, hp3, hp4, hp5, hp6, hp7, hp8, hp9, hp10, hp11⟩ := hv
  have hx := B.exec
  have hb := B.bytes
  have hr := B.returns
  have hts := atoms_spec (ws := v_P13_blockG) B.pre
  have hown : s.vm.findClass RX13 = some m.cls := findClass_of_methodNamed B.named
  have hlocks := B.notSynchronized
  have ow : ∀ {k : Nat} {w : Cond}, o_P13_blockG[k]? = some w → w.before ([.ref hc] : List Value).toArray s = true := fun h => hts _ (mow_P13_blockG _ (List.mem_of_getElem? h))
  subst hsz
  have hD := hD0.self (sz := s.heap.size)
  generalize hAe : va_A ([(hc, .inr (12, [.ref lb, v13_1, v13_2, v13_3, v13_4, .ref la, .int (zI (z13_made))]))] ++ va_pl L (pE P)) s.heap.size = A at hD hp6 hp7 hp8 ⊢
  have hA : ∀ q : Nat, s.heap.size ≤ q → A q := fun q h => by rw [← hAe]; exact Or.inr h
  have hS : va_S A s.heap s.heap [] := va_S.rf
  have hP : va_P (dC, dI) vwQ ([(hc, .inr (12, [.ref lb, v13_1, v13_2, v13_3, v13_4, .ref la, .int (zI (z13_made))]))] ++ va_pl L (pE P)) s.heap := hP
  have hl := lv_entry ([.ref hc]) (n := 2) (Nat.le_of_ble_eq_true rfl)
  rw [lg_entry_eq]
  generalize (lg_sl ([.ref hc]) ++ List.replicate (2 - (lg_sl ([.ref hc])).length) Slot.unset).toArray = ls at hl ⊢
  have hl : lv_has ls 2 [(0, .ref hc)] := hl
  obtain ⟨H, hH⟩ : ∃ H, H = s.heap := ⟨_, rfl⟩
  rw [← hH] at hP
  have hS : va_S A s.heap H [] := by rw [hH]; exact hS
  rw [← hH]
  refine zW_cap (fun Q hQ => ?_)
  have hX_g9 := hX_g
  have hC_la := hX_la
  have hC_lb := hX_lb
  refine lv_aload_n hx hb dX13_block_0 rfl (lv_at hl 0 rfl) ?_
  refine va_get (D := (dC, dI)) (ci := 12) (v := .int (zI (z13_made))) (C := RX13) (T := TX13) (N := 7) hx hb hts mem_P13_blockG_0 hown hK hP 0 rfl rfl 6 (by decide) (ow (k := 0) rfl) (fun _ h9 => h9) rfl dX13_block_1 ?_
  refine lv_aload_n hx hb dX13_block_4 rfl (lv_at hl 0 rfl) ?_
  refine va_get (D := (dC, dI)) (ci := 12) (v := .ref lb) (C := RX13) (T := TX13) (N := 7) hx hb hts mem_P13_blockG_0 hown hK hP 0 rfl rfl 0 (by decide) (ow (k := 1) rfl) (fun _ h9 => h9) rfl dX13_block_5 ?_
  have hlk_1 := (show LOK L P cO 12 lb from (by have q9 := (hX_g9.gla lb hC_lb.1 hC_lb.2.1).1; rw [hC_lb.2.2.1] at q9; exact q9))
  have hX_x := hlk_1.1
  have hX_k := hlk_1.2.1
  have hlz9 := hlk_1.2.2.1
  have hPc := hP.part (X := [(hc, .inr (12, [.ref lb, v13_1, v13_2, v13_3, v13_4, .ref la, .int (zI (z13_made))]))]) (cx := []) (pl := va_pl L (pE P)) [] rfl
  have hDc := hD.part (X := [(hc, .inr (12, [.ref lb, v13_1, v13_2, v13_3, v13_4, .ref la, .int (zI (z13_made))]))]) (cx := []) (pl := va_pl L (pE P)) [] (by decide) rfl
  have hKc := hK.sub (tys' := [(cO, .object "java/lang/Object")]) [0] rfl
  have hFc := va_freeP (X := [(hc, .inr (12, [.ref lb, v13_1, v13_2, v13_3, v13_4, .ref la, .int (zI (z13_made))]))]) (cx := []) (pl := va_pl L (pE P)) hD hS hA [] rfl
  refine va_calli (va_runV (As := []) (rest := [.int (zI (z13_made))]) ⟨hx, hb, hml, hown, hts⟩ (c_PL_size l dC dI cO L P lb hX_x hX_k (by omega) H.size) (cwV 0 hts g_P13_blockG_PL_size rfl rfl rfl (by decide +kernel) ⟨(Nat.le_of_ble_eq_true rfl), (Nat.le_of_ble_eq_true rfl)⟩) ⟨fun a U g mk q => by obtain ⟨q0, q1, qP, qK, qD⟩ := q; exact ⟨q0, q1, qP, va_K.moved (u := U) (U := U.calling g mk a) (Vm.Alike.refl U.vm) qK, qD⟩, recv_30 hKc hPc hC_lb.1 hC_lb.2.1, fun U hU hW => ⟨rfl, by rw [hU], by rw [hU]; exact hPc, va_K.moved hW.alike hKc, hDc.weaken (fun _ _ _ _ => trivial)⟩⟩ rfl rfl hl.1 rfl (lv_room (Nat.le_of_ble_eq_true rfl)) dX13_block_8 ⟨(Nat.le_of_ble_eq_true rfl), (Nat.le_of_ble_eq_true rfl)⟩) hS (fun q _ h => hFc q h) hFc (fun r_2 u t H1 locs ht hvm hw hB hz1 hk1 hS => ?_)
  obtain ⟨hP1, hK1, hD1⟩ := hB
  rw [ht] at hP1
  have hK1 := va_K.moved hvm.symm hK1
  obtain ⟨hP, hD⟩ := va_joinP (X := [(hc, .inr (12, [.ref lb, v13_1, v13_2, v13_3, v13_4, .ref la, .int (zI (z13_made))]))]) (cx := []) (wr := [(hc, .inr (12, [.ref lb, v13_1, v13_2, v13_3, v13_4, .ref la, .int (zI (z13_made))]))]) (rx := []) (pl := va_pl L (pE P)) (pl1 := va_pl L (pE P)) hP hD [] [0] rfl rfl (by decide) (by decide) hk1 hFc hP1 hD1
  have hK := (hK.sub (tys' := [(cI, .int), (cZ, .boolean)]) [1, 2] rfl).app hK1
  generalize H1 = H at hP hS ⊢
  have hP : va_P (dC, dI) vwQ ([(hc, .inr (12, [.ref lb, v13_1, v13_2, v13_3, v13_4, .ref la, .int (zI (z13_made))]))] ++ va_pl L (pE P)) H := hP
  have hD : va_D A ([(hc, .inr (12, [.ref lb, v13_1, v13_2, v13_3, v13_4, .ref la, .int (zI (z13_made))]))] ++ va_pl L (pE P)) := hD
  have hK : va_K (dC, dI) vwQ [(cI, .int), (cZ, .boolean), (cO, .object "java/lang/Object")] s := hK
  refine W.widen (k := 0) (n := 0) (Nat.le_of_ble_eq_true rfl) (Nat.le_of_ble_eq_true rfl) ?_
  obtain rfl : r_2 = (zI (P.lz lb)) := hw
  refine lv_icmp_ne (tgt := 29) hx hb dX13_block_11 (by decide) (fun b11 => ?_) (fun b11 => ?_)
  · have yb11 : ¬ (z13_made : Int) = (P.lz lb : Int) := fun q => b11 ((zI_eq (a := z13_made) (b := P.lz lb) (by omega) (by omega) (by omega) (by omega)).mpr q)
    refine lv_aload_n hx hb dX13_block_29 rfl (lv_at hl 0 rfl) ?_
    refine va_get (D := (dC, dI)) (ci := 12) (v := .ref lb) (C := RX13) (T := TX13) (N := 7) hx hb hts mem_P13_blockG_0 hown hK hP 0 rfl rfl 0 (by decide) (ow (k := 1) rfl) (fun _ h9 => h9) rfl dX13_block_30 ?_
    refine lv_aload_n hx hb dX13_block_33 rfl (lv_at hl 0 rfl) ?_
    refine va_get (D := (dC, dI)) (ci := 12) (v := .int (zI (z13_made))) (C := RX13) (T := TX13) (N := 7) hx hb hts mem_P13_blockG_0 hown hK hP 0 rfl rfl 6 (by decide) (ow (k := 0) rfl) (fun _ h9 => h9) rfl dX13_block_34 ?_
    have hlk_3 := (show LOK L P cO 12 lb from (by have q9 := (hX_g9.gla lb hC_lb.1 hC_lb.2.1).1; rw [hC_lb.2.2.1] at q9; exact q9))
    obtain ⟨x, ex⟩ : ∃ q9 : Nat, q9 = P.el lb (z13_made) := ⟨_, rfl⟩
    have hX_x := hlk_3.1
    have hX_k := hlk_3.2.1
    have hq9 := hlk_3.row (i := z13_made) (by omega) (by omega)
    have hX_q : P.le lb ∈ L ∧ P.kd (P.le lb) = 31 ∧ P.ac (P.le lb) = cO := ⟨hq9.1, hq9.2.1, hq9.2.2.1⟩
    have hq8 := hq9.2.2.2
    have hX_e0 : P.oa (P.le lb) (z13_made).toNat = some x := (by rw [ex]; exact (hlk_3.2.2.2.2 (z13_made) (by omega) (by omega)).1)
    have hxm : x ∈ L := (by rw [ex]; exact (hlk_3.2.2.2.2 (z13_made) (by omega) (by omega)).2.1)
    have hxk := (hlk_3.2.2.2.2 (z13_made) (by omega) (by omega)).2.2
    rw [← ex] at hxk
    have hPc := hP.part (X := [(hc, .inr (12, [.ref lb, v13_1, v13_2, v13_3, v13_4, .ref la, .int (zI (z13_made))]))]) (cx := []) (pl := va_pl L (pE P)) [] rfl
    have hDc := hD.part (X := [(hc, .inr (12, [.ref lb, v13_1, v13_2, v13_3, v13_4, .ref la, .int (zI (z13_made))]))]) (cx := []) (pl := va_pl L (pE P)) [] (by decide) rfl
    have hKc := hK.sub (tys' := [(cO, .object "java/lang/Object")]) [2] rfl
    have hFc := va_freeP (X := [(hc, .inr (12, [.ref lb, v13_1, v13_2, v13_3, v13_4, .ref la, .int (zI (z13_made))]))]) (cx := []) (pl := va_pl L (pE P)) hD hS hA [] rfl
    refine va_callr (va_runV (As := [.int (zI (z13_made))]) (rest := []) ⟨hx, hb, hml, hown, hts⟩ (c_PL_get l dC dI cO L P lb z13_made x hX_x hX_k hX_q (by omega) hX_e0 H.size) (cwV 1 hts g_P13_blockG_PL_get rfl rfl rfl (by decide +kernel) ⟨(Nat.le_of_ble_eq_true rfl), (Nat.le_of_ble_eq_true rfl)⟩) ⟨fun a U g mk q => by obtain ⟨q0, q1, qP, qK, qD⟩ := q; exact ⟨q0, q1, qP, va_K.moved (u := U) (U := U.calling g mk a) (Vm.Alike.refl U.vm) qK, qD⟩, recv_30 hKc hPc hC_lb.1 hC_lb.2.1, fun U hU hW => ⟨rfl, by rw [hU], by rw [hU]; exact hPc, va_K.moved hW.alike hKc, hDc.weaken (fun _ _ _ _ => trivial)⟩⟩ rfl rfl hl.1 rfl (lv_room (Nat.le_of_ble_eq_true rfl)) dX13_block_37 ⟨(Nat.le_of_ble_eq_true rfl), (Nat.le_of_ble_eq_true rfl)⟩) hS (fun q _ h => hFc q h) hFc (fun u q_4 t H1 locs ht hvm hw hB hz1 hk1 hS => ?_)
    obtain ⟨hxt_4, hP1, hK1, hD1⟩ := hB
    rw [ht] at hP1
    have hK1 := va_K.moved hvm.symm hK1
    obtain ⟨hP, hD⟩ := va_joinP (X := [(hc, .inr (12, [.ref lb, v13_1, v13_2, v13_3, v13_4, .ref la, .int (zI (z13_made))]))]) (cx := []) (wr := [(hc, .inr (12, [.ref lb, v13_1, v13_2, v13_3, v13_4, .ref la, .int (zI (z13_made))]))]) (rx := []) (pl := va_pl L (pE P)) (pl1 := va_pl L (pE P)) hP hD [] [0] rfl rfl (by decide) (by decide) hk1 hFc hP1 hD1
    have hK := (hK.sub (tys' := [(cI, .int), (cZ, .boolean)]) [0, 1] rfl).app hK1
    generalize H1 = H at hP hS ⊢
    have hP : va_P (dC, dI) vwQ ([(hc, .inr (12, [.ref lb, v13_1, v13_2, v13_3, v13_4, .ref la, .int (zI (z13_made))]))] ++ va_pl L (pE P)) H := hP
    have hD : va_D A ([(hc, .inr (12, [.ref lb, v13_1, v13_2, v13_3, v13_4, .ref la, .int (zI (z13_made))]))] ++ va_pl L (pE P)) := hD
    have hK : va_K (dC, dI) vwQ [(cI, .int), (cZ, .boolean), (cO, .object "java/lang/Object")] s := hK
    refine W.widen (k := 0) (n := 0) (Nat.le_of_ble_eq_true rfl) (Nat.le_of_ble_eq_true rfl) ?_
    rw [hxt_4]
    clear hX_e0
    obtain ⟨xb_5, h9⟩ : ∃ q9 : Nat, q9 = x := ⟨_, rfl⟩
    subst h9
    have hm_6 := hxm
    have hk_7 := hxk
    have hel9 := ex
    refine va_castY (C := "SsaForgeModel$Block") (nm := "SsaForgeModel$Block") hx hb hown (ow (k := 9) rfl) hp0 (recv_12 hK hP hm_6 hk_7) dX13_block_40 ?_
    refine lv_astore_n (lv' := [(1, .ref xb_5), (0, .ref hc)]) hx hb dX13_block_43 rfl hl (by decide) rfl (fun ls hl => ?_)
    refine lv_aload_n hx hb dX13_block_44 rfl (lv_at hl 1 rfl) ?_
    refine lv_dup hx hb dX13_block_45 rfl ?_
    refine va_get (D := (dC, dI)) (ci := 12) (v := .int (zI (z13_made))) (C := RX13) (T := TX13) (N := 7) hx hb hts mem_P13_blockG_0 hown hK hP 0 rfl rfl 6 (by decide) (ow (k := 0) rfl) (fun _ h9 => h9) rfl dX13_block_46 ?_
    refine lv_iconst (v := 1) hx hb dX13_block_49 (by decide) ?_
    refine lv_iadd hx hb dX13_block_50 ?_
    refine lv_topi (fun z ez => ?_)
    obtain rfl : z = zI (z13_made + 1) := ez.trans (zI_add (z13_made) (1))
    refine va_put (D := (dC, dI)) (ci := 12) (v := .int (zI (z13_made + 1))) (ty := .int) (C := RX13) (T := TX13) (N := 7) hx hb hts mem_P13_blockG_0 tyX13 tyX13_ok nmX13 hown hK hP hD hS 0 rfl rfl 6 (by decide) (ow (k := 0) rfl) (fun _ h9 => h9) rfl (by decide +kernel) rfl rfl (Nat.le_of_ble_eq_true rfl) dX13_block_51 (fun H locs hP hD hS => ?_)
    have hP : va_P (dC, dI) vwQ ([(hc, .inr (12, [.ref lb, v13_1, v13_2, v13_3, v13_4, .ref la, .int (zI (z13_made + 1))]))] ++ va_pl L (pE P)) H := hP
    have hD : va_D A ([(hc, .inr (12, [.ref lb, v13_1, v13_2, v13_3, v13_4, .ref la, .int (zI (z13_made + 1))]))] ++ va_pl L (pE P)) := hD
    obtain ⟨z_9, ez_9⟩ : ∃ z9 : Int, z9 = z13_made + 1 := ⟨_, rfl⟩
    rw [← ez_9] at hP hD
    have hP : va_P (dC, dI) vwQ ([(hc, .inr (12, [.ref lb, v13_1, v13_2, v13_3, v13_4, .ref la, .int (zI (z_9))]))] ++ va_pl L (pE P)) H := hP
    have hD : va_D A ([(hc, .inr (12, [.ref lb, v13_1, v13_2, v13_3, v13_4, .ref la, .int (zI (z_9))]))] ++ va_pl L (pE P)) := hD
    refine lv_aload_n hx hb dX13_block_54 rfl (lv_at hl 0 rfl) ?_
    have hfb := (hX_g9.gb hm_6 hk_7).2
    obtain ⟨kp_10, hkp_10⟩ := va_pl_get (X := [(hc, .inr (12, [.ref lb, v13_1, v13_2, v13_3, v13_4, .ref la, .int (zI (z_9))]))]) (f := pE P) hm_6
    rw [pE_block hk_7] at hkp_10
    refine va_get (D := (dC, dI)) (ci := 19) (v := .ref (P.bp xb_5)) (C := RX12) (T := TX12) (N := 5) hx hb hts mem_P13_blockG_3 hown hK hP kp_10 hkp_10 rfl 0 (by decide) (ow (k := 10) rfl) (fun _ h9 => h9) rfl dX13_block_55 ?_
    obtain ⟨pr_11, epr_11⟩ : ∃ q9 : Nat, q9 = P.bp xb_5 := ⟨_, rfl⟩
    rw [← epr_11]
    have hlk_12 : LOK L P cO 15 pr_11 := (by rw [epr_11]; exact hX_g9.lbp hm_6 hk_7)
    have hlz9 := hlk_12.2.2.1
    have hek_13 : P.ek pr_11 = 15 := (by rw [epr_11]; exact (hX_g9.owc xb_5 hm_6 hk_7).2.1)
    have hlk_14 := (show LOK L P cO 15 pr_11 from (by rw [← epr_11.symm]; exact hX_g9.lbp hm_6 hk_7))
    have hX_x := hlk_14.1
    have hX_k := hlk_14.2.1
    have hlz9 := hlk_14.2.2.1
    have hX_c := hX_g9.adc hlk_14
    have hPc := hP.part (X := [(hc, .inr (12, [.ref lb, v13_1, v13_2, v13_3, v13_4, .ref la, .int (zI (z_9))]))]) (cx := []) (pl := va_pl L (pE P)) [] rfl
    have hDc := hD.part (X := [(hc, .inr (12, [.ref lb, v13_1, v13_2, v13_3, v13_4, .ref la, .int (zI (z_9))]))]) (cx := []) (pl := va_pl L (pE P)) [] (by decide) rfl
    have hKc := hK.sub (tys' := [(cO, .object "java/lang/Object")]) [2] rfl
    have hFc := va_freeP (X := [(hc, .inr (12, [.ref lb, v13_1, v13_2, v13_3, v13_4, .ref la, .int (zI (z_9))]))]) (cx := []) (pl := va_pl L (pE P)) hD hS hA [] rfl
    refine va_callv (va_runV (As := []) (rest := []) ⟨hx, hb, hml, hown, hts⟩ (c_PL_clearA l dC dI cO L P pr_11 sx_ed hX_x hX_k (by omega) hX_c H.size) (cwV 0 hts g_P13_blockG_PL_clearA rfl rfl rfl (by decide +kernel) ⟨(Nat.le_of_ble_eq_true rfl), (Nat.le_of_ble_eq_true rfl)⟩) ⟨fun a U g mk q => by obtain ⟨q0, q1, qP, qK, qD⟩ := q; exact ⟨q0, q1, qP, va_K.moved (u := U) (U := U.calling g mk a) (Vm.Alike.refl U.vm) qK, qD⟩, recv_30 hKc hPc hlk_12.1 hlk_12.2.1, fun U hU hW => ⟨rfl, by rw [hU], by rw [hU]; exact hPc, va_K.moved hW.alike hKc, hDc.weaken (fun _ _ _ _ => trivial)⟩⟩ rfl rfl hl.1 rfl (lv_room (Nat.le_of_ble_eq_true rfl)) dX13_block_58 ⟨(Nat.le_of_ble_eq_true rfl), (Nat.le_of_ble_eq_true rfl)⟩) hS (fun q _ h => hFc q h) hFc (fun  u t H1 locs ht hvm hw hB hz1 hk1 hS => ?_)
    obtain ⟨Pn_15, hxt_15, hP1, hK1, hD1⟩ := hB
    rw [ht] at hP1
    have hK1 := va_K.moved hvm.symm hK1
    obtain ⟨hP, hD⟩ := va_joinP (X := [(hc, .inr (12, [.ref lb, v13_1, v13_2, v13_3, v13_4, .ref la, .int (zI (z_9))]))]) (cx := []) (wr := [(hc, .inr (12, [.ref lb, v13_1, v13_2, v13_3, v13_4, .ref la, .int (zI (z_9))]))]) (rx := []) (pl := va_pl L (pE P)) (pl1 := va_pl L (pE Pn_15)) hP hD [] [0] rfl rfl (by decide) (by decide) hk1 hFc hP1 hD1
    have hK := (hK.sub (tys' := [(cI, .int), (cZ, .boolean)]) [0, 1] rfl).app hK1
    generalize H1 = H at hP hS ⊢
    have hP : va_P (dC, dI) vwQ ([(hc, .inr (12, [.ref lb, v13_1, v13_2, v13_3, v13_4, .ref la, .int (zI (z_9))]))] ++ va_pl L (pE Pn_15)) H := hP
    have hD : va_D A ([(hc, .inr (12, [.ref lb, v13_1, v13_2, v13_3, v13_4, .ref la, .int (zI (z_9))]))] ++ va_pl L (pE Pn_15)) := hD
    have hK : va_K (dC, dI) vwQ [(cI, .int), (cZ, .boolean), (cO, .object "java/lang/Object")] s := hK
    refine W.widen (k := 0) (n := 0) (Nat.le_of_ble_eq_true rfl) (Nat.le_of_ble_eq_true rfl) ?_
    have hu_16 := hxt_15
    have hke_17 : KEG [la, lb] L P L Pn_15 := hu_16.keg hX_g9 hlk_12.1 hlk_12.2.1 (Or.inl (fun e9 => kd_ne hk_7 hlk_12.2.1 (by decide) (show xb_5 = pr_11 from (by have q9 := (hX_g9.owc xb_5 hm_6 hk_7).2.2.1; rw [epr_11.symm, e9] at q9; exact q9.symm))))
    have hak_18 : GLF L Pn_15 cO cI cZ sx_ed := hu_16.glf hX_g9 hlk_12.1 hlk_12.2.1
    have hst_19 := hu_16.chgo hX_g9.owa hlk_12.1 hlk_12.2.1
    have hel_20 : ∀ i : Int, 0 ≤ i → i < P.lz la → Pn_15.el la i = P.el la i := (fun i i0 i1 => (hu_16.elO hX_g9.owa hlk_12.1 hlk_12.2.1 hC_la.1 hC_la.2.1 (ek_ne hC_la.2.2.1 hek_13 (by decide)) i0 (by omega)))
    have hel_21 : ∀ i : Int, 0 ≤ i → i < P.lz lb → Pn_15.el lb i = P.el lb i := (fun i i0 i1 => (hu_16.elO hX_g9.owa hlk_12.1 hlk_12.2.1 hC_lb.1 hC_lb.2.1 (ek_ne hC_lb.2.2.1 hek_13 (by decide)) i0 (by omega)))
    have hef_22 : Pn_15.el lb (z13_made) = xb_5 := (by have i0 : (0 : Int) ≤ z13_made := (by omega); exact (hu_16.elO hX_g9.owa hlk_12.1 hlk_12.2.1 hC_lb.1 hC_lb.2.1 (ek_ne hC_lb.2.2.1 hek_13 (by decide)) i0 (by omega)).trans hel9.symm)
    have hq_23 : la ∈ L ∧ Pn_15.kd la = 30 := hke_17.mem hC_la.1 hC_la.2.1 (by decide)
    have hq_24 : lb ∈ L ∧ Pn_15.kd lb = 30 := hke_17.mem hC_lb.1 hC_lb.2.1 (by decide)
    have hq_25 : xb_5 ∈ L ∧ Pn_15.kd xb_5 = 12 := hke_17.mem hm_6 hk_7 (by decide)
    have hq_26 : pr_11 ∈ L ∧ Pn_15.kd pr_11 = 30 := hke_17.mem hlk_12.1 hlk_12.2.1 (by decide)
    have ha_27 : Pn_15.bp xb_5 = pr_11 := hke_17.bp hm_6 hk_7 epr_11.symm
    have hA_28 : KEG [la, lb] L P L Pn_15 := (KEG.refl [la, lb] L P).trans hke_17
    have : Pn_15.lz pr_11 = 0 := hu_16.2.1
    have : Pn_15.lz la = P.lz la := hu_16.lz (ek_ne hC_la.2.2.1 hek_13 (by decide))
    have : Pn_15.lz lb = P.lz lb := hu_16.lz (ek_ne hC_lb.2.2.1 hek_13 (by decide))
    have : Pn_15.cap la = P.cap la := hu_16.cap la
    have : Pn_15.cap lb = P.cap lb := hu_16.cap lb
    have hek_29 : Pn_15.ek la = 12 := (by rw [hke_17.ek hC_la.1 hC_la.2.1 (by decide)]; exact hC_la.2.2.1)
    have how_30 : Pn_15.ow la = la := ((hke_17.1 la hC_la.1 (by rw [hC_la.2.1]; decide)).2.2.2.1 hC_la.2.1 hC_la.2.2.2).1
    have hek_31 : Pn_15.ek lb = 12 := (by rw [hke_17.ek hC_lb.1 hC_lb.2.1 (by decide)]; exact hC_lb.2.2.1)
    have how_32 : Pn_15.ow lb = lb := ((hke_17.1 lb hC_lb.1 (by rw [hC_lb.2.1]; decide)).2.2.2.1 hC_lb.2.1 hC_lb.2.2.2).1
    have hek_33 : Pn_15.ek pr_11 = 15 := (by rw [hke_17.ek hlk_12.1 hlk_12.2.1 (by decide)]; exact hek_13)
    refine lv_aload_n hx hb dX13_block_61 rfl (lv_at hl 0 rfl) ?_
    have hfb := (hak_18.gb hq_25.1 hq_25.2).2
    obtain ⟨kp_34, hkp_34⟩ := va_pl_get (X := [(hc, .inr (12, [.ref lb, v13_1, v13_2, v13_3, v13_4, .ref la, .int (zI (z_9))]))]) (f := pE Pn_15) hq_25.1
    rw [pE_block hq_25.2] at hkp_34
    refine va_get (D := (dC, dI)) (ci := 19) (v := .ref (Pn_15.br xb_5)) (C := RX12) (T := TX12) (N := 5) hx hb hts mem_P13_blockG_3 hown hK hP kp_34 hkp_34 rfl 1 (by decide) (ow (k := 14) rfl) (fun _ h9 => h9) rfl dX13_block_62 ?_
    obtain ⟨pr_35, epr_35⟩ : ∃ q9 : Nat, q9 = Pn_15.br xb_5 := ⟨_, rfl⟩
    rw [← epr_35]
    have hlk_36 : LOK L Pn_15 cO 17 pr_35 := (by rw [epr_35]; exact hak_18.lbr hq_25.1 hq_25.2)
    have hlz9 := hlk_36.2.2.1
    have hek_37 : Pn_15.ek pr_35 = 17 := (by rw [epr_35]; exact (hak_18.owc xb_5 hq_25.1 hq_25.2).1.1)
    have hlk_38 := (show LOK L Pn_15 cO 17 pr_35 from (by rw [← epr_35.symm]; exact hak_18.lbr hq_25.1 hq_25.2))
    have hX_x := hlk_38.1
    have hX_k := hlk_38.2.1
    have hlz9 := hlk_38.2.2.1
    have hX_c := hak_18.adc hlk_38
    have hPc := hP.part (X := [(hc, .inr (12, [.ref lb, v13_1, v13_2, v13_3, v13_4, .ref la, .int (zI (z_9))]))]) (cx := []) (pl := va_pl L (pE Pn_15)) [] rfl
    have hDc := hD.part (X := [(hc, .inr (12, [.ref lb, v13_1, v13_2, v13_3, v13_4, .ref la, .int (zI (z_9))]))]) (cx := []) (pl := va_pl L (pE Pn_15)) [] (by decide) rfl
    have hKc := hK.sub (tys' := [(cO, .object "java/lang/Object")]) [2] rfl
    have hFc := va_freeP (X := [(hc, .inr (12, [.ref lb, v13_1, v13_2, v13_3, v13_4, .ref la, .int (zI (z_9))]))]) (cx := []) (pl := va_pl L (pE Pn_15)) hD hS hA [] rfl
    refine va_callv (va_runV (As := []) (rest := []) ⟨hx, hb, hml, hown, hts⟩ (c_PL_clearA l dC dI cO L Pn_15 pr_35 sx_ed hX_x hX_k (by omega) hX_c H.size) (cwV 0 hts g_P13_blockG_PL_clearA rfl rfl rfl (by decide +kernel) ⟨(Nat.le_of_ble_eq_true rfl), (Nat.le_of_ble_eq_true rfl)⟩) ⟨fun a U g mk q => by obtain ⟨q0, q1, qP, qK, qD⟩ := q; exact ⟨q0, q1, qP, va_K.moved (u := U) (U := U.calling g mk a) (Vm.Alike.refl U.vm) qK, qD⟩, recv_30 hKc hPc hlk_36.1 hlk_36.2.1, fun U hU hW => ⟨rfl, by rw [hU], by rw [hU]; exact hPc, va_K.moved hW.alike hKc, hDc.weaken (fun _ _ _ _ => trivial)⟩⟩ rfl rfl hl.1 rfl (lv_room (Nat.le_of_ble_eq_true rfl)) dX13_block_65 ⟨(Nat.le_of_ble_eq_true rfl), (Nat.le_of_ble_eq_true rfl)⟩) hS (fun q _ h => hFc q h) hFc (fun  u t H1 locs ht hvm hw hB hz1 hk1 hS => ?_)
    obtain ⟨Pn_39, hxt_39, hP1, hK1, hD1⟩ := hB
    rw [ht] at hP1
    have hK1 := va_K.moved hvm.symm hK1
    obtain ⟨hP, hD⟩ := va_joinP (X := [(hc, .inr (12, [.ref lb, v13_1, v13_2, v13_3, v13_4, .ref la, .int (zI (z_9))]))]) (cx := []) (wr := [(hc, .inr (12, [.ref lb, v13_1, v13_2, v13_3, v13_4, .ref la, .int (zI (z_9))]))]) (rx := []) (pl := va_pl L (pE Pn_15)) (pl1 := va_pl L (pE Pn_39)) hP hD [] [0] rfl rfl (by decide) (by decide) hk1 hFc hP1 hD1
    have hK := (hK.sub (tys' := [(cI, .int), (cZ, .boolean)]) [0, 1] rfl).app hK1
    generalize H1 = H at hP hS ⊢
    have hP : va_P (dC, dI) vwQ ([(hc, .inr (12, [.ref lb, v13_1, v13_2, v13_3, v13_4, .ref la, .int (zI (z_9))]))] ++ va_pl L (pE Pn_39)) H := hP
    have hD : va_D A ([(hc, .inr (12, [.ref lb, v13_1, v13_2, v13_3, v13_4, .ref la, .int (zI (z_9))]))] ++ va_pl L (pE Pn_39)) := hD
    have hK : va_K (dC, dI) vwQ [(cI, .int), (cZ, .boolean), (cO, .object "java/lang/Object")] s := hK
    refine W.widen (k := 0) (n := 0) (Nat.le_of_ble_eq_true rfl) (Nat.le_of_ble_eq_true rfl) ?_
    have hu_40 := hxt_39
    have hke_41 : KEG [la, lb] L Pn_15 L Pn_39 := hu_40.keg hak_18 hlk_36.1 hlk_36.2.1 (Or.inl (fun e9 => kd_ne hq_25.2 hlk_36.2.1 (by decide) (show xb_5 = pr_35 from (by have q9 := (hak_18.owc xb_5 hq_25.1 hq_25.2).1.2.1; rw [epr_35.symm, e9] at q9; exact q9.symm))))
    have hak_42 : GLF L Pn_39 cO cI cZ sx_ed := hu_40.glf hak_18 hlk_36.1 hlk_36.2.1
    have hst_43 := hu_40.chgo hak_18.owa hlk_36.1 hlk_36.2.1
    have hel_44 : ∀ i : Int, 0 ≤ i → i < P.lz la → Pn_39.el la i = P.el la i := (fun i i0 i1 => (hu_40.elO hak_18.owa hlk_36.1 hlk_36.2.1 hq_23.1 hq_23.2 (ek_ne hek_29 hek_37 (by decide)) i0 (by omega)).trans (hel_20 i i0 i1))
    have hel_45 : ∀ i : Int, 0 ≤ i → i < P.lz lb → Pn_39.el lb i = P.el lb i := (fun i i0 i1 => (hu_40.elO hak_18.owa hlk_36.1 hlk_36.2.1 hq_24.1 hq_24.2 (ek_ne hek_31 hek_37 (by decide)) i0 (by omega)).trans (hel_21 i i0 i1))
    have hef_46 : Pn_39.el lb (z13_made) = xb_5 := (by have i0 : (0 : Int) ≤ z13_made := (by omega); exact (hu_40.elO hak_18.owa hlk_36.1 hlk_36.2.1 hq_24.1 hq_24.2 (ek_ne hek_31 hek_37 (by decide)) i0 (by omega)).trans hef_22)
    have hq_47 : la ∈ L ∧ Pn_39.kd la = 30 := hke_41.mem hq_23.1 hq_23.2 (by decide)
    have hq_48 : lb ∈ L ∧ Pn_39.kd lb = 30 := hke_41.mem hq_24.1 hq_24.2 (by decide)
    have hq_49 : xb_5 ∈ L ∧ Pn_39.kd xb_5 = 12 := hke_41.mem hq_25.1 hq_25.2 (by decide)
    have hq_50 : pr_11 ∈ L ∧ Pn_39.kd pr_11 = 30 := hke_41.mem hq_26.1 hq_26.2 (by decide)
    have hq_51 : pr_35 ∈ L ∧ Pn_39.kd pr_35 = 30 := hke_41.mem hlk_36.1 hlk_36.2.1 (by decide)
    have ha_52 : Pn_39.bp xb_5 = pr_11 := hke_41.bp hq_25.1 hq_25.2 ha_27
    have ha_53 : Pn_39.br xb_5 = pr_35 := hke_41.br hq_25.1 hq_25.2 epr_35.symm
    have hA_54 : KEG [la, lb] L P L Pn_39 := hA_28.trans hke_41
    have : Pn_39.lz pr_35 = 0 := hu_40.2.1
    have : Pn_39.lz la = Pn_15.lz la := hu_40.lz (ek_ne hek_29 hek_37 (by decide))
    have : Pn_39.lz lb = Pn_15.lz lb := hu_40.lz (ek_ne hek_31 hek_37 (by decide))
    have : Pn_39.lz pr_11 = Pn_15.lz pr_11 := hu_40.lz (ek_ne hek_33 hek_37 (by decide))
    have : Pn_39.cap la = Pn_15.cap la := hu_40.cap la
    have : Pn_39.cap lb = Pn_15.cap lb := hu_40.cap lb
    have hek_55 : Pn_39.ek la = 12 := (by rw [hke_41.ek hq_23.1 hq_23.2 (by decide)]; exact hek_29)
    have how_56 : Pn_39.ow la = la := ((hke_41.1 la hq_23.1 (by rw [hq_23.2]; decide)).2.2.2.1 hq_23.2 how_30).1
    have hek_57 : Pn_39.ek lb = 12 := (by rw [hke_41.ek hq_24.1 hq_24.2 (by decide)]; exact hek_31)
    have how_58 : Pn_39.ow lb = lb := ((hke_41.1 lb hq_24.1 (by rw [hq_24.2]; decide)).2.2.2.1 hq_24.2 how_32).1
    have hek_59 : Pn_39.ek pr_11 = 15 := (by rw [hke_41.ek hq_26.1 hq_26.2 (by decide)]; exact hek_33)
    have hek_60 : Pn_39.ek pr_35 = 17 := (by rw [hke_41.ek hlk_36.1 hlk_36.2.1 (by decide)]; exact hek_37)
    refine lv_aload_n hx hb dX13_block_68 rfl (lv_at hl 1 rfl) ?_
    refine va_get (D := (dC, dI)) (ci := 12) (v := .ref la) (C := RX13) (T := TX13) (N := 7) hx hb hts mem_P13_blockG_0 hown hK hP 0 rfl rfl 5 (by decide) (ow (k := 15) rfl) (fun _ h9 => h9) rfl dX13_block_69 ?_
    refine lv_aload_n hx hb dX13_block_72 rfl (lv_at hl 0 rfl) ?_
    have hlk_61 := (show LOK L Pn_39 cO 12 la from (by have q9 := (hak_42.gla la hq_47.1 hq_47.2).1; rw [hek_55] at q9; exact q9))
    have hX_x := hlk_61.1
    have hX_k := hlk_61.2.1
    have hlz9 := hlk_61.2.2.1
    have hX_c := hak_42.adc hlk_61
    have hX_y : xb_5 ∈ L ∧ OBK (Pn_39.kd xb_5) := ⟨hq_49.1, (by rw [hq_49.2]; unfold OBK; decide)⟩
    have hPc := hP.part (X := [(hc, .inr (12, [.ref lb, v13_1, v13_2, v13_3, v13_4, .ref la, .int (zI (z_9))]))]) (cx := []) (pl := va_pl L (pE Pn_39)) [] rfl
    have hDc := hD.part (X := [(hc, .inr (12, [.ref lb, v13_1, v13_2, v13_3, v13_4, .ref la, .int (zI (z_9))]))]) (cx := []) (pl := va_pl L (pE Pn_39)) [] (by decide) rfl
    have hKc := hK.sub (tys' := [(cO, .object "java/lang/Object")]) [2] rfl
    have hFc := va_freeP (X := [(hc, .inr (12, [.ref lb, v13_1, v13_2, v13_3, v13_4, .ref la, .int (zI (z_9))]))]) (cx := []) (pl := va_pl L (pE Pn_39)) hD hS hA [] rfl
    have hgl := ADC.gl hX_c
    refine va_calli (va_runV (As := [.ref xb_5]) (rest := []) ⟨hx, hb, hml, hown, hts⟩ (c_PL_addAR l dC dI cO L Pn_39 la xb_5 sx_ed hX_x hX_k (by omega) hX_c hX_y H.size sx_mi) (cwV 1 hts g_P13_blockG_PL_addAR rfl rfl rfl (by decide +kernel) ⟨(Nat.le_of_ble_eq_true rfl), (Nat.le_of_ble_eq_true rfl)⟩) ⟨fun a U g mk q => by obtain ⟨q0, q1, qP, qK, qD, e0, e1, e2, e3, e4, e5, e6, e7⟩ := q; exact ⟨q0, q1, qP, va_K.moved (u := U) (U := U.calling g mk a) (Vm.Alike.refl U.vm) qK, qD, va_Nw.same rfl (u := U) (U := U.calling g mk a) rfl e0, va_Nw.same rfl (u := U) (U := U.calling g mk a) rfl e1, va_Nw.same rfl (u := U) (U := U.calling g mk a) rfl e2, va_Dc.moved (u := U) (U := U.calling g mk a) (Vm.Alike.refl U.vm) e3, va_Mi.moved (u := U) (U := U.calling g mk a) (Vm.Alike.refl U.vm) e4, va_AO.moved (u := U) (U := U.calling g mk a) (Vm.Alike.refl U.vm) e5, va_T.moved (u := U) (U := U.calling g mk a) (Vm.Alike.refl U.vm) e6, va_Z.moved (u := U) (U := U.calling g mk a) (Vm.Alike.refl U.vm) e7⟩, recv_30 hKc hPc hq_47.1 hq_47.2, fun U hU hW => ⟨rfl, by rw [hU], by rw [hU]; exact hPc, va_K.moved hW.alike hKc, hDc.weaken (fun _ _ _ _ => trivial), va_Nw.warmC hW hp1, va_Nw.warmC hW hp2, va_Nw.warmC hW hp3, va_Dc.moved hW.alike hp4, va_Mi.moved hW.alike hp5, va_AO.moved hW.alike hp6, by rw [hU]; exact va_T.narrow (va_T.moved hW.alike (va_T.kept hp7 hS.2.1)) hFc, by rw [hU]; exact va_Z.narrow (va_Z.moved hW.alike (va_Z.kept hp8 hS.2.1)) hFc⟩⟩ rfl rfl hl.1 rfl (lv_room (Nat.le_of_ble_eq_true rfl)) dX13_block_73 ⟨(Nat.le_trans (show 0 + (Pn_39.gc la) ≤ 1 by omega) (Nat.le_of_ble_eq_true rfl)), (Nat.le_trans (show 0 + (Pn_39.gs la) ≤ 100000 by omega) (Nat.le_of_ble_eq_true rfl))⟩) hS (fun q _ h => hFc q h) hFc (fun r_62 z_63 t H1 locs ht hvm hw hB hz1 hk1 hS => ?_)
    obtain ⟨Ln_64, Pn_65, hxt_65, hP1, hK1, hD1⟩ := hB
    rw [ht] at hP1
    have hK1 := va_K.moved hvm.symm hK1
    obtain ⟨hP, hD⟩ := va_joinP (X := [(hc, .inr (12, [.ref lb, v13_1, v13_2, v13_3, v13_4, .ref la, .int (zI (z_9))]))]) (cx := []) (wr := [(hc, .inr (12, [.ref lb, v13_1, v13_2, v13_3, v13_4, .ref la, .int (zI (z_9))]))]) (rx := []) (pl := va_pl L (pE Pn_39)) (pl1 := va_pl Ln_64 (pE Pn_65)) hP hD [] [0] rfl rfl (by decide) (by decide) hk1 hFc hP1 hD1
    have hK := (hK.sub (tys' := [(cI, .int), (cZ, .boolean)]) [0, 1] rfl).app hK1
    generalize H1 = H at hP hS ⊢
    have hP : va_P (dC, dI) vwQ ([(hc, .inr (12, [.ref lb, v13_1, v13_2, v13_3, v13_4, .ref la, .int (zI (z_9))]))] ++ va_pl Ln_64 (pE Pn_65)) H := hP
    have hD : va_D A ([(hc, .inr (12, [.ref lb, v13_1, v13_2, v13_3, v13_4, .ref la, .int (zI (z_9))]))] ++ va_pl Ln_64 (pE Pn_65)) := hD
    have hK : va_K (dC, dI) vwQ [(cI, .int), (cZ, .boolean), (cO, .object "java/lang/Object")] s := hK
    refine W.widen (k := (0 + (Pn_39.gc la))) (n := (0 + (Pn_39.gs la))) (by omega) (by omega) ?_
    obtain ⟨rfl, hzz_63⟩ := hw
    have hu_66 := hxt_65
    have hfx := hu_66.2.2.2.2.2.2.2
    have han := hu_66.2.2.2.1
    have hke_67 : KEG [la, lb] L Pn_39 Ln_64 Pn_65 := hu_66.1.keg hak_42 hq_47.1 hq_47.2 hfx (Or.inr (by simp))
    have hak_68 : GLF Ln_64 Pn_65 cO cI cZ sx_ed := hak_42.add hu_66.1 hq_47.1 hq_47.2 hfx hek_55 hq_49.1 hq_49.2 hu_66.2.1 (by omega) hu_66.2.2.1 hu_66.2.2.2.1.1 (by have q9 := hak_42.adc40 hlk_61; omega) hu_66.2.2.2.2.1 hu_66.2.2.2.2.2.1 hu_66.2.2.2.2.2.2.1 (fun q9 => absurd q9 (by decide))
    have hgr9 := (gro_cap (P := Pn_39) (P' := Pn_65) (x := la) (hak_42.adcl hlk_61) hu_66.1.1.2.2.2.2.2.2.2.2 hu_66.2.2.2.1.1 hu_66.2.2.2.1.2.2.1 hu_66.2.2.2.1.2.2.2 hu_66.2.2.2.1.2.1).1
    clear han
    have hst_69 := hu_66.1.chgo hak_42.owa hq_47.1 hq_47.2 hfx
    have hza := hu_66.2.1
    have hel_70 : ∀ i : Int, 0 ≤ i → i < P.lz la → Pn_65.el la i = P.el la i := (fun i i0 i1 => (hu_66.1.elx hu_66.2.2.2.2.2.2.1 i0 (by omega)).trans (hel_44 i i0 i1))
    have hel_71 : ∀ i : Int, 0 ≤ i → i < P.lz lb → Pn_65.el lb i = P.el lb i := (fun i i0 i1 => (hu_66.1.elO hak_42.owa hq_47.1 hq_47.2 hfx hq_48.1 hq_48.2 hX_ab.symm i0 (by omega)).trans (hel_45 i i0 i1))
    have hef_72 : Pn_65.el lb (z13_made) = xb_5 := (by have i0 : (0 : Int) ≤ z13_made := (by omega); exact (hu_66.1.elO hak_42.owa hq_47.1 hq_47.2 hfx hq_48.1 hq_48.2 hX_ab.symm i0 (by omega)).trans hef_46)
    have hlast := hu_66.1.elast hu_66.2.2.2.2.2.1
    have hq_73 : la ∈ Ln_64 ∧ Pn_65.kd la = 30 := hke_67.mem hq_47.1 hq_47.2 (by decide)
    have hq_74 : lb ∈ Ln_64 ∧ Pn_65.kd lb = 30 := hke_67.mem hq_48.1 hq_48.2 (by decide)
    have hq_75 : xb_5 ∈ Ln_64 ∧ Pn_65.kd xb_5 = 12 := hke_67.mem hq_49.1 hq_49.2 (by decide)
    have hq_76 : pr_11 ∈ Ln_64 ∧ Pn_65.kd pr_11 = 30 := hke_67.mem hq_50.1 hq_50.2 (by decide)
    have hq_77 : pr_35 ∈ Ln_64 ∧ Pn_65.kd pr_35 = 30 := hke_67.mem hq_51.1 hq_51.2 (by decide)
    have ha_78 : Pn_65.bp xb_5 = pr_11 := hke_67.bp hq_49.1 hq_49.2 ha_52
    have ha_79 : Pn_65.br xb_5 = pr_35 := hke_67.br hq_49.1 hq_49.2 ha_53
    have hA_80 : KEG [la, lb] L P Ln_64 Pn_65 := hA_54.trans hke_67
    have : Pn_65.lz lb = Pn_39.lz lb := (hu_66.1.chg lb hq_48.1 (fun q9 => by rcases q9 with q9 | q9; exact hX_ab.symm q9; exact hak_42.owa.nle hq_47.1 hq_47.2 hfx hq_48.1 (by rw [hq_48.2]; decide) q9)).2.1 0
    have : Pn_65.lz pr_11 = Pn_39.lz pr_11 := (hu_66.1.chg pr_11 hq_50.1 (fun q9 => by rcases q9 with q9 | q9; exact (ek_ne hek_59 hek_55 (by decide)) q9; exact hak_42.owa.nle hq_47.1 hq_47.2 hfx hq_50.1 (by rw [hq_50.2]; decide) q9)).2.1 0
    have : Pn_65.lz pr_35 = Pn_39.lz pr_35 := (hu_66.1.chg pr_35 hq_51.1 (fun q9 => by rcases q9 with q9 | q9; exact (ek_ne hek_60 hek_55 (by decide)) q9; exact hak_42.owa.nle hq_47.1 hq_47.2 hfx hq_51.1 (by rw [hq_51.2]; decide) q9)).2.1 0
    have : Pn_65.cap lb = Pn_39.cap lb := hu_66.1.capO hak_42.owa hq_47.1 hq_47.2 hfx hq_48.1 hq_48.2 hX_ab.symm
    have hza := hu_66.2.1
    have hek_81 : Pn_65.ek la = 12 := (by rw [hke_67.ek hq_47.1 hq_47.2 (by decide)]; exact hek_55)
    have how_82 : Pn_65.ow la = la := ((hke_67.1 la hq_47.1 (by rw [hq_47.2]; decide)).2.2.2.1 hq_47.2 how_56).1
    have hek_83 : Pn_65.ek lb = 12 := (by rw [hke_67.ek hq_48.1 hq_48.2 (by decide)]; exact hek_57)
    have how_84 : Pn_65.ow lb = lb := ((hke_67.1 lb hq_48.1 (by rw [hq_48.2]; decide)).2.2.2.1 hq_48.2 how_58).1
    have hek_85 : Pn_65.ek pr_11 = 15 := (by rw [hke_67.ek hq_50.1 hq_50.2 (by decide)]; exact hek_59)
    have hek_86 : Pn_65.ek pr_35 = 17 := (by rw [hke_67.ek hq_51.1 hq_51.2 (by decide)]; exact hek_60)
    clear hfx
    refine lv_pop hx hb dX13_block_76 rfl ?_
    refine lv_aload_n hx hb dX13_block_77 rfl (lv_at hl 0 rfl) ?_
    subst hQ
    have hK := hK.sub (tys' := [(cO, .object "java/lang/Object"), (cI, .int), (cZ, .boolean)]) [2, 0, 1] rfl
    refine W_knowS (fun hrm9 => ?_)
    refine W.widen (k := 6) (n := 200018) (by omega) (by omega) ?_
    exact W.aret (v := .ref xb_5) hx hb hr (Or.inl ⟨_, rfl⟩) (Or.inr ⟨_, rfl⟩) (fun t ht hW => ⟨⟨(), xb_5, rfl, trivial, z_9, Ln_64, Pn_65, (0 + (Pn_39.gc la)), (0 + (Pn_39.gs la)), ⟨⟨(by rw [ht, ← hp9]; exact hrm9), (by omega)⟩, ⟨(by omega), ⟨hA_80, hak_68, ⟨⟨hq_75.1, hq_75.2, hef_72.symm, (by have h9 := hlast; rw [show Pn_39.lz la = P.lz la from (by omega)] at h9; exact h9.symm), (by rw [ha_78]; omega), (by rw [ha_79]; omega)⟩, ⟨by omega, by omega, by omega⟩, hel_70, hel_71, ((((CHG.refl _ _ _).step hst_19 (Or.inr (Or.inr (Or.inl ha_78.symm)))).step hst_43 (Or.inr (Or.inr (Or.inr ha_79.symm)))).step hst_69 (Or.inl rfl))⟩, by omega⟩⟩⟩, by rw [ht]; exact hP, va_K.moved hW.alike hK, hD⟩, hS.F ht⟩) hS.2.2 dX13_block_78
  · have yb11 : (z13_made : Int) = (P.lz lb : Int) := (zI_eq (a := z13_made) (b := P.lz lb) (by omega) (by omega) (by omega) (by omega)).mp b11
    refine lv_aload_n hx hb dX13_block_14 rfl (lv_at hl 0 rfl) ?_
    refine va_get (D := (dC, dI)) (ci := 12) (v := .ref lb) (C := RX13) (T := TX13) (N := 7) hx hb hts mem_P13_blockG_0 hown hK hP 0 rfl rfl 0 (by decide) (ow (k := 1) rfl) (fun _ h9 => h9) rfl dX13_block_15 ?_
    refine va_new (ci := 19) (fs := [.null, .null, .null, .int 0, .int 0]) (C := RX12) (T := TX12) (N := 5) hx hb hts mem_P13_blockG_3 tyX12 tyX12_ok hown (ow (k := 19) rfl) (ow (k := 20) rfl) (ow (k := 21) rfl) hK hP hD hS hA rfl (df_X12) (Nat.le_of_ble_eq_true rfl) (Nat.le_of_ble_eq_true rfl) dX13_block_18 (fun q_87 H hP hD hS => ?_)
    have hP := pl_Pp (pl_new (X := [(hc, .inr (12, [.ref lb, v13_1, v13_2, v13_3, v13_4, .ref la, .int (zI (z13_made))]))]) (pl := va_pl L (pE P))) hP
    have hD := pl_Dp (pl_new (X := [(hc, .inr (12, [.ref lb, v13_1, v13_2, v13_3, v13_4, .ref la, .int (zI (z13_made))]))]) (pl := va_pl L (pE P))) hD
    have hP : va_P (dC, dI) vwQ ([(hc, .inr (12, [.ref lb, v13_1, v13_2, v13_3, v13_4, .ref la, .int (zI (z13_made))])), (q_87, .inr (19, [.null, .null, .null, .int 0, .int 0]))] ++ va_pl L (pE P)) H := hP
    have hD : va_D A ([(hc, .inr (12, [.ref lb, v13_1, v13_2, v13_3, v13_4, .ref la, .int (zI (z13_made))])), (q_87, .inr (19, [.null, .null, .null, .int 0, .int 0]))] ++ va_pl L (pE P)) := hD
    refine W.widen (k := 1) (n := 5) (Nat.le_of_ble_eq_true rfl) (Nat.le_of_ble_eq_true rfl) ?_
    refine lv_dup hx hb dX13_block_21 rfl ?_
    have hPc := hP.part (X := [(hc, .inr (12, [.ref lb, v13_1, v13_2, v13_3, v13_4, .ref la, .int (zI (z13_made))])), (q_87, .inr (19, [.null, .null, .null, .int 0, .int 0]))]) (cx := [(q_87, .inr (19, [.null, .null, .null, .int 0, .int 0]))]) (pl := va_pl L (pE P)) [1] rfl
    have hDc := hD.part (X := [(hc, .inr (12, [.ref lb, v13_1, v13_2, v13_3, v13_4, .ref la, .int (zI (z13_made))])), (q_87, .inr (19, [.null, .null, .null, .int 0, .int 0]))]) (cx := [(q_87, .inr (19, [.null, .null, .null, .int 0, .int 0]))]) (pl := va_pl L (pE P)) [1] (by decide) rfl
    have hKc := hK.sub (tys' := [(cO, .object "java/lang/Object"), (cI, .int), (cZ, .boolean)]) [2, 0, 1] rfl
    have hFc := va_freeP (X := [(hc, .inr (12, [.ref lb, v13_1, v13_2, v13_3, v13_4, .ref la, .int (zI (z13_made))])), (q_87, .inr (19, [.null, .null, .null, .int 0, .int 0]))]) (cx := [(q_87, .inr (19, [.null, .null, .null, .int 0, .int 0]))]) (pl := va_pl L (pE P)) hD hS hA [1] rfl
    refine va_callv (va_runIN (As := []) (rest := [.ref q_87, .ref lb]) ⟨hx, hb, hml, hown, hts⟩ (c_X12_init l dC dI cI cZ q_87 cO L P sx_ed H.size) ⟨va_cnB 0 hts (goodIn_sub mem_P13_blockG_6 gw_X12_init) rfl rfl rfl hp11 (ow (k := 21) rfl) (by decide +kernel) ⟨(Nat.le_of_ble_eq_true rfl), (Nat.le_of_ble_eq_true rfl)⟩, rfl, (ow (k := 22) rfl)⟩ ⟨fun a U g mk q => by obtain ⟨q0, q1, qP, qK, qD, e0, e1⟩ := q; exact ⟨q0, q1, qP, va_K.moved (u := U) (U := U.calling g mk a) (Vm.Alike.refl U.vm) qK, qD, va_Z.moved (u := U) (U := U.calling g mk a) (Vm.Alike.refl U.vm) e0, va_Nw.same rfl (u := U) (U := U.calling g mk a) rfl e1⟩, fun U hU hW => ⟨rfl, by rw [hU], by rw [hU]; exact hPc, va_K.moved hW.alike hKc, hDc.weaken (fun _ _ _ _ => trivial), by rw [hU]; exact va_Z.narrow (va_Z.moved hW.alike (va_Z.kept hp8 hS.2.1)) hFc, va_Nw.warmM hW hp10⟩⟩ rfl rfl hl.1 rfl (lv_room (Nat.le_of_ble_eq_true rfl)) dX13_block_22 ⟨(Nat.le_of_ble_eq_true rfl), (Nat.le_of_ble_eq_true rfl)⟩) hS (fun q _ h => hFc q h) hFc (fun  u t H1 locs ht hvm hw hB hz1 hk1 hS => ?_)
    obtain ⟨q0_88, q1_89, q2_90, Ln_91, Pn_92, hxt_92, hP1, hK1, hD1⟩ := hB
    rw [ht] at hP1
    have hK1 := va_K.moved hvm.symm hK1
    obtain ⟨hP, hD⟩ := va_joinP (X := [(hc, .inr (12, [.ref lb, v13_1, v13_2, v13_3, v13_4, .ref la, .int (zI (z13_made))])), (q_87, .inr (19, [.null, .null, .null, .int 0, .int 0]))]) (cx := [(q_87, .inr (19, [.null, .null, .null, .int 0, .int 0]))]) (wr := [(hc, .inr (12, [.ref lb, v13_1, v13_2, v13_3, v13_4, .ref la, .int (zI (z13_made))]))]) (rx := [(q_87, .inr (19, [.ref q0_88, .ref q1_89, .ref q2_90, .int 0, .int 0]))]) (pl := va_pl L (pE P)) (pl1 := va_pl Ln_91 (pE Pn_92)) hP hD [1] [0] rfl rfl (by decide) (by decide) hk1 hFc hP1 hD1
    have hK := (hK.sub (tys' := []) [] rfl).app hK1
    generalize H1 = H at hP hS ⊢
    have hP : va_P (dC, dI) vwQ ([(hc, .inr (12, [.ref lb, v13_1, v13_2, v13_3, v13_4, .ref la, .int (zI (z13_made))])), (q_87, .inr (19, [.ref q0_88, .ref q1_89, .ref q2_90, .int 0, .int 0]))] ++ va_pl Ln_91 (pE Pn_92)) H := hP
    have hD : va_D A ([(hc, .inr (12, [.ref lb, v13_1, v13_2, v13_3, v13_4, .ref la, .int (zI (z13_made))])), (q_87, .inr (19, [.ref q0_88, .ref q1_89, .ref q2_90, .int 0, .int 0]))] ++ va_pl Ln_91 (pE Pn_92)) := hD
    have hK : va_K (dC, dI) vwQ [(cO, .object "java/lang/Object"), (cI, .int), (cZ, .boolean)] s := hK
    refine W.widen (k := 4) (n := 18) (Nat.le_of_ble_eq_true rfl) (Nat.le_of_ble_eq_true rfl) ?_
    have hu_93 := hxt_92
    have hak_95 : GLF Ln_91 Pn_92 cO cI cZ sx_ed := hX_g9.ext hu_93.1 hu_93.2.1
    have hke_94 : KEG [la, lb] L P Ln_91 Pn_92 := hu_93.1.keg hX_g9
    have hel_96 : ∀ i : Int, 0 ≤ i → i < P.lz la → Pn_92.el la i = P.el la i := (fun i i0 i1 => (hu_93.1.el hX_g9.owa hC_la.1 hC_la.2.1 i0 (by omega)))
    have hel_97 : ∀ i : Int, 0 ≤ i → i < P.lz lb → Pn_92.el lb i = P.el lb i := (fun i i0 i1 => (hu_93.1.el hX_g9.owa hC_lb.1 hC_lb.2.1 i0 (by omega)))
    have hq_98 : la ∈ Ln_91 ∧ Pn_92.kd la = 30 := hke_94.mem hC_la.1 hC_la.2.1 (by decide)
    have hq_99 : lb ∈ Ln_91 ∧ Pn_92.kd lb = 30 := hke_94.mem hC_lb.1 hC_lb.2.1 (by decide)
    have hA_100 : KEG [la, lb] L P Ln_91 Pn_92 := (KEG.refl [la, lb] L P).trans hke_94
    have : Pn_92.lz la = P.lz la := (hu_93.1 la hC_la.1).2.1 0
    have : Pn_92.lz lb = P.lz lb := (hu_93.1 lb hC_lb.1).2.1 0
    have : Pn_92.cap la = P.cap la := hu_93.1.cap hX_g9.owa hC_la.1 hC_la.2.1
    have : Pn_92.cap lb = P.cap lb := hu_93.1.cap hX_g9.owa hC_lb.1 hC_lb.2.1
    have hek_101 : Pn_92.ek la = 12 := (by rw [hke_94.ek hC_la.1 hC_la.2.1 (by decide)]; exact hC_la.2.2.1)
    have how_102 : Pn_92.ow la = la := ((hke_94.1 la hC_la.1 (by rw [hC_la.2.1]; decide)).2.2.2.1 hC_la.2.1 hC_la.2.2.2).1
    have hek_103 : Pn_92.ek lb = 12 := (by rw [hke_94.ek hC_lb.1 hC_lb.2.1 (by decide)]; exact hC_lb.2.2.1)
    have how_104 : Pn_92.ow lb = lb := ((hke_94.1 lb hC_lb.1 (by rw [hC_lb.2.1]; decide)).2.2.2.1 hC_lb.2.1 hC_lb.2.2.2).1
    have hqn_107 : q_87 ∉ Ln_91 := pl_notin (X := [(hc, .inr (12, [.ref lb, v13_1, v13_2, v13_3, v13_4, .ref la, .int (zI (z13_made))]))]) hD
    obtain ⟨Pm_105, ePm_105⟩ : ∃ Q9 : PO, Q9 = Pn_92.mblock q_87 q0_88 q1_89 q2_90 := ⟨_, rfl⟩
    obtain ⟨Lm_106, eLm_106⟩ : ∃ l9 : List Nat, l9 = q_87 :: Ln_91 := ⟨_, rfl⟩
    obtain ⟨hP, hD⟩ := pool_new (X := [(hc, .inr (12, [.ref lb, v13_1, v13_2, v13_3, v13_4, .ref la, .int (zI (z13_made))]))]) (P' := Pm_105) (by rw [ePm_105]; exact pE_mblock Pn_92 q_87 q0_88 q1_89 q2_90) hP hD
    rw [← eLm_106] at hP hD
    have hex_108 : EXT9 Ln_91 Pn_92 Lm_106 Pm_105 := (by rw [eLm_106, ePm_105]; exact EXT9.one hqn_107)
    have hm9 := mblock_at Pn_92 q_87 q0_88 q1_89 q2_90
    rw [← ePm_105] at hm9
    have hak_109 : GLF Lm_106 Pm_105 cO cI cZ sx_ed := (by rw [eLm_106] at hex_108 ⊢; exact hak_95.new1 hex_108 (by rw [ePm_105]; exact mblock_new hqn_107 hu_93.2.2.1 hu_93.2.2.2.1 hu_93.2.2.2.2))
    have hke_110 : KEG [la, lb] Ln_91 Pn_92 Lm_106 Pm_105 := hex_108.keg hak_95
    have hP : va_P (dC, dI) vwQ ([(hc, .inr (12, [.ref lb, v13_1, v13_2, v13_3, v13_4, .ref la, .int (zI (z13_made))]))] ++ va_pl Lm_106 (pE Pm_105)) H := hP
    have hD : va_D A ([(hc, .inr (12, [.ref lb, v13_1, v13_2, v13_3, v13_4, .ref la, .int (zI (z13_made))]))] ++ va_pl Lm_106 (pE Pm_105)) := hD
    have hel_111 : ∀ i : Int, 0 ≤ i → i < P.lz la → Pm_105.el la i = P.el la i := (fun i i0 i1 => (hex_108.el hak_95.owa hq_98.1 hq_98.2 i0 (by omega)).trans (hel_96 i i0 i1))
    have hel_112 : ∀ i : Int, 0 ≤ i → i < P.lz lb → Pm_105.el lb i = P.el lb i := (fun i i0 i1 => (hex_108.el hak_95.owa hq_99.1 hq_99.2 i0 (by omega)).trans (hel_97 i i0 i1))
    have hq_113 : la ∈ Lm_106 ∧ Pm_105.kd la = 30 := hke_110.mem hq_98.1 hq_98.2 (by decide)
    have hq_114 : lb ∈ Lm_106 ∧ Pm_105.kd lb = 30 := hke_110.mem hq_99.1 hq_99.2 (by decide)
    have hA_115 : KEG [la, lb] L P Lm_106 Pm_105 := hA_100.trans hke_110
    have : Pm_105.lz la = Pn_92.lz la := (hex_108 la hq_98.1).2.1 0
    have : Pm_105.lz lb = Pn_92.lz lb := (hex_108 lb hq_99.1).2.1 0
    have : Pm_105.cap la = Pn_92.cap la := hex_108.cap hak_95.owa hq_98.1 hq_98.2
    have : Pm_105.cap lb = Pn_92.cap lb := hex_108.cap hak_95.owa hq_99.1 hq_99.2
    have hek_116 : Pm_105.ek la = 12 := (by rw [hke_110.ek hq_98.1 hq_98.2 (by decide)]; exact hek_101)
    have how_117 : Pm_105.ow la = la := ((hke_110.1 la hq_98.1 (by rw [hq_98.2]; decide)).2.2.2.1 hq_98.2 how_102).1
    have hek_118 : Pm_105.ek lb = 12 := (by rw [hke_110.ek hq_99.1 hq_99.2 (by decide)]; exact hek_103)
    have how_119 : Pm_105.ow lb = lb := ((hke_110.1 lb hq_99.1 (by rw [hq_99.2]; decide)).2.2.2.1 hq_99.2 how_104).1
    have hex_120 := hu_93.1.trans hex_108
    have hm_121 : q_87 ∈ Lm_106 := (by rw [eLm_106]; exact List.mem_cons_self)
    have hk_122 := hm9.1
    have hlk_123 := (show LOK Lm_106 Pm_105 cO 12 lb from (by have q9 := (hak_109.gla lb hq_114.1 hq_114.2).1; rw [hek_118] at q9; exact q9))
    have hX_x := hlk_123.1
    have hX_k := hlk_123.2.1
    have hlz9 := hlk_123.2.2.1
    have hX_c := hak_109.adc hlk_123
    have hX_y : q_87 ∈ Lm_106 ∧ OBK (Pm_105.kd q_87) := ⟨hm_121, (by rw [hk_122]; unfold OBK; decide)⟩
    have hPc := hP.part (X := [(hc, .inr (12, [.ref lb, v13_1, v13_2, v13_3, v13_4, .ref la, .int (zI (z13_made))]))]) (cx := []) (pl := va_pl Lm_106 (pE Pm_105)) [] rfl
    have hDc := hD.part (X := [(hc, .inr (12, [.ref lb, v13_1, v13_2, v13_3, v13_4, .ref la, .int (zI (z13_made))]))]) (cx := []) (pl := va_pl Lm_106 (pE Pm_105)) [] (by decide) rfl
    have hKc := hK.sub (tys' := [(cO, .object "java/lang/Object")]) [0] rfl
    have hFc := va_freeP (X := [(hc, .inr (12, [.ref lb, v13_1, v13_2, v13_3, v13_4, .ref la, .int (zI (z13_made))]))]) (cx := []) (pl := va_pl Lm_106 (pE Pm_105)) hD hS hA [] rfl
    have hgl := ADC.gl hX_c
    refine va_calli (va_runV (As := [.ref q_87]) (rest := []) ⟨hx, hb, hml, hown, hts⟩ (c_PL_addAR l dC dI cO Lm_106 Pm_105 lb q_87 sx_ed hX_x hX_k (by omega) hX_c hX_y H.size sx_mi) (cwV 1 hts g_P13_blockG_PL_addAR rfl rfl rfl (by decide +kernel) ⟨(Nat.le_of_ble_eq_true rfl), (Nat.le_of_ble_eq_true rfl)⟩) ⟨fun a U g mk q => by obtain ⟨q0, q1, qP, qK, qD, e0, e1, e2, e3, e4, e5, e6, e7⟩ := q; exact ⟨q0, q1, qP, va_K.moved (u := U) (U := U.calling g mk a) (Vm.Alike.refl U.vm) qK, qD, va_Nw.same rfl (u := U) (U := U.calling g mk a) rfl e0, va_Nw.same rfl (u := U) (U := U.calling g mk a) rfl e1, va_Nw.same rfl (u := U) (U := U.calling g mk a) rfl e2, va_Dc.moved (u := U) (U := U.calling g mk a) (Vm.Alike.refl U.vm) e3, va_Mi.moved (u := U) (U := U.calling g mk a) (Vm.Alike.refl U.vm) e4, va_AO.moved (u := U) (U := U.calling g mk a) (Vm.Alike.refl U.vm) e5, va_T.moved (u := U) (U := U.calling g mk a) (Vm.Alike.refl U.vm) e6, va_Z.moved (u := U) (U := U.calling g mk a) (Vm.Alike.refl U.vm) e7⟩, recv_30 hKc hPc hq_114.1 hq_114.2, fun U hU hW => ⟨rfl, by rw [hU], by rw [hU]; exact hPc, va_K.moved hW.alike hKc, hDc.weaken (fun _ _ _ _ => trivial), va_Nw.warmC hW hp1, va_Nw.warmC hW hp2, va_Nw.warmC hW hp3, va_Dc.moved hW.alike hp4, va_Mi.moved hW.alike hp5, va_AO.moved hW.alike hp6, by rw [hU]; exact va_T.narrow (va_T.moved hW.alike (va_T.kept hp7 hS.2.1)) hFc, by rw [hU]; exact va_Z.narrow (va_Z.moved hW.alike (va_Z.kept hp8 hS.2.1)) hFc⟩⟩ rfl rfl hl.1 rfl (lv_room (Nat.le_of_ble_eq_true rfl)) dX13_block_25 ⟨(Nat.le_trans (show 4 + (Pm_105.gc lb) ≤ 5 by omega) (Nat.le_of_ble_eq_true rfl)), (Nat.le_trans (show 18 + (Pm_105.gs lb) ≤ 100018 by omega) (Nat.le_of_ble_eq_true rfl))⟩) hS (fun q _ h => hFc q h) hFc (fun r_124 z_125 t H1 locs ht hvm hw hB hz1 hk1 hS => ?_)
    obtain ⟨Ln_126, Pn_127, hxt_127, hP1, hK1, hD1⟩ := hB
    rw [ht] at hP1
    have hK1 := va_K.moved hvm.symm hK1
    obtain ⟨hP, hD⟩ := va_joinP (X := [(hc, .inr (12, [.ref lb, v13_1, v13_2, v13_3, v13_4, .ref la, .int (zI (z13_made))]))]) (cx := []) (wr := [(hc, .inr (12, [.ref lb, v13_1, v13_2, v13_3, v13_4, .ref la, .int (zI (z13_made))]))]) (rx := []) (pl := va_pl Lm_106 (pE Pm_105)) (pl1 := va_pl Ln_126 (pE Pn_127)) hP hD [] [0] rfl rfl (by decide) (by decide) hk1 hFc hP1 hD1
    have hK := (hK.sub (tys' := [(cI, .int), (cZ, .boolean)]) [1, 2] rfl).app hK1
    generalize H1 = H at hP hS ⊢
    have hP : va_P (dC, dI) vwQ ([(hc, .inr (12, [.ref lb, v13_1, v13_2, v13_3, v13_4, .ref la, .int (zI (z13_made))]))] ++ va_pl Ln_126 (pE Pn_127)) H := hP
    have hD : va_D A ([(hc, .inr (12, [.ref lb, v13_1, v13_2, v13_3, v13_4, .ref la, .int (zI (z13_made))]))] ++ va_pl Ln_126 (pE Pn_127)) := hD
    have hK : va_K (dC, dI) vwQ [(cI, .int), (cZ, .boolean), (cO, .object "java/lang/Object")] s := hK
    refine W.widen (k := (4 + (Pm_105.gc lb))) (n := (18 + (Pm_105.gs lb))) (by omega) (by omega) ?_
    obtain ⟨rfl, hzz_125⟩ := hw
    have hu_128 := hxt_127
    have hfx := hu_128.2.2.2.2.2.2.2
    have han := hu_128.2.2.2.1
    have hke_129 : KEG [la, lb] Lm_106 Pm_105 Ln_126 Pn_127 := hu_128.1.keg hak_109 hq_114.1 hq_114.2 hfx (Or.inr (by simp))
    have hak_130 : GLF Ln_126 Pn_127 cO cI cZ sx_ed := hak_109.add hu_128.1 hq_114.1 hq_114.2 hfx hek_118 hm_121 hk_122 hu_128.2.1 (by omega) hu_128.2.2.1 hu_128.2.2.2.1.1 (by have q9 := hak_109.adc40 hlk_123; omega) hu_128.2.2.2.2.1 hu_128.2.2.2.2.2.1 hu_128.2.2.2.2.2.2.1 (fun q9 => absurd q9 (by decide))
    have hgr9 := (gro_cap (P := Pm_105) (P' := Pn_127) (x := lb) (hak_109.adcl hlk_123) hu_128.1.1.2.2.2.2.2.2.2.2 hu_128.2.2.2.1.1 hu_128.2.2.2.1.2.2.1 hu_128.2.2.2.1.2.2.2 hu_128.2.2.2.1.2.1).1
    clear han
    have hst_131 := hu_128.1.chgo hak_109.owa hq_114.1 hq_114.2 hfx
    have hza := hu_128.2.1
    have hel_132 : ∀ i : Int, 0 ≤ i → i < P.lz la → Pn_127.el la i = P.el la i := (fun i i0 i1 => (hu_128.1.elO hak_109.owa hq_114.1 hq_114.2 hfx hq_113.1 hq_113.2 hX_ab i0 (by omega)).trans (hel_111 i i0 i1))
    have hel_133 : ∀ i : Int, 0 ≤ i → i < P.lz lb → Pn_127.el lb i = P.el lb i := (fun i i0 i1 => (hu_128.1.elx hu_128.2.2.2.2.2.2.1 i0 (by omega)).trans (hel_112 i i0 i1))
    have hq_134 : la ∈ Ln_126 ∧ Pn_127.kd la = 30 := hke_129.mem hq_113.1 hq_113.2 (by decide)
    have hq_135 : lb ∈ Ln_126 ∧ Pn_127.kd lb = 30 := hke_129.mem hq_114.1 hq_114.2 (by decide)
    have hq_136 : q_87 ∈ Ln_126 ∧ Pn_127.kd q_87 = 12 := hke_129.mem hm_121 hk_122 (by decide)
    have hA_137 : KEG [la, lb] L P Ln_126 Pn_127 := hA_115.trans hke_129
    have : Pn_127.lz la = Pm_105.lz la := (hu_128.1.chg la hq_113.1 (fun q9 => by rcases q9 with q9 | q9; exact hX_ab q9; exact hak_109.owa.nle hq_114.1 hq_114.2 hfx hq_113.1 (by rw [hq_113.2]; decide) q9)).2.1 0
    have : Pn_127.cap la = Pm_105.cap la := hu_128.1.capO hak_109.owa hq_114.1 hq_114.2 hfx hq_113.1 hq_113.2 hX_ab
    have hza := hu_128.2.1
    have hek_138 : Pn_127.ek la = 12 := (by rw [hke_129.ek hq_113.1 hq_113.2 (by decide)]; exact hek_116)
    have how_139 : Pn_127.ow la = la := ((hke_129.1 la hq_113.1 (by rw [hq_113.2]; decide)).2.2.2.1 hq_113.2 how_117).1
    have hek_140 : Pn_127.ek lb = 12 := (by rw [hke_129.ek hq_114.1 hq_114.2 (by decide)]; exact hek_118)
    have how_141 : Pn_127.ow lb = lb := ((hke_129.1 lb hq_114.1 (by rw [hq_114.2]; decide)).2.2.2.1 hq_114.2 how_119).1
    clear hfx
    refine lv_pop hx hb dX13_block_28 rfl ?_
    refine lv_aload_n hx hb dX13_block_29 rfl (lv_at hl 0 rfl) ?_
    refine va_get (D := (dC, dI)) (ci := 12) (v := .ref lb) (C := RX13) (T := TX13) (N := 7) hx hb hts mem_P13_blockG_0 hown hK hP 0 rfl rfl 0 (by decide) (ow (k := 1) rfl) (fun _ h9 => h9) rfl dX13_block_30 ?_
    refine lv_aload_n hx hb dX13_block_33 rfl (lv_at hl 0 rfl) ?_
    refine va_get (D := (dC, dI)) (ci := 12) (v := .int (zI (z13_made))) (C := RX13) (T := TX13) (N := 7) hx hb hts mem_P13_blockG_0 hown hK hP 0 rfl rfl 6 (by decide) (ow (k := 0) rfl) (fun _ h9 => h9) rfl dX13_block_34 ?_
    have hlk_142 := (show LOK Ln_126 Pn_127 cO 12 lb from (by have q9 := (hak_130.gla lb hq_135.1 hq_135.2).1; rw [hek_140] at q9; exact q9))
    obtain ⟨x, ex⟩ : ∃ q9 : Nat, q9 = Pn_127.el lb (z13_made) := ⟨_, rfl⟩
    have hX_x := hlk_142.1
    have hX_k := hlk_142.2.1
    have hq9 := hlk_142.row (i := z13_made) (by omega) (by omega)
    have hX_q : Pn_127.le lb ∈ Ln_126 ∧ Pn_127.kd (Pn_127.le lb) = 31 ∧ Pn_127.ac (Pn_127.le lb) = cO := ⟨hq9.1, hq9.2.1, hq9.2.2.1⟩
    have hq8 := hq9.2.2.2
    have hX_e0 : Pn_127.oa (Pn_127.le lb) (z13_made).toNat = some x := (by rw [ex]; exact (hlk_142.2.2.2.2 (z13_made) (by omega) (by omega)).1)
    have hxm : x ∈ Ln_126 := (by rw [ex]; exact (hlk_142.2.2.2.2 (z13_made) (by omega) (by omega)).2.1)
    have hxk := (hlk_142.2.2.2.2 (z13_made) (by omega) (by omega)).2.2
    rw [← ex] at hxk
    have hPc := hP.part (X := [(hc, .inr (12, [.ref lb, v13_1, v13_2, v13_3, v13_4, .ref la, .int (zI (z13_made))]))]) (cx := []) (pl := va_pl Ln_126 (pE Pn_127)) [] rfl
    have hDc := hD.part (X := [(hc, .inr (12, [.ref lb, v13_1, v13_2, v13_3, v13_4, .ref la, .int (zI (z13_made))]))]) (cx := []) (pl := va_pl Ln_126 (pE Pn_127)) [] (by decide) rfl
    have hKc := hK.sub (tys' := [(cO, .object "java/lang/Object")]) [2] rfl
    have hFc := va_freeP (X := [(hc, .inr (12, [.ref lb, v13_1, v13_2, v13_3, v13_4, .ref la, .int (zI (z13_made))]))]) (cx := []) (pl := va_pl Ln_126 (pE Pn_127)) hD hS hA [] rfl
    refine va_callr (va_runV (As := [.int (zI (z13_made))]) (rest := []) ⟨hx, hb, hml, hown, hts⟩ (c_PL_get l dC dI cO Ln_126 Pn_127 lb z13_made x hX_x hX_k hX_q (by omega) hX_e0 H.size) (cwV 1 hts g_P13_blockG_PL_get rfl rfl rfl (by decide +kernel) ⟨(Nat.le_of_ble_eq_true rfl), (Nat.le_of_ble_eq_true rfl)⟩) ⟨fun a U g mk q => by obtain ⟨q0, q1, qP, qK, qD⟩ := q; exact ⟨q0, q1, qP, va_K.moved (u := U) (U := U.calling g mk a) (Vm.Alike.refl U.vm) qK, qD⟩, recv_30 hKc hPc hq_135.1 hq_135.2, fun U hU hW => ⟨rfl, by rw [hU], by rw [hU]; exact hPc, va_K.moved hW.alike hKc, hDc.weaken (fun _ _ _ _ => trivial)⟩⟩ rfl rfl hl.1 rfl (lv_room (Nat.le_of_ble_eq_true rfl)) dX13_block_37 ⟨(Nat.le_trans (show (4 + (Pm_105.gc lb)) + 0 ≤ 5 by omega) (Nat.le_of_ble_eq_true rfl)), (Nat.le_trans (show (18 + (Pm_105.gs lb)) + 0 ≤ 100018 by omega) (Nat.le_of_ble_eq_true rfl))⟩) hS (fun q _ h => hFc q h) hFc (fun u q_143 t H1 locs ht hvm hw hB hz1 hk1 hS => ?_)
    obtain ⟨hxt_143, hP1, hK1, hD1⟩ := hB
    rw [ht] at hP1
    have hK1 := va_K.moved hvm.symm hK1
    obtain ⟨hP, hD⟩ := va_joinP (X := [(hc, .inr (12, [.ref lb, v13_1, v13_2, v13_3, v13_4, .ref la, .int (zI (z13_made))]))]) (cx := []) (wr := [(hc, .inr (12, [.ref lb, v13_1, v13_2, v13_3, v13_4, .ref la, .int (zI (z13_made))]))]) (rx := []) (pl := va_pl Ln_126 (pE Pn_127)) (pl1 := va_pl Ln_126 (pE Pn_127)) hP hD [] [0] rfl rfl (by decide) (by decide) hk1 hFc hP1 hD1
    have hK := (hK.sub (tys' := [(cI, .int), (cZ, .boolean)]) [0, 1] rfl).app hK1
    generalize H1 = H at hP hS ⊢
    have hP : va_P (dC, dI) vwQ ([(hc, .inr (12, [.ref lb, v13_1, v13_2, v13_3, v13_4, .ref la, .int (zI (z13_made))]))] ++ va_pl Ln_126 (pE Pn_127)) H := hP
    have hD : va_D A ([(hc, .inr (12, [.ref lb, v13_1, v13_2, v13_3, v13_4, .ref la, .int (zI (z13_made))]))] ++ va_pl Ln_126 (pE Pn_127)) := hD
    have hK : va_K (dC, dI) vwQ [(cI, .int), (cZ, .boolean), (cO, .object "java/lang/Object")] s := hK
    refine W.widen (k := (4 + (Pm_105.gc lb))) (n := (18 + (Pm_105.gs lb))) (by omega) (by omega) ?_
    rw [hxt_143]
    clear hX_e0
    obtain ⟨xb_144, h9⟩ : ∃ q9 : Nat, q9 = x := ⟨_, rfl⟩
    subst h9
    have hm_145 := hxm
    have hk_146 := hxk
    have hel9 := ex
    refine va_castY (C := "SsaForgeModel$Block") (nm := "SsaForgeModel$Block") hx hb hown (ow (k := 9) rfl) hp0 (recv_12 hK hP hm_145 hk_146) dX13_block_40 ?_
    refine lv_astore_n (lv' := [(1, .ref xb_144), (0, .ref hc)]) hx hb dX13_block_43 rfl hl (by decide) rfl (fun ls hl => ?_)
    refine lv_aload_n hx hb dX13_block_44 rfl (lv_at hl 1 rfl) ?_
    refine lv_dup hx hb dX13_block_45 rfl ?_
    refine va_get (D := (dC, dI)) (ci := 12) (v := .int (zI (z13_made))) (C := RX13) (T := TX13) (N := 7) hx hb hts mem_P13_blockG_0 hown hK hP 0 rfl rfl 6 (by decide) (ow (k := 0) rfl) (fun _ h9 => h9) rfl dX13_block_46 ?_
    refine lv_iconst (v := 1) hx hb dX13_block_49 (by decide) ?_
    refine lv_iadd hx hb dX13_block_50 ?_
    refine lv_topi (fun z ez => ?_)
    obtain rfl : z = zI (z13_made + 1) := ez.trans (zI_add (z13_made) (1))
    refine va_put (D := (dC, dI)) (ci := 12) (v := .int (zI (z13_made + 1))) (ty := .int) (C := RX13) (T := TX13) (N := 7) hx hb hts mem_P13_blockG_0 tyX13 tyX13_ok nmX13 hown hK hP hD hS 0 rfl rfl 6 (by decide) (ow (k := 0) rfl) (fun _ h9 => h9) rfl (by decide +kernel) rfl rfl (by first | exact Nat.le_of_ble_eq_true rfl | exact Nat.le_trans (show (4 + (Pm_105.gc lb)) ≤ 5 from (by omega)) (Nat.le_of_ble_eq_true rfl) | exact Nat.le_trans (show (18 + (Pm_105.gs lb)) ≤ 100018 from (by omega)) (Nat.le_of_ble_eq_true rfl)) dX13_block_51 (fun H locs hP hD hS => ?_)
    have hP : va_P (dC, dI) vwQ ([(hc, .inr (12, [.ref lb, v13_1, v13_2, v13_3, v13_4, .ref la, .int (zI (z13_made + 1))]))] ++ va_pl Ln_126 (pE Pn_127)) H := hP
    have hD : va_D A ([(hc, .inr (12, [.ref lb, v13_1, v13_2, v13_3, v13_4, .ref la, .int (zI (z13_made + 1))]))] ++ va_pl Ln_126 (pE Pn_127)) := hD
    obtain ⟨z_148, ez_148⟩ : ∃ z9 : Int, z9 = z13_made + 1 := ⟨_, rfl⟩
    rw [← ez_148] at hP hD
    have hP : va_P (dC, dI) vwQ ([(hc, .inr (12, [.ref lb, v13_1, v13_2, v13_3, v13_4, .ref la, .int (zI (z_148))]))] ++ va_pl Ln_126 (pE Pn_127)) H := hP
    have hD : va_D A ([(hc, .inr (12, [.ref lb, v13_1, v13_2, v13_3, v13_4, .ref la, .int (zI (z_148))]))] ++ va_pl Ln_126 (pE Pn_127)) := hD
    refine lv_aload_n hx hb dX13_block_54 rfl (lv_at hl 0 rfl) ?_
    have hfb := (hak_130.gb hm_145 hk_146).2
    obtain ⟨kp_149, hkp_149⟩ := va_pl_get (X := [(hc, .inr (12, [.ref lb, v13_1, v13_2, v13_3, v13_4, .ref la, .int (zI (z_148))]))]) (f := pE Pn_127) hm_145
    rw [pE_block hk_146] at hkp_149
    refine va_get (D := (dC, dI)) (ci := 19) (v := .ref (Pn_127.bp xb_144)) (C := RX12) (T := TX12) (N := 5) hx hb hts mem_P13_blockG_3 hown hK hP kp_149 hkp_149 rfl 0 (by decide) (ow (k := 10) rfl) (fun _ h9 => h9) rfl dX13_block_55 ?_
    obtain ⟨pr_150, epr_150⟩ : ∃ q9 : Nat, q9 = Pn_127.bp xb_144 := ⟨_, rfl⟩
    rw [← epr_150]
    have hlk_151 : LOK Ln_126 Pn_127 cO 15 pr_150 := (by rw [epr_150]; exact hak_130.lbp hm_145 hk_146)
    have hlz9 := hlk_151.2.2.1
    have hek_152 : Pn_127.ek pr_150 = 15 := (by rw [epr_150]; exact (hak_130.owc xb_144 hm_145 hk_146).2.1)
    have hlk_153 := (show LOK Ln_126 Pn_127 cO 15 pr_150 from (by rw [← epr_150.symm]; exact hak_130.lbp hm_145 hk_146))
    have hX_x := hlk_153.1
    have hX_k := hlk_153.2.1
    have hlz9 := hlk_153.2.2.1
    have hX_c := hak_130.adc hlk_153
    have hPc := hP.part (X := [(hc, .inr (12, [.ref lb, v13_1, v13_2, v13_3, v13_4, .ref la, .int (zI (z_148))]))]) (cx := []) (pl := va_pl Ln_126 (pE Pn_127)) [] rfl
    have hDc := hD.part (X := [(hc, .inr (12, [.ref lb, v13_1, v13_2, v13_3, v13_4, .ref la, .int (zI (z_148))]))]) (cx := []) (pl := va_pl Ln_126 (pE Pn_127)) [] (by decide) rfl
    have hKc := hK.sub (tys' := [(cO, .object "java/lang/Object")]) [2] rfl
    have hFc := va_freeP (X := [(hc, .inr (12, [.ref lb, v13_1, v13_2, v13_3, v13_4, .ref la, .int (zI (z_148))]))]) (cx := []) (pl := va_pl Ln_126 (pE Pn_127)) hD hS hA [] rfl
    refine va_callv (va_runV (As := []) (rest := []) ⟨hx, hb, hml, hown, hts⟩ (c_PL_clearA l dC dI cO Ln_126 Pn_127 pr_150 sx_ed hX_x hX_k (by omega) hX_c H.size) (cwV 0 hts g_P13_blockG_PL_clearA rfl rfl rfl (by decide +kernel) ⟨(Nat.le_of_ble_eq_true rfl), (Nat.le_of_ble_eq_true rfl)⟩) ⟨fun a U g mk q => by obtain ⟨q0, q1, qP, qK, qD⟩ := q; exact ⟨q0, q1, qP, va_K.moved (u := U) (U := U.calling g mk a) (Vm.Alike.refl U.vm) qK, qD⟩, recv_30 hKc hPc hlk_151.1 hlk_151.2.1, fun U hU hW => ⟨rfl, by rw [hU], by rw [hU]; exact hPc, va_K.moved hW.alike hKc, hDc.weaken (fun _ _ _ _ => trivial)⟩⟩ rfl rfl hl.1 rfl (lv_room (Nat.le_of_ble_eq_true rfl)) dX13_block_58 ⟨(Nat.le_trans (show (4 + (Pm_105.gc lb)) + 0 ≤ 5 by omega) (Nat.le_of_ble_eq_true rfl)), (Nat.le_trans (show (18 + (Pm_105.gs lb)) + 0 ≤ 100018 by omega) (Nat.le_of_ble_eq_true rfl))⟩) hS (fun q _ h => hFc q h) hFc (fun  u t H1 locs ht hvm hw hB hz1 hk1 hS => ?_)
    obtain ⟨Pn_154, hxt_154, hP1, hK1, hD1⟩ := hB
    rw [ht] at hP1
    have hK1 := va_K.moved hvm.symm hK1
    obtain ⟨hP, hD⟩ := va_joinP (X := [(hc, .inr (12, [.ref lb, v13_1, v13_2, v13_3, v13_4, .ref la, .int (zI (z_148))]))]) (cx := []) (wr := [(hc, .inr (12, [.ref lb, v13_1, v13_2, v13_3, v13_4, .ref la, .int (zI (z_148))]))]) (rx := []) (pl := va_pl Ln_126 (pE Pn_127)) (pl1 := va_pl Ln_126 (pE Pn_154)) hP hD [] [0] rfl rfl (by decide) (by decide) hk1 hFc hP1 hD1
    have hK := (hK.sub (tys' := [(cI, .int), (cZ, .boolean)]) [0, 1] rfl).app hK1
    generalize H1 = H at hP hS ⊢
    have hP : va_P (dC, dI) vwQ ([(hc, .inr (12, [.ref lb, v13_1, v13_2, v13_3, v13_4, .ref la, .int (zI (z_148))]))] ++ va_pl Ln_126 (pE Pn_154)) H := hP
    have hD : va_D A ([(hc, .inr (12, [.ref lb, v13_1, v13_2, v13_3, v13_4, .ref la, .int (zI (z_148))]))] ++ va_pl Ln_126 (pE Pn_154)) := hD
    have hK : va_K (dC, dI) vwQ [(cI, .int), (cZ, .boolean), (cO, .object "java/lang/Object")] s := hK
    refine W.widen (k := (4 + (Pm_105.gc lb))) (n := (18 + (Pm_105.gs lb))) (by omega) (by omega) ?_
    have hu_155 := hxt_154
    have hke_156 : KEG [la, lb] Ln_126 Pn_127 Ln_126 Pn_154 := hu_155.keg hak_130 hlk_151.1 hlk_151.2.1 (Or.inl (fun e9 => kd_ne hk_146 hlk_151.2.1 (by decide) (show xb_144 = pr_150 from (by have q9 := (hak_130.owc xb_144 hm_145 hk_146).2.2.1; rw [epr_150.symm, e9] at q9; exact q9.symm))))
    have hak_157 : GLF Ln_126 Pn_154 cO cI cZ sx_ed := hu_155.glf hak_130 hlk_151.1 hlk_151.2.1
    have hst_158 := hu_155.chgo hak_130.owa hlk_151.1 hlk_151.2.1
    have hel_159 : ∀ i : Int, 0 ≤ i → i < P.lz la → Pn_154.el la i = P.el la i := (fun i i0 i1 => (hu_155.elO hak_130.owa hlk_151.1 hlk_151.2.1 hq_134.1 hq_134.2 (ek_ne hek_138 hek_152 (by decide)) i0 (by omega)).trans (hel_132 i i0 i1))
    have hel_160 : ∀ i : Int, 0 ≤ i → i < P.lz lb → Pn_154.el lb i = P.el lb i := (fun i i0 i1 => (hu_155.elO hak_130.owa hlk_151.1 hlk_151.2.1 hq_135.1 hq_135.2 (ek_ne hek_140 hek_152 (by decide)) i0 (by omega)).trans (hel_133 i i0 i1))
    have hef_161 : Pn_154.el lb (z13_made) = xb_144 := (by have i0 : (0 : Int) ≤ z13_made := (by omega); exact (hu_155.elO hak_130.owa hlk_151.1 hlk_151.2.1 hq_135.1 hq_135.2 (ek_ne hek_140 hek_152 (by decide)) i0 (by omega)).trans hel9.symm)
    have hq_162 : la ∈ Ln_126 ∧ Pn_154.kd la = 30 := hke_156.mem hq_134.1 hq_134.2 (by decide)
    have hq_163 : lb ∈ Ln_126 ∧ Pn_154.kd lb = 30 := hke_156.mem hq_135.1 hq_135.2 (by decide)
    have hq_164 : q_87 ∈ Ln_126 ∧ Pn_154.kd q_87 = 12 := hke_156.mem hq_136.1 hq_136.2 (by decide)
    have hq_165 : xb_144 ∈ Ln_126 ∧ Pn_154.kd xb_144 = 12 := hke_156.mem hm_145 hk_146 (by decide)
    have hq_166 : pr_150 ∈ Ln_126 ∧ Pn_154.kd pr_150 = 30 := hke_156.mem hlk_151.1 hlk_151.2.1 (by decide)
    have ha_167 : Pn_154.bp xb_144 = pr_150 := hke_156.bp hm_145 hk_146 epr_150.symm
    have hA_168 : KEG [la, lb] L P Ln_126 Pn_154 := hA_137.trans hke_156
    have : Pn_154.lz pr_150 = 0 := hu_155.2.1
    have : Pn_154.lz la = Pn_127.lz la := hu_155.lz (ek_ne hek_138 hek_152 (by decide))
    have : Pn_154.lz lb = Pn_127.lz lb := hu_155.lz (ek_ne hek_140 hek_152 (by decide))
    have : Pn_154.cap la = Pn_127.cap la := hu_155.cap la
    have : Pn_154.cap lb = Pn_127.cap lb := hu_155.cap lb
    have hek_169 : Pn_154.ek la = 12 := (by rw [hke_156.ek hq_134.1 hq_134.2 (by decide)]; exact hek_138)
    have how_170 : Pn_154.ow la = la := ((hke_156.1 la hq_134.1 (by rw [hq_134.2]; decide)).2.2.2.1 hq_134.2 how_139).1
    have hek_171 : Pn_154.ek lb = 12 := (by rw [hke_156.ek hq_135.1 hq_135.2 (by decide)]; exact hek_140)
    have how_172 : Pn_154.ow lb = lb := ((hke_156.1 lb hq_135.1 (by rw [hq_135.2]; decide)).2.2.2.1 hq_135.2 how_141).1
    have hek_173 : Pn_154.ek pr_150 = 15 := (by rw [hke_156.ek hlk_151.1 hlk_151.2.1 (by decide)]; exact hek_152)
    refine lv_aload_n hx hb dX13_block_61 rfl (lv_at hl 0 rfl) ?_
    have hfb := (hak_157.gb hq_165.1 hq_165.2).2
    obtain ⟨kp_174, hkp_174⟩ := va_pl_get (X := [(hc, .inr (12, [.ref lb, v13_1, v13_2, v13_3, v13_4, .ref la, .int (zI (z_148))]))]) (f := pE Pn_154) hq_165.1
    rw [pE_block hq_165.2] at hkp_174
    refine va_get (D := (dC, dI)) (ci := 19) (v := .ref (Pn_154.br xb_144)) (C := RX12) (T := TX12) (N := 5) hx hb hts mem_P13_blockG_3 hown hK hP kp_174 hkp_174 rfl 1 (by decide) (ow (k := 14) rfl) (fun _ h9 => h9) rfl dX13_block_62 ?_
    obtain ⟨pr_175, epr_175⟩ : ∃ q9 : Nat, q9 = Pn_154.br xb_144 := ⟨_, rfl⟩
    rw [← epr_175]
    have hlk_176 : LOK Ln_126 Pn_154 cO 17 pr_175 := (by rw [epr_175]; exact hak_157.lbr hq_165.1 hq_165.2)
    have hlz9 := hlk_176.2.2.1
    have hek_177 : Pn_154.ek pr_175 = 17 := (by rw [epr_175]; exact (hak_157.owc xb_144 hq_165.1 hq_165.2).1.1)
    have hlk_178 := (show LOK Ln_126 Pn_154 cO 17 pr_175 from (by rw [← epr_175.symm]; exact hak_157.lbr hq_165.1 hq_165.2))
    have hX_x := hlk_178.1
    have hX_k := hlk_178.2.1
    have hlz9 := hlk_178.2.2.1
    have hX_c := hak_157.adc hlk_178
    have hPc := hP.part (X := [(hc, .inr (12, [.ref lb, v13_1, v13_2, v13_3, v13_4, .ref la, .int (zI (z_148))]))]) (cx := []) (pl := va_pl Ln_126 (pE Pn_154)) [] rfl
    have hDc := hD.part (X := [(hc, .inr (12, [.ref lb, v13_1, v13_2, v13_3, v13_4, .ref la, .int (zI (z_148))]))]) (cx := []) (pl := va_pl Ln_126 (pE Pn_154)) [] (by decide) rfl
    have hKc := hK.sub (tys' := [(cO, .object "java/lang/Object")]) [2] rfl
    have hFc := va_freeP (X := [(hc, .inr (12, [.ref lb, v13_1, v13_2, v13_3, v13_4, .ref la, .int (zI (z_148))]))]) (cx := []) (pl := va_pl Ln_126 (pE Pn_154)) hD hS hA [] rfl
    refine va_callv (va_runV (As := []) (rest := []) ⟨hx, hb, hml, hown, hts⟩ (c_PL_clearA l dC dI cO Ln_126 Pn_154 pr_175 sx_ed hX_x hX_k (by omega) hX_c H.size) (cwV 0 hts g_P13_blockG_PL_clearA rfl rfl rfl (by decide +kernel) ⟨(Nat.le_of_ble_eq_true rfl), (Nat.le_of_ble_eq_true rfl)⟩) ⟨fun a U g mk q => by obtain ⟨q0, q1, qP, qK, qD⟩ := q; exact ⟨q0, q1, qP, va_K.moved (u := U) (U := U.calling g mk a) (Vm.Alike.refl U.vm) qK, qD⟩, recv_30 hKc hPc hlk_176.1 hlk_176.2.1, fun U hU hW => ⟨rfl, by rw [hU], by rw [hU]; exact hPc, va_K.moved hW.alike hKc, hDc.weaken (fun _ _ _ _ => trivial)⟩⟩ rfl rfl hl.1 rfl (lv_room (Nat.le_of_ble_eq_true rfl)) dX13_block_65 ⟨(Nat.le_trans (show (4 + (Pm_105.gc lb)) + 0 ≤ 5 by omega) (Nat.le_of_ble_eq_true rfl)), (Nat.le_trans (show (18 + (Pm_105.gs lb)) + 0 ≤ 100018 by omega) (Nat.le_of_ble_eq_true rfl))⟩) hS (fun q _ h => hFc q h) hFc (fun  u t H1 locs ht hvm hw hB hz1 hk1 hS => ?_)
    obtain ⟨Pn_179, hxt_179, hP1, hK1, hD1⟩ := hB
    rw [ht] at hP1
    have hK1 := va_K.moved hvm.symm hK1
    obtain ⟨hP, hD⟩ := va_joinP (X := [(hc, .inr (12, [.ref lb, v13_1, v13_2, v13_3, v13_4, .ref la, .int (zI (z_148))]))]) (cx := []) (wr := [(hc, .inr (12, [.ref lb, v13_1, v13_2, v13_3, v13_4, .ref la, .int (zI (z_148))]))]) (rx := []) (pl := va_pl Ln_126 (pE Pn_154)) (pl1 := va_pl Ln_126 (pE Pn_179)) hP hD [] [0] rfl rfl (by decide) (by decide) hk1 hFc hP1 hD1
    have hK := (hK.sub (tys' := [(cI, .int), (cZ, .boolean)]) [0, 1] rfl).app hK1
    generalize H1 = H at hP hS ⊢
    have hP : va_P (dC, dI) vwQ ([(hc, .inr (12, [.ref lb, v13_1, v13_2, v13_3, v13_4, .ref la, .int (zI (z_148))]))] ++ va_pl Ln_126 (pE Pn_179)) H := hP
    have hD : va_D A ([(hc, .inr (12, [.ref lb, v13_1, v13_2, v13_3, v13_4, .ref la, .int (zI (z_148))]))] ++ va_pl Ln_126 (pE Pn_179)) := hD
    have hK : va_K (dC, dI) vwQ [(cI, .int), (cZ, .boolean), (cO, .object "java/lang/Object")] s := hK
    refine W.widen (k := (4 + (Pm_105.gc lb))) (n := (18 + (Pm_105.gs lb))) (by omega) (by omega) ?_
    have hu_180 := hxt_179
    have hke_181 : KEG [la, lb] Ln_126 Pn_154 Ln_126 Pn_179 := hu_180.keg hak_157 hlk_176.1 hlk_176.2.1 (Or.inl (fun e9 => kd_ne hq_165.2 hlk_176.2.1 (by decide) (show xb_144 = pr_175 from (by have q9 := (hak_157.owc xb_144 hq_165.1 hq_165.2).1.2.1; rw [epr_175.symm, e9] at q9; exact q9.symm))))
    have hak_182 : GLF Ln_126 Pn_179 cO cI cZ sx_ed := hu_180.glf hak_157 hlk_176.1 hlk_176.2.1
    have hst_183 := hu_180.chgo hak_157.owa hlk_176.1 hlk_176.2.1
    have hel_184 : ∀ i : Int, 0 ≤ i → i < P.lz la → Pn_179.el la i = P.el la i := (fun i i0 i1 => (hu_180.elO hak_157.owa hlk_176.1 hlk_176.2.1 hq_162.1 hq_162.2 (ek_ne hek_169 hek_177 (by decide)) i0 (by omega)).trans (hel_159 i i0 i1))
    have hel_185 : ∀ i : Int, 0 ≤ i → i < P.lz lb → Pn_179.el lb i = P.el lb i := (fun i i0 i1 => (hu_180.elO hak_157.owa hlk_176.1 hlk_176.2.1 hq_163.1 hq_163.2 (ek_ne hek_171 hek_177 (by decide)) i0 (by omega)).trans (hel_160 i i0 i1))
    have hef_186 : Pn_179.el lb (z13_made) = xb_144 := (by have i0 : (0 : Int) ≤ z13_made := (by omega); exact (hu_180.elO hak_157.owa hlk_176.1 hlk_176.2.1 hq_163.1 hq_163.2 (ek_ne hek_171 hek_177 (by decide)) i0 (by omega)).trans hef_161)
    have hq_187 : la ∈ Ln_126 ∧ Pn_179.kd la = 30 := hke_181.mem hq_162.1 hq_162.2 (by decide)
    have hq_188 : lb ∈ Ln_126 ∧ Pn_179.kd lb = 30 := hke_181.mem hq_163.1 hq_163.2 (by decide)
    have hq_189 : q_87 ∈ Ln_126 ∧ Pn_179.kd q_87 = 12 := hke_181.mem hq_164.1 hq_164.2 (by decide)
    have hq_190 : xb_144 ∈ Ln_126 ∧ Pn_179.kd xb_144 = 12 := hke_181.mem hq_165.1 hq_165.2 (by decide)
    have hq_191 : pr_150 ∈ Ln_126 ∧ Pn_179.kd pr_150 = 30 := hke_181.mem hq_166.1 hq_166.2 (by decide)
    have hq_192 : pr_175 ∈ Ln_126 ∧ Pn_179.kd pr_175 = 30 := hke_181.mem hlk_176.1 hlk_176.2.1 (by decide)
    have ha_193 : Pn_179.bp xb_144 = pr_150 := hke_181.bp hq_165.1 hq_165.2 ha_167
    have ha_194 : Pn_179.br xb_144 = pr_175 := hke_181.br hq_165.1 hq_165.2 epr_175.symm
    have hA_195 : KEG [la, lb] L P Ln_126 Pn_179 := hA_168.trans hke_181
    have : Pn_179.lz pr_175 = 0 := hu_180.2.1
    have : Pn_179.lz la = Pn_154.lz la := hu_180.lz (ek_ne hek_169 hek_177 (by decide))
    have : Pn_179.lz lb = Pn_154.lz lb := hu_180.lz (ek_ne hek_171 hek_177 (by decide))
    have : Pn_179.lz pr_150 = Pn_154.lz pr_150 := hu_180.lz (ek_ne hek_173 hek_177 (by decide))
    have : Pn_179.cap la = Pn_154.cap la := hu_180.cap la
    have : Pn_179.cap lb = Pn_154.cap lb := hu_180.cap lb
    have hek_196 : Pn_179.ek la = 12 := (by rw [hke_181.ek hq_162.1 hq_162.2 (by decide)]; exact hek_169)
    have how_197 : Pn_179.ow la = la := ((hke_181.1 la hq_162.1 (by rw [hq_162.2]; decide)).2.2.2.1 hq_162.2 how_170).1
    have hek_198 : Pn_179.ek lb = 12 := (by rw [hke_181.ek hq_163.1 hq_163.2 (by decide)]; exact hek_171)
    have how_199 : Pn_179.ow lb = lb := ((hke_181.1 lb hq_163.1 (by rw [hq_163.2]; decide)).2.2.2.1 hq_163.2 how_172).1
    have hek_200 : Pn_179.ek pr_150 = 15 := (by rw [hke_181.ek hq_166.1 hq_166.2 (by decide)]; exact hek_173)
    have hek_201 : Pn_179.ek pr_175 = 17 := (by rw [hke_181.ek hlk_176.1 hlk_176.2.1 (by decide)]; exact hek_177)
    refine lv_aload_n hx hb dX13_block_68 rfl (lv_at hl 1 rfl) ?_
    refine va_get (D := (dC, dI)) (ci := 12) (v := .ref la) (C := RX13) (T := TX13) (N := 7) hx hb hts mem_P13_blockG_0 hown hK hP 0 rfl rfl 5 (by decide) (ow (k := 15) rfl) (fun _ h9 => h9) rfl dX13_block_69 ?_
    refine lv_aload_n hx hb dX13_block_72 rfl (lv_at hl 0 rfl) ?_
    have hlk_202 := (show LOK Ln_126 Pn_179 cO 12 la from (by have q9 := (hak_182.gla la hq_187.1 hq_187.2).1; rw [hek_196] at q9; exact q9))
    have hX_x := hlk_202.1
    have hX_k := hlk_202.2.1
    have hlz9 := hlk_202.2.2.1
    have hX_c := hak_182.adc hlk_202
    have hX_y : xb_144 ∈ Ln_126 ∧ OBK (Pn_179.kd xb_144) := ⟨hq_190.1, (by rw [hq_190.2]; unfold OBK; decide)⟩
    have hPc := hP.part (X := [(hc, .inr (12, [.ref lb, v13_1, v13_2, v13_3, v13_4, .ref la, .int (zI (z_148))]))]) (cx := []) (pl := va_pl Ln_126 (pE Pn_179)) [] rfl
    have hDc := hD.part (X := [(hc, .inr (12, [.ref lb, v13_1, v13_2, v13_3, v13_4, .ref la, .int (zI (z_148))]))]) (cx := []) (pl := va_pl Ln_126 (pE Pn_179)) [] (by decide) rfl
    have hKc := hK.sub (tys' := [(cO, .object "java/lang/Object")]) [2] rfl
    have hFc := va_freeP (X := [(hc, .inr (12, [.ref lb, v13_1, v13_2, v13_3, v13_4, .ref la, .int (zI (z_148))]))]) (cx := []) (pl := va_pl Ln_126 (pE Pn_179)) hD hS hA [] rfl
    have hgl := ADC.gl hX_c
    refine va_calli (va_runV (As := [.ref xb_144]) (rest := []) ⟨hx, hb, hml, hown, hts⟩ (c_PL_addAR l dC dI cO Ln_126 Pn_179 la xb_144 sx_ed hX_x hX_k (by omega) hX_c hX_y H.size sx_mi) (cwV 1 hts g_P13_blockG_PL_addAR rfl rfl rfl (by decide +kernel) ⟨(Nat.le_of_ble_eq_true rfl), (Nat.le_of_ble_eq_true rfl)⟩) ⟨fun a U g mk q => by obtain ⟨q0, q1, qP, qK, qD, e0, e1, e2, e3, e4, e5, e6, e7⟩ := q; exact ⟨q0, q1, qP, va_K.moved (u := U) (U := U.calling g mk a) (Vm.Alike.refl U.vm) qK, qD, va_Nw.same rfl (u := U) (U := U.calling g mk a) rfl e0, va_Nw.same rfl (u := U) (U := U.calling g mk a) rfl e1, va_Nw.same rfl (u := U) (U := U.calling g mk a) rfl e2, va_Dc.moved (u := U) (U := U.calling g mk a) (Vm.Alike.refl U.vm) e3, va_Mi.moved (u := U) (U := U.calling g mk a) (Vm.Alike.refl U.vm) e4, va_AO.moved (u := U) (U := U.calling g mk a) (Vm.Alike.refl U.vm) e5, va_T.moved (u := U) (U := U.calling g mk a) (Vm.Alike.refl U.vm) e6, va_Z.moved (u := U) (U := U.calling g mk a) (Vm.Alike.refl U.vm) e7⟩, recv_30 hKc hPc hq_187.1 hq_187.2, fun U hU hW => ⟨rfl, by rw [hU], by rw [hU]; exact hPc, va_K.moved hW.alike hKc, hDc.weaken (fun _ _ _ _ => trivial), va_Nw.warmC hW hp1, va_Nw.warmC hW hp2, va_Nw.warmC hW hp3, va_Dc.moved hW.alike hp4, va_Mi.moved hW.alike hp5, va_AO.moved hW.alike hp6, by rw [hU]; exact va_T.narrow (va_T.moved hW.alike (va_T.kept hp7 hS.2.1)) hFc, by rw [hU]; exact va_Z.narrow (va_Z.moved hW.alike (va_Z.kept hp8 hS.2.1)) hFc⟩⟩ rfl rfl hl.1 rfl (lv_room (Nat.le_of_ble_eq_true rfl)) dX13_block_73 ⟨(Nat.le_trans (show (4 + (Pm_105.gc lb)) + (Pn_179.gc la) ≤ 6 by omega) (Nat.le_of_ble_eq_true rfl)), (Nat.le_trans (show (18 + (Pm_105.gs lb)) + (Pn_179.gs la) ≤ 200018 by omega) (Nat.le_of_ble_eq_true rfl))⟩) hS (fun q _ h => hFc q h) hFc (fun r_203 z_204 t H1 locs ht hvm hw hB hz1 hk1 hS => ?_)
    obtain ⟨Ln_205, Pn_206, hxt_206, hP1, hK1, hD1⟩ := hB
    rw [ht] at hP1
    have hK1 := va_K.moved hvm.symm hK1
    obtain ⟨hP, hD⟩ := va_joinP (X := [(hc, .inr (12, [.ref lb, v13_1, v13_2, v13_3, v13_4, .ref la, .int (zI (z_148))]))]) (cx := []) (wr := [(hc, .inr (12, [.ref lb, v13_1, v13_2, v13_3, v13_4, .ref la, .int (zI (z_148))]))]) (rx := []) (pl := va_pl Ln_126 (pE Pn_179)) (pl1 := va_pl Ln_205 (pE Pn_206)) hP hD [] [0] rfl rfl (by decide) (by decide) hk1 hFc hP1 hD1
    have hK := (hK.sub (tys' := [(cI, .int), (cZ, .boolean)]) [0, 1] rfl).app hK1
    generalize H1 = H at hP hS ⊢
    have hP : va_P (dC, dI) vwQ ([(hc, .inr (12, [.ref lb, v13_1, v13_2, v13_3, v13_4, .ref la, .int (zI (z_148))]))] ++ va_pl Ln_205 (pE Pn_206)) H := hP
    have hD : va_D A ([(hc, .inr (12, [.ref lb, v13_1, v13_2, v13_3, v13_4, .ref la, .int (zI (z_148))]))] ++ va_pl Ln_205 (pE Pn_206)) := hD
    have hK : va_K (dC, dI) vwQ [(cI, .int), (cZ, .boolean), (cO, .object "java/lang/Object")] s := hK
    refine W.widen (k := ((4 + (Pm_105.gc lb)) + (Pn_179.gc la))) (n := ((18 + (Pm_105.gs lb)) + (Pn_179.gs la))) (by omega) (by omega) ?_
    obtain ⟨rfl, hzz_204⟩ := hw
    have hu_207 := hxt_206
    have hfx := hu_207.2.2.2.2.2.2.2
    have han := hu_207.2.2.2.1
    have hke_208 : KEG [la, lb] Ln_126 Pn_179 Ln_205 Pn_206 := hu_207.1.keg hak_182 hq_187.1 hq_187.2 hfx (Or.inr (by simp))
    have hak_209 : GLF Ln_205 Pn_206 cO cI cZ sx_ed := hak_182.add hu_207.1 hq_187.1 hq_187.2 hfx hek_196 hq_190.1 hq_190.2 hu_207.2.1 (by omega) hu_207.2.2.1 hu_207.2.2.2.1.1 (by have q9 := hak_182.adc40 hlk_202; omega) hu_207.2.2.2.2.1 hu_207.2.2.2.2.2.1 hu_207.2.2.2.2.2.2.1 (fun q9 => absurd q9 (by decide))
    have hgr9 := (gro_cap (P := Pn_179) (P' := Pn_206) (x := la) (hak_182.adcl hlk_202) hu_207.1.1.2.2.2.2.2.2.2.2 hu_207.2.2.2.1.1 hu_207.2.2.2.1.2.2.1 hu_207.2.2.2.1.2.2.2 hu_207.2.2.2.1.2.1).1
    clear han
    have hst_210 := hu_207.1.chgo hak_182.owa hq_187.1 hq_187.2 hfx
    have hza := hu_207.2.1
    have hel_211 : ∀ i : Int, 0 ≤ i → i < P.lz la → Pn_206.el la i = P.el la i := (fun i i0 i1 => (hu_207.1.elx hu_207.2.2.2.2.2.2.1 i0 (by omega)).trans (hel_184 i i0 i1))
    have hel_212 : ∀ i : Int, 0 ≤ i → i < P.lz lb → Pn_206.el lb i = P.el lb i := (fun i i0 i1 => (hu_207.1.elO hak_182.owa hq_187.1 hq_187.2 hfx hq_188.1 hq_188.2 hX_ab.symm i0 (by omega)).trans (hel_185 i i0 i1))
    have hef_213 : Pn_206.el lb (z13_made) = xb_144 := (by have i0 : (0 : Int) ≤ z13_made := (by omega); exact (hu_207.1.elO hak_182.owa hq_187.1 hq_187.2 hfx hq_188.1 hq_188.2 hX_ab.symm i0 (by omega)).trans hef_186)
    have hlast := hu_207.1.elast hu_207.2.2.2.2.2.1
    have hq_214 : la ∈ Ln_205 ∧ Pn_206.kd la = 30 := hke_208.mem hq_187.1 hq_187.2 (by decide)
    have hq_215 : lb ∈ Ln_205 ∧ Pn_206.kd lb = 30 := hke_208.mem hq_188.1 hq_188.2 (by decide)
    have hq_216 : q_87 ∈ Ln_205 ∧ Pn_206.kd q_87 = 12 := hke_208.mem hq_189.1 hq_189.2 (by decide)
    have hq_217 : xb_144 ∈ Ln_205 ∧ Pn_206.kd xb_144 = 12 := hke_208.mem hq_190.1 hq_190.2 (by decide)
    have hq_218 : pr_150 ∈ Ln_205 ∧ Pn_206.kd pr_150 = 30 := hke_208.mem hq_191.1 hq_191.2 (by decide)
    have hq_219 : pr_175 ∈ Ln_205 ∧ Pn_206.kd pr_175 = 30 := hke_208.mem hq_192.1 hq_192.2 (by decide)
    have ha_220 : Pn_206.bp xb_144 = pr_150 := hke_208.bp hq_190.1 hq_190.2 ha_193
    have ha_221 : Pn_206.br xb_144 = pr_175 := hke_208.br hq_190.1 hq_190.2 ha_194
    have hA_222 : KEG [la, lb] L P Ln_205 Pn_206 := hA_195.trans hke_208
    have : Pn_206.lz lb = Pn_179.lz lb := (hu_207.1.chg lb hq_188.1 (fun q9 => by rcases q9 with q9 | q9; exact hX_ab.symm q9; exact hak_182.owa.nle hq_187.1 hq_187.2 hfx hq_188.1 (by rw [hq_188.2]; decide) q9)).2.1 0
    have : Pn_206.lz pr_150 = Pn_179.lz pr_150 := (hu_207.1.chg pr_150 hq_191.1 (fun q9 => by rcases q9 with q9 | q9; exact (ek_ne hek_200 hek_196 (by decide)) q9; exact hak_182.owa.nle hq_187.1 hq_187.2 hfx hq_191.1 (by rw [hq_191.2]; decide) q9)).2.1 0
    have : Pn_206.lz pr_175 = Pn_179.lz pr_175 := (hu_207.1.chg pr_175 hq_192.1 (fun q9 => by rcases q9 with q9 | q9; exact (ek_ne hek_201 hek_196 (by decide)) q9; exact hak_182.owa.nle hq_187.1 hq_187.2 hfx hq_192.1 (by rw [hq_192.2]; decide) q9)).2.1 0
    have : Pn_206.cap lb = Pn_179.cap lb := hu_207.1.capO hak_182.owa hq_187.1 hq_187.2 hfx hq_188.1 hq_188.2 hX_ab.symm
    have hza := hu_207.2.1
    have hek_223 : Pn_206.ek la = 12 := (by rw [hke_208.ek hq_187.1 hq_187.2 (by decide)]; exact hek_196)
    have how_224 : Pn_206.ow la = la := ((hke_208.1 la hq_187.1 (by rw [hq_187.2]; decide)).2.2.2.1 hq_187.2 how_197).1
    have hek_225 : Pn_206.ek lb = 12 := (by rw [hke_208.ek hq_188.1 hq_188.2 (by decide)]; exact hek_198)
    have how_226 : Pn_206.ow lb = lb := ((hke_208.1 lb hq_188.1 (by rw [hq_188.2]; decide)).2.2.2.1 hq_188.2 how_199).1
    have hek_227 : Pn_206.ek pr_150 = 15 := (by rw [hke_208.ek hq_191.1 hq_191.2 (by decide)]; exact hek_200)
    have hek_228 : Pn_206.ek pr_175 = 17 := (by rw [hke_208.ek hq_192.1 hq_192.2 (by decide)]; exact hek_201)
    clear hfx
    refine lv_pop hx hb dX13_block_76 rfl ?_
    refine lv_aload_n hx hb dX13_block_77 rfl (lv_at hl 0 rfl) ?_
    subst hQ
    have hK := hK.sub (tys' := [(cO, .object "java/lang/Object"), (cI, .int), (cZ, .boolean)]) [2, 0, 1] rfl
    refine W_knowS (fun hrm9 => ?_)
    refine W.widen (k := 6) (n := 200018) (by omega) (by omega) ?_
    exact W.aret (v := .ref xb_144) hx hb hr (Or.inl ⟨_, rfl⟩) (Or.inr ⟨_, rfl⟩) (fun t ht hW => ⟨⟨(), xb_144, rfl, trivial, z_148, Ln_205, Pn_206, ((4 + (Pm_105.gc lb)) + (Pn_179.gc la)), ((18 + (Pm_105.gs lb)) + (Pn_179.gs la)), ⟨⟨(by rw [ht, ← hp9]; exact hrm9), (by omega)⟩, ⟨(by omega), ⟨hA_222, hak_209, ⟨⟨hq_217.1, hq_217.2, hef_213.symm, (by have h9 := hlast; rw [show Pn_179.lz la = P.lz la from (by omega)] at h9; exact h9.symm), (by rw [ha_220]; omega), (by rw [ha_221]; omega)⟩, ⟨by omega, by omega, by omega⟩, hel_211, hel_212, ((((hex_120.chgo.step hst_131 (Or.inr (Or.inl rfl))).step hst_158 (Or.inr (Or.inr (Or.inl ha_220.symm)))).step hst_183 (Or.inr (Or.inr (Or.inr ha_221.symm)))).step hst_210 (Or.inl rfl))⟩, by omega⟩⟩⟩, by rw [ht]; exact hP, va_K.moved hW.alike hK, hD⟩, hS.F ht⟩) hS.2.2 dX13_block_78
