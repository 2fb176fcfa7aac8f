def o_PL_adde : List Cond := [.fieldLink RJx4a65c 63 "java/util/ArrayList" "modCount" "I", .sameField "java/util/ArrayList" "java/util/AbstractList" "modCount" "I", .fieldLink RJx4a65c 9 "java/util/ArrayList" "elementData" "[Ljava/lang/Object;", .fieldLink RJx4a65c 48 "java/util/ArrayList" "size" "I", .methodLink RJx4a65c 131 yJx4a65c_add_72be8, .instanceMethod yJx4a65c_add_72be8, .selects RJx4a65c yJx4a65c_add_72be8 yJx4a65c_add_72be8, .initialized RJx4a65c]
def v_PL_adde : List Cond := .code yJx4a65c_add_9ea2d cJx4a65c_add_9ea2d 2 (some .boolean) :: (o_PL_adde ++ (wsJx4a65c0 ++ (v_AL_add3e ++ [])))
theorem mow_PL_adde : ∀ w ∈ o_PL_adde, w ∈ v_PL_adde := fun _ h => List.mem_cons_of_mem _ (List.mem_append_left _ h)
theorem mem_PL_adde_0 : ∀ w ∈ wsJx4a65c0, w ∈ v_PL_adde := fun _ h => List.mem_cons_of_mem _ (List.mem_append_right _ (List.mem_append_left _ h))
theorem mem_PL_adde_1 : ∀ w ∈ v_AL_add3e, w ∈ v_PL_adde := fun _ h => List.mem_cons_of_mem _ (List.mem_append_right _ (List.mem_append_right _ (List.mem_append_left _ h)))
set_option maxRecDepth 20000 in
theorem gw_PL_adde : v_PL_adde.all goodWord = true := by decide +kernel
set_option maxRecDepth 20000 in
theorem g_PL_adde_AL_add3e : GoodIn v_PL_adde (wsV RJx4a65c 131 RJx4a65c yJx4a65c_add_72be8 v_AL_add3e) := goodIn_app (goodIn_sub (fun w h => mow_PL_adde w (by revert w h; decide +kernel)) (by decide +kernel)) (goodIn_sub mem_PL_adde_1 gw_AL_add3e)
set_option maxHeartbeats 4000000 in
set_option maxRecDepth 100000 in
theorem c_PL_adde (l : Launch) (dC : Nat → ClassId) (dI : Nat → Nat → Nat) (cO : ClassId) (L : List Nat) (P : PO) (xl : Nat) (y : Nat) (sx_ed : Nat) (hX_x : xl ∈ L) (hX_k : P.kd xl = 30) (hX_z : P.lz xl = 0) (hX_e : P.le xl = sx_ed) (hX_n : sx_ed ∉ L) (hX_y : y ∈ L ∧ OBK (P.kd y)) (sz : Nat) : Met l yJx4a65c_add_9ea2d v_PL_adde ({ frames := 4, cells := 1, slots := 10, locals := 80 }) (va_Pc [.ref xl, .ref y] (fun U => U.heap.size = sz ∧ va_P (dC, dI) vwQ ([] ++ va_pl L (pE P)) U.heap ∧ va_K (dC, dI) vwQ [(cO, .object "java/lang/Object")] U ∧ va_D (fun _ => True) ([] ++ va_pl L (pE P)) ∧ va_T (.object "java/lang/Object") sx_ed 0 (fun _ => .null) (va_A ([] ++ va_pl L (pE P)) sz) U U.heap ∧ va_Z "java/util/ArrayList" "DEFAULTCAPACITY_EMPTY_ELEMENTDATA" "[Ljava/lang/Object;" (.ref sx_ed) (va_A ([] ++ va_pl L (pE P)) sz) U U.heap ∧ va_AO "java/lang/Object" U ∧ va_Nw (.castable "SsaForgeModel$Row" "java/lang/Object") U ∧ va_Nw (.castable "SsaForgeModel$Phi" "java/lang/Object") U ∧ va_Nw (.castable "SsaForgeModel$Block" "java/lang/Object") U)) (va_Qi (fun (r : Int32) (zr : Int) => r = zI zr ∧ (zr = 1)) (fun (zr : Int) (t : State) => ∃ (Ln_9 : List Nat) (Pn_9 : PO), ((GL1 xl (Pn_9.le xl) L P Ln_9 Pn_9 ∧ Pn_9.lz xl = 1 ∧ Pn_9.ac (Pn_9.le xl) = cO ∧ Pn_9.an (Pn_9.le xl) = 10 ∧ ELS Ln_9 Pn_9 (Pn_9.oa (Pn_9.le xl)) ∧ Pn_9.oa (Pn_9.le xl) 0 = some y)) ∧ va_P (dC, dI) vwQ ([] ++ va_pl Ln_9 (pE Pn_9)) t.heap ∧ va_K (dC, dI) vwQ [(cO, .object "java/lang/Object")] t ∧ va_D (va_A ([] ++ va_pl L (pE P)) sz) ([] ++ va_pl Ln_9 (pE Pn_9))) (va_A ([] ++ va_pl L (pE P)) sz)) 1 10 (va_A ([] ++ va_pl L (pE P)) sz) := by
  refine Met.ofW (cc := cJx4a65c_add_9ea2d) (maxL := 2) (ret := (some .boolean)) (by decide) rfl ?_
  intro p e s m args below meth c s₁ B hml hv
  obtain ⟨rfl, hsz, hP, hK, hD0, hp0, hp1, hp2, hp3, hp4, hp5⟩ := hv
  have hx := B.exec
  have hb := B.bytes
  have hr := B.returns
  have hts := atoms_spec (ws := v_PL_adde) B.pre
  have hown : s.vm.findClass RJx4a65c = some m.cls := findClass_of_methodNamed B.named
  have hlocks := B.notSynchronized
  have ow : ∀ {k : Nat} {w : Cond}, o_PL_adde[k]? = some w → w.before ([.ref xl, .ref y] : List Value).toArray s = true := fun h => hts _ (mow_PL_adde _ (List.mem_of_getElem? h))
  subst hsz
  have hD := hD0.self (sz := s.heap.size)
  generalize hAe : va_A ([] ++ va_pl L (pE P)) s.heap.size = A at hD hp0 hp1 hp2 ⊢
  have hA : ∀ q : Nat, s.heap.size ≤ q → A q := fun q h => by rw [← hAe]; exact Or.inr h
  have hS : va_S A s.heap s.heap [] := va_S.rf
  have hP : va_P (dC, dI) vwQ ([] ++ va_pl L (pE P)) s.heap := hP
  have hl := lv_entry ([.ref xl, .ref y]) (n := 2) (Nat.le_of_ble_eq_true rfl)
  rw [lg_entry_eq]
  generalize (lg_sl ([.ref xl, .ref y]) ++ List.replicate (2 - (lg_sl ([.ref xl, .ref y])).length) Slot.unset).toArray = ls at hl ⊢
  have hl : lv_has ls 2 [(0, .ref xl), (1, .ref y)] := hl
  obtain ⟨H, hH⟩ : ∃ H, H = s.heap := ⟨_, rfl⟩
  rw [← hH] at hP
  have hS : va_S A s.heap H [] := by rw [hH]; exact hS
  rw [← hH]
  refine zW_cap (fun Q hQ => ?_)
  obtain ⟨hP, hD⟩ := pool_out (X := []) hX_x (pE_list hX_k) hP hD
  obtain ⟨Lp_1, eLp_1⟩ : ∃ l9 : List Nat, l9 = L.erase xl := ⟨_, rfl⟩
  rw [← eLp_1, hX_z, hX_e] at hP hD
  have hP : va_P (dC, dI) vwQ ([(xl, .inr (18, [.int (zI (P.lm xl)), .ref sx_ed, .int 0]))] ++ va_pl Lp_1 (pE P)) H := hP
  have hD : va_D A ([(xl, .inr (18, [.int (zI (P.lm xl)), .ref sx_ed, .int 0]))] ++ va_pl Lp_1 (pE P)) := hD
  have hX_y2 : y ∈ Lp_1 ∧ OBK (P.kd y) := ⟨(by rw [eLp_1]; exact obk_er hX_y.1 hX_y.2 (nobk30 hX_k)), hX_y.2⟩
  have hX_y := hX_y2
  have eqr : sx_ed = P.le xl := hX_e.symm
  have hLe : Lp_1 = (L.erase xl).erase (P.le xl) := (by rw [eLp_1, hX_e]; exact (List.erase_of_not_mem (fun h => hX_n (List.mem_of_mem_erase h))).symm)
  refine lv_aload_n hx hb dJx4a65c_add_9ea2d_0 rfl (lv_at hl 0 rfl) ?_
  refine lv_dup hx hb dJx4a65c_add_9ea2d_1 rfl ?_
  refine va_get (D := (dC, dI)) (ci := 18) (v := .int (zI (P.lm xl))) (C := RJx4a65c) (T := TJx4a65c) (N := 3) hx hb hts mem_PL_adde_0 hown hK hP 0 rfl rfl 0 (by decide) (ow (k := 0) rfl) (fun x9 h9 => u_same (ow (k := 1) rfl) x9 h9) rfl dJx4a65c_add_9ea2d_2 ?_
  refine lv_iconst (v := 1) hx hb dJx4a65c_add_9ea2d_5 (by decide) ?_
  refine lv_iadd hx hb dJx4a65c_add_9ea2d_6 ?_
  refine lv_topi (fun z ez => ?_)
  obtain rfl : z = zI ((P.lm xl) + 1) := ez.trans (zI_add (P.lm xl) (1))
  refine va_put (D := (dC, dI)) (ci := 18) (v := .int (zI ((P.lm xl) + 1))) (ty := .int) (C := RJx4a65c) (T := TJx4a65c) (N := 3) hx hb hts mem_PL_adde_0 tyJx4a65c tyJx4a65c_ok nmJx4a65c hown hK hP hD hS 0 rfl rfl 0 (by decide) (ow (k := 0) rfl) (fun x9 h9 => u_same (ow (k := 1) rfl) x9 h9) rfl (by decide +kernel) rfl rfl (Nat.le_of_ble_eq_true rfl) dJx4a65c_add_9ea2d_7 (fun H locs hP hD hS => ?_)
  have hP : va_P (dC, dI) vwQ ([(xl, .inr (18, [.int (zI ((P.lm xl) + 1)), .ref sx_ed, .int 0]))] ++ va_pl Lp_1 (pE P)) H := hP
  have hD : va_D A ([(xl, .inr (18, [.int (zI ((P.lm xl) + 1)), .ref sx_ed, .int 0]))] ++ va_pl Lp_1 (pE P)) := hD
  obtain ⟨z_2, ez_2⟩ : ∃ z9 : Int, z9 = (P.lm xl) + 1 := ⟨_, rfl⟩
  rw [← ez_2] at hP hD
  have hP : va_P (dC, dI) vwQ ([(xl, .inr (18, [.int (zI (z_2)), .ref sx_ed, .int 0]))] ++ va_pl Lp_1 (pE P)) H := hP
  have hD : va_D A ([(xl, .inr (18, [.int (zI (z_2)), .ref sx_ed, .int 0]))] ++ va_pl Lp_1 (pE P)) := hD
  refine lv_aload_n hx hb dJx4a65c_add_9ea2d_10 rfl (lv_at hl 0 rfl) ?_
  refine lv_aload_n hx hb dJx4a65c_add_9ea2d_11 rfl (lv_at hl 1 rfl) ?_
  refine lv_aload_n hx hb dJx4a65c_add_9ea2d_12 rfl (lv_at hl 0 rfl) ?_
  refine va_get (D := (dC, dI)) (ci := 18) (v := .ref sx_ed) (C := RJx4a65c) (T := TJx4a65c) (N := 3) hx hb hts mem_PL_adde_0 hown hK hP 0 rfl rfl 1 (by decide) (ow (k := 2) rfl) (fun _ h9 => h9) rfl dJx4a65c_add_9ea2d_13 ?_
  refine lv_aload_n hx hb dJx4a65c_add_9ea2d_16 rfl (lv_at hl 0 rfl) ?_
  refine va_get (D := (dC, dI)) (ci := 18) (v := .int 0) (C := RJx4a65c) (T := TJx4a65c) (N := 3) hx hb hts mem_PL_adde_0 hown hK hP 0 rfl rfl 2 (by decide) (ow (k := 3) rfl) (fun _ h9 => h9) rfl dJx4a65c_add_9ea2d_17 ?_
  have hPc := hP.part (X := [(xl, .inr (18, [.int (zI (z_2)), .ref sx_ed, .int 0]))]) (cx := [(xl, .inr (18, [.int (zI (z_2)), .ref sx_ed, .int 0]))]) (pl := va_pl Lp_1 (pE P)) [0] rfl
  have hDc := hD.part (X := [(xl, .inr (18, [.int (zI (z_2)), .ref sx_ed, .int 0]))]) (cx := [(xl, .inr (18, [.int (zI (z_2)), .ref sx_ed, .int 0]))]) (pl := va_pl Lp_1 (pE P)) [0] (by decide) rfl
  have hKc := hK.sub (tys' := []) [] rfl
  have hFc := va_freeP (X := [(xl, .inr (18, [.int (zI (z_2)), .ref sx_ed, .int 0]))]) (cx := [(xl, .inr (18, [.int (zI (z_2)), .ref sx_ed, .int 0]))]) (pl := va_pl Lp_1 (pE P)) hD hS hA [0] rfl
  refine va_callv (va_runV (As := [.ref y, .ref sx_ed, .int 0]) (rest := []) ⟨hx, hb, hml, hown, hts⟩ (c_AL_add3e l dC dI xl ((zI (z_2))) sx_ed Lp_1 P y hX_y H.size) (cwV 3 hts g_PL_adde_AL_add3e rfl rfl rfl (by decide +kernel) ⟨(Nat.le_of_ble_eq_true rfl), (Nat.le_of_ble_eq_true rfl)⟩) ⟨fun a U g mk q => by obtain ⟨q0, q1, qP, qK, qD, e0, e1, e2, e3, e4, e5⟩ := q; exact ⟨q0, q1, qP, va_K.moved (u := U) (U := U.calling g mk a) (Vm.Alike.refl U.vm) qK, qD, va_T.moved (u := U) (U := U.calling g mk a) (Vm.Alike.refl U.vm) e0, va_Z.moved (u := U) (U := U.calling g mk a) (Vm.Alike.refl U.vm) e1, va_AO.moved (u := U) (U := U.calling g mk a) (Vm.Alike.refl U.vm) e2, va_Nw.same rfl (u := U) (U := U.calling g mk a) rfl e3, va_Nw.same rfl (u := U) (U := U.calling g mk a) rfl e4, va_Nw.same rfl (u := U) (U := U.calling g mk a) rfl e5⟩, va_recv hKc hPc (ci := 18) (q0 := 0) rfl rfl, fun U hU hW => ⟨rfl, by rw [hU], by rw [hU]; exact hPc, va_K.moved hW.alike hKc, hDc.weaken (fun _ _ _ _ => trivial), by rw [hU]; exact va_T.narrow (va_T.moved hW.alike (va_T.kept hp0 hS.2.1)) hFc, by rw [hU]; exact va_Z.narrow (va_Z.moved hW.alike (va_Z.kept hp1 hS.2.1)) hFc, va_AO.moved hW.alike hp2, va_Nw.warmC hW hp3, va_Nw.warmC hW hp4, va_Nw.warmC hW hp5⟩⟩ rfl rfl hl.1 rfl (lv_room (Nat.le_of_ble_eq_true rfl)) dJx4a65c_add_9ea2d_20 ⟨(Nat.le_of_ble_eq_true rfl), (Nat.le_of_ble_eq_true rfl)⟩) hS (fun q _ h => hFc q h) hFc (fun  u t H1 locs ht hvm hw hB hz1 hk1 hS => ?_)
  obtain ⟨z0_3, qn_4, cn_5, nn_6, fn_7, hxt_7, hP1, hK1, hD1⟩ := hB
  rw [ht] at hP1
  have hK1 := va_K.moved hvm.symm hK1
  obtain ⟨hP, hD⟩ := va_joinP (X := [(xl, .inr (18, [.int (zI (z_2)), .ref sx_ed, .int 0]))]) (cx := [(xl, .inr (18, [.int (zI (z_2)), .ref sx_ed, .int 0]))]) (wr := []) (rx := [(xl, .inr (18, [.int (zI (z_2)), .ref qn_4, .int (zI (z0_3))])), (qn_4, .inl (cn_5, nn_6, .inr (.inr (.inr (.inr fn_7)))))]) (pl := va_pl Lp_1 (pE P)) (pl1 := va_pl Lp_1 (pE P)) hP hD [0] [] rfl rfl (by decide) (by decide) hk1 hFc hP1 hD1
  have hK := (hK.sub (tys' := [(cO, .object "java/lang/Object")]) [0] rfl).app hK1
  generalize H1 = H at hP hS ⊢
  have hP : va_P (dC, dI) vwQ ([(xl, .inr (18, [.int (zI (z_2)), .ref qn_4, .int (zI (z0_3))])), (qn_4, .inl (cn_5, nn_6, .inr (.inr (.inr (.inr fn_7)))))] ++ va_pl Lp_1 (pE P)) H := hP
  have hD : va_D A ([(xl, .inr (18, [.int (zI (z_2)), .ref qn_4, .int (zI (z0_3))])), (qn_4, .inl (cn_5, nn_6, .inr (.inr (.inr (.inr fn_7)))))] ++ va_pl Lp_1 (pE P)) := hD
  have hK : va_K (dC, dI) vwQ [(cO, .object "java/lang/Object"), (cn_5, .object "java/lang/Object")] s := hK
  refine W.widen (k := 1) (n := 10) (Nat.le_of_ble_eq_true rfl) (Nat.le_of_ble_eq_true rfl) ?_
  obtain ⟨rk_8, hu_8⟩ := hxt_7
  refine lv_iconst (v := 1) hx hb dJx4a65c_add_9ea2d_23 (by decide) ?_
  subst hQ
  have hgr9 := hu_8
  obtain rfl : cO = cn_5 := cls_eq hK 0 1 rfl rfl
  have hP : va_P (dC, dI) vwQ ([(xl, .inr (18, [.int (zI (z_2)), .ref qn_4, .int (zI (z0_3))])), (qn_4, .inl (cO, nn_6, .inr (.inr (.inr (.inr fn_7)))))] ++ va_pl Lp_1 (pE P)) H := hP
  have hD : va_D A ([(xl, .inr (18, [.int (zI (z_2)), .ref qn_4, .int (zI (z0_3))])), (qn_4, .inl (cO, nn_6, .inr (.inr (.inr (.inr fn_7)))))] ++ va_pl Lp_1 (pE P)) := hD
  have hK := hK.sub (tys' := [(cO, .object "java/lang/Object")]) [0] rfl
  have hni1 := pl_notin (X := [(xl, .inr (18, [.int (zI (z_2)), .ref qn_4, .int (zI (z0_3))]))]) hD
  obtain ⟨Pa_9, ePa_9⟩ : ∃ q9 : PO, q9 = P.nr9 qn_4 xl cO nn_6 (fn_7) := ⟨_, rfl⟩
  obtain ⟨hP, hD⟩ := pool_new (X := [(xl, .inr (18, [.int (zI (z_2)), .ref qn_4, .int (zI (z0_3))]))]) (P' := Pa_9) (by rw [ePa_9]; exact putnr _ _ _ _ _ _) hP hD
  have hP : va_P (dC, dI) vwQ ([(xl, .inr (18, [.int (zI (z_2)), .ref qn_4, .int (zI (z0_3))]))] ++ va_pl (qn_4 :: Lp_1) (pE Pa_9)) H := hP
  have hD : va_D A ([(xl, .inr (18, [.int (zI (z_2)), .ref qn_4, .int (zI (z0_3))]))] ++ va_pl (qn_4 :: Lp_1) (pE Pa_9)) := hD
  have hni2 := pl_notin (X := []) hD
  obtain ⟨Pb_10, ePb_10⟩ : ∃ q9 : PO, q9 = Pa_9.nl9 xl (z_2) qn_4 (z0_3) := ⟨_, rfl⟩
  obtain ⟨hP, hD⟩ := pool_new (X := []) (P' := Pb_10) (e := listE (z_2) qn_4 (z0_3)) (by rw [ePb_10]; exact putnl _ _ _ _ _) hP hD
  obtain ⟨Lq_11, eLq_11⟩ : ∃ l9 : List Nat, l9 = xl :: qn_4 :: Lp_1 := ⟨_, rfl⟩
  rw [← eLq_11] at hP hD
  have hP : va_P (dC, dI) vwQ ([] ++ va_pl Lq_11 (pE Pb_10)) H := hP
  have hD : va_D A ([] ++ va_pl Lq_11 (pE Pb_10)) := hD
  have wG : GL1 xl qn_4 L P Lq_11 Pb_10 := (by rw [eLq_11, ePb_10, ePa_9, hLe]; refine GL1.mk ?_ ?_ <;> (rw [hLe] at hni1 hni2; assumption))
  have wN : ∀ y : Nat, y ∈ Lp_1 → y ∈ Lq_11 ∧ SM9 y P Pb_10 := (fun y a => ⟨(by rw [eLq_11]; exact List.mem_cons_of_mem _ (List.mem_cons_of_mem _ a)), (by rw [ePb_10, ePa_9]; exact (SM9.at9 (fun (e : y = qn_4) => hni1 (by rw [← e]; exact a))).trans (SM9.at9 (fun (e : y = xl) => hni2 (by rw [← e]; exact List.mem_cons_of_mem _ a))))⟩)
  have xq9 : xl ≠ qn_4 := (fun e => hni2 (by rw [e]; exact List.mem_cons_self))
  have wZ : Pb_10.lz xl = z0_3 := (by rw [ePb_10]; simp [PO.nl9, PO.at9, PO.lz])
  have wF : Pb_10.oa qn_4 = fn_7 := (by rw [ePb_10, ePa_9]; simp [PO.nl9, PO.nr9, PO.at9, PO.oa, Ne.symm xq9])
  have wA : Pb_10.an qn_4 = nn_6 := (by rw [ePb_10, ePa_9]; simp [PO.nl9, PO.nr9, PO.at9, PO.an, Ne.symm xq9])
  have wC : Pb_10.ac qn_4 = cO := (by rw [ePb_10, ePa_9]; simp [PO.nl9, PO.nr9, PO.at9, PO.ac, Ne.symm xq9])
  have wQ : Pb_10.le xl = qn_4 := wG.1.2.2.2.1
  refine W.widen (k := 1) (n := 10) (Nat.le_of_ble_eq_true rfl) (Nat.le_of_ble_eq_true rfl) ?_
  exact W.zret (v := 1) hx hb hr (by decide) (fun t ht hW => ⟨⟨1, (1), rfl, ⟨rfl, (by omega)⟩, Lq_11, Pb_10, ⟨(by rw [wQ]; exact wG), (by omega), (by rw [wQ]; exact wC), (by rw [wQ, wA]; omega), (by rw [wQ, wF]; exact ELS.grow (x := xl) (q := xl) hgr9.2.2.1 wN), (by rw [wQ, wF]; exact hgr9.2.2.2)⟩, by rw [ht]; exact hP, va_K.moved hW.alike hK, hD⟩, hS.F ht⟩) hS.2.2 dJx4a65c_add_9ea2d_24
