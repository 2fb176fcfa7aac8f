theorem dX14_back_0 : decode cX14_back 0 = .ok (.aload_n 1, 1) := by decide +kernel
theorem dX14_back_1 : decode cX14_back 1 = .ok (.invokevirtual 140, 3) := by decide +kernel
theorem dX14_back_4 : decode cX14_back 4 = .ok (.ifCond .eq 13, 3) := by decide +kernel
theorem dX14_back_17 : decode cX14_back 17 = .ok (.aload_n 1, 1) := by decide +kernel
theorem dX14_back_18 : decode cX14_back 18 = .ok (.invokevirtual 145, 3) := by decide +kernel
theorem dX14_back_21 : decode cX14_back 21 = .ok (.ifCond .eq 13, 3) := by decide +kernel
theorem dX14_back_34 : decode cX14_back 34 = .ok (.aload_n 1, 1) := by decide +kernel
theorem dX14_back_35 : decode cX14_back 35 = .ok (.invokevirtual 151, 3) := by decide +kernel
theorem dX14_back_38 : decode cX14_back 38 = .ok (.ifCond .eq 13, 3) := by decide +kernel
theorem dX14_back_51 : decode cX14_back 51 = .ok (.return_, 1) := by decide +kernel
theorem dX14_back_41 : decode cX14_back 41 = .ok (.aload_n 0, 1) := by decide +kernel
theorem dX14_back_42 : decode cX14_back 42 = .ok (.getfield 39, 3) := by decide +kernel
theorem dX14_back_45 : decode cX14_back 45 = .ok (.aload_n 1, 1) := by decide +kernel
theorem dX14_back_46 : decode cX14_back 46 = .ok (.getfield 154, 3) := by decide +kernel
theorem dX14_back_49 : decode cX14_back 49 = .ok (.iconst 1, 1) := by decide +kernel
theorem dX14_back_50 : decode cX14_back 50 = .ok (.bastore, 1) := by decide +kernel
theorem dX14_back_24 : decode cX14_back 24 = .ok (.aload_n 0, 1) := by decide +kernel
theorem dX14_back_25 : decode cX14_back 25 = .ok (.getfield 39, 3) := by decide +kernel
theorem dX14_back_28 : decode cX14_back 28 = .ok (.aload_n 1, 1) := by decide +kernel
theorem dX14_back_29 : decode cX14_back 29 = .ok (.getfield 148, 3) := by decide +kernel
theorem dX14_back_32 : decode cX14_back 32 = .ok (.iconst 1, 1) := by decide +kernel
theorem dX14_back_33 : decode cX14_back 33 = .ok (.bastore, 1) := by decide +kernel
theorem dX14_back_7 : decode cX14_back 7 = .ok (.aload_n 0, 1) := by decide +kernel
theorem dX14_back_8 : decode cX14_back 8 = .ok (.getfield 39, 3) := by decide +kernel
theorem dX14_back_11 : decode cX14_back 11 = .ok (.aload_n 1, 1) := by decide +kernel
theorem dX14_back_12 : decode cX14_back 12 = .ok (.getfield 144, 3) := by decide +kernel
theorem dX14_back_15 : decode cX14_back 15 = .ok (.iconst 0, 1) := by decide +kernel
theorem dX14_back_16 : decode cX14_back 16 = .ok (.bastore, 1) := by decide +kernel
def o_P14_back : List Cond := [.methodLink RX14 140 yX17_sets, .instanceMethod yX17_sets, .selects RX17 yX17_sets yX17_sets, .initialized RX17, .methodLink RX14 145 yX17_usesA, .instanceMethod yX17_usesA, .selects RX17 yX17_usesA yX17_usesA, .methodLink RX14 151 yX17_usesB, .instanceMethod yX17_usesB, .selects RX17 yX17_usesB yX17_usesB, .fieldLink RX14 39 "SsaForgeModel$Flow" "now" "[Z", .fieldLink RX14 154 "SsaForgeModel$Row" "b" "I", .fieldLink RX14 148 "SsaForgeModel$Row" "a" "I", .fieldLink RX14 144 "SsaForgeModel$Row" "t" "I"]
def v_P14_back : List Cond := .code yX14_back cX14_back 2 none :: (o_P14_back ++ (v_PR_sets ++ (v_PR_usesA ++ (v_PR_usesB ++ (wsX140 ++ (wsX170 ++ []))))))
theorem mow_P14_back : ∀ w ∈ o_P14_back, w ∈ v_P14_back := fun _ h => List.mem_cons_of_mem _ (List.mem_append_left _ h)
theorem mem_P14_back_0 : ∀ w ∈ v_PR_sets, w ∈ v_P14_back := fun _ h => List.mem_cons_of_mem _ (List.mem_append_right _ (List.mem_append_left _ h))
theorem mem_P14_back_1 : ∀ w ∈ v_PR_usesA, w ∈ v_P14_back := fun _ h => List.mem_cons_of_mem _ (List.mem_append_right _ (List.mem_append_right _ (List.mem_append_left _ h)))
theorem mem_P14_back_2 : ∀ w ∈ v_PR_usesB, w ∈ v_P14_back := fun _ h => List.mem_cons_of_mem _ (List.mem_append_right _ (List.mem_append_right _ (List.mem_append_right _ (List.mem_append_left _ h))))
theorem mem_P14_back_3 : ∀ w ∈ wsX140, w ∈ v_P14_back := fun _ h => List.mem_cons_of_mem _ (List.mem_append_right _ (List.mem_append_right _ (List.mem_append_right _ (List.mem_append_right _ (List.mem_append_left _ h)))))
theorem mem_P14_back_4 : ∀ w ∈ wsX170, w ∈ v_P14_back := fun _ h => List.mem_cons_of_mem _ (List.mem_append_right _ (List.mem_append_right _ (List.mem_append_right _ (List.mem_append_right _ (List.mem_append_right _ (List.mem_append_left _ h))))))
set_option maxRecDepth 20000 in
theorem gw_P14_back : v_P14_back.all goodWord = true := by decide +kernel
set_option maxRecDepth 20000 in
theorem g_P14_back_PR_sets : GoodIn v_P14_back (wsV RX14 140 RX17 yX17_sets v_PR_sets) := goodIn_app (goodIn_sub (fun w h => mow_P14_back w (by revert w h; decide +kernel)) (by decide +kernel)) (goodIn_sub mem_P14_back_0 gw_PR_sets)
set_option maxRecDepth 20000 in
theorem g_P14_back_PR_usesA : GoodIn v_P14_back (wsV RX14 145 RX17 yX17_usesA v_PR_usesA) := goodIn_app (goodIn_sub (fun w h => mow_P14_back w (by revert w h; decide +kernel)) (by decide +kernel)) (goodIn_sub mem_P14_back_1 gw_PR_usesA)
set_option maxRecDepth 20000 in
theorem g_P14_back_PR_usesB : GoodIn v_P14_back (wsV RX14 151 RX17 yX17_usesB v_PR_usesB) := goodIn_app (goodIn_sub (fun w h => mow_P14_back w (by revert w h; decide +kernel)) (by decide +kernel)) (goodIn_sub mem_P14_back_2 gw_PR_usesB)
set_option maxHeartbeats 4000000 in
set_option maxRecDepth 100000 in
theorem c_P14_back (l : Launch) (dC : Nat → ClassId) (dI : Nat → Nat → Nat) (h0 : Nat) (v14_0 : Value) (v14_1 : Value) (v14_2 : Value) (v14_3 : Value) (v14_4 : Value) (v14_5 : Value) (v14_6 : Value) (v14_7 : Value) (v14_8 : Value) (v14_9 : Value) (v14_10 : Value) (q_1411 : Nat) (cA_1411 : ClassId) (a14_now : Int → Int) (v14_12 : Value) (cO : ClassId) (L : List Nat) (P : PO) (xr : Nat) (hR_a14_now : ∀ j : Int, 0 ≤ a14_now j ∧ a14_now j ≤ 1) (hX_x : xr ∈ L) (hX_k : P.kd xr = 17) (hX_r : ROK9 P xr) (sz : Nat) : Met l yX14_back v_P14_back ({ frames := 1, cells := 0, slots := 0, locals := 20 }) (va_Pc [.ref h0, .ref xr] (fun U => U.heap.size = sz ∧ va_P (dC, dI) vwQ ([(h0, .inr (13, [v14_0, v14_1, v14_2, v14_3, v14_4, v14_5, v14_6, v14_7, v14_8, v14_9, v14_10, .ref q_1411, v14_12])), (q_1411, .inl (cA_1411, 1002, .inl (fun j : Nat => zI (a14_now (j : Int)))))] ++ va_pl L (pE P)) U.heap ∧ va_K (dC, dI) vwQ [(cA_1411, .boolean), (cO, .object "java/lang/Object")] U ∧ va_D (fun _ => True) ([(h0, .inr (13, [v14_0, v14_1, v14_2, v14_3, v14_4, v14_5, v14_6, v14_7, v14_8, v14_9, v14_10, .ref q_1411, v14_12])), (q_1411, .inl (cA_1411, 1002, .inl (fun j : Nat => zI (a14_now (j : Int)))))] ++ va_pl L (pE P)))) (va_Qv (fun _ : Unit => True) (fun (_ : Unit) (t : State) => ∃ (a0_9 : Int → Int), ((∀ j : Int, 0 ≤ a0_9 j ∧ a0_9 j ≤ 1)) ∧ va_P (dC, dI) vwQ ([(h0, .inr (13, [v14_0, v14_1, v14_2, v14_3, v14_4, v14_5, v14_6, v14_7, v14_8, v14_9, v14_10, .ref q_1411, v14_12])), (q_1411, .inl (cA_1411, 1002, .inl (fun j : Nat => zI (a0_9 (j : Int)))))] ++ va_pl L (pE P)) t.heap ∧ va_K (dC, dI) vwQ [(cA_1411, .boolean), (cO, .object "java/lang/Object")] t ∧ va_D (va_A ([(h0, .inr (13, [v14_0, v14_1, v14_2, v14_3, v14_4, v14_5, v14_6, v14_7, v14_8, v14_9, v14_10, .ref q_1411, v14_12])), (q_1411, .inl (cA_1411, 1002, .inl (fun j : Nat => zI (a14_now (j : Int)))))] ++ va_pl L (pE P)) sz) ([(h0, .inr (13, [v14_0, v14_1, v14_2, v14_3, v14_4, v14_5, v14_6, v14_7, v14_8, v14_9, v14_10, .ref q_1411, v14_12])), (q_1411, .inl (cA_1411, 1002, .inl (fun j : Nat => zI (a0_9 (j : Int)))))] ++ va_pl L (pE P))) (va_A ([(h0, .inr (13, [v14_0, v14_1, v14_2, v14_3, v14_4, v14_5, v14_6, v14_7, v14_8, v14_9, v14_10, .ref q_1411, v14_12])), (q_1411, .inl (cA_1411, 1002, .inl (fun j : Nat => zI (a14_now (j : Int)))))] ++ va_pl L (pE P)) sz)) 0 0 (va_A ([(h0, .inr (13, [v14_0, v14_1, v14_2, v14_3, v14_4, v14_5, v14_6, v14_7, v14_8, v14_9, v14_10, .ref q_1411, v14_12])), (q_1411, .inl (cA_1411, 1002, .inl (fun j : Nat => zI (a14_now (j : Int)))))] ++ va_pl L (pE P)) sz) := by
  refine Met.ofW (cc := cX14_back) (maxL := 2) (ret := none) (by decide) rfl ?_
  intro p e s m args below meth c s₁ B hml hv
  obtain ⟨rfl, hsz, hP, hK, hD0⟩ := hv
  have hx := B.exec
  have hb := B.bytes
  have hr := B.returns
  have hts := atoms_spec (ws := v_P14_back) B.pre
  have hown : s.vm.findClass RX14 = some m.cls := findClass_of_methodNamed B.named
  have hlocks := B.notSynchronized
  have ow : ∀ {k : Nat} {w : Cond}, o_P14_back[k]? = some w → w.before ([.ref h0, .ref xr] : List Value).toArray s = true := fun h => hts _ (mow_P14_back _ (List.mem_of_getElem? h))
  subst hsz
  have hD := hD0.self (sz := s.heap.size)
  generalize hAe : va_A ([(h0, .inr (13, [v14_0, v14_1, v14_2, v14_3, v14_4, v14_5, v14_6, v14_7, v14_8, v14_9, v14_10, .ref q_1411, v14_12])), (q_1411, .inl (cA_1411, 1002, .inl (fun j : Nat => zI (a14_now (j : Int)))))] ++ va_pl L (pE P)) s.heap.size = A at hD ⊢
  have hA : ∀ q : Nat, s.heap.size ≤ q → A q := fun q h => by rw [← hAe]; exact Or.inr h
  have hS : va_S A s.heap s.heap [] := va_S.rf
  have hP : va_P (dC, dI) vwQ ([(h0, .inr (13, [v14_0, v14_1, v14_2, v14_3, v14_4, v14_5, v14_6, v14_7, v14_8, v14_9, v14_10, .ref q_1411, v14_12])), (q_1411, .inl (cA_1411, 1002, .inl (fun j : Nat => zI (a14_now (j : Int)))))] ++ va_pl L (pE P)) s.heap := hP
  have hl := lv_entry ([.ref h0, .ref xr]) (n := 2) (Nat.le_of_ble_eq_true rfl)
  rw [lg_entry_eq]
  generalize (lg_sl ([.ref h0, .ref xr]) ++ List.replicate (2 - (lg_sl ([.ref h0, .ref xr])).length) Slot.unset).toArray = ls at hl ⊢
  have hl : lv_has ls 2 [(0, .ref h0), (1, .ref xr)] := hl
  obtain ⟨H, hH⟩ : ∃ H, H = s.heap := ⟨_, rfl⟩
  rw [← hH] at hP
  have hS : va_S A s.heap H [] := by rw [hH]; exact hS
  rw [← hH]
  refine zW_cap (fun Q hQ => ?_)
  have ⟨hr1, hr2, hr3, hr4, hr5, hr6, hr7, hr8, hr9⟩ := hX_r
  refine lv_aload_n hx hb dX14_back_0 rfl (lv_at hl 1 rfl) ?_
  have hPc := hP.part (X := [(h0, .inr (13, [v14_0, v14_1, v14_2, v14_3, v14_4, v14_5, v14_6, v14_7, v14_8, v14_9, v14_10, .ref q_1411, v14_12])), (q_1411, .inl (cA_1411, 1002, .inl (fun j : Nat => zI (a14_now (j : Int)))))]) (cx := []) (pl := va_pl L (pE P)) [] rfl
  have hDc := hD.part (X := [(h0, .inr (13, [v14_0, v14_1, v14_2, v14_3, v14_4, v14_5, v14_6, v14_7, v14_8, v14_9, v14_10, .ref q_1411, v14_12])), (q_1411, .inl (cA_1411, 1002, .inl (fun j : Nat => zI (a14_now (j : Int)))))]) (cx := []) (pl := va_pl L (pE P)) [] (by decide) rfl
  have hKc := hK.sub (tys' := [(cO, .object "java/lang/Object")]) [1] rfl
  have hFc := va_freeP (X := [(h0, .inr (13, [v14_0, v14_1, v14_2, v14_3, v14_4, v14_5, v14_6, v14_7, v14_8, v14_9, v14_10, .ref q_1411, v14_12])), (q_1411, .inl (cA_1411, 1002, .inl (fun j : Nat => zI (a14_now (j : Int)))))]) (cx := []) (pl := va_pl L (pE P)) hD hS hA [] rfl
  refine va_calli (va_runV (As := []) (rest := []) ⟨hx, hb, hml, hown, hts⟩ (c_PR_sets l dC dI cO L P xr hX_x hX_k (by omega) H.size) (cwV 0 hts g_P14_back_PR_sets rfl rfl rfl (by decide +kernel) ⟨(Nat.le_of_ble_eq_true rfl), (Nat.le_of_ble_eq_true rfl)⟩) ⟨fun a U g mk q => by obtain ⟨q0, q1, qP, qK, qD⟩ := q; exact ⟨q0, q1, qP, va_K.moved (u := U) (U := U.calling g mk a) (Vm.Alike.refl U.vm) qK, qD⟩, recv_17 hKc hPc hX_x hX_k, fun U hU hW => ⟨rfl, by rw [hU], by rw [hU]; exact hPc, va_K.moved hW.alike hKc, hDc.weaken (fun _ _ _ _ => trivial)⟩⟩ rfl rfl hl.1 rfl (lv_room (Nat.le_of_ble_eq_true rfl)) dX14_back_1 ⟨(Nat.le_of_ble_eq_true rfl), (Nat.le_of_ble_eq_true rfl)⟩) hS (fun q _ h => hFc q h) hFc (fun r_2001 u t H1 locs ht hvm hw hB hz1 hk1 hS => ?_)
  obtain ⟨hP1, hK1, hD1⟩ := hB
  rw [ht] at hP1
  have hK1 := va_K.moved hvm.symm hK1
  obtain ⟨hP, hD⟩ := va_joinP (X := [(h0, .inr (13, [v14_0, v14_1, v14_2, v14_3, v14_4, v14_5, v14_6, v14_7, v14_8, v14_9, v14_10, .ref q_1411, v14_12])), (q_1411, .inl (cA_1411, 1002, .inl (fun j : Nat => zI (a14_now (j : Int)))))]) (cx := []) (wr := [(h0, .inr (13, [v14_0, v14_1, v14_2, v14_3, v14_4, v14_5, v14_6, v14_7, v14_8, v14_9, v14_10, .ref q_1411, v14_12])), (q_1411, .inl (cA_1411, 1002, .inl (fun j : Nat => zI (a14_now (j : Int)))))]) (rx := []) (pl := va_pl L (pE P)) (pl1 := va_pl L (pE P)) hP hD [] [0, 1] rfl rfl (by decide) (by decide) hk1 hFc hP1 hD1
  have hK := (hK.sub (tys' := [(cA_1411, .boolean)]) [0] rfl).app hK1
  generalize H1 = H at hP hS ⊢
  have hP : va_P (dC, dI) vwQ ([(h0, .inr (13, [v14_0, v14_1, v14_2, v14_3, v14_4, v14_5, v14_6, v14_7, v14_8, v14_9, v14_10, .ref q_1411, v14_12])), (q_1411, .inl (cA_1411, 1002, .inl (fun j : Nat => zI (a14_now (j : Int)))))] ++ va_pl L (pE P)) H := hP
  have hD : va_D A ([(h0, .inr (13, [v14_0, v14_1, v14_2, v14_3, v14_4, v14_5, v14_6, v14_7, v14_8, v14_9, v14_10, .ref q_1411, v14_12])), (q_1411, .inl (cA_1411, 1002, .inl (fun j : Nat => zI (a14_now (j : Int)))))] ++ va_pl L (pE P)) := hD
  have hK : va_K (dC, dI) vwQ [(cA_1411, .boolean), (cO, .object "java/lang/Object")] s := hK
  refine W.widen (k := 0) (n := 0) (Nat.le_of_ble_eq_true rfl) (Nat.le_of_ble_eq_true rfl) ?_
  obtain rfl : r_2001 = (zI (rSets (P.ro xr))) := hw
  have := rSets_spec (P.ro xr)
  refine lv_if_eq (tgt := 17) hx hb dX14_back_4 (by decide) (fun b4 => ?_) (fun b4 => ?_)
  · have yb4 : (rSets (P.ro xr) : Int) = (0 : Int) := (zI_eq (a := rSets (P.ro xr)) (b := 0) (by omega) (by omega) (by omega) (by omega)).mp b4
    refine lv_aload_n hx hb dX14_back_17 rfl (lv_at hl 1 rfl) ?_
    have hPc := hP.part (X := [(h0, .inr (13, [v14_0, v14_1, v14_2, v14_3, v14_4, v14_5, v14_6, v14_7, v14_8, v14_9, v14_10, .ref q_1411, v14_12])), (q_1411, .inl (cA_1411, 1002, .inl (fun j : Nat => zI (a14_now (j : Int)))))]) (cx := []) (pl := va_pl L (pE P)) [] rfl
    have hDc := hD.part (X := [(h0, .inr (13, [v14_0, v14_1, v14_2, v14_3, v14_4, v14_5, v14_6, v14_7, v14_8, v14_9, v14_10, .ref q_1411, v14_12])), (q_1411, .inl (cA_1411, 1002, .inl (fun j : Nat => zI (a14_now (j : Int)))))]) (cx := []) (pl := va_pl L (pE P)) [] (by decide) rfl
    have hKc := hK.sub (tys' := [(cO, .object "java/lang/Object")]) [1] rfl
    have hFc := va_freeP (X := [(h0, .inr (13, [v14_0, v14_1, v14_2, v14_3, v14_4, v14_5, v14_6, v14_7, v14_8, v14_9, v14_10, .ref q_1411, v14_12])), (q_1411, .inl (cA_1411, 1002, .inl (fun j : Nat => zI (a14_now (j : Int)))))]) (cx := []) (pl := va_pl L (pE P)) hD hS hA [] rfl
    refine va_calli (va_runV (As := []) (rest := []) ⟨hx, hb, hml, hown, hts⟩ (c_PR_usesA l dC dI cO L P xr hX_x hX_k hX_r H.size) (cwV 0 hts g_P14_back_PR_usesA rfl rfl rfl (by decide +kernel) ⟨(Nat.le_of_ble_eq_true rfl), (Nat.le_of_ble_eq_true rfl)⟩) ⟨fun a U g mk q => by obtain ⟨q0, q1, qP, qK, qD⟩ := q; exact ⟨q0, q1, qP, va_K.moved (u := U) (U := U.calling g mk a) (Vm.Alike.refl U.vm) qK, qD⟩, recv_17 hKc hPc hX_x hX_k, fun U hU hW => ⟨rfl, by rw [hU], by rw [hU]; exact hPc, va_K.moved hW.alike hKc, hDc.weaken (fun _ _ _ _ => trivial)⟩⟩ rfl rfl hl.1 rfl (lv_room (Nat.le_of_ble_eq_true rfl)) dX14_back_18 ⟨(Nat.le_of_ble_eq_true rfl), (Nat.le_of_ble_eq_true rfl)⟩) hS (fun q _ h => hFc q h) hFc (fun r_2002 u t H1 locs ht hvm hw hB hz1 hk1 hS => ?_)
    obtain ⟨hP1, hK1, hD1⟩ := hB
    rw [ht] at hP1
    have hK1 := va_K.moved hvm.symm hK1
    obtain ⟨hP, hD⟩ := va_joinP (X := [(h0, .inr (13, [v14_0, v14_1, v14_2, v14_3, v14_4, v14_5, v14_6, v14_7, v14_8, v14_9, v14_10, .ref q_1411, v14_12])), (q_1411, .inl (cA_1411, 1002, .inl (fun j : Nat => zI (a14_now (j : Int)))))]) (cx := []) (wr := [(h0, .inr (13, [v14_0, v14_1, v14_2, v14_3, v14_4, v14_5, v14_6, v14_7, v14_8, v14_9, v14_10, .ref q_1411, v14_12])), (q_1411, .inl (cA_1411, 1002, .inl (fun j : Nat => zI (a14_now (j : Int)))))]) (rx := []) (pl := va_pl L (pE P)) (pl1 := va_pl L (pE P)) hP hD [] [0, 1] rfl rfl (by decide) (by decide) hk1 hFc hP1 hD1
    have hK := (hK.sub (tys' := [(cA_1411, .boolean)]) [0] rfl).app hK1
    generalize H1 = H at hP hS ⊢
    have hP : va_P (dC, dI) vwQ ([(h0, .inr (13, [v14_0, v14_1, v14_2, v14_3, v14_4, v14_5, v14_6, v14_7, v14_8, v14_9, v14_10, .ref q_1411, v14_12])), (q_1411, .inl (cA_1411, 1002, .inl (fun j : Nat => zI (a14_now (j : Int)))))] ++ va_pl L (pE P)) H := hP
    have hD : va_D A ([(h0, .inr (13, [v14_0, v14_1, v14_2, v14_3, v14_4, v14_5, v14_6, v14_7, v14_8, v14_9, v14_10, .ref q_1411, v14_12])), (q_1411, .inl (cA_1411, 1002, .inl (fun j : Nat => zI (a14_now (j : Int)))))] ++ va_pl L (pE P)) := hD
    have hK : va_K (dC, dI) vwQ [(cA_1411, .boolean), (cO, .object "java/lang/Object")] s := hK
    refine W.widen (k := 0) (n := 0) (Nat.le_of_ble_eq_true rfl) (Nat.le_of_ble_eq_true rfl) ?_
    obtain rfl : r_2002 = (zI (rUsA (P.ro xr) (P.rA xr))) := hw
    have := rUsA_spec (P.ro xr) (P.rA xr)
    refine lv_if_eq (tgt := 34) hx hb dX14_back_21 (by decide) (fun b21 => ?_) (fun b21 => ?_)
    · have yb21 : (rUsA (P.ro xr) (P.rA xr) : Int) = (0 : Int) := (zI_eq (a := rUsA (P.ro xr) (P.rA xr)) (b := 0) (by omega) (by omega) (by omega) (by omega)).mp b21
      refine lv_aload_n hx hb dX14_back_34 rfl (lv_at hl 1 rfl) ?_
      have hPc := hP.part (X := [(h0, .inr (13, [v14_0, v14_1, v14_2, v14_3, v14_4, v14_5, v14_6, v14_7, v14_8, v14_9, v14_10, .ref q_1411, v14_12])), (q_1411, .inl (cA_1411, 1002, .inl (fun j : Nat => zI (a14_now (j : Int)))))]) (cx := []) (pl := va_pl L (pE P)) [] rfl
      have hDc := hD.part (X := [(h0, .inr (13, [v14_0, v14_1, v14_2, v14_3, v14_4, v14_5, v14_6, v14_7, v14_8, v14_9, v14_10, .ref q_1411, v14_12])), (q_1411, .inl (cA_1411, 1002, .inl (fun j : Nat => zI (a14_now (j : Int)))))]) (cx := []) (pl := va_pl L (pE P)) [] (by decide) rfl
      have hKc := hK.sub (tys' := [(cO, .object "java/lang/Object")]) [1] rfl
      have hFc := va_freeP (X := [(h0, .inr (13, [v14_0, v14_1, v14_2, v14_3, v14_4, v14_5, v14_6, v14_7, v14_8, v14_9, v14_10, .ref q_1411, v14_12])), (q_1411, .inl (cA_1411, 1002, .inl (fun j : Nat => zI (a14_now (j : Int)))))]) (cx := []) (pl := va_pl L (pE P)) hD hS hA [] rfl
      refine va_calli (va_runV (As := []) (rest := []) ⟨hx, hb, hml, hown, hts⟩ (c_PR_usesB l dC dI cO L P xr hX_x hX_k hX_r H.size) (cwV 0 hts g_P14_back_PR_usesB rfl rfl rfl (by decide +kernel) ⟨(Nat.le_of_ble_eq_true rfl), (Nat.le_of_ble_eq_true rfl)⟩) ⟨fun a U g mk q => by obtain ⟨q0, q1, qP, qK, qD⟩ := q; exact ⟨q0, q1, qP, va_K.moved (u := U) (U := U.calling g mk a) (Vm.Alike.refl U.vm) qK, qD⟩, recv_17 hKc hPc hX_x hX_k, fun U hU hW => ⟨rfl, by rw [hU], by rw [hU]; exact hPc, va_K.moved hW.alike hKc, hDc.weaken (fun _ _ _ _ => trivial)⟩⟩ rfl rfl hl.1 rfl (lv_room (Nat.le_of_ble_eq_true rfl)) dX14_back_35 ⟨(Nat.le_of_ble_eq_true rfl), (Nat.le_of_ble_eq_true rfl)⟩) hS (fun q _ h => hFc q h) hFc (fun r_2003 u t H1 locs ht hvm hw hB hz1 hk1 hS => ?_)
      obtain ⟨hP1, hK1, hD1⟩ := hB
      rw [ht] at hP1
      have hK1 := va_K.moved hvm.symm hK1
      obtain ⟨hP, hD⟩ := va_joinP (X := [(h0, .inr (13, [v14_0, v14_1, v14_2, v14_3, v14_4, v14_5, v14_6, v14_7, v14_8, v14_9, v14_10, .ref q_1411, v14_12])), (q_1411, .inl (cA_1411, 1002, .inl (fun j : Nat => zI (a14_now (j : Int)))))]) (cx := []) (wr := [(h0, .inr (13, [v14_0, v14_1, v14_2, v14_3, v14_4, v14_5, v14_6, v14_7, v14_8, v14_9, v14_10, .ref q_1411, v14_12])), (q_1411, .inl (cA_1411, 1002, .inl (fun j : Nat => zI (a14_now (j : Int)))))]) (rx := []) (pl := va_pl L (pE P)) (pl1 := va_pl L (pE P)) hP hD [] [0, 1] rfl rfl (by decide) (by decide) hk1 hFc hP1 hD1
      have hK := (hK.sub (tys' := [(cA_1411, .boolean)]) [0] rfl).app hK1
      generalize H1 = H at hP hS ⊢
      have hP : va_P (dC, dI) vwQ ([(h0, .inr (13, [v14_0, v14_1, v14_2, v14_3, v14_4, v14_5, v14_6, v14_7, v14_8, v14_9, v14_10, .ref q_1411, v14_12])), (q_1411, .inl (cA_1411, 1002, .inl (fun j : Nat => zI (a14_now (j : Int)))))] ++ va_pl L (pE P)) H := hP
      have hD : va_D A ([(h0, .inr (13, [v14_0, v14_1, v14_2, v14_3, v14_4, v14_5, v14_6, v14_7, v14_8, v14_9, v14_10, .ref q_1411, v14_12])), (q_1411, .inl (cA_1411, 1002, .inl (fun j : Nat => zI (a14_now (j : Int)))))] ++ va_pl L (pE P)) := hD
      have hK : va_K (dC, dI) vwQ [(cA_1411, .boolean), (cO, .object "java/lang/Object")] s := hK
      refine W.widen (k := 0) (n := 0) (Nat.le_of_ble_eq_true rfl) (Nat.le_of_ble_eq_true rfl) ?_
      obtain rfl : r_2003 = (zI (rUsB (P.ro xr) (P.rB xr))) := hw
      have := rUsB_spec (P.ro xr) (P.rB xr)
      refine lv_if_eq (tgt := 51) hx hb dX14_back_38 (by decide) (fun b38 => ?_) (fun b38 => ?_)
      · have yb38 : (rUsB (P.ro xr) (P.rB xr) : Int) = (0 : Int) := (zI_eq (a := rUsB (P.ro xr) (P.rB xr)) (b := 0) (by omega) (by omega) (by omega) (by omega)).mp b38
        subst hQ
        refine W.widen (k := 0) (n := 0) (Nat.le_of_ble_eq_true rfl) (Nat.le_of_ble_eq_true rfl) ?_
        exact W.vret hx hb hr (fun t ht hW => ⟨⟨(), rfl, trivial, a14_now, hR_a14_now, by rw [ht]; exact hP, va_K.moved hW.alike hK, hD⟩, hS.F ht⟩) hS.2.2 dX14_back_51
      · have yb38 : ¬ (rUsB (P.ro xr) (P.rB xr) : Int) = (0 : Int) := fun q => b38 ((zI_eq (a := rUsB (P.ro xr) (P.rB xr)) (b := 0) (by omega) (by omega) (by omega) (by omega)).mpr q)
        refine lv_aload_n hx hb dX14_back_41 rfl (lv_at hl 0 rfl) ?_
        refine va_get (D := (dC, dI)) (ci := 13) (v := .ref q_1411) (C := RX14) (T := TX14) (N := 13) hx hb hts mem_P14_back_3 hown hK hP 0 rfl rfl 11 (by decide) (ow (k := 10) rfl) (fun _ h9 => h9) rfl dX14_back_42 ?_
        refine lv_aload_n hx hb dX14_back_45 rfl (lv_at hl 1 rfl) ?_
        obtain ⟨kp_2004, hkp_2004⟩ := va_pl_get (X := [(h0, .inr (13, [v14_0, v14_1, v14_2, v14_3, v14_4, v14_5, v14_6, v14_7, v14_8, v14_9, v14_10, .ref q_1411, v14_12])), (q_1411, .inl (cA_1411, 1002, .inl (fun j : Nat => zI (a14_now (j : Int)))))]) (f := pE P) hX_x
        rw [pE_row hX_k] at hkp_2004
        refine va_get (D := (dC, dI)) (ci := 21) (v := .int (zI (P.rb xr))) (C := RX17) (T := TX17) (N := 7) hx hb hts mem_P14_back_4 hown hK hP kp_2004 hkp_2004 rfl 3 (by decide) (ow (k := 11) rfl) (fun _ h9 => h9) rfl dX14_back_46 ?_
        refine lv_iconst (v := 1) hx hb dX14_back_49 (by decide) ?_
        refine va_zast (i := zI (P.rb xr)) hx hb hK hP hD hS 1 0 rfl rfl (zI_in (a := P.rb xr) (n := 1002) (by omega) (by omega) (by decide)) dX14_back_50 (fun H locs hP hD hS => ?_)
        rw [show vp_nar .boolean 1 = 1 from zI_nar (a := 1) (by omega) (by omega)] at hP hD
        have eQ : upd (fun j : Nat => zI (a14_now (j : Int))) (zI (P.rb xr)).toNatClampNeg 1 = (fun j : Nat => zI (zup a14_now (P.rb xr) (1) (j : Int))) := zI_st a14_now (e := P.rb xr) (v := 1) (by omega) (by omega)
        rw [eQ] at hP hD
        clear eQ
        have ra_2005 : ∀ j : Int, 0 ≤ zup a14_now (P.rb xr) (1) j ∧ zup a14_now (P.rb xr) (1) j ≤ 1 := zup_P (P := fun x9 => 0 ≤ x9 ∧ x9 ≤ 1) hR_a14_now (show 0 ≤ (1) ∧ (1) ≤ 1 by omega)
        generalize zup a14_now (P.rb xr) (1) = a_2005 at hP hD ra_2005
        have hP : va_P (dC, dI) vwQ ([(h0, .inr (13, [v14_0, v14_1, v14_2, v14_3, v14_4, v14_5, v14_6, v14_7, v14_8, v14_9, v14_10, .ref q_1411, v14_12])), (q_1411, .inl (cA_1411, 1002, .inl (fun j : Nat => zI (a_2005 (j : Int)))))] ++ va_pl L (pE P)) H := hP
        have hD : va_D A ([(h0, .inr (13, [v14_0, v14_1, v14_2, v14_3, v14_4, v14_5, v14_6, v14_7, v14_8, v14_9, v14_10, .ref q_1411, v14_12])), (q_1411, .inl (cA_1411, 1002, .inl (fun j : Nat => zI (a_2005 (j : Int)))))] ++ va_pl L (pE P)) := hD
        subst hQ
        refine W.widen (k := 0) (n := 0) (Nat.le_of_ble_eq_true rfl) (Nat.le_of_ble_eq_true rfl) ?_
        exact W.vret hx hb hr (fun t ht hW => ⟨⟨(), rfl, trivial, a_2005, ra_2005, by rw [ht]; exact hP, va_K.moved hW.alike hK, hD⟩, hS.F ht⟩) hS.2.2 dX14_back_51
    · have yb21 : ¬ (rUsA (P.ro xr) (P.rA xr) : Int) = (0 : Int) := fun q => b21 ((zI_eq (a := rUsA (P.ro xr) (P.rA xr)) (b := 0) (by omega) (by omega) (by omega) (by omega)).mpr q)
      refine lv_aload_n hx hb dX14_back_24 rfl (lv_at hl 0 rfl) ?_
      refine va_get (D := (dC, dI)) (ci := 13) (v := .ref q_1411) (C := RX14) (T := TX14) (N := 13) hx hb hts mem_P14_back_3 hown hK hP 0 rfl rfl 11 (by decide) (ow (k := 10) rfl) (fun _ h9 => h9) rfl dX14_back_25 ?_
      refine lv_aload_n hx hb dX14_back_28 rfl (lv_at hl 1 rfl) ?_
      obtain ⟨kp_2006, hkp_2006⟩ := va_pl_get (X := [(h0, .inr (13, [v14_0, v14_1, v14_2, v14_3, v14_4, v14_5, v14_6, v14_7, v14_8, v14_9, v14_10, .ref q_1411, v14_12])), (q_1411, .inl (cA_1411, 1002, .inl (fun j : Nat => zI (a14_now (j : Int)))))]) (f := pE P) hX_x
      rw [pE_row hX_k] at hkp_2006
      refine va_get (D := (dC, dI)) (ci := 21) (v := .int (zI (P.ra xr))) (C := RX17) (T := TX17) (N := 7) hx hb hts mem_P14_back_4 hown hK hP kp_2006 hkp_2006 rfl 2 (by decide) (ow (k := 12) rfl) (fun _ h9 => h9) rfl dX14_back_29 ?_
      refine lv_iconst (v := 1) hx hb dX14_back_32 (by decide) ?_
      refine va_zast (i := zI (P.ra xr)) hx hb hK hP hD hS 1 0 rfl rfl (zI_in (a := P.ra xr) (n := 1002) (by omega) (by omega) (by decide)) dX14_back_33 (fun H locs hP hD hS => ?_)
      rw [show vp_nar .boolean 1 = 1 from zI_nar (a := 1) (by omega) (by omega)] at hP hD
      have eQ : upd (fun j : Nat => zI (a14_now (j : Int))) (zI (P.ra xr)).toNatClampNeg 1 = (fun j : Nat => zI (zup a14_now (P.ra xr) (1) (j : Int))) := zI_st a14_now (e := P.ra xr) (v := 1) (by omega) (by omega)
      rw [eQ] at hP hD
      clear eQ
      have ra_2007 : ∀ j : Int, 0 ≤ zup a14_now (P.ra xr) (1) j ∧ zup a14_now (P.ra xr) (1) j ≤ 1 := zup_P (P := fun x9 => 0 ≤ x9 ∧ x9 ≤ 1) hR_a14_now (show 0 ≤ (1) ∧ (1) ≤ 1 by omega)
      generalize zup a14_now (P.ra xr) (1) = a_2007 at hP hD ra_2007
      have hP : va_P (dC, dI) vwQ ([(h0, .inr (13, [v14_0, v14_1, v14_2, v14_3, v14_4, v14_5, v14_6, v14_7, v14_8, v14_9, v14_10, .ref q_1411, v14_12])), (q_1411, .inl (cA_1411, 1002, .inl (fun j : Nat => zI (a_2007 (j : Int)))))] ++ va_pl L (pE P)) H := hP
      have hD : va_D A ([(h0, .inr (13, [v14_0, v14_1, v14_2, v14_3, v14_4, v14_5, v14_6, v14_7, v14_8, v14_9, v14_10, .ref q_1411, v14_12])), (q_1411, .inl (cA_1411, 1002, .inl (fun j : Nat => zI (a_2007 (j : Int)))))] ++ va_pl L (pE P)) := hD
      refine lv_aload_n hx hb dX14_back_34 rfl (lv_at hl 1 rfl) ?_
      have hPc := hP.part (X := [(h0, .inr (13, [v14_0, v14_1, v14_2, v14_3, v14_4, v14_5, v14_6, v14_7, v14_8, v14_9, v14_10, .ref q_1411, v14_12])), (q_1411, .inl (cA_1411, 1002, .inl (fun j : Nat => zI (a_2007 (j : Int)))))]) (cx := []) (pl := va_pl L (pE P)) [] rfl
      have hDc := hD.part (X := [(h0, .inr (13, [v14_0, v14_1, v14_2, v14_3, v14_4, v14_5, v14_6, v14_7, v14_8, v14_9, v14_10, .ref q_1411, v14_12])), (q_1411, .inl (cA_1411, 1002, .inl (fun j : Nat => zI (a_2007 (j : Int)))))]) (cx := []) (pl := va_pl L (pE P)) [] (by decide) rfl
      have hKc := hK.sub (tys' := [(cO, .object "java/lang/Object")]) [1] rfl
      have hFc := va_freeP (X := [(h0, .inr (13, [v14_0, v14_1, v14_2, v14_3, v14_4, v14_5, v14_6, v14_7, v14_8, v14_9, v14_10, .ref q_1411, v14_12])), (q_1411, .inl (cA_1411, 1002, .inl (fun j : Nat => zI (a_2007 (j : Int)))))]) (cx := []) (pl := va_pl L (pE P)) hD hS hA [] rfl
      refine va_calli (va_runV (As := []) (rest := []) ⟨hx, hb, hml, hown, hts⟩ (c_PR_usesB l dC dI cO L P xr hX_x hX_k hX_r H.size) (cwV 0 hts g_P14_back_PR_usesB rfl rfl rfl (by decide +kernel) ⟨(Nat.le_of_ble_eq_true rfl), (Nat.le_of_ble_eq_true rfl)⟩) ⟨fun a U g mk q => by obtain ⟨q0, q1, qP, qK, qD⟩ := q; exact ⟨q0, q1, qP, va_K.moved (u := U) (U := U.calling g mk a) (Vm.Alike.refl U.vm) qK, qD⟩, recv_17 hKc hPc hX_x hX_k, fun U hU hW => ⟨rfl, by rw [hU], by rw [hU]; exact hPc, va_K.moved hW.alike hKc, hDc.weaken (fun _ _ _ _ => trivial)⟩⟩ rfl rfl hl.1 rfl (lv_room (Nat.le_of_ble_eq_true rfl)) dX14_back_35 ⟨(Nat.le_of_ble_eq_true rfl), (Nat.le_of_ble_eq_true rfl)⟩) hS (fun q _ h => hFc q h) hFc (fun r_2008 u t H1 locs ht hvm hw hB hz1 hk1 hS => ?_)
      obtain ⟨hP1, hK1, hD1⟩ := hB
      rw [ht] at hP1
      have hK1 := va_K.moved hvm.symm hK1
      obtain ⟨hP, hD⟩ := va_joinP (X := [(h0, .inr (13, [v14_0, v14_1, v14_2, v14_3, v14_4, v14_5, v14_6, v14_7, v14_8, v14_9, v14_10, .ref q_1411, v14_12])), (q_1411, .inl (cA_1411, 1002, .inl (fun j : Nat => zI (a_2007 (j : Int)))))]) (cx := []) (wr := [(h0, .inr (13, [v14_0, v14_1, v14_2, v14_3, v14_4, v14_5, v14_6, v14_7, v14_8, v14_9, v14_10, .ref q_1411, v14_12])), (q_1411, .inl (cA_1411, 1002, .inl (fun j : Nat => zI (a_2007 (j : Int)))))]) (rx := []) (pl := va_pl L (pE P)) (pl1 := va_pl L (pE P)) hP hD [] [0, 1] rfl rfl (by decide) (by decide) hk1 hFc hP1 hD1
      have hK := (hK.sub (tys' := [(cA_1411, .boolean)]) [0] rfl).app hK1
      generalize H1 = H at hP hS ⊢
      have hP : va_P (dC, dI) vwQ ([(h0, .inr (13, [v14_0, v14_1, v14_2, v14_3, v14_4, v14_5, v14_6, v14_7, v14_8, v14_9, v14_10, .ref q_1411, v14_12])), (q_1411, .inl (cA_1411, 1002, .inl (fun j : Nat => zI (a_2007 (j : Int)))))] ++ va_pl L (pE P)) H := hP
      have hD : va_D A ([(h0, .inr (13, [v14_0, v14_1, v14_2, v14_3, v14_4, v14_5, v14_6, v14_7, v14_8, v14_9, v14_10, .ref q_1411, v14_12])), (q_1411, .inl (cA_1411, 1002, .inl (fun j : Nat => zI (a_2007 (j : Int)))))] ++ va_pl L (pE P)) := hD
      have hK : va_K (dC, dI) vwQ [(cA_1411, .boolean), (cO, .object "java/lang/Object")] s := hK
      refine W.widen (k := 0) (n := 0) (Nat.le_of_ble_eq_true rfl) (Nat.le_of_ble_eq_true rfl) ?_
      obtain rfl : r_2008 = (zI (rUsB (P.ro xr) (P.rB xr))) := hw
      have := rUsB_spec (P.ro xr) (P.rB xr)
      refine lv_if_eq (tgt := 51) hx hb dX14_back_38 (by decide) (fun b38 => ?_) (fun b38 => ?_)
      · have yb38 : (rUsB (P.ro xr) (P.rB xr) : Int) = (0 : Int) := (zI_eq (a := rUsB (P.ro xr) (P.rB xr)) (b := 0) (by omega) (by omega) (by omega) (by omega)).mp b38
        subst hQ
        refine W.widen (k := 0) (n := 0) (Nat.le_of_ble_eq_true rfl) (Nat.le_of_ble_eq_true rfl) ?_
        exact W.vret hx hb hr (fun t ht hW => ⟨⟨(), rfl, trivial, a_2007, ra_2007, by rw [ht]; exact hP, va_K.moved hW.alike hK, hD⟩, hS.F ht⟩) hS.2.2 dX14_back_51
      · have yb38 : ¬ (rUsB (P.ro xr) (P.rB xr) : Int) = (0 : Int) := fun q => b38 ((zI_eq (a := rUsB (P.ro xr) (P.rB xr)) (b := 0) (by omega) (by omega) (by omega) (by omega)).mpr q)
        refine lv_aload_n hx hb dX14_back_41 rfl (lv_at hl 0 rfl) ?_
        refine va_get (D := (dC, dI)) (ci := 13) (v := .ref q_1411) (C := RX14) (T := TX14) (N := 13) hx hb hts mem_P14_back_3 hown hK hP 0 rfl rfl 11 (by decide) (ow (k := 10) rfl) (fun _ h9 => h9) rfl dX14_back_42 ?_
        refine lv_aload_n hx hb dX14_back_45 rfl (lv_at hl 1 rfl) ?_
        obtain ⟨kp_2009, hkp_2009⟩ := va_pl_get (X := [(h0, .inr (13, [v14_0, v14_1, v14_2, v14_3, v14_4, v14_5, v14_6, v14_7, v14_8, v14_9, v14_10, .ref q_1411, v14_12])), (q_1411, .inl (cA_1411, 1002, .inl (fun j : Nat => zI (a_2007 (j : Int)))))]) (f := pE P) hX_x
        rw [pE_row hX_k] at hkp_2009
        refine va_get (D := (dC, dI)) (ci := 21) (v := .int (zI (P.rb xr))) (C := RX17) (T := TX17) (N := 7) hx hb hts mem_P14_back_4 hown hK hP kp_2009 hkp_2009 rfl 3 (by decide) (ow (k := 11) rfl) (fun _ h9 => h9) rfl dX14_back_46 ?_
        refine lv_iconst (v := 1) hx hb dX14_back_49 (by decide) ?_
        refine va_zast (i := zI (P.rb xr)) hx hb hK hP hD hS 1 0 rfl rfl (zI_in (a := P.rb xr) (n := 1002) (by omega) (by omega) (by decide)) dX14_back_50 (fun H locs hP hD hS => ?_)
        rw [show vp_nar .boolean 1 = 1 from zI_nar (a := 1) (by omega) (by omega)] at hP hD
        have eQ : upd (fun j : Nat => zI (a_2007 (j : Int))) (zI (P.rb xr)).toNatClampNeg 1 = (fun j : Nat => zI (zup a_2007 (P.rb xr) (1) (j : Int))) := zI_st a_2007 (e := P.rb xr) (v := 1) (by omega) (by omega)
        rw [eQ] at hP hD
        clear eQ
        have ra_2010 : ∀ j : Int, 0 ≤ zup a_2007 (P.rb xr) (1) j ∧ zup a_2007 (P.rb xr) (1) j ≤ 1 := zup_P (P := fun x9 => 0 ≤ x9 ∧ x9 ≤ 1) ra_2007 (show 0 ≤ (1) ∧ (1) ≤ 1 by omega)
        generalize zup a_2007 (P.rb xr) (1) = a_2010 at hP hD ra_2010
        have hP : va_P (dC, dI) vwQ ([(h0, .inr (13, [v14_0, v14_1, v14_2, v14_3, v14_4, v14_5, v14_6, v14_7, v14_8, v14_9, v14_10, .ref q_1411, v14_12])), (q_1411, .inl (cA_1411, 1002, .inl (fun j : Nat => zI (a_2010 (j : Int)))))] ++ va_pl L (pE P)) H := hP
        have hD : va_D A ([(h0, .inr (13, [v14_0, v14_1, v14_2, v14_3, v14_4, v14_5, v14_6, v14_7, v14_8, v14_9, v14_10, .ref q_1411, v14_12])), (q_1411, .inl (cA_1411, 1002, .inl (fun j : Nat => zI (a_2010 (j : Int)))))] ++ va_pl L (pE P)) := hD
        subst hQ
        refine W.widen (k := 0) (n := 0) (Nat.le_of_ble_eq_true rfl) (Nat.le_of_ble_eq_true rfl) ?_
        exact W.vret hx hb hr (fun t ht hW => ⟨⟨(), rfl, trivial, a_2010, ra_2010, by rw [ht]; exact hP, va_K.moved hW.alike hK, hD⟩, hS.F ht⟩) hS.2.2 dX14_back_51
  · have yb4 : ¬ (rSets (P.ro xr) : Int) = (0 : Int) := fun q => b4 ((zI_eq (a := rSets (P.ro xr)) (b := 0) (by omega) (by omega) (by omega) (by omega)).mpr q)
    refine lv_aload_n hx hb dX14_back_7 rfl (lv_at hl 0 rfl) ?_
    refine va_get (D := (dC, dI)) (ci := 13) (v := .ref q_1411) (C := RX14) (T := TX14) (N := 13) hx hb hts mem_P14_back_3 hown hK hP 0 rfl rfl 11 (by decide) (ow (k := 10) rfl) (fun _ h9 => h9) rfl dX14_back_8 ?_
    refine lv_aload_n hx hb dX14_back_11 rfl (lv_at hl 1 rfl) ?_
    obtain ⟨kp_2011, hkp_2011⟩ := va_pl_get (X := [(h0, .inr (13, [v14_0, v14_1, v14_2, v14_3, v14_4, v14_5, v14_6, v14_7, v14_8, v14_9, v14_10, .ref q_1411, v14_12])), (q_1411, .inl (cA_1411, 1002, .inl (fun j : Nat => zI (a14_now (j : Int)))))]) (f := pE P) hX_x
    rw [pE_row hX_k] at hkp_2011
    refine va_get (D := (dC, dI)) (ci := 21) (v := .int (zI (P.rt xr))) (C := RX17) (T := TX17) (N := 7) hx hb hts mem_P14_back_4 hown hK hP kp_2011 hkp_2011 rfl 1 (by decide) (ow (k := 13) rfl) (fun _ h9 => h9) rfl dX14_back_12 ?_
    refine lv_iconst (v := 0) hx hb dX14_back_15 (by decide) ?_
    refine va_zast (i := zI (P.rt xr)) hx hb hK hP hD hS 1 0 rfl rfl (zI_in (a := P.rt xr) (n := 1002) (by omega) (by omega) (by decide)) dX14_back_16 (fun H locs hP hD hS => ?_)
    rw [show vp_nar .boolean 0 = 0 from zI_nar (a := 0) (by omega) (by omega)] at hP hD
    have eQ : upd (fun j : Nat => zI (a14_now (j : Int))) (zI (P.rt xr)).toNatClampNeg 0 = (fun j : Nat => zI (zup a14_now (P.rt xr) (0) (j : Int))) := zI_st a14_now (e := P.rt xr) (v := 0) (by omega) (by omega)
    rw [eQ] at hP hD
    clear eQ
    have ra_2012 : ∀ j : Int, 0 ≤ zup a14_now (P.rt xr) (0) j ∧ zup a14_now (P.rt xr) (0) j ≤ 1 := zup_P (P := fun x9 => 0 ≤ x9 ∧ x9 ≤ 1) hR_a14_now (show 0 ≤ (0) ∧ (0) ≤ 1 by omega)
    generalize zup a14_now (P.rt xr) (0) = a_2012 at hP hD ra_2012
    have hP : va_P (dC, dI) vwQ ([(h0, .inr (13, [v14_0, v14_1, v14_2, v14_3, v14_4, v14_5, v14_6, v14_7, v14_8, v14_9, v14_10, .ref q_1411, v14_12])), (q_1411, .inl (cA_1411, 1002, .inl (fun j : Nat => zI (a_2012 (j : Int)))))] ++ va_pl L (pE P)) H := hP
    have hD : va_D A ([(h0, .inr (13, [v14_0, v14_1, v14_2, v14_3, v14_4, v14_5, v14_6, v14_7, v14_8, v14_9, v14_10, .ref q_1411, v14_12])), (q_1411, .inl (cA_1411, 1002, .inl (fun j : Nat => zI (a_2012 (j : Int)))))] ++ va_pl L (pE P)) := hD
    refine lv_aload_n hx hb dX14_back_17 rfl (lv_at hl 1 rfl) ?_
    have hPc := hP.part (X := [(h0, .inr (13, [v14_0, v14_1, v14_2, v14_3, v14_4, v14_5, v14_6, v14_7, v14_8, v14_9, v14_10, .ref q_1411, v14_12])), (q_1411, .inl (cA_1411, 1002, .inl (fun j : Nat => zI (a_2012 (j : Int)))))]) (cx := []) (pl := va_pl L (pE P)) [] rfl
    have hDc := hD.part (X := [(h0, .inr (13, [v14_0, v14_1, v14_2, v14_3, v14_4, v14_5, v14_6, v14_7, v14_8, v14_9, v14_10, .ref q_1411, v14_12])), (q_1411, .inl (cA_1411, 1002, .inl (fun j : Nat => zI (a_2012 (j : Int)))))]) (cx := []) (pl := va_pl L (pE P)) [] (by decide) rfl
    have hKc := hK.sub (tys' := [(cO, .object "java/lang/Object")]) [1] rfl
    have hFc := va_freeP (X := [(h0, .inr (13, [v14_0, v14_1, v14_2, v14_3, v14_4, v14_5, v14_6, v14_7, v14_8, v14_9, v14_10, .ref q_1411, v14_12])), (q_1411, .inl (cA_1411, 1002, .inl (fun j : Nat => zI (a_2012 (j : Int)))))]) (cx := []) (pl := va_pl L (pE P)) hD hS hA [] rfl
    refine va_calli (va_runV (As := []) (rest := []) ⟨hx, hb, hml, hown, hts⟩ (c_PR_usesA l dC dI cO L P xr hX_x hX_k hX_r H.size) (cwV 0 hts g_P14_back_PR_usesA rfl rfl rfl (by decide +kernel) ⟨(Nat.le_of_ble_eq_true rfl), (Nat.le_of_ble_eq_true rfl)⟩) ⟨fun a U g mk q => by obtain ⟨q0, q1, qP, qK, qD⟩ := q; exact ⟨q0, q1, qP, va_K.moved (u := U) (U := U.calling g mk a) (Vm.Alike.refl U.vm) qK, qD⟩, recv_17 hKc hPc hX_x hX_k, fun U hU hW => ⟨rfl, by rw [hU], by rw [hU]; exact hPc, va_K.moved hW.alike hKc, hDc.weaken (fun _ _ _ _ => trivial)⟩⟩ rfl rfl hl.1 rfl (lv_room (Nat.le_of_ble_eq_true rfl)) dX14_back_18 ⟨(Nat.le_of_ble_eq_true rfl), (Nat.le_of_ble_eq_true rfl)⟩) hS (fun q _ h => hFc q h) hFc (fun r_2013 u t H1 locs ht hvm hw hB hz1 hk1 hS => ?_)
    obtain ⟨hP1, hK1, hD1⟩ := hB
    rw [ht] at hP1
    have hK1 := va_K.moved hvm.symm hK1
    obtain ⟨hP, hD⟩ := va_joinP (X := [(h0, .inr (13, [v14_0, v14_1, v14_2, v14_3, v14_4, v14_5, v14_6, v14_7, v14_8, v14_9, v14_10, .ref q_1411, v14_12])), (q_1411, .inl (cA_1411, 1002, .inl (fun j : Nat => zI (a_2012 (j : Int)))))]) (cx := []) (wr := [(h0, .inr (13, [v14_0, v14_1, v14_2, v14_3, v14_4, v14_5, v14_6, v14_7, v14_8, v14_9, v14_10, .ref q_1411, v14_12])), (q_1411, .inl (cA_1411, 1002, .inl (fun j : Nat => zI (a_2012 (j : Int)))))]) (rx := []) (pl := va_pl L (pE P)) (pl1 := va_pl L (pE P)) hP hD [] [0, 1] rfl rfl (by decide) (by decide) hk1 hFc hP1 hD1
    have hK := (hK.sub (tys' := [(cA_1411, .boolean)]) [0] rfl).app hK1
    generalize H1 = H at hP hS ⊢
    have hP : va_P (dC, dI) vwQ ([(h0, .inr (13, [v14_0, v14_1, v14_2, v14_3, v14_4, v14_5, v14_6, v14_7, v14_8, v14_9, v14_10, .ref q_1411, v14_12])), (q_1411, .inl (cA_1411, 1002, .inl (fun j : Nat => zI (a_2012 (j : Int)))))] ++ va_pl L (pE P)) H := hP
    have hD : va_D A ([(h0, .inr (13, [v14_0, v14_1, v14_2, v14_3, v14_4, v14_5, v14_6, v14_7, v14_8, v14_9, v14_10, .ref q_1411, v14_12])), (q_1411, .inl (cA_1411, 1002, .inl (fun j : Nat => zI (a_2012 (j : Int)))))] ++ va_pl L (pE P)) := hD
    have hK : va_K (dC, dI) vwQ [(cA_1411, .boolean), (cO, .object "java/lang/Object")] s := hK
    refine W.widen (k := 0) (n := 0) (Nat.le_of_ble_eq_true rfl) (Nat.le_of_ble_eq_true rfl) ?_
    obtain rfl : r_2013 = (zI (rUsA (P.ro xr) (P.rA xr))) := hw
    have := rUsA_spec (P.ro xr) (P.rA xr)
    refine lv_if_eq (tgt := 34) hx hb dX14_back_21 (by decide) (fun b21 => ?_) (fun b21 => ?_)
    · have yb21 : (rUsA (P.ro xr) (P.rA xr) : Int) = (0 : Int) := (zI_eq (a := rUsA (P.ro xr) (P.rA xr)) (b := 0) (by omega) (by omega) (by omega) (by omega)).mp b21
      refine lv_aload_n hx hb dX14_back_34 rfl (lv_at hl 1 rfl) ?_
      have hPc := hP.part (X := [(h0, .inr (13, [v14_0, v14_1, v14_2, v14_3, v14_4, v14_5, v14_6, v14_7, v14_8, v14_9, v14_10, .ref q_1411, v14_12])), (q_1411, .inl (cA_1411, 1002, .inl (fun j : Nat => zI (a_2012 (j : Int)))))]) (cx := []) (pl := va_pl L (pE P)) [] rfl
      have hDc := hD.part (X := [(h0, .inr (13, [v14_0, v14_1, v14_2, v14_3, v14_4, v14_5, v14_6, v14_7, v14_8, v14_9, v14_10, .ref q_1411, v14_12])), (q_1411, .inl (cA_1411, 1002, .inl (fun j : Nat => zI (a_2012 (j : Int)))))]) (cx := []) (pl := va_pl L (pE P)) [] (by decide) rfl
      have hKc := hK.sub (tys' := [(cO, .object "java/lang/Object")]) [1] rfl
      have hFc := va_freeP (X := [(h0, .inr (13, [v14_0, v14_1, v14_2, v14_3, v14_4, v14_5, v14_6, v14_7, v14_8, v14_9, v14_10, .ref q_1411, v14_12])), (q_1411, .inl (cA_1411, 1002, .inl (fun j : Nat => zI (a_2012 (j : Int)))))]) (cx := []) (pl := va_pl L (pE P)) hD hS hA [] rfl
      refine va_calli (va_runV (As := []) (rest := []) ⟨hx, hb, hml, hown, hts⟩ (c_PR_usesB l dC dI cO L P xr hX_x hX_k hX_r H.size) (cwV 0 hts g_P14_back_PR_usesB rfl rfl rfl (by decide +kernel) ⟨(Nat.le_of_ble_eq_true rfl), (Nat.le_of_ble_eq_true rfl)⟩) ⟨fun a U g mk q => by obtain ⟨q0, q1, qP, qK, qD⟩ := q; exact ⟨q0, q1, qP, va_K.moved (u := U) (U := U.calling g mk a) (Vm.Alike.refl U.vm) qK, qD⟩, recv_17 hKc hPc hX_x hX_k, fun U hU hW => ⟨rfl, by rw [hU], by rw [hU]; exact hPc, va_K.moved hW.alike hKc, hDc.weaken (fun _ _ _ _ => trivial)⟩⟩ rfl rfl hl.1 rfl (lv_room (Nat.le_of_ble_eq_true rfl)) dX14_back_35 ⟨(Nat.le_of_ble_eq_true rfl), (Nat.le_of_ble_eq_true rfl)⟩) hS (fun q _ h => hFc q h) hFc (fun r_2014 u t H1 locs ht hvm hw hB hz1 hk1 hS => ?_)
      obtain ⟨hP1, hK1, hD1⟩ := hB
      rw [ht] at hP1
      have hK1 := va_K.moved hvm.symm hK1
      obtain ⟨hP, hD⟩ := va_joinP (X := [(h0, .inr (13, [v14_0, v14_1, v14_2, v14_3, v14_4, v14_5, v14_6, v14_7, v14_8, v14_9, v14_10, .ref q_1411, v14_12])), (q_1411, .inl (cA_1411, 1002, .inl (fun j : Nat => zI (a_2012 (j : Int)))))]) (cx := []) (wr := [(h0, .inr (13, [v14_0, v14_1, v14_2, v14_3, v14_4, v14_5, v14_6, v14_7, v14_8, v14_9, v14_10, .ref q_1411, v14_12])), (q_1411, .inl (cA_1411, 1002, .inl (fun j : Nat => zI (a_2012 (j : Int)))))]) (rx := []) (pl := va_pl L (pE P)) (pl1 := va_pl L (pE P)) hP hD [] [0, 1] rfl rfl (by decide) (by decide) hk1 hFc hP1 hD1
      have hK := (hK.sub (tys' := [(cA_1411, .boolean)]) [0] rfl).app hK1
      generalize H1 = H at hP hS ⊢
      have hP : va_P (dC, dI) vwQ ([(h0, .inr (13, [v14_0, v14_1, v14_2, v14_3, v14_4, v14_5, v14_6, v14_7, v14_8, v14_9, v14_10, .ref q_1411, v14_12])), (q_1411, .inl (cA_1411, 1002, .inl (fun j : Nat => zI (a_2012 (j : Int)))))] ++ va_pl L (pE P)) H := hP
      have hD : va_D A ([(h0, .inr (13, [v14_0, v14_1, v14_2, v14_3, v14_4, v14_5, v14_6, v14_7, v14_8, v14_9, v14_10, .ref q_1411, v14_12])), (q_1411, .inl (cA_1411, 1002, .inl (fun j : Nat => zI (a_2012 (j : Int)))))] ++ va_pl L (pE P)) := hD
      have hK : va_K (dC, dI) vwQ [(cA_1411, .boolean), (cO, .object "java/lang/Object")] s := hK
      refine W.widen (k := 0) (n := 0) (Nat.le_of_ble_eq_true rfl) (Nat.le_of_ble_eq_true rfl) ?_
      obtain rfl : r_2014 = (zI (rUsB (P.ro xr) (P.rB xr))) := hw
      have := rUsB_spec (P.ro xr) (P.rB xr)
      refine lv_if_eq (tgt := 51) hx hb dX14_back_38 (by decide) (fun b38 => ?_) (fun b38 => ?_)
      · have yb38 : (rUsB (P.ro xr) (P.rB xr) : Int) = (0 : Int) := (zI_eq (a := rUsB (P.ro xr) (P.rB xr)) (b := 0) (by omega) (by omega) (by omega) (by omega)).mp b38
        subst hQ
        refine W.widen (k := 0) (n := 0) (Nat.le_of_ble_eq_true rfl) (Nat.le_of_ble_eq_true rfl) ?_
        exact W.vret hx hb hr (fun t ht hW => ⟨⟨(), rfl, trivial, a_2012, ra_2012, by rw [ht]; exact hP, va_K.moved hW.alike hK, hD⟩, hS.F ht⟩) hS.2.2 dX14_back_51
      · have yb38 : ¬ (rUsB (P.ro xr) (P.rB xr) : Int) = (0 : Int) := fun q => b38 ((zI_eq (a := rUsB (P.ro xr) (P.rB xr)) (b := 0) (by omega) (by omega) (by omega) (by omega)).mpr q)
        refine lv_aload_n hx hb dX14_back_41 rfl (lv_at hl 0 rfl) ?_
        refine va_get (D := (dC, dI)) (ci := 13) (v := .ref q_1411) (C := RX14) (T := TX14) (N := 13) hx hb hts mem_P14_back_3 hown hK hP 0 rfl rfl 11 (by decide) (ow (k := 10) rfl) (fun _ h9 => h9) rfl dX14_back_42 ?_
        refine lv_aload_n hx hb dX14_back_45 rfl (lv_at hl 1 rfl) ?_
        obtain ⟨kp_2015, hkp_2015⟩ := va_pl_get (X := [(h0, .inr (13, [v14_0, v14_1, v14_2, v14_3, v14_4, v14_5, v14_6, v14_7, v14_8, v14_9, v14_10, .ref q_1411, v14_12])), (q_1411, .inl (cA_1411, 1002, .inl (fun j : Nat => zI (a_2012 (j : Int)))))]) (f := pE P) hX_x
        rw [pE_row hX_k] at hkp_2015
        refine va_get (D := (dC, dI)) (ci := 21) (v := .int (zI (P.rb xr))) (C := RX17) (T := TX17) (N := 7) hx hb hts mem_P14_back_4 hown hK hP kp_2015 hkp_2015 rfl 3 (by decide) (ow (k := 11) rfl) (fun _ h9 => h9) rfl dX14_back_46 ?_
        refine lv_iconst (v := 1) hx hb dX14_back_49 (by decide) ?_
        refine va_zast (i := zI (P.rb xr)) hx hb hK hP hD hS 1 0 rfl rfl (zI_in (a := P.rb xr) (n := 1002) (by omega) (by omega) (by decide)) dX14_back_50 (fun H locs hP hD hS => ?_)
        rw [show vp_nar .boolean 1 = 1 from zI_nar (a := 1) (by omega) (by omega)] at hP hD
        have eQ : upd (fun j : Nat => zI (a_2012 (j : Int))) (zI (P.rb xr)).toNatClampNeg 1 = (fun j : Nat => zI (zup a_2012 (P.rb xr) (1) (j : Int))) := zI_st a_2012 (e := P.rb xr) (v := 1) (by omega) (by omega)
        rw [eQ] at hP hD
        clear eQ
        have ra_2016 : ∀ j : Int, 0 ≤ zup a_2012 (P.rb xr) (1) j ∧ zup a_2012 (P.rb xr) (1) j ≤ 1 := zup_P (P := fun x9 => 0 ≤ x9 ∧ x9 ≤ 1) ra_2012 (show 0 ≤ (1) ∧ (1) ≤ 1 by omega)
        generalize zup a_2012 (P.rb xr) (1) = a_2016 at hP hD ra_2016
        have hP : va_P (dC, dI) vwQ ([(h0, .inr (13, [v14_0, v14_1, v14_2, v14_3, v14_4, v14_5, v14_6, v14_7, v14_8, v14_9, v14_10, .ref q_1411, v14_12])), (q_1411, .inl (cA_1411, 1002, .inl (fun j : Nat => zI (a_2016 (j : Int)))))] ++ va_pl L (pE P)) H := hP
        have hD : va_D A ([(h0, .inr (13, [v14_0, v14_1, v14_2, v14_3, v14_4, v14_5, v14_6, v14_7, v14_8, v14_9, v14_10, .ref q_1411, v14_12])), (q_1411, .inl (cA_1411, 1002, .inl (fun j : Nat => zI (a_2016 (j : Int)))))] ++ va_pl L (pE P)) := hD
        subst hQ
        refine W.widen (k := 0) (n := 0) (Nat.le_of_ble_eq_true rfl) (Nat.le_of_ble_eq_true rfl) ?_
        exact W.vret hx hb hr (fun t ht hW => ⟨⟨(), rfl, trivial, a_2016, ra_2016, by rw [ht]; exact hP, va_K.moved hW.alike hK, hD⟩, hS.F ht⟩) hS.2.2 dX14_back_51
    · have yb21 : ¬ (rUsA (P.ro xr) (P.rA xr) : Int) = (0 : Int) := fun q => b21 ((zI_eq (a := rUsA (P.ro xr) (P.rA xr)) (b := 0) (by omega) (by omega) (by omega) (by omega)).mpr q)
      refine lv_aload_n hx hb dX14_back_24 rfl (lv_at hl 0 rfl) ?_
      refine va_get (D := (dC, dI)) (ci := 13) (v := .ref q_1411) (C := RX14) (T := TX14) (N := 13) hx hb hts mem_P14_back_3 hown hK hP 0 rfl rfl 11 (by decide) (ow (k := 10) rfl) (fun _ h9 => h9) rfl dX14_back_25 ?_
      refine lv_aload_n hx hb dX14_back_28 rfl (lv_at hl 1 rfl) ?_
      obtain ⟨kp_2017, hkp_2017⟩ := va_pl_get (X := [(h0, .inr (13, [v14_0, v14_1, v14_2, v14_3, v14_4, v14_5, v14_6, v14_7, v14_8, v14_9, v14_10, .ref q_1411, v14_12])), (q_1411, .inl (cA_1411, 1002, .inl (fun j : Nat => zI (a_2012 (j : Int)))))]) (f := pE P) hX_x
      rw [pE_row hX_k] at hkp_2017
      refine va_get (D := (dC, dI)) (ci := 21) (v := .int (zI (P.ra xr))) (C := RX17) (T := TX17) (N := 7) hx hb hts mem_P14_back_4 hown hK hP kp_2017 hkp_2017 rfl 2 (by decide) (ow (k := 12) rfl) (fun _ h9 => h9) rfl dX14_back_29 ?_
      refine lv_iconst (v := 1) hx hb dX14_back_32 (by decide) ?_
      refine va_zast (i := zI (P.ra xr)) hx hb hK hP hD hS 1 0 rfl rfl (zI_in (a := P.ra xr) (n := 1002) (by omega) (by omega) (by decide)) dX14_back_33 (fun H locs hP hD hS => ?_)
      rw [show vp_nar .boolean 1 = 1 from zI_nar (a := 1) (by omega) (by omega)] at hP hD
      have eQ : upd (fun j : Nat => zI (a_2012 (j : Int))) (zI (P.ra xr)).toNatClampNeg 1 = (fun j : Nat => zI (zup a_2012 (P.ra xr) (1) (j : Int))) := zI_st a_2012 (e := P.ra xr) (v := 1) (by omega) (by omega)
      rw [eQ] at hP hD
      clear eQ
      have ra_2018 : ∀ j : Int, 0 ≤ zup a_2012 (P.ra xr) (1) j ∧ zup a_2012 (P.ra xr) (1) j ≤ 1 := zup_P (P := fun x9 => 0 ≤ x9 ∧ x9 ≤ 1) ra_2012 (show 0 ≤ (1) ∧ (1) ≤ 1 by omega)
      generalize zup a_2012 (P.ra xr) (1) = a_2018 at hP hD ra_2018
      have hP : va_P (dC, dI) vwQ ([(h0, .inr (13, [v14_0, v14_1, v14_2, v14_3, v14_4, v14_5, v14_6, v14_7, v14_8, v14_9, v14_10, .ref q_1411, v14_12])), (q_1411, .inl (cA_1411, 1002, .inl (fun j : Nat => zI (a_2018 (j : Int)))))] ++ va_pl L (pE P)) H := hP
      have hD : va_D A ([(h0, .inr (13, [v14_0, v14_1, v14_2, v14_3, v14_4, v14_5, v14_6, v14_7, v14_8, v14_9, v14_10, .ref q_1411, v14_12])), (q_1411, .inl (cA_1411, 1002, .inl (fun j : Nat => zI (a_2018 (j : Int)))))] ++ va_pl L (pE P)) := hD
      refine lv_aload_n hx hb dX14_back_34 rfl (lv_at hl 1 rfl) ?_
      have hPc := hP.part (X := [(h0, .inr (13, [v14_0, v14_1, v14_2, v14_3, v14_4, v14_5, v14_6, v14_7, v14_8, v14_9, v14_10, .ref q_1411, v14_12])), (q_1411, .inl (cA_1411, 1002, .inl (fun j : Nat => zI (a_2018 (j : Int)))))]) (cx := []) (pl := va_pl L (pE P)) [] rfl
      have hDc := hD.part (X := [(h0, .inr (13, [v14_0, v14_1, v14_2, v14_3, v14_4, v14_5, v14_6, v14_7, v14_8, v14_9, v14_10, .ref q_1411, v14_12])), (q_1411, .inl (cA_1411, 1002, .inl (fun j : Nat => zI (a_2018 (j : Int)))))]) (cx := []) (pl := va_pl L (pE P)) [] (by decide) rfl
      have hKc := hK.sub (tys' := [(cO, .object "java/lang/Object")]) [1] rfl
      have hFc := va_freeP (X := [(h0, .inr (13, [v14_0, v14_1, v14_2, v14_3, v14_4, v14_5, v14_6, v14_7, v14_8, v14_9, v14_10, .ref q_1411, v14_12])), (q_1411, .inl (cA_1411, 1002, .inl (fun j : Nat => zI (a_2018 (j : Int)))))]) (cx := []) (pl := va_pl L (pE P)) hD hS hA [] rfl
      refine va_calli (va_runV (As := []) (rest := []) ⟨hx, hb, hml, hown, hts⟩ (c_PR_usesB l dC dI cO L P xr hX_x hX_k hX_r H.size) (cwV 0 hts g_P14_back_PR_usesB rfl rfl rfl (by decide +kernel) ⟨(Nat.le_of_ble_eq_true rfl), (Nat.le_of_ble_eq_true rfl)⟩) ⟨fun a U g mk q => by obtain ⟨q0, q1, qP, qK, qD⟩ := q; exact ⟨q0, q1, qP, va_K.moved (u := U) (U := U.calling g mk a) (Vm.Alike.refl U.vm) qK, qD⟩, recv_17 hKc hPc hX_x hX_k, fun U hU hW => ⟨rfl, by rw [hU], by rw [hU]; exact hPc, va_K.moved hW.alike hKc, hDc.weaken (fun _ _ _ _ => trivial)⟩⟩ rfl rfl hl.1 rfl (lv_room (Nat.le_of_ble_eq_true rfl)) dX14_back_35 ⟨(Nat.le_of_ble_eq_true rfl), (Nat.le_of_ble_eq_true rfl)⟩) hS (fun q _ h => hFc q h) hFc (fun r_2019 u t H1 locs ht hvm hw hB hz1 hk1 hS => ?_)
      obtain ⟨hP1, hK1, hD1⟩ := hB
      rw [ht] at hP1
      have hK1 := va_K.moved hvm.symm hK1
      obtain ⟨hP, hD⟩ := va_joinP (X := [(h0, .inr (13, [v14_0, v14_1, v14_2, v14_3, v14_4, v14_5, v14_6, v14_7, v14_8, v14_9, v14_10, .ref q_1411, v14_12])), (q_1411, .inl (cA_1411, 1002, .inl (fun j : Nat => zI (a_2018 (j : Int)))))]) (cx := []) (wr := [(h0, .inr (13, [v14_0, v14_1, v14_2, v14_3, v14_4, v14_5, v14_6, v14_7, v14_8, v14_9, v14_10, .ref q_1411, v14_12])), (q_1411, .inl (cA_1411, 1002, .inl (fun j : Nat => zI (a_2018 (j : Int)))))]) (rx := []) (pl := va_pl L (pE P)) (pl1 := va_pl L (pE P)) hP hD [] [0, 1] rfl rfl (by decide) (by decide) hk1 hFc hP1 hD1
      have hK := (hK.sub (tys' := [(cA_1411, .boolean)]) [0] rfl).app hK1
      generalize H1 = H at hP hS ⊢
      have hP : va_P (dC, dI) vwQ ([(h0, .inr (13, [v14_0, v14_1, v14_2, v14_3, v14_4, v14_5, v14_6, v14_7, v14_8, v14_9, v14_10, .ref q_1411, v14_12])), (q_1411, .inl (cA_1411, 1002, .inl (fun j : Nat => zI (a_2018 (j : Int)))))] ++ va_pl L (pE P)) H := hP
      have hD : va_D A ([(h0, .inr (13, [v14_0, v14_1, v14_2, v14_3, v14_4, v14_5, v14_6, v14_7, v14_8, v14_9, v14_10, .ref q_1411, v14_12])), (q_1411, .inl (cA_1411, 1002, .inl (fun j : Nat => zI (a_2018 (j : Int)))))] ++ va_pl L (pE P)) := hD
      have hK : va_K (dC, dI) vwQ [(cA_1411, .boolean), (cO, .object "java/lang/Object")] s := hK
      refine W.widen (k := 0) (n := 0) (Nat.le_of_ble_eq_true rfl) (Nat.le_of_ble_eq_true rfl) ?_
      obtain rfl : r_2019 = (zI (rUsB (P.ro xr) (P.rB xr))) := hw
      have := rUsB_spec (P.ro xr) (P.rB xr)
      refine lv_if_eq (tgt := 51) hx hb dX14_back_38 (by decide) (fun b38 => ?_) (fun b38 => ?_)
      · have yb38 : (rUsB (P.ro xr) (P.rB xr) : Int) = (0 : Int) := (zI_eq (a := rUsB (P.ro xr) (P.rB xr)) (b := 0) (by omega) (by omega) (by omega) (by omega)).mp b38
        subst hQ
        refine W.widen (k := 0) (n := 0) (Nat.le_of_ble_eq_true rfl) (Nat.le_of_ble_eq_true rfl) ?_
        exact W.vret hx hb hr (fun t ht hW => ⟨⟨(), rfl, trivial, a_2018, ra_2018, by rw [ht]; exact hP, va_K.moved hW.alike hK, hD⟩, hS.F ht⟩) hS.2.2 dX14_back_51
      · have yb38 : ¬ (rUsB (P.ro xr) (P.rB xr) : Int) = (0 : Int) := fun q => b38 ((zI_eq (a := rUsB (P.ro xr) (P.rB xr)) (b := 0) (by omega) (by omega) (by omega) (by omega)).mpr q)
        refine lv_aload_n hx hb dX14_back_41 rfl (lv_at hl 0 rfl) ?_
        refine va_get (D := (dC, dI)) (ci := 13) (v := .ref q_1411) (C := RX14) (T := TX14) (N := 13) hx hb hts mem_P14_back_3 hown hK hP 0 rfl rfl 11 (by decide) (ow (k := 10) rfl) (fun _ h9 => h9) rfl dX14_back_42 ?_
        refine lv_aload_n hx hb dX14_back_45 rfl (lv_at hl 1 rfl) ?_
        obtain ⟨kp_2020, hkp_2020⟩ := va_pl_get (X := [(h0, .inr (13, [v14_0, v14_1, v14_2, v14_3, v14_4, v14_5, v14_6, v14_7, v14_8, v14_9, v14_10, .ref q_1411, v14_12])), (q_1411, .inl (cA_1411, 1002, .inl (fun j : Nat => zI (a_2018 (j : Int)))))]) (f := pE P) hX_x
        rw [pE_row hX_k] at hkp_2020
        refine va_get (D := (dC, dI)) (ci := 21) (v := .int (zI (P.rb xr))) (C := RX17) (T := TX17) (N := 7) hx hb hts mem_P14_back_4 hown hK hP kp_2020 hkp_2020 rfl 3 (by decide) (ow (k := 11) rfl) (fun _ h9 => h9) rfl dX14_back_46 ?_
        refine lv_iconst (v := 1) hx hb dX14_back_49 (by decide) ?_
        refine va_zast (i := zI (P.rb xr)) hx hb hK hP hD hS 1 0 rfl rfl (zI_in (a := P.rb xr) (n := 1002) (by omega) (by omega) (by decide)) dX14_back_50 (fun H locs hP hD hS => ?_)
        rw [show vp_nar .boolean 1 = 1 from zI_nar (a := 1) (by omega) (by omega)] at hP hD
        have eQ : upd (fun j : Nat => zI (a_2018 (j : Int))) (zI (P.rb xr)).toNatClampNeg 1 = (fun j : Nat => zI (zup a_2018 (P.rb xr) (1) (j : Int))) := zI_st a_2018 (e := P.rb xr) (v := 1) (by omega) (by omega)
        rw [eQ] at hP hD
        clear eQ
        have ra_2021 : ∀ j : Int, 0 ≤ zup a_2018 (P.rb xr) (1) j ∧ zup a_2018 (P.rb xr) (1) j ≤ 1 := zup_P (P := fun x9 => 0 ≤ x9 ∧ x9 ≤ 1) ra_2018 (show 0 ≤ (1) ∧ (1) ≤ 1 by omega)
        generalize zup a_2018 (P.rb xr) (1) = a_2021 at hP hD ra_2021
        have hP : va_P (dC, dI) vwQ ([(h0, .inr (13, [v14_0, v14_1, v14_2, v14_3, v14_4, v14_5, v14_6, v14_7, v14_8, v14_9, v14_10, .ref q_1411, v14_12])), (q_1411, .inl (cA_1411, 1002, .inl (fun j : Nat => zI (a_2021 (j : Int)))))] ++ va_pl L (pE P)) H := hP
        have hD : va_D A ([(h0, .inr (13, [v14_0, v14_1, v14_2, v14_3, v14_4, v14_5, v14_6, v14_7, v14_8, v14_9, v14_10, .ref q_1411, v14_12])), (q_1411, .inl (cA_1411, 1002, .inl (fun j : Nat => zI (a_2021 (j : Int)))))] ++ va_pl L (pE P)) := hD
        subst hQ
        refine W.widen (k := 0) (n := 0) (Nat.le_of_ble_eq_true rfl) (Nat.le_of_ble_eq_true rfl) ?_
        exact W.vret hx hb hr (fun t ht hW => ⟨⟨(), rfl, trivial, a_2021, ra_2021, by rw [ht]; exact hP, va_K.moved hW.alike hK, hD⟩, hS.F ht⟩) hS.2.2 dX14_back_51
theorem dX14_many_0 : decode cX14_many 0 = .ok (.iload_n 1, 1) := by decide +kernel
theorem dX14_many_1 : decode cX14_many 1 = .ok (.ifCond .lt 16, 3) := by decide +kernel
theorem dX14_many_18 : decode cX14_many 18 = .ok (.istore_n 2, 1) := by decide +kernel
theorem dX14_many_19 : decode cX14_many 19 = .ok (.iconst 0, 1) := by decide +kernel
theorem dX14_many_20 : decode cX14_many 20 = .ok (.istore_n 3, 1) := by decide +kernel
theorem dX14_many_21 : decode cX14_many 21 = .ok (.iload_n 3, 1) := by decide +kernel
theorem dX14_many_22 : decode cX14_many 22 = .ok (.sipush 1001, 3) := by decide +kernel
theorem dX14_many_25 : decode cX14_many 25 = .ok (.if_icmp .gt 26, 3) := by decide +kernel
theorem dX14_many_51 : decode cX14_many 51 = .ok (.iload_n 2, 1) := by decide +kernel
theorem dX14_many_52 : decode cX14_many 52 = .ok (.ireturn, 1) := by decide +kernel
theorem dX14_many_28 : decode cX14_many 28 = .ok (.iload_n 2, 1) := by decide +kernel
theorem dX14_many_29 : decode cX14_many 29 = .ok (.aload_n 0, 1) := by decide +kernel
theorem dX14_many_30 : decode cX14_many 30 = .ok (.getfield 39, 3) := by decide +kernel
theorem dX14_many_33 : decode cX14_many 33 = .ok (.iload_n 3, 1) := by decide +kernel
theorem dX14_many_34 : decode cX14_many 34 = .ok (.baload, 1) := by decide +kernel
theorem dX14_many_35 : decode cX14_many 35 = .ok (.ifCond .eq 7, 3) := by decide +kernel
theorem dX14_many_43 : decode cX14_many 43 = .ok (.iadd, 1) := by decide +kernel
theorem dX14_many_44 : decode cX14_many 44 = .ok (.istore_n 2, 1) := by decide +kernel
theorem dX14_many_45 : decode cX14_many 45 = .ok (.iinc 3 1, 3) := by decide +kernel
theorem dX14_many_48 : decode cX14_many 48 = .ok (.goto (-27), 3) := by decide +kernel
theorem dX14_many_42 : decode cX14_many 42 = .ok (.iconst 0, 1) := by decide +kernel
theorem dX14_many_38 : decode cX14_many 38 = .ok (.iconst 1, 1) := by decide +kernel
theorem dX14_many_39 : decode cX14_many 39 = .ok (.goto 4, 3) := by decide +kernel
theorem dX14_many_17 : decode cX14_many 17 = .ok (.iconst 0, 1) := by decide +kernel
theorem dX14_many_4 : decode cX14_many 4 = .ok (.aload_n 0, 1) := by decide +kernel
theorem dX14_many_5 : decode cX14_many 5 = .ok (.getfield 39, 3) := by decide +kernel
theorem dX14_many_8 : decode cX14_many 8 = .ok (.iload_n 1, 1) := by decide +kernel
theorem dX14_many_9 : decode cX14_many 9 = .ok (.baload, 1) := by decide +kernel
theorem dX14_many_10 : decode cX14_many 10 = .ok (.ifCond .ne 7, 3) := by decide +kernel
theorem dX14_many_13 : decode cX14_many 13 = .ok (.iconst 1, 1) := by decide +kernel
theorem dX14_many_14 : decode cX14_many 14 = .ok (.goto 4, 3) := by decide +kernel
def o_X14_many : List Cond := [.fieldLink RX14 39 "SsaForgeModel$Flow" "now" "[Z"]
def v_X14_many : List Cond := .code yX14_many cX14_many 4 (some .int) :: (o_X14_many ++ (wsX140 ++ []))
theorem mow_X14_many : ∀ w ∈ o_X14_many, w ∈ v_X14_many := fun _ h => List.mem_cons_of_mem _ (List.mem_append_left _ h)
theorem mem_X14_many_0 : ∀ w ∈ wsX140, w ∈ v_X14_many := fun _ h => List.mem_cons_of_mem _ (List.mem_append_right _ (List.mem_append_left _ h))
set_option maxRecDepth 20000 in
theorem gw_X14_many : v_X14_many.all goodWord = true := by decide +kernel
set_option maxHeartbeats 4000000 in
set_option maxRecDepth 100000 in
theorem c_X14_many (l : Launch) (dC : Nat → ClassId) (dI : Nat → Nat → Nat) (h0 : Nat) (v14_0 : Value) (v14_1 : Value) (v14_2 : Value) (v14_3 : Value) (v14_4 : Value) (v14_5 : Value) (v14_6 : Value) (v14_7 : Value) (v14_8 : Value) (v14_9 : Value) (v14_10 : Value) (q_1411 : Nat) (cA_1411 : ClassId) (a14_now : Int → Int) (v14_12 : Value) (m0 : Int) (hR_a14_now : ∀ j : Int, 0 ≤ a14_now j ∧ a14_now j ≤ 1) (hNm : -1 ≤ m0 ∧ m0 ≤ 1001) (sz : Nat) : Met l yX14_many v_X14_many ({ frames := 0, cells := 0, slots := 0, locals := 0 }) (va_Pc [.ref h0, .int (zI (m0))] (fun U => U.heap.size = sz ∧ va_P (dC, dI) vwQ [(h0, .inr (13, [v14_0, v14_1, v14_2, v14_3, v14_4, v14_5, v14_6, v14_7, v14_8, v14_9, v14_10, .ref q_1411, v14_12])), (q_1411, .inl (cA_1411, 1002, .inl (fun j : Nat => zI (a14_now (j : Int)))))] U.heap ∧ va_K (dC, dI) vwQ [(cA_1411, .boolean)] U ∧ va_D (fun _ => True) [(h0, .inr (13, [v14_0, v14_1, v14_2, v14_3, v14_4, v14_5, v14_6, v14_7, v14_8, v14_9, v14_10, .ref q_1411, v14_12])), (q_1411, .inl (cA_1411, 1002, .inl (fun j : Nat => zI (a14_now (j : Int)))))])) (va_Qi (fun (r : Int32) (_ : Unit) => ∃ z : Int, r = zI z ∧ (0 ≤ z ∧ z ≤ 1003)) (fun (_ : Unit) (t : State) => va_P (dC, dI) vwQ [(h0, .inr (13, [v14_0, v14_1, v14_2, v14_3, v14_4, v14_5, v14_6, v14_7, v14_8, v14_9, v14_10, .ref q_1411, v14_12])), (q_1411, .inl (cA_1411, 1002, .inl (fun j : Nat => zI (a14_now (j : Int)))))] t.heap ∧ va_K (dC, dI) vwQ [(cA_1411, .boolean)] t ∧ va_D (va_A [(h0, .inr (13, [v14_0, v14_1, v14_2, v14_3, v14_4, v14_5, v14_6, v14_7, v14_8, v14_9, v14_10, .ref q_1411, v14_12])), (q_1411, .inl (cA_1411, 1002, .inl (fun j : Nat => zI (a14_now (j : Int)))))] sz) [(h0, .inr (13, [v14_0, v14_1, v14_2, v14_3, v14_4, v14_5, v14_6, v14_7, v14_8, v14_9, v14_10, .ref q_1411, v14_12])), (q_1411, .inl (cA_1411, 1002, .inl (fun j : Nat => zI (a14_now (j : Int)))))]) (va_A [(h0, .inr (13, [v14_0, v14_1, v14_2, v14_3, v14_4, v14_5, v14_6, v14_7, v14_8, v14_9, v14_10, .ref q_1411, v14_12])), (q_1411, .inl (cA_1411, 1002, .inl (fun j : Nat => zI (a14_now (j : Int)))))] sz)) 0 0 (va_A [(h0, .inr (13, [v14_0, v14_1, v14_2, v14_3, v14_4, v14_5, v14_6, v14_7, v14_8, v14_9, v14_10, .ref q_1411, v14_12])), (q_1411, .inl (cA_1411, 1002, .inl (fun j : Nat => zI (a14_now (j : Int)))))] sz) := by
  refine Met.ofW (cc := cX14_many) (maxL := 4) (ret := (some .int)) (by decide) rfl ?_
  intro p e s m args below meth c s₁ B hml hv
  obtain ⟨rfl, hsz, hP, hK, hD0⟩ := hv
  have hx := B.exec
  have hb := B.bytes
  have hr := B.returns
  have hts := atoms_spec (ws := v_X14_many) B.pre
  have hown : s.vm.findClass RX14 = some m.cls := findClass_of_methodNamed B.named
  have hlocks := B.notSynchronized
  have ow : ∀ {k : Nat} {w : Cond}, o_X14_many[k]? = some w → w.before ([.ref h0, .int (zI (m0))] : List Value).toArray s = true := fun h => hts _ (mow_X14_many _ (List.mem_of_getElem? h))
  subst hsz
  have hD := hD0.self (sz := s.heap.size)
  generalize hAe : va_A [(h0, .inr (13, [v14_0, v14_1, v14_2, v14_3, v14_4, v14_5, v14_6, v14_7, v14_8, v14_9, v14_10, .ref q_1411, v14_12])), (q_1411, .inl (cA_1411, 1002, .inl (fun j : Nat => zI (a14_now (j : Int)))))] s.heap.size = A at hD ⊢
  have hA : ∀ q : Nat, s.heap.size ≤ q → A q := fun q h => by rw [← hAe]; exact Or.inr h
  have hS : va_S A s.heap s.heap [] := va_S.rf
  have hP : va_P (dC, dI) vwQ [(h0, .inr (13, [v14_0, v14_1, v14_2, v14_3, v14_4, v14_5, v14_6, v14_7, v14_8, v14_9, v14_10, .ref q_1411, v14_12])), (q_1411, .inl (cA_1411, 1002, .inl (fun j : Nat => zI (a14_now (j : Int)))))] s.heap := hP
  have hl := lv_entry ([.ref h0, .int (zI (m0))]) (n := 4) (Nat.le_of_ble_eq_true rfl)
  rw [lg_entry_eq]
  generalize (lg_sl ([.ref h0, .int (zI (m0))]) ++ List.replicate (4 - (lg_sl ([.ref h0, .int (zI (m0))])).length) Slot.unset).toArray = ls at hl ⊢
  have hl : lv_has ls 4 [(0, .ref h0), (1, .int (zI (m0)))] := hl
  obtain ⟨H, hH⟩ : ∃ H, H = s.heap := ⟨_, rfl⟩
  rw [← hH] at hP
  have hS : va_S A s.heap H [] := by rw [hH]; exact hS
  rw [← hH]
  refine zW_cap (fun Q hQ => ?_)
  refine lv_iload_n hx hb dX14_many_0 rfl (lv_at hl 1 rfl) ?_
  have key18 : ∀ (ms18_0 : Int) (ls : Array Slot) (H : Heap) (locs : List Loc), (0 ≤ ms18_0 ∧ ms18_0 ≤ 1) → lv_has ls 4 [(0, .ref h0), (1, .int (zI (m0)))] → va_P (dC, dI) vwQ [(h0, .inr (13, [v14_0, v14_1, v14_2, v14_3, v14_4, v14_5, v14_6, v14_7, v14_8, v14_9, v14_10, .ref q_1411, v14_12])), (q_1411, .inl (cA_1411, 1002, .inl (fun j : Nat => zI (a14_now (j : Int)))))] H → va_D A [(h0, .inr (13, [v14_0, v14_1, v14_2, v14_3, v14_4, v14_5, v14_6, v14_7, v14_8, v14_9, v14_10, .ref q_1411, v14_12])), (q_1411, .inl (cA_1411, 1002, .inl (fun j : Nat => zI (a14_now (j : Int)))))] → va_S A s.heap H locs → W p l e (headSpec v_X14_many ({ frames := 0, cells := 0, slots := 0, locals := 0 })).room s m ([.ref h0, .int (zI (m0))] : List Value).toArray below meth c H locs 0 0 Q (F0 m 18 ls [.int (zI (ms18_0))]) := by
    intro ms18_0 ls H locs jms18_0 hl hP hD hS
    refine lv_istore_n (lv' := [(2, .int (zI (ms18_0))), (0, .ref h0), (1, .int (zI (m0)))]) hx hb dX14_many_18 rfl hl (by decide) rfl (fun ls hl => ?_)
    refine lv_iconst (v := 0) hx hb dX14_many_19 (by decide) ?_
    refine lv_istore_n (lv' := [(3, .int 0), (2, .int (zI (ms18_0))), (0, .ref h0), (1, .int (zI (m0)))]) hx hb dX14_many_20 rfl hl (by decide) rfl (fun ls hl => ?_)
    have key21 : ∀ n21 : Nat, ∀ (d21_3 : Int) (d21_2 : Int) (ls : Array Slot) (H : Heap) (locs : List Loc), (0 ≤ d21_3 ∧ d21_3 ≤ 1002) → (0 ≤ d21_2 ∧ d21_2 ≤ d21_3 + 1) → (((1001) - (d21_3) + 1 : Int).toNat) < n21 → lv_has ls 4 [(0, .ref h0), (1, .int (zI (m0))), (2, .int (zI (d21_2))), (3, .int (zI (d21_3)))] → va_P (dC, dI) vwQ [(h0, .inr (13, [v14_0, v14_1, v14_2, v14_3, v14_4, v14_5, v14_6, v14_7, v14_8, v14_9, v14_10, .ref q_1411, v14_12])), (q_1411, .inl (cA_1411, 1002, .inl (fun j : Nat => zI (a14_now (j : Int)))))] H → va_D A [(h0, .inr (13, [v14_0, v14_1, v14_2, v14_3, v14_4, v14_5, v14_6, v14_7, v14_8, v14_9, v14_10, .ref q_1411, v14_12])), (q_1411, .inl (cA_1411, 1002, .inl (fun j : Nat => zI (a14_now (j : Int)))))] → va_S A s.heap H locs → W p l e (headSpec v_X14_many ({ frames := 0, cells := 0, slots := 0, locals := 0 })).room s m ([.ref h0, .int (zI (m0))] : List Value).toArray below meth c H locs 0 0 Q (F0 m 21 ls []) := by
      intro n21
      induction n21 with
      | zero => intro d21_3 d21_2 ls H locs jd21_3 jd21_2 hm21; exact absurd hm21 (by omega)
      | succ n21 ih21 =>
        intro d21_3 d21_2 ls H locs jd21_3 jd21_2 hm21 hl hP hD hS
        refine lv_iload_n hx hb dX14_many_21 rfl (lv_at hl 3 rfl) ?_
        refine lv_sipush (v := 1001) hx hb dX14_many_22 (by decide) ?_
        refine lv_icmp_gt (tgt := 51) hx hb dX14_many_25 (by decide) (fun b25 => ?_) (fun b25 => ?_)
        · have yb25 : (1001 : Int) < (d21_3 : Int) := (zI_lt (a := 1001) (b := d21_3) (by omega) (by omega) (by omega) (by omega)).mp b25
          refine lv_iload_n hx hb dX14_many_51 rfl (lv_at hl 2 rfl) ?_
          subst hQ
          refine W.widen (k := 0) (n := 0) (Nat.le_of_ble_eq_true rfl) (Nat.le_of_ble_eq_true rfl) ?_
          exact W.iret (v := (zI (d21_2))) hx hb hr (fun t ht hW => ⟨⟨(zI (d21_2)), (), rfl, ⟨d21_2, rfl, by omega⟩, by rw [ht]; exact hP, va_K.moved hW.alike hK, hD⟩, hS.F ht⟩) hS.2.2 dX14_many_52
        · have yb25 : ¬ (1001 : Int) < (d21_3 : Int) := fun q => b25 ((zI_lt (a := 1001) (b := d21_3) (by omega) (by omega) (by omega) (by omega)).mpr q)
          refine lv_iload_n hx hb dX14_many_28 rfl (lv_at hl 2 rfl) ?_
          refine lv_aload_n hx hb dX14_many_29 rfl (lv_at hl 0 rfl) ?_
          refine va_get (D := (dC, dI)) (ci := 13) (v := .ref q_1411) (C := RX14) (T := TX14) (N := 13) hx hb hts mem_X14_many_0 hown hK hP 0 rfl rfl 11 (by decide) (ow (k := 0) rfl) (fun _ h9 => h9) rfl dX14_many_30 ?_
          refine lv_iload_n hx hb dX14_many_33 rfl (lv_at hl 3 rfl) ?_
          refine va_zald hx hb hK hP 1 0 rfl rfl (zI_in (a := d21_3) (n := 1002) (by omega) (by omega) (by decide)) dX14_many_34 ?_
          refine lv_topi (fun z ez => ?_)
          obtain rfl : z = zI (a14_now (d21_3)) := ez.trans (zI_ld (a14_now) (by omega) (by omega))
          have k1 := hR_a14_now (d21_3)
          have key43 : ∀ (ms43_0 : Int) (ls : Array Slot) (H : Heap) (locs : List Loc), (0 ≤ ms43_0 ∧ ms43_0 ≤ 1) → lv_has ls 4 [(0, .ref h0), (1, .int (zI (m0))), (2, .int (zI (d21_2))), (3, .int (zI (d21_3)))] → va_P (dC, dI) vwQ [(h0, .inr (13, [v14_0, v14_1, v14_2, v14_3, v14_4, v14_5, v14_6, v14_7, v14_8, v14_9, v14_10, .ref q_1411, v14_12])), (q_1411, .inl (cA_1411, 1002, .inl (fun j : Nat => zI (a14_now (j : Int)))))] H → va_D A [(h0, .inr (13, [v14_0, v14_1, v14_2, v14_3, v14_4, v14_5, v14_6, v14_7, v14_8, v14_9, v14_10, .ref q_1411, v14_12])), (q_1411, .inl (cA_1411, 1002, .inl (fun j : Nat => zI (a14_now (j : Int)))))] → va_S A s.heap H locs → W p l e (headSpec v_X14_many ({ frames := 0, cells := 0, slots := 0, locals := 0 })).room s m ([.ref h0, .int (zI (m0))] : List Value).toArray below meth c H locs 0 0 Q (F0 m 43 ls [.int (zI (ms43_0)), .int (zI (d21_2))]) := by
            intro ms43_0 ls H locs jms43_0 hl hP hD hS
            refine lv_iadd hx hb dX14_many_43 ?_
            refine lv_topi (fun z ez => ?_)
            obtain rfl : z = zI (d21_2 + ms43_0) := ez.trans (zI_add (d21_2) (ms43_0))
            refine lv_istore_n (lv' := [(2, .int (zI (d21_2 + ms43_0))), (0, .ref h0), (1, .int (zI (m0))), (3, .int (zI (d21_3)))]) hx hb dX14_many_44 rfl hl (by decide) rfl (fun ls hl => ?_)
            refine lv_iinc (v := zI (d21_3 + 1)) (lv' := [(3, .int (zI (d21_3 + 1))), (2, .int (zI (d21_2 + ms43_0))), (0, .ref h0), (1, .int (zI (m0)))]) hx hb dX14_many_45 hl (k := 3) rfl (zI_add (d21_3) (1)) (by decide) rfl (fun ls hl => ?_)
            refine lv_goto (tgt := 21) hx hb dX14_many_48 (by decide) ?_
            exact ih21 (d21_3 + 1) (d21_2 + ms43_0) ls H _ (by omega) (by omega) (by omega) (lv_sub hl [2, 3, 1, 0] rfl) hP hD hS
          refine lv_if_eq (tgt := 42) hx hb dX14_many_35 (by decide) (fun b35 => ?_) (fun b35 => ?_)
          · have yb35 : (a14_now (d21_3) : Int) = (0 : Int) := (zI_eq (a := a14_now (d21_3)) (b := 0) (by omega) (by omega) (by omega) (by omega)).mp b35
            refine lv_iconst (v := 0) hx hb dX14_many_42 (by decide) ?_
            exact key43 0 ls H _ (by omega) (lv_sub hl [0, 1, 2, 3] rfl) hP hD hS
          · have yb35 : ¬ (a14_now (d21_3) : Int) = (0 : Int) := fun q => b35 ((zI_eq (a := a14_now (d21_3)) (b := 0) (by omega) (by omega) (by omega) (by omega)).mpr q)
            refine lv_iconst (v := 1) hx hb dX14_many_38 (by decide) ?_
            refine lv_goto (tgt := 43) hx hb dX14_many_39 (by decide) ?_
            exact key43 1 ls H _ (by omega) (lv_sub hl [0, 1, 2, 3] rfl) hP hD hS
    exact key21 (((1001) - (0) + 1 : Int).toNat + 1) 0 ms18_0 ls H _ (by omega) (by omega) (by omega) (lv_sub hl [2, 3, 1, 0] rfl) hP hD hS
  refine lv_if_lt (tgt := 17) hx hb dX14_many_1 (by decide) (fun b1 => ?_) (fun b1 => ?_)
  · have yb1 : (m0 : Int) < (0 : Int) := (zI_lt (a := m0) (b := 0) (by omega) (by omega) (by omega) (by omega)).mp b1
    refine lv_iconst (v := 0) hx hb dX14_many_17 (by decide) ?_
    exact key18 0 ls H _ (by omega) (lv_sub hl [0, 1] rfl) hP hD hS
  · have yb1 : ¬ (m0 : Int) < (0 : Int) := fun q => b1 ((zI_lt (a := m0) (b := 0) (by omega) (by omega) (by omega) (by omega)).mpr q)
    refine lv_aload_n hx hb dX14_many_4 rfl (lv_at hl 0 rfl) ?_
    refine va_get (D := (dC, dI)) (ci := 13) (v := .ref q_1411) (C := RX14) (T := TX14) (N := 13) hx hb hts mem_X14_many_0 hown hK hP 0 rfl rfl 11 (by decide) (ow (k := 0) rfl) (fun _ h9 => h9) rfl dX14_many_5 ?_
    refine lv_iload_n hx hb dX14_many_8 rfl (lv_at hl 1 rfl) ?_
    refine va_zald hx hb hK hP 1 0 rfl rfl (zI_in (a := m0) (n := 1002) (by omega) (by omega) (by decide)) dX14_many_9 ?_
    refine lv_topi (fun z ez => ?_)
    obtain rfl : z = zI (a14_now (m0)) := ez.trans (zI_ld (a14_now) (by omega) (by omega))
    have k2 := hR_a14_now (m0)
    refine lv_if_ne (tgt := 17) hx hb dX14_many_10 (by decide) (fun b10 => ?_) (fun b10 => ?_)
    · have yb10 : ¬ (a14_now (m0) : Int) = (0 : Int) := fun q => b10 ((zI_eq (a := a14_now (m0)) (b := 0) (by omega) (by omega) (by omega) (by omega)).mpr q)
      refine lv_iconst (v := 0) hx hb dX14_many_17 (by decide) ?_
      exact key18 0 ls H _ (by omega) (lv_sub hl [0, 1] rfl) hP hD hS
    · have yb10 : (a14_now (m0) : Int) = (0 : Int) := (zI_eq (a := a14_now (m0)) (b := 0) (by omega) (by omega) (by omega) (by omega)).mp b10
      refine lv_iconst (v := 1) hx hb dX14_many_13 (by decide) ?_
      refine lv_goto (tgt := 18) hx hb dX14_many_14 (by decide) ?_
      exact key18 1 ls H _ (by omega) (lv_sub hl [0, 1] rfl) hP hD hS
