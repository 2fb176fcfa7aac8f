def o_PP_placeE : List Cond := [.fieldLink RX15 24 "SsaForgeModel$Phi" "n" "I", .fieldLink RX15 7 "SsaForgeModel$Phi" "preds" "[I"]
def v_PP_placeE : List Cond := .code yX15_place cX15_place 3 (some .int) :: (o_PP_placeE ++ (wsX150 ++ []))
theorem mow_PP_placeE : ∀ w ∈ o_PP_placeE, w ∈ v_PP_placeE := fun _ h => List.mem_cons_of_mem _ (List.mem_append_left _ h)
theorem mem_PP_placeE_0 : ∀ w ∈ wsX150, w ∈ v_PP_placeE := fun _ h => List.mem_cons_of_mem _ (List.mem_append_right _ (List.mem_append_left _ h))
set_option maxRecDepth 20000 in
theorem gw_PP_placeE : v_PP_placeE.all goodWord = true := by decide +kernel
set_option maxHeartbeats 4000000 in
set_option maxRecDepth 100000 in
theorem c_PP_placeE (l : Launch) (dC : Nat → ClassId) (dI : Nat → Nat → Nat) (cO : ClassId) (cI : ClassId) (cZ : ClassId) (L : List Nat) (P : PO) (xp : Nat) (p0 : Int) (hX_p : PIK L P cI cZ xp) (hNp : 0 ≤ p0 ∧ p0 ≤ 300) (sz : Nat) : Met l yX15_place v_PP_placeE ({ frames := 0, cells := 0, slots := 0, locals := 0 }) (va_Pc [.ref xp, .int (zI (p0))] (fun U => U.heap.size = sz ∧ va_P (dC, dI) vwQ ([] ++ va_pl L (pE P)) U.heap ∧ va_K (dC, dI) vwQ [(cO, .object "java/lang/Object"), (cI, .int), (cZ, .boolean)] U ∧ va_D (fun _ => True) ([] ++ va_pl L (pE P)))) (va_Qi (fun (r : Int32) (_ : Unit) => ∃ z : Int, r = zI z ∧ (-1 ≤ z ∧ z < P.pn xp ∧ PLNE P xp p0 z)) (fun (_ : Unit) (t : State) => va_P (dC, dI) vwQ ([] ++ va_pl L (pE P)) t.heap ∧ va_K (dC, dI) vwQ [(cO, .object "java/lang/Object"), (cI, .int), (cZ, .boolean)] t ∧ va_D (va_A ([] ++ va_pl L (pE P)) sz) ([] ++ va_pl L (pE P))) (va_A ([] ++ va_pl L (pE P)) sz)) 0 0 (va_A ([] ++ va_pl L (pE P)) sz) := by
  refine Met.ofW (cc := cX15_place) (maxL := 3) (ret := (some .int)) (by decide) rfl ?_
  intro p e s m args below meth c s₁ B hml hv
  obtain ⟨rfl, hsz, hP, hK, hD0⟩ := hv
  have hx := B.exec
  have hb := B.bytes
  have hr := B.returns
  have hts := atoms_spec (ws := v_PP_placeE) B.pre
  have hown : s.vm.findClass RX15 = some m.cls := findClass_of_methodNamed B.named
  have hlocks := B.notSynchronized
  have ow : ∀ {k : Nat} {w : Cond}, o_PP_placeE[k]? = some w → w.before ([.ref xp, .int (zI (p0))] : List Value).toArray s = true := fun h => hts _ (mow_PP_placeE _ (List.mem_of_getElem? h))
  subst hsz
  have hD := hD0.self (sz := s.heap.size)
  generalize hAe : va_A ([] ++ va_pl L (pE P)) s.heap.size = A at hD ⊢
  have hA : ∀ q : Nat, s.heap.size ≤ q → A q := fun q h => by rw [← hAe]; exact Or.inr h
  have hS : va_S A s.heap s.heap [] := va_S.rf
  have hP : va_P (dC, dI) vwQ ([] ++ va_pl L (pE P)) s.heap := hP
  have hl := lv_entry ([.ref xp, .int (zI (p0))]) (n := 3) (Nat.le_of_ble_eq_true rfl)
  rw [lg_entry_eq]
  generalize (lg_sl ([.ref xp, .int (zI (p0))]) ++ List.replicate (3 - (lg_sl ([.ref xp, .int (zI (p0))])).length) Slot.unset).toArray = ls at hl ⊢
  have hl : lv_has ls 3 [(0, .ref xp), (1, .int (zI (p0)))] := hl
  obtain ⟨H, hH⟩ : ∃ H, H = s.heap := ⟨_, rfl⟩
  rw [← hH] at hP
  have hS : va_S A s.heap H [] := by rw [hH]; exact hS
  rw [← hH]
  refine zW_cap (fun Q hQ => ?_)
  have hpn := hX_p.2.2.2.2.1
  have hpt := hX_p.2.2.2.2.2.1
  have hpa := hX_p.2.2.2.2.2.2
  refine lv_iconst (v := 0) hx hb dX15_place_0 (by decide) ?_
  refine lv_istore_n (lv' := [(2, .int 0), (0, .ref xp), (1, .int (zI (p0)))]) hx hb dX15_place_1 rfl hl (by decide) rfl (fun ls hl => ?_)
  have key2 : ∀ n2 : Nat, ∀ (d2_2 : Int) (ls : Array Slot) (H : Heap) (locs : List Loc), (0 ≤ d2_2 ∧ d2_2 ≤ P.pn xp) → (∀ k : Int, 0 ≤ k → k < d2_2 → P.ia (P.pp xp) k ≠ p0) → ((P.pn xp - d2_2 : Int).toNat) < n2 → lv_has ls 3 [(0, .ref xp), (1, .int (zI (p0))), (2, .int (zI (d2_2)))] → va_P (dC, dI) vwQ ([] ++ va_pl L (pE P)) H → va_D A ([] ++ va_pl L (pE P)) → va_S A s.heap H locs → W p l e (headSpec v_PP_placeE ({ frames := 0, cells := 0, slots := 0, locals := 0 })).room s m ([.ref xp, .int (zI (p0))] : List Value).toArray below meth c H locs 0 0 Q (F0 m 2 ls []) := by
    intro n2
    induction n2 with
    | zero => intro d2_2 ls H locs jd2_2 jh hm2; exact absurd hm2 (by omega)
    | succ n2 ih2 =>
      intro d2_2 ls H locs jd2_2 jh hm2 hl hP hD hS
      refine lv_iload_n hx hb dX15_place_2 rfl (lv_at hl 2 rfl) ?_
      refine lv_aload_n hx hb dX15_place_3 rfl (lv_at hl 0 rfl) ?_
      obtain ⟨kp_1, hkp_1⟩ := va_pl_get (X := []) (f := pE P) hX_p.1.1
      rw [pE_phi hX_p.1.2] at hkp_1
      refine va_get (D := (dC, dI)) (ci := 20) (v := .int (zI (P.pn xp))) (C := RX15) (T := TX15) (N := 6) hx hb hts mem_PP_placeE_0 hown hK hP kp_1 hkp_1 rfl 1 (by decide) (ow (k := 0) rfl) (fun _ h9 => h9) rfl dX15_place_4 ?_
      refine lv_icmp_ge (tgt := 28) hx hb dX15_place_7 (by decide) (fun b7 => ?_) (fun b7 => ?_)
      · have yb7 : (P.pn xp : Int) ≤ (d2_2 : Int) := (zI_le (a := P.pn xp) (b := d2_2) (by omega) (by omega) (by omega) (by omega)).mp b7
        refine lv_iconst (v := (-1)) hx hb dX15_place_28 (by decide) ?_
        subst hQ
        refine W.widen (k := 0) (n := 0) (Nat.le_of_ble_eq_true rfl) (Nat.le_of_ble_eq_true rfl) ?_
        exact W.iret (v := (-1)) hx hb hr (fun t ht hW => ⟨⟨(-1), (), rfl, ⟨-1, rfl, (by first | exact ⟨by omega, by omega, fun _ => ⟨by omega, by omega, by omega, jh⟩, fun q9 => by omega⟩ | exact ⟨by omega, by omega, fun q9 => by omega, fun _ k k0 k1 => jh k k0 (by omega)⟩)⟩, by rw [ht]; exact hP, va_K.moved hW.alike hK, hD⟩, hS.F ht⟩) hS.2.2 dX15_place_29
      · have yb7 : ¬ (P.pn xp : Int) ≤ (d2_2 : Int) := fun q => b7 ((zI_le (a := P.pn xp) (b := d2_2) (by omega) (by omega) (by omega) (by omega)).mpr q)
        refine lv_aload_n hx hb dX15_place_10 rfl (lv_at hl 0 rfl) ?_
        obtain ⟨kp_2, hkp_2⟩ := va_pl_get (X := []) (f := pE P) hX_p.1.1
        rw [pE_phi hX_p.1.2] at hkp_2
        refine va_get (D := (dC, dI)) (ci := 20) (v := .ref (P.pp xp)) (C := RX15) (T := TX15) (N := 6) hx hb hts mem_PP_placeE_0 hown hK hP kp_2 hkp_2 rfl 2 (by decide) (ow (k := 1) rfl) (fun _ h9 => h9) rfl dX15_place_11 ?_
        obtain ⟨pr_3, epr_3⟩ : ∃ q9 : Nat, q9 = P.pp xp := ⟨_, rfl⟩
        rw [← epr_3]
        have hopr_3 : pr_3 ∈ L ∧ P.kd pr_3 = 40 ∧ P.ac pr_3 = cI ∧ P.ow pr_3 = xp := (by rw [epr_3]; exact hX_p.2.1)
        have hnpr_3 : P.an pr_3 = P.an (P.pp xp) := (by rw [epr_3])
        have hipr_3 : P.ia pr_3 = P.ia (P.pp xp) := (by rw [epr_3])
        refine lv_iload_n hx hb dX15_place_14 rfl (lv_at hl 2 rfl) ?_
        obtain ⟨kp_4, hkp_4⟩ := va_pl_get (X := []) (f := pE P) hopr_3.1
        rw [pE_n40 hopr_3.2.1, hopr_3.2.2.1] at hkp_4
        refine va_iald hx hb hK hP kp_4 1 hkp_4 rfl (zI_in (a := d2_2) (n := P.an pr_3) (by omega) (by omega) (by omega)) dX15_place_15 ?_
        refine lv_topi (fun z ez => ?_)
        obtain rfl : z = zI (P.ia pr_3 (d2_2)) := ez.trans (zI_ld (P.ia pr_3) (by omega) (by omega))
        have hv := (hpa (d2_2) (by omega) (by omega)).1
        rw [← hipr_3] at hv
        have hl9 : P.ia pr_3 (d2_2) = P.ia (P.pp xp) (d2_2) := (by rw [hipr_3])
        refine lv_iload_n hx hb dX15_place_16 rfl (lv_at hl 1 rfl) ?_
        refine lv_icmp_ne (tgt := 22) hx hb dX15_place_17 (by decide) (fun b17 => ?_) (fun b17 => ?_)
        · have yb17 : ¬ (P.ia pr_3 (d2_2) : Int) = (p0 : Int) := fun q => b17 ((zI_eq (a := P.ia pr_3 (d2_2)) (b := p0) (by omega) (by omega) (by omega) (by omega)).mpr q)
          refine lv_iinc (v := zI (d2_2 + 1)) (lv' := [(2, .int (zI (d2_2 + 1))), (0, .ref xp), (1, .int (zI (p0)))]) hx hb dX15_place_22 hl (k := 2) rfl (zI_add (d2_2) (1)) (by decide) rfl (fun ls hl => ?_)
          refine lv_goto (tgt := 2) hx hb dX15_place_25 (by decide) ?_
          exact ih2 (d2_2 + 1) ls H _ (by omega) (fun k k0 k1 => by by_cases e9 : k = d2_2; (rw [e9]; omega); exact jh k k0 (by omega)) (by omega) (lv_sub hl [1, 2, 0] rfl) hP hD hS
        · have yb17 : (P.ia pr_3 (d2_2) : Int) = (p0 : Int) := (zI_eq (a := P.ia pr_3 (d2_2)) (b := p0) (by omega) (by omega) (by omega) (by omega)).mp b17
          refine lv_iload_n hx hb dX15_place_20 rfl (lv_at hl 2 rfl) ?_
          subst hQ
          refine W.widen (k := 0) (n := 0) (Nat.le_of_ble_eq_true rfl) (Nat.le_of_ble_eq_true rfl) ?_
          exact W.iret (v := (zI (d2_2))) hx hb hr (fun t ht hW => ⟨⟨(zI (d2_2)), (), rfl, ⟨d2_2, rfl, (by first | exact ⟨by omega, by omega, fun _ => ⟨by omega, by omega, by omega, jh⟩, fun q9 => by omega⟩ | exact ⟨by omega, by omega, fun q9 => by omega, fun _ k k0 k1 => jh k k0 (by omega)⟩)⟩, by rw [ht]; exact hP, va_K.moved hW.alike hK, hD⟩, hS.F ht⟩) hS.2.2 dX15_place_21
  exact key2 ((P.pn xp - 0 : Int).toNat + 1) 0 ls H _ (by omega) (fun k k0 k1 => by omega) (by omega) (lv_sub hl [1, 2, 0] rfl) hP hD hS
def o_P14_backE : List Cond := [.methodLink RX14 140 yX17_sets, .instanceMethod yX17_sets, .selects RX17 yX17_sets yX17_sets, .initialized RX17, .methodLink RX14 145 yX17_usesA, .instanceMethod yX17_usesA, .selects RX17 yX17_usesA yX17_usesA, .methodLink RX14 151 yX17_usesB, .instanceMethod yX17_usesB, .selects RX17 yX17_usesB yX17_usesB, .fieldLink RX14 39 "SsaForgeModel$Flow" "now" "[Z", .fieldLink RX14 154 "SsaForgeModel$Row" "b" "I", .fieldLink RX14 148 "SsaForgeModel$Row" "a" "I", .fieldLink RX14 144 "SsaForgeModel$Row" "t" "I"]
def v_P14_backE : List Cond := .code yX14_back cX14_back 2 none :: (o_P14_backE ++ (v_PR_sets ++ (v_PR_usesA ++ (v_PR_usesB ++ (wsX140 ++ (wsX170 ++ []))))))
theorem mow_P14_backE : ∀ w ∈ o_P14_backE, w ∈ v_P14_backE := fun _ h => List.mem_cons_of_mem _ (List.mem_append_left _ h)
theorem mem_P14_backE_0 : ∀ w ∈ v_PR_sets, w ∈ v_P14_backE := fun _ h => List.mem_cons_of_mem _ (List.mem_append_right _ (List.mem_append_left _ h))
theorem mem_P14_backE_1 : ∀ w ∈ v_PR_usesA, w ∈ v_P14_backE := fun _ h => List.mem_cons_of_mem _ (List.mem_append_right _ (List.mem_append_right _ (List.mem_append_left _ h)))
theorem mem_P14_backE_2 : ∀ w ∈ v_PR_usesB, w ∈ v_P14_backE := fun _ h => List.mem_cons_of_mem _ (List.mem_append_right _ (List.mem_append_right _ (List.mem_append_right _ (List.mem_append_left _ h))))
theorem mem_P14_backE_3 : ∀ w ∈ wsX140, w ∈ v_P14_backE := fun _ h => List.mem_cons_of_mem _ (List.mem_append_right _ (List.mem_append_right _ (List.mem_append_right _ (List.mem_append_right _ (List.mem_append_left _ h)))))
theorem mem_P14_backE_4 : ∀ w ∈ wsX170, w ∈ v_P14_backE := fun _ h => List.mem_cons_of_mem _ (List.mem_append_right _ (List.mem_append_right _ (List.mem_append_right _ (List.mem_append_right _ (List.mem_append_right _ (List.mem_append_left _ h))))))
set_option maxRecDepth 20000 in
theorem gw_P14_backE : v_P14_backE.all goodWord = true := by decide +kernel
set_option maxRecDepth 20000 in
theorem g_P14_backE_PR_sets : GoodIn v_P14_backE (wsV RX14 140 RX17 yX17_sets v_PR_sets) := goodIn_app (goodIn_sub (fun w h => mow_P14_backE w (by revert w h; decide +kernel)) (by decide +kernel)) (goodIn_sub mem_P14_backE_0 gw_PR_sets)
set_option maxRecDepth 20000 in
theorem g_P14_backE_PR_usesA : GoodIn v_P14_backE (wsV RX14 145 RX17 yX17_usesA v_PR_usesA) := goodIn_app (goodIn_sub (fun w h => mow_P14_backE w (by revert w h; decide +kernel)) (by decide +kernel)) (goodIn_sub mem_P14_backE_1 gw_PR_usesA)
set_option maxRecDepth 20000 in
theorem g_P14_backE_PR_usesB : GoodIn v_P14_backE (wsV RX14 151 RX17 yX17_usesB v_PR_usesB) := goodIn_app (goodIn_sub (fun w h => mow_P14_backE w (by revert w h; decide +kernel)) (by decide +kernel)) (goodIn_sub mem_P14_backE_2 gw_PR_usesB)
set_option maxHeartbeats 4000000 in
set_option maxRecDepth 100000 in
theorem c_P14_backE (l : Launch) (dC : Nat → ClassId) (dI : Nat → Nat → Nat) (h0 : Nat) (v14_0 : Value) (v14_1 : Value) (v14_2 : Value) (v14_3 : Value) (v14_4 : Value) (v14_5 : Value) (v14_6 : Value) (v14_7 : Value) (v14_8 : Value) (v14_9 : Value) (v14_10 : Value) (q_1411 : Nat) (cA_1411 : ClassId) (a14_now : Int → Int) (v14_12 : Value) (cO : ClassId) (L : List Nat) (P : PO) (xr : Nat) (hR_a14_now : ∀ j : Int, 0 ≤ a14_now j ∧ a14_now j ≤ 1) (hX_x : xr ∈ L) (hX_k : P.kd xr = 17) (hX_r : ROK9 P xr) (sz : Nat) : Met l yX14_back v_P14_backE ({ frames := 1, cells := 0, slots := 0, locals := 20 }) (va_Pc [.ref h0, .ref xr] (fun U => U.heap.size = sz ∧ va_P (dC, dI) vwQ ([(h0, .inr (13, [v14_0, v14_1, v14_2, v14_3, v14_4, v14_5, v14_6, v14_7, v14_8, v14_9, v14_10, .ref q_1411, v14_12])), (q_1411, .inl (cA_1411, 1002, .inl (fun j : Nat => zI (a14_now (j : Int)))))] ++ va_pl L (pE P)) U.heap ∧ va_K (dC, dI) vwQ [(cA_1411, .boolean), (cO, .object "java/lang/Object")] U ∧ va_D (fun _ => True) ([(h0, .inr (13, [v14_0, v14_1, v14_2, v14_3, v14_4, v14_5, v14_6, v14_7, v14_8, v14_9, v14_10, .ref q_1411, v14_12])), (q_1411, .inl (cA_1411, 1002, .inl (fun j : Nat => zI (a14_now (j : Int)))))] ++ va_pl L (pE P)))) (va_Qv (fun _ : Unit => True) (fun (_ : Unit) (t : State) => ∃ (a0_9 : Int → Int), ((∀ j : Int, 0 ≤ a0_9 j ∧ a0_9 j ≤ 1) ∧ (BKE P xr a14_now a0_9)) ∧ va_P (dC, dI) vwQ ([(h0, .inr (13, [v14_0, v14_1, v14_2, v14_3, v14_4, v14_5, v14_6, v14_7, v14_8, v14_9, v14_10, .ref q_1411, v14_12])), (q_1411, .inl (cA_1411, 1002, .inl (fun j : Nat => zI (a0_9 (j : Int)))))] ++ va_pl L (pE P)) t.heap ∧ va_K (dC, dI) vwQ [(cA_1411, .boolean), (cO, .object "java/lang/Object")] t ∧ va_D (va_A ([(h0, .inr (13, [v14_0, v14_1, v14_2, v14_3, v14_4, v14_5, v14_6, v14_7, v14_8, v14_9, v14_10, .ref q_1411, v14_12])), (q_1411, .inl (cA_1411, 1002, .inl (fun j : Nat => zI (a14_now (j : Int)))))] ++ va_pl L (pE P)) sz) ([(h0, .inr (13, [v14_0, v14_1, v14_2, v14_3, v14_4, v14_5, v14_6, v14_7, v14_8, v14_9, v14_10, .ref q_1411, v14_12])), (q_1411, .inl (cA_1411, 1002, .inl (fun j : Nat => zI (a0_9 (j : Int)))))] ++ va_pl L (pE P))) (va_A ([(h0, .inr (13, [v14_0, v14_1, v14_2, v14_3, v14_4, v14_5, v14_6, v14_7, v14_8, v14_9, v14_10, .ref q_1411, v14_12])), (q_1411, .inl (cA_1411, 1002, .inl (fun j : Nat => zI (a14_now (j : Int)))))] ++ va_pl L (pE P)) sz)) 0 0 (va_A ([(h0, .inr (13, [v14_0, v14_1, v14_2, v14_3, v14_4, v14_5, v14_6, v14_7, v14_8, v14_9, v14_10, .ref q_1411, v14_12])), (q_1411, .inl (cA_1411, 1002, .inl (fun j : Nat => zI (a14_now (j : Int)))))] ++ va_pl L (pE P)) sz) := by
  refine Met.ofW (cc := cX14_back) (maxL := 2) (ret := none) (by decide) rfl ?_
  intro p e s m args below meth c s₁ B hml hv
  obtain ⟨rfl, hsz, hP, hK, hD0⟩ := hv
  have hx := B.exec
  have hb := B.bytes
  have hr := B.returns
  have hts := atoms_spec (ws := v_P14_backE) B.pre
  have hown : s.vm.findClass RX14 = some m.cls := findClass_of_methodNamed B.named
  have hlocks := B.notSynchronized
  have ow : ∀ {k : Nat} {w : Cond}, o_P14_backE[k]? = some w → w.before ([.ref h0, .ref xr] : List Value).toArray s = true := fun h => hts _ (mow_P14_backE _ (List.mem_of_getElem? h))
  subst hsz
  have hD := hD0.self (sz := s.heap.size)
  generalize hAe : va_A ([(h0, .inr (13, [v14_0, v14_1, v14_2, v14_3, v14_4, v14_5, v14_6, v14_7, v14_8, v14_9, v14_10, .ref q_1411, v14_12])), (q_1411, .inl (cA_1411, 1002, .inl (fun j : Nat => zI (a14_now (j : Int)))))] ++ va_pl L (pE P)) s.heap.size = A at hD ⊢
  have hA : ∀ q : Nat, s.heap.size ≤ q → A q := fun q h => by rw [← hAe]; exact Or.inr h
  have hS : va_S A s.heap s.heap [] := va_S.rf
  have hP : va_P (dC, dI) vwQ ([(h0, .inr (13, [v14_0, v14_1, v14_2, v14_3, v14_4, v14_5, v14_6, v14_7, v14_8, v14_9, v14_10, .ref q_1411, v14_12])), (q_1411, .inl (cA_1411, 1002, .inl (fun j : Nat => zI (a14_now (j : Int)))))] ++ va_pl L (pE P)) s.heap := hP
  have hl := lv_entry ([.ref h0, .ref xr]) (n := 2) (Nat.le_of_ble_eq_true rfl)
  rw [lg_entry_eq]
  generalize (lg_sl ([.ref h0, .ref xr]) ++ List.replicate (2 - (lg_sl ([.ref h0, .ref xr])).length) Slot.unset).toArray = ls at hl ⊢
  have hl : lv_has ls 2 [(0, .ref h0), (1, .ref xr)] := hl
  obtain ⟨H, hH⟩ : ∃ H, H = s.heap := ⟨_, rfl⟩
  rw [← hH] at hP
  have hS : va_S A s.heap H [] := by rw [hH]; exact hS
  rw [← hH]
  refine zW_cap (fun Q hQ => ?_)
  have ⟨hr1, hr2, hr3, hr4, hr5, hr6, hr7, hr8, hr9⟩ := hX_r
  refine lv_aload_n hx hb dX14_back_0 rfl (lv_at hl 1 rfl) ?_
  have hPc := hP.part (X := [(h0, .inr (13, [v14_0, v14_1, v14_2, v14_3, v14_4, v14_5, v14_6, v14_7, v14_8, v14_9, v14_10, .ref q_1411, v14_12])), (q_1411, .inl (cA_1411, 1002, .inl (fun j : Nat => zI (a14_now (j : Int)))))]) (cx := []) (pl := va_pl L (pE P)) [] rfl
  have hDc := hD.part (X := [(h0, .inr (13, [v14_0, v14_1, v14_2, v14_3, v14_4, v14_5, v14_6, v14_7, v14_8, v14_9, v14_10, .ref q_1411, v14_12])), (q_1411, .inl (cA_1411, 1002, .inl (fun j : Nat => zI (a14_now (j : Int)))))]) (cx := []) (pl := va_pl L (pE P)) [] (by decide) rfl
  have hKc := hK.sub (tys' := [(cO, .object "java/lang/Object")]) [1] rfl
  have hFc := va_freeP (X := [(h0, .inr (13, [v14_0, v14_1, v14_2, v14_3, v14_4, v14_5, v14_6, v14_7, v14_8, v14_9, v14_10, .ref q_1411, v14_12])), (q_1411, .inl (cA_1411, 1002, .inl (fun j : Nat => zI (a14_now (j : Int)))))]) (cx := []) (pl := va_pl L (pE P)) hD hS hA [] rfl
  refine va_calli (va_runV (As := []) (rest := []) ⟨hx, hb, hml, hown, hts⟩ (c_PR_sets l dC dI cO L P xr hX_x hX_k (by omega) H.size) (cwV 0 hts g_P14_backE_PR_sets rfl rfl rfl (by decide +kernel) ⟨(Nat.le_of_ble_eq_true rfl), (Nat.le_of_ble_eq_true rfl)⟩) ⟨fun a U g mk q => by obtain ⟨q0, q1, qP, qK, qD⟩ := q; exact ⟨q0, q1, qP, va_K.moved (u := U) (U := U.calling g mk a) (Vm.Alike.refl U.vm) qK, qD⟩, recv_17 hKc hPc hX_x hX_k, fun U hU hW => ⟨rfl, by rw [hU], by rw [hU]; exact hPc, va_K.moved hW.alike hKc, hDc.weaken (fun _ _ _ _ => trivial)⟩⟩ rfl rfl hl.1 rfl (lv_room (Nat.le_of_ble_eq_true rfl)) dX14_back_1 ⟨(Nat.le_of_ble_eq_true rfl), (Nat.le_of_ble_eq_true rfl)⟩) hS (fun q _ h => hFc q h) hFc (fun r_2001 u t H1 locs ht hvm hw hB hz1 hk1 hS => ?_)
  obtain ⟨hP1, hK1, hD1⟩ := hB
  rw [ht] at hP1
  have hK1 := va_K.moved hvm.symm hK1
  obtain ⟨hP, hD⟩ := va_joinP (X := [(h0, .inr (13, [v14_0, v14_1, v14_2, v14_3, v14_4, v14_5, v14_6, v14_7, v14_8, v14_9, v14_10, .ref q_1411, v14_12])), (q_1411, .inl (cA_1411, 1002, .inl (fun j : Nat => zI (a14_now (j : Int)))))]) (cx := []) (wr := [(h0, .inr (13, [v14_0, v14_1, v14_2, v14_3, v14_4, v14_5, v14_6, v14_7, v14_8, v14_9, v14_10, .ref q_1411, v14_12])), (q_1411, .inl (cA_1411, 1002, .inl (fun j : Nat => zI (a14_now (j : Int)))))]) (rx := []) (pl := va_pl L (pE P)) (pl1 := va_pl L (pE P)) hP hD [] [0, 1] rfl rfl (by decide) (by decide) hk1 hFc hP1 hD1
  have hK := (hK.sub (tys' := [(cA_1411, .boolean)]) [0] rfl).app hK1
  generalize H1 = H at hP hS ⊢
  have hP : va_P (dC, dI) vwQ ([(h0, .inr (13, [v14_0, v14_1, v14_2, v14_3, v14_4, v14_5, v14_6, v14_7, v14_8, v14_9, v14_10, .ref q_1411, v14_12])), (q_1411, .inl (cA_1411, 1002, .inl (fun j : Nat => zI (a14_now (j : Int)))))] ++ va_pl L (pE P)) H := hP
  have hD : va_D A ([(h0, .inr (13, [v14_0, v14_1, v14_2, v14_3, v14_4, v14_5, v14_6, v14_7, v14_8, v14_9, v14_10, .ref q_1411, v14_12])), (q_1411, .inl (cA_1411, 1002, .inl (fun j : Nat => zI (a14_now (j : Int)))))] ++ va_pl L (pE P)) := hD
  have hK : va_K (dC, dI) vwQ [(cA_1411, .boolean), (cO, .object "java/lang/Object")] s := hK
  refine W.widen (k := 0) (n := 0) (Nat.le_of_ble_eq_true rfl) (Nat.le_of_ble_eq_true rfl) ?_
  obtain rfl : r_2001 = (zI (rSets (P.ro xr))) := hw
  have := rSets_spec (P.ro xr)
  refine lv_if_eq (tgt := 17) hx hb dX14_back_4 (by decide) (fun b4 => ?_) (fun b4 => ?_)
  · have yb4 : (rSets (P.ro xr) : Int) = (0 : Int) := (zI_eq (a := rSets (P.ro xr)) (b := 0) (by omega) (by omega) (by omega) (by omega)).mp b4
    refine lv_aload_n hx hb dX14_back_17 rfl (lv_at hl 1 rfl) ?_
    have hPc := hP.part (X := [(h0, .inr (13, [v14_0, v14_1, v14_2, v14_3, v14_4, v14_5, v14_6, v14_7, v14_8, v14_9, v14_10, .ref q_1411, v14_12])), (q_1411, .inl (cA_1411, 1002, .inl (fun j : Nat => zI (a14_now (j : Int)))))]) (cx := []) (pl := va_pl L (pE P)) [] rfl
    have hDc := hD.part (X := [(h0, .inr (13, [v14_0, v14_1, v14_2, v14_3, v14_4, v14_5, v14_6, v14_7, v14_8, v14_9, v14_10, .ref q_1411, v14_12])), (q_1411, .inl (cA_1411, 1002, .inl (fun j : Nat => zI (a14_now (j : Int)))))]) (cx := []) (pl := va_pl L (pE P)) [] (by decide) rfl
    have hKc := hK.sub (tys' := [(cO, .object "java/lang/Object")]) [1] rfl
    have hFc := va_freeP (X := [(h0, .inr (13, [v14_0, v14_1, v14_2, v14_3, v14_4, v14_5, v14_6, v14_7, v14_8, v14_9, v14_10, .ref q_1411, v14_12])), (q_1411, .inl (cA_1411, 1002, .inl (fun j : Nat => zI (a14_now (j : Int)))))]) (cx := []) (pl := va_pl L (pE P)) hD hS hA [] rfl
    refine va_calli (va_runV (As := []) (rest := []) ⟨hx, hb, hml, hown, hts⟩ (c_PR_usesA l dC dI cO L P xr hX_x hX_k hX_r H.size) (cwV 0 hts g_P14_backE_PR_usesA rfl rfl rfl (by decide +kernel) ⟨(Nat.le_of_ble_eq_true rfl), (Nat.le_of_ble_eq_true rfl)⟩) ⟨fun a U g mk q => by obtain ⟨q0, q1, qP, qK, qD⟩ := q; exact ⟨q0, q1, qP, va_K.moved (u := U) (U := U.calling g mk a) (Vm.Alike.refl U.vm) qK, qD⟩, recv_17 hKc hPc hX_x hX_k, fun U hU hW => ⟨rfl, by rw [hU], by rw [hU]; exact hPc, va_K.moved hW.alike hKc, hDc.weaken (fun _ _ _ _ => trivial)⟩⟩ rfl rfl hl.1 rfl (lv_room (Nat.le_of_ble_eq_true rfl)) dX14_back_18 ⟨(Nat.le_of_ble_eq_true rfl), (Nat.le_of_ble_eq_true rfl)⟩) hS (fun q _ h => hFc q h) hFc (fun r_2002 u t H1 locs ht hvm hw hB hz1 hk1 hS => ?_)
    obtain ⟨hP1, hK1, hD1⟩ := hB
    rw [ht] at hP1
    have hK1 := va_K.moved hvm.symm hK1
    obtain ⟨hP, hD⟩ := va_joinP (X := [(h0, .inr (13, [v14_0, v14_1, v14_2, v14_3, v14_4, v14_5, v14_6, v14_7, v14_8, v14_9, v14_10, .ref q_1411, v14_12])), (q_1411, .inl (cA_1411, 1002, .inl (fun j : Nat => zI (a14_now (j : Int)))))]) (cx := []) (wr := [(h0, .inr (13, [v14_0, v14_1, v14_2, v14_3, v14_4, v14_5, v14_6, v14_7, v14_8, v14_9, v14_10, .ref q_1411, v14_12])), (q_1411, .inl (cA_1411, 1002, .inl (fun j : Nat => zI (a14_now (j : Int)))))]) (rx := []) (pl := va_pl L (pE P)) (pl1 := va_pl L (pE P)) hP hD [] [0, 1] rfl rfl (by decide) (by decide) hk1 hFc hP1 hD1
    have hK := (hK.sub (tys' := [(cA_1411, .boolean)]) [0] rfl).app hK1
    generalize H1 = H at hP hS ⊢
    have hP : va_P (dC, dI) vwQ ([(h0, .inr (13, [v14_0, v14_1, v14_2, v14_3, v14_4, v14_5, v14_6, v14_7, v14_8, v14_9, v14_10, .ref q_1411, v14_12])), (q_1411, .inl (cA_1411, 1002, .inl (fun j : Nat => zI (a14_now (j : Int)))))] ++ va_pl L (pE P)) H := hP
    have hD : va_D A ([(h0, .inr (13, [v14_0, v14_1, v14_2, v14_3, v14_4, v14_5, v14_6, v14_7, v14_8, v14_9, v14_10, .ref q_1411, v14_12])), (q_1411, .inl (cA_1411, 1002, .inl (fun j : Nat => zI (a14_now (j : Int)))))] ++ va_pl L (pE P)) := hD
    have hK : va_K (dC, dI) vwQ [(cA_1411, .boolean), (cO, .object "java/lang/Object")] s := hK
    refine W.widen (k := 0) (n := 0) (Nat.le_of_ble_eq_true rfl) (Nat.le_of_ble_eq_true rfl) ?_
    obtain rfl : r_2002 = (zI (rUsA (P.ro xr) (P.rA xr))) := hw
    have := rUsA_spec (P.ro xr) (P.rA xr)
    refine lv_if_eq (tgt := 34) hx hb dX14_back_21 (by decide) (fun b21 => ?_) (fun b21 => ?_)
    · have yb21 : (rUsA (P.ro xr) (P.rA xr) : Int) = (0 : Int) := (zI_eq (a := rUsA (P.ro xr) (P.rA xr)) (b := 0) (by omega) (by omega) (by omega) (by omega)).mp b21
      refine lv_aload_n hx hb dX14_back_34 rfl (lv_at hl 1 rfl) ?_
      have hPc := hP.part (X := [(h0, .inr (13, [v14_0, v14_1, v14_2, v14_3, v14_4, v14_5, v14_6, v14_7, v14_8, v14_9, v14_10, .ref q_1411, v14_12])), (q_1411, .inl (cA_1411, 1002, .inl (fun j : Nat => zI (a14_now (j : Int)))))]) (cx := []) (pl := va_pl L (pE P)) [] rfl
      have hDc := hD.part (X := [(h0, .inr (13, [v14_0, v14_1, v14_2, v14_3, v14_4, v14_5, v14_6, v14_7, v14_8, v14_9, v14_10, .ref q_1411, v14_12])), (q_1411, .inl (cA_1411, 1002, .inl (fun j : Nat => zI (a14_now (j : Int)))))]) (cx := []) (pl := va_pl L (pE P)) [] (by decide) rfl
      have hKc := hK.sub (tys' := [(cO, .object "java/lang/Object")]) [1] rfl
      have hFc := va_freeP (X := [(h0, .inr (13, [v14_0, v14_1, v14_2, v14_3, v14_4, v14_5, v14_6, v14_7, v14_8, v14_9, v14_10, .ref q_1411, v14_12])), (q_1411, .inl (cA_1411, 1002, .inl (fun j : Nat => zI (a14_now (j : Int)))))]) (cx := []) (pl := va_pl L (pE P)) hD hS hA [] rfl
      refine va_calli (va_runV (As := []) (rest := []) ⟨hx, hb, hml, hown, hts⟩ (c_PR_usesB l dC dI cO L P xr hX_x hX_k hX_r H.size) (cwV 0 hts g_P14_backE_PR_usesB rfl rfl rfl (by decide +kernel) ⟨(Nat.le_of_ble_eq_true rfl), (Nat.le_of_ble_eq_true rfl)⟩) ⟨fun a U g mk q => by obtain ⟨q0, q1, qP, qK, qD⟩ := q; exact ⟨q0, q1, qP, va_K.moved (u := U) (U := U.calling g mk a) (Vm.Alike.refl U.vm) qK, qD⟩, recv_17 hKc hPc hX_x hX_k, fun U hU hW => ⟨rfl, by rw [hU], by rw [hU]; exact hPc, va_K.moved hW.alike hKc, hDc.weaken (fun _ _ _ _ => trivial)⟩⟩ rfl rfl hl.1 rfl (lv_room (Nat.le_of_ble_eq_true rfl)) dX14_back_35 ⟨(Nat.le_of_ble_eq_true rfl), (Nat.le_of_ble_eq_true rfl)⟩) hS (fun q _ h => hFc q h) hFc (fun r_2003 u t H1 locs ht hvm hw hB hz1 hk1 hS => ?_)
      obtain ⟨hP1, hK1, hD1⟩ := hB
      rw [ht] at hP1
      have hK1 := va_K.moved hvm.symm hK1
      obtain ⟨hP, hD⟩ := va_joinP (X := [(h0, .inr (13, [v14_0, v14_1, v14_2, v14_3, v14_4, v14_5, v14_6, v14_7, v14_8, v14_9, v14_10, .ref q_1411, v14_12])), (q_1411, .inl (cA_1411, 1002, .inl (fun j : Nat => zI (a14_now (j : Int)))))]) (cx := []) (wr := [(h0, .inr (13, [v14_0, v14_1, v14_2, v14_3, v14_4, v14_5, v14_6, v14_7, v14_8, v14_9, v14_10, .ref q_1411, v14_12])), (q_1411, .inl (cA_1411, 1002, .inl (fun j : Nat => zI (a14_now (j : Int)))))]) (rx := []) (pl := va_pl L (pE P)) (pl1 := va_pl L (pE P)) hP hD [] [0, 1] rfl rfl (by decide) (by decide) hk1 hFc hP1 hD1
      have hK := (hK.sub (tys' := [(cA_1411, .boolean)]) [0] rfl).app hK1
      generalize H1 = H at hP hS ⊢
      have hP : va_P (dC, dI) vwQ ([(h0, .inr (13, [v14_0, v14_1, v14_2, v14_3, v14_4, v14_5, v14_6, v14_7, v14_8, v14_9, v14_10, .ref q_1411, v14_12])), (q_1411, .inl (cA_1411, 1002, .inl (fun j : Nat => zI (a14_now (j : Int)))))] ++ va_pl L (pE P)) H := hP
      have hD : va_D A ([(h0, .inr (13, [v14_0, v14_1, v14_2, v14_3, v14_4, v14_5, v14_6, v14_7, v14_8, v14_9, v14_10, .ref q_1411, v14_12])), (q_1411, .inl (cA_1411, 1002, .inl (fun j : Nat => zI (a14_now (j : Int)))))] ++ va_pl L (pE P)) := hD
      have hK : va_K (dC, dI) vwQ [(cA_1411, .boolean), (cO, .object "java/lang/Object")] s := hK
      refine W.widen (k := 0) (n := 0) (Nat.le_of_ble_eq_true rfl) (Nat.le_of_ble_eq_true rfl) ?_
      obtain rfl : r_2003 = (zI (rUsB (P.ro xr) (P.rB xr))) := hw
      have := rUsB_spec (P.ro xr) (P.rB xr)
      refine lv_if_eq (tgt := 51) hx hb dX14_back_38 (by decide) (fun b38 => ?_) (fun b38 => ?_)
      · have yb38 : (rUsB (P.ro xr) (P.rB xr) : Int) = (0 : Int) := (zI_eq (a := rUsB (P.ro xr) (P.rB xr)) (b := 0) (by omega) (by omega) (by omega) (by omega)).mp b38
        subst hQ
        refine W.widen (k := 0) (n := 0) (Nat.le_of_ble_eq_true rfl) (Nat.le_of_ble_eq_true rfl) ?_
        exact W.vret hx hb hr (fun t ht hW => ⟨⟨(), rfl, trivial, a14_now, ⟨hR_a14_now, BKE.mk (f1 := a14_now) (f2 := a14_now) (Or.inl ⟨by omega, rfl⟩) (Or.inl ⟨by omega, rfl⟩) (Or.inl ⟨by omega, rfl⟩)⟩, by rw [ht]; exact hP, va_K.moved hW.alike hK, hD⟩, hS.F ht⟩) hS.2.2 dX14_back_51
      · have yb38 : ¬ (rUsB (P.ro xr) (P.rB xr) : Int) = (0 : Int) := fun q => b38 ((zI_eq (a := rUsB (P.ro xr) (P.rB xr)) (b := 0) (by omega) (by omega) (by omega) (by omega)).mpr q)
        refine lv_aload_n hx hb dX14_back_41 rfl (lv_at hl 0 rfl) ?_
        refine va_get (D := (dC, dI)) (ci := 13) (v := .ref q_1411) (C := RX14) (T := TX14) (N := 13) hx hb hts mem_P14_backE_3 hown hK hP 0 rfl rfl 11 (by decide) (ow (k := 10) rfl) (fun _ h9 => h9) rfl dX14_back_42 ?_
        refine lv_aload_n hx hb dX14_back_45 rfl (lv_at hl 1 rfl) ?_
        obtain ⟨kp_2004, hkp_2004⟩ := va_pl_get (X := [(h0, .inr (13, [v14_0, v14_1, v14_2, v14_3, v14_4, v14_5, v14_6, v14_7, v14_8, v14_9, v14_10, .ref q_1411, v14_12])), (q_1411, .inl (cA_1411, 1002, .inl (fun j : Nat => zI (a14_now (j : Int)))))]) (f := pE P) hX_x
        rw [pE_row hX_k] at hkp_2004
        refine va_get (D := (dC, dI)) (ci := 21) (v := .int (zI (P.rb xr))) (C := RX17) (T := TX17) (N := 7) hx hb hts mem_P14_backE_4 hown hK hP kp_2004 hkp_2004 rfl 3 (by decide) (ow (k := 11) rfl) (fun _ h9 => h9) rfl dX14_back_46 ?_
        refine lv_iconst (v := 1) hx hb dX14_back_49 (by decide) ?_
        skip
        refine va_zast (i := zI (P.rb xr)) hx hb hK hP hD hS 1 0 rfl rfl (zI_in (a := P.rb xr) (n := 1002) (by omega) (by omega) (by decide)) dX14_back_50 (fun H locs hP hD hS => ?_)
        rw [show vp_nar .boolean 1 = 1 from zI_nar (a := 1) (by omega) (by omega)] at hP hD
        have eQ : upd (fun j : Nat => zI (a14_now (j : Int))) (zI (P.rb xr)).toNatClampNeg 1 = (fun j : Nat => zI (zup a14_now (P.rb xr) (1) (j : Int))) := zI_st a14_now (e := P.rb xr) (v := 1) (by omega) (by omega)
        rw [eQ] at hP hD
        clear eQ
        have ra_2005 : ∀ j : Int, 0 ≤ zup a14_now (P.rb xr) (1) j ∧ zup a14_now (P.rb xr) (1) j ≤ 1 := zup_P (P := fun x9 => 0 ≤ x9 ∧ x9 ≤ 1) hR_a14_now (show 0 ≤ (1) ∧ (1) ≤ 1 by omega)
        obtain ⟨a_2005, ea_2005⟩ : ∃ a9 : Int → Int, a9 = zup a14_now (P.rb xr) (1) := ⟨_, rfl⟩
        rw [← ea_2005] at hP hD ra_2005
        have hP : va_P (dC, dI) vwQ ([(h0, .inr (13, [v14_0, v14_1, v14_2, v14_3, v14_4, v14_5, v14_6, v14_7, v14_8, v14_9, v14_10, .ref q_1411, v14_12])), (q_1411, .inl (cA_1411, 1002, .inl (fun j : Nat => zI (a_2005 (j : Int)))))] ++ va_pl L (pE P)) H := hP
        have hD : va_D A ([(h0, .inr (13, [v14_0, v14_1, v14_2, v14_3, v14_4, v14_5, v14_6, v14_7, v14_8, v14_9, v14_10, .ref q_1411, v14_12])), (q_1411, .inl (cA_1411, 1002, .inl (fun j : Nat => zI (a_2005 (j : Int)))))] ++ va_pl L (pE P)) := hD
        subst hQ
        refine W.widen (k := 0) (n := 0) (Nat.le_of_ble_eq_true rfl) (Nat.le_of_ble_eq_true rfl) ?_
        exact W.vret hx hb hr (fun t ht hW => ⟨⟨(), rfl, trivial, a_2005, ⟨ra_2005, BKE.mk (f1 := a14_now) (f2 := a14_now) (Or.inl ⟨by omega, rfl⟩) (Or.inl ⟨by omega, rfl⟩) (Or.inr ⟨by omega, ea_2005⟩)⟩, by rw [ht]; exact hP, va_K.moved hW.alike hK, hD⟩, hS.F ht⟩) hS.2.2 dX14_back_51
    · have yb21 : ¬ (rUsA (P.ro xr) (P.rA xr) : Int) = (0 : Int) := fun q => b21 ((zI_eq (a := rUsA (P.ro xr) (P.rA xr)) (b := 0) (by omega) (by omega) (by omega) (by omega)).mpr q)
      refine lv_aload_n hx hb dX14_back_24 rfl (lv_at hl 0 rfl) ?_
      refine va_get (D := (dC, dI)) (ci := 13) (v := .ref q_1411) (C := RX14) (T := TX14) (N := 13) hx hb hts mem_P14_backE_3 hown hK hP 0 rfl rfl 11 (by decide) (ow (k := 10) rfl) (fun _ h9 => h9) rfl dX14_back_25 ?_
      refine lv_aload_n hx hb dX14_back_28 rfl (lv_at hl 1 rfl) ?_
      obtain ⟨kp_2006, hkp_2006⟩ := va_pl_get (X := [(h0, .inr (13, [v14_0, v14_1, v14_2, v14_3, v14_4, v14_5, v14_6, v14_7, v14_8, v14_9, v14_10, .ref q_1411, v14_12])), (q_1411, .inl (cA_1411, 1002, .inl (fun j : Nat => zI (a14_now (j : Int)))))]) (f := pE P) hX_x
      rw [pE_row hX_k] at hkp_2006
      refine va_get (D := (dC, dI)) (ci := 21) (v := .int (zI (P.ra xr))) (C := RX17) (T := TX17) (N := 7) hx hb hts mem_P14_backE_4 hown hK hP kp_2006 hkp_2006 rfl 2 (by decide) (ow (k := 12) rfl) (fun _ h9 => h9) rfl dX14_back_29 ?_
      refine lv_iconst (v := 1) hx hb dX14_back_32 (by decide) ?_
      skip
      refine va_zast (i := zI (P.ra xr)) hx hb hK hP hD hS 1 0 rfl rfl (zI_in (a := P.ra xr) (n := 1002) (by omega) (by omega) (by decide)) dX14_back_33 (fun H locs hP hD hS => ?_)
      rw [show vp_nar .boolean 1 = 1 from zI_nar (a := 1) (by omega) (by omega)] at hP hD
      have eQ : upd (fun j : Nat => zI (a14_now (j : Int))) (zI (P.ra xr)).toNatClampNeg 1 = (fun j : Nat => zI (zup a14_now (P.ra xr) (1) (j : Int))) := zI_st a14_now (e := P.ra xr) (v := 1) (by omega) (by omega)
      rw [eQ] at hP hD
      clear eQ
      have ra_2007 : ∀ j : Int, 0 ≤ zup a14_now (P.ra xr) (1) j ∧ zup a14_now (P.ra xr) (1) j ≤ 1 := zup_P (P := fun x9 => 0 ≤ x9 ∧ x9 ≤ 1) hR_a14_now (show 0 ≤ (1) ∧ (1) ≤ 1 by omega)
      obtain ⟨a_2007, ea_2007⟩ : ∃ a9 : Int → Int, a9 = zup a14_now (P.ra xr) (1) := ⟨_, rfl⟩
      rw [← ea_2007] at hP hD ra_2007
      have hP : va_P (dC, dI) vwQ ([(h0, .inr (13, [v14_0, v14_1, v14_2, v14_3, v14_4, v14_5, v14_6, v14_7, v14_8, v14_9, v14_10, .ref q_1411, v14_12])), (q_1411, .inl (cA_1411, 1002, .inl (fun j : Nat => zI (a_2007 (j : Int)))))] ++ va_pl L (pE P)) H := hP
      have hD : va_D A ([(h0, .inr (13, [v14_0, v14_1, v14_2, v14_3, v14_4, v14_5, v14_6, v14_7, v14_8, v14_9, v14_10, .ref q_1411, v14_12])), (q_1411, .inl (cA_1411, 1002, .inl (fun j : Nat => zI (a_2007 (j : Int)))))] ++ va_pl L (pE P)) := hD
      refine lv_aload_n hx hb dX14_back_34 rfl (lv_at hl 1 rfl) ?_
      have hPc := hP.part (X := [(h0, .inr (13, [v14_0, v14_1, v14_2, v14_3, v14_4, v14_5, v14_6, v14_7, v14_8, v14_9, v14_10, .ref q_1411, v14_12])), (q_1411, .inl (cA_1411, 1002, .inl (fun j : Nat => zI (a_2007 (j : Int)))))]) (cx := []) (pl := va_pl L (pE P)) [] rfl
      have hDc := hD.part (X := [(h0, .inr (13, [v14_0, v14_1, v14_2, v14_3, v14_4, v14_5, v14_6, v14_7, v14_8, v14_9, v14_10, .ref q_1411, v14_12])), (q_1411, .inl (cA_1411, 1002, .inl (fun j : Nat => zI (a_2007 (j : Int)))))]) (cx := []) (pl := va_pl L (pE P)) [] (by decide) rfl
      have hKc := hK.sub (tys' := [(cO, .object "java/lang/Object")]) [1] rfl
      have hFc := va_freeP (X := [(h0, .inr (13, [v14_0, v14_1, v14_2, v14_3, v14_4, v14_5, v14_6, v14_7, v14_8, v14_9, v14_10, .ref q_1411, v14_12])), (q_1411, .inl (cA_1411, 1002, .inl (fun j : Nat => zI (a_2007 (j : Int)))))]) (cx := []) (pl := va_pl L (pE P)) hD hS hA [] rfl
      refine va_calli (va_runV (As := []) (rest := []) ⟨hx, hb, hml, hown, hts⟩ (c_PR_usesB l dC dI cO L P xr hX_x hX_k hX_r H.size) (cwV 0 hts g_P14_backE_PR_usesB rfl rfl rfl (by decide +kernel) ⟨(Nat.le_of_ble_eq_true rfl), (Nat.le_of_ble_eq_true rfl)⟩) ⟨fun a U g mk q => by obtain ⟨q0, q1, qP, qK, qD⟩ := q; exact ⟨q0, q1, qP, va_K.moved (u := U) (U := U.calling g mk a) (Vm.Alike.refl U.vm) qK, qD⟩, recv_17 hKc hPc hX_x hX_k, fun U hU hW => ⟨rfl, by rw [hU], by rw [hU]; exact hPc, va_K.moved hW.alike hKc, hDc.weaken (fun _ _ _ _ => trivial)⟩⟩ rfl rfl hl.1 rfl (lv_room (Nat.le_of_ble_eq_true rfl)) dX14_back_35 ⟨(Nat.le_of_ble_eq_true rfl), (Nat.le_of_ble_eq_true rfl)⟩) hS (fun q _ h => hFc q h) hFc (fun r_2008 u t H1 locs ht hvm hw hB hz1 hk1 hS => ?_)
      obtain ⟨hP1, hK1, hD1⟩ := hB
      rw [ht] at hP1
      have hK1 := va_K.moved hvm.symm hK1
      obtain ⟨hP, hD⟩ := va_joinP (X := [(h0, .inr (13, [v14_0, v14_1, v14_2, v14_3, v14_4, v14_5, v14_6, v14_7, v14_8, v14_9, v14_10, .ref q_1411, v14_12])), (q_1411, .inl (cA_1411, 1002, .inl (fun j : Nat => zI (a_2007 (j : Int)))))]) (cx := []) (wr := [(h0, .inr (13, [v14_0, v14_1, v14_2, v14_3, v14_4, v14_5, v14_6, v14_7, v14_8, v14_9, v14_10, .ref q_1411, v14_12])), (q_1411, .inl (cA_1411, 1002, .inl (fun j : Nat => zI (a_2007 (j : Int)))))]) (rx := []) (pl := va_pl L (pE P)) (pl1 := va_pl L (pE P)) hP hD [] [0, 1] rfl rfl (by decide) (by decide) hk1 hFc hP1 hD1
      have hK := (hK.sub (tys' := [(cA_1411, .boolean)]) [0] rfl).app hK1
      generalize H1 = H at hP hS ⊢
      have hP : va_P (dC, dI) vwQ ([(h0, .inr (13, [v14_0, v14_1, v14_2, v14_3, v14_4, v14_5, v14_6, v14_7, v14_8, v14_9, v14_10, .ref q_1411, v14_12])), (q_1411, .inl (cA_1411, 1002, .inl (fun j : Nat => zI (a_2007 (j : Int)))))] ++ va_pl L (pE P)) H := hP
      have hD : va_D A ([(h0, .inr (13, [v14_0, v14_1, v14_2, v14_3, v14_4, v14_5, v14_6, v14_7, v14_8, v14_9, v14_10, .ref q_1411, v14_12])), (q_1411, .inl (cA_1411, 1002, .inl (fun j : Nat => zI (a_2007 (j : Int)))))] ++ va_pl L (pE P)) := hD
      have hK : va_K (dC, dI) vwQ [(cA_1411, .boolean), (cO, .object "java/lang/Object")] s := hK
      refine W.widen (k := 0) (n := 0) (Nat.le_of_ble_eq_true rfl) (Nat.le_of_ble_eq_true rfl) ?_
      obtain rfl : r_2008 = (zI (rUsB (P.ro xr) (P.rB xr))) := hw
      have := rUsB_spec (P.ro xr) (P.rB xr)
      refine lv_if_eq (tgt := 51) hx hb dX14_back_38 (by decide) (fun b38 => ?_) (fun b38 => ?_)
      · have yb38 : (rUsB (P.ro xr) (P.rB xr) : Int) = (0 : Int) := (zI_eq (a := rUsB (P.ro xr) (P.rB xr)) (b := 0) (by omega) (by omega) (by omega) (by omega)).mp b38
        subst hQ
        refine W.widen (k := 0) (n := 0) (Nat.le_of_ble_eq_true rfl) (Nat.le_of_ble_eq_true rfl) ?_
        exact W.vret hx hb hr (fun t ht hW => ⟨⟨(), rfl, trivial, a_2007, ⟨ra_2007, BKE.mk (f1 := a14_now) (f2 := a_2007) (Or.inl ⟨by omega, rfl⟩) (Or.inr ⟨by omega, ea_2007⟩) (Or.inl ⟨by omega, rfl⟩)⟩, by rw [ht]; exact hP, va_K.moved hW.alike hK, hD⟩, hS.F ht⟩) hS.2.2 dX14_back_51
      · have yb38 : ¬ (rUsB (P.ro xr) (P.rB xr) : Int) = (0 : Int) := fun q => b38 ((zI_eq (a := rUsB (P.ro xr) (P.rB xr)) (b := 0) (by omega) (by omega) (by omega) (by omega)).mpr q)
        refine lv_aload_n hx hb dX14_back_41 rfl (lv_at hl 0 rfl) ?_
        refine va_get (D := (dC, dI)) (ci := 13) (v := .ref q_1411) (C := RX14) (T := TX14) (N := 13) hx hb hts mem_P14_backE_3 hown hK hP 0 rfl rfl 11 (by decide) (ow (k := 10) rfl) (fun _ h9 => h9) rfl dX14_back_42 ?_
        refine lv_aload_n hx hb dX14_back_45 rfl (lv_at hl 1 rfl) ?_
        obtain ⟨kp_2009, hkp_2009⟩ := va_pl_get (X := [(h0, .inr (13, [v14_0, v14_1, v14_2, v14_3, v14_4, v14_5, v14_6, v14_7, v14_8, v14_9, v14_10, .ref q_1411, v14_12])), (q_1411, .inl (cA_1411, 1002, .inl (fun j : Nat => zI (a_2007 (j : Int)))))]) (f := pE P) hX_x
        rw [pE_row hX_k] at hkp_2009
        refine va_get (D := (dC, dI)) (ci := 21) (v := .int (zI (P.rb xr))) (C := RX17) (T := TX17) (N := 7) hx hb hts mem_P14_backE_4 hown hK hP kp_2009 hkp_2009 rfl 3 (by decide) (ow (k := 11) rfl) (fun _ h9 => h9) rfl dX14_back_46 ?_
        refine lv_iconst (v := 1) hx hb dX14_back_49 (by decide) ?_
        skip
        refine va_zast (i := zI (P.rb xr)) hx hb hK hP hD hS 1 0 rfl rfl (zI_in (a := P.rb xr) (n := 1002) (by omega) (by omega) (by decide)) dX14_back_50 (fun H locs hP hD hS => ?_)
        rw [show vp_nar .boolean 1 = 1 from zI_nar (a := 1) (by omega) (by omega)] at hP hD
        have eQ : upd (fun j : Nat => zI (a_2007 (j : Int))) (zI (P.rb xr)).toNatClampNeg 1 = (fun j : Nat => zI (zup a_2007 (P.rb xr) (1) (j : Int))) := zI_st a_2007 (e := P.rb xr) (v := 1) (by omega) (by omega)
        rw [eQ] at hP hD
        clear eQ
        have ra_2010 : ∀ j : Int, 0 ≤ zup a_2007 (P.rb xr) (1) j ∧ zup a_2007 (P.rb xr) (1) j ≤ 1 := zup_P (P := fun x9 => 0 ≤ x9 ∧ x9 ≤ 1) ra_2007 (show 0 ≤ (1) ∧ (1) ≤ 1 by omega)
        obtain ⟨a_2010, ea_2010⟩ : ∃ a9 : Int → Int, a9 = zup a_2007 (P.rb xr) (1) := ⟨_, rfl⟩
        rw [← ea_2010] at hP hD ra_2010
        have hP : va_P (dC, dI) vwQ ([(h0, .inr (13, [v14_0, v14_1, v14_2, v14_3, v14_4, v14_5, v14_6, v14_7, v14_8, v14_9, v14_10, .ref q_1411, v14_12])), (q_1411, .inl (cA_1411, 1002, .inl (fun j : Nat => zI (a_2010 (j : Int)))))] ++ va_pl L (pE P)) H := hP
        have hD : va_D A ([(h0, .inr (13, [v14_0, v14_1, v14_2, v14_3, v14_4, v14_5, v14_6, v14_7, v14_8, v14_9, v14_10, .ref q_1411, v14_12])), (q_1411, .inl (cA_1411, 1002, .inl (fun j : Nat => zI (a_2010 (j : Int)))))] ++ va_pl L (pE P)) := hD
        subst hQ
        refine W.widen (k := 0) (n := 0) (Nat.le_of_ble_eq_true rfl) (Nat.le_of_ble_eq_true rfl) ?_
        exact W.vret hx hb hr (fun t ht hW => ⟨⟨(), rfl, trivial, a_2010, ⟨ra_2010, BKE.mk (f1 := a14_now) (f2 := a_2007) (Or.inl ⟨by omega, rfl⟩) (Or.inr ⟨by omega, ea_2007⟩) (Or.inr ⟨by omega, ea_2010⟩)⟩, by rw [ht]; exact hP, va_K.moved hW.alike hK, hD⟩, hS.F ht⟩) hS.2.2 dX14_back_51
  · have yb4 : ¬ (rSets (P.ro xr) : Int) = (0 : Int) := fun q => b4 ((zI_eq (a := rSets (P.ro xr)) (b := 0) (by omega) (by omega) (by omega) (by omega)).mpr q)
    refine lv_aload_n hx hb dX14_back_7 rfl (lv_at hl 0 rfl) ?_
    refine va_get (D := (dC, dI)) (ci := 13) (v := .ref q_1411) (C := RX14) (T := TX14) (N := 13) hx hb hts mem_P14_backE_3 hown hK hP 0 rfl rfl 11 (by decide) (ow (k := 10) rfl) (fun _ h9 => h9) rfl dX14_back_8 ?_
    refine lv_aload_n hx hb dX14_back_11 rfl (lv_at hl 1 rfl) ?_
    obtain ⟨kp_2011, hkp_2011⟩ := va_pl_get (X := [(h0, .inr (13, [v14_0, v14_1, v14_2, v14_3, v14_4, v14_5, v14_6, v14_7, v14_8, v14_9, v14_10, .ref q_1411, v14_12])), (q_1411, .inl (cA_1411, 1002, .inl (fun j : Nat => zI (a14_now (j : Int)))))]) (f := pE P) hX_x
    rw [pE_row hX_k] at hkp_2011
    refine va_get (D := (dC, dI)) (ci := 21) (v := .int (zI (P.rt xr))) (C := RX17) (T := TX17) (N := 7) hx hb hts mem_P14_backE_4 hown hK hP kp_2011 hkp_2011 rfl 1 (by decide) (ow (k := 13) rfl) (fun _ h9 => h9) rfl dX14_back_12 ?_
    refine lv_iconst (v := 0) hx hb dX14_back_15 (by decide) ?_
    skip
    refine va_zast (i := zI (P.rt xr)) hx hb hK hP hD hS 1 0 rfl rfl (zI_in (a := P.rt xr) (n := 1002) (by omega) (by omega) (by decide)) dX14_back_16 (fun H locs hP hD hS => ?_)
    rw [show vp_nar .boolean 0 = 0 from zI_nar (a := 0) (by omega) (by omega)] at hP hD
    have eQ : upd (fun j : Nat => zI (a14_now (j : Int))) (zI (P.rt xr)).toNatClampNeg 0 = (fun j : Nat => zI (zup a14_now (P.rt xr) (0) (j : Int))) := zI_st a14_now (e := P.rt xr) (v := 0) (by omega) (by omega)
    rw [eQ] at hP hD
    clear eQ
    have ra_2012 : ∀ j : Int, 0 ≤ zup a14_now (P.rt xr) (0) j ∧ zup a14_now (P.rt xr) (0) j ≤ 1 := zup_P (P := fun x9 => 0 ≤ x9 ∧ x9 ≤ 1) hR_a14_now (show 0 ≤ (0) ∧ (0) ≤ 1 by omega)
    obtain ⟨a_2012, ea_2012⟩ : ∃ a9 : Int → Int, a9 = zup a14_now (P.rt xr) (0) := ⟨_, rfl⟩
    rw [← ea_2012] at hP hD ra_2012
    have hP : va_P (dC, dI) vwQ ([(h0, .inr (13, [v14_0, v14_1, v14_2, v14_3, v14_4, v14_5, v14_6, v14_7, v14_8, v14_9, v14_10, .ref q_1411, v14_12])), (q_1411, .inl (cA_1411, 1002, .inl (fun j : Nat => zI (a_2012 (j : Int)))))] ++ va_pl L (pE P)) H := hP
    have hD : va_D A ([(h0, .inr (13, [v14_0, v14_1, v14_2, v14_3, v14_4, v14_5, v14_6, v14_7, v14_8, v14_9, v14_10, .ref q_1411, v14_12])), (q_1411, .inl (cA_1411, 1002, .inl (fun j : Nat => zI (a_2012 (j : Int)))))] ++ va_pl L (pE P)) := hD
    refine lv_aload_n hx hb dX14_back_17 rfl (lv_at hl 1 rfl) ?_
    have hPc := hP.part (X := [(h0, .inr (13, [v14_0, v14_1, v14_2, v14_3, v14_4, v14_5, v14_6, v14_7, v14_8, v14_9, v14_10, .ref q_1411, v14_12])), (q_1411, .inl (cA_1411, 1002, .inl (fun j : Nat => zI (a_2012 (j : Int)))))]) (cx := []) (pl := va_pl L (pE P)) [] rfl
    have hDc := hD.part (X := [(h0, .inr (13, [v14_0, v14_1, v14_2, v14_3, v14_4, v14_5, v14_6, v14_7, v14_8, v14_9, v14_10, .ref q_1411, v14_12])), (q_1411, .inl (cA_1411, 1002, .inl (fun j : Nat => zI (a_2012 (j : Int)))))]) (cx := []) (pl := va_pl L (pE P)) [] (by decide) rfl
    have hKc := hK.sub (tys' := [(cO, .object "java/lang/Object")]) [1] rfl
    have hFc := va_freeP (X := [(h0, .inr (13, [v14_0, v14_1, v14_2, v14_3, v14_4, v14_5, v14_6, v14_7, v14_8, v14_9, v14_10, .ref q_1411, v14_12])), (q_1411, .inl (cA_1411, 1002, .inl (fun j : Nat => zI (a_2012 (j : Int)))))]) (cx := []) (pl := va_pl L (pE P)) hD hS hA [] rfl
    refine va_calli (va_runV (As := []) (rest := []) ⟨hx, hb, hml, hown, hts⟩ (c_PR_usesA l dC dI cO L P xr hX_x hX_k hX_r H.size) (cwV 0 hts g_P14_backE_PR_usesA rfl rfl rfl (by decide +kernel) ⟨(Nat.le_of_ble_eq_true rfl), (Nat.le_of_ble_eq_true rfl)⟩) ⟨fun a U g mk q => by obtain ⟨q0, q1, qP, qK, qD⟩ := q; exact ⟨q0, q1, qP, va_K.moved (u := U) (U := U.calling g mk a) (Vm.Alike.refl U.vm) qK, qD⟩, recv_17 hKc hPc hX_x hX_k, fun U hU hW => ⟨rfl, by rw [hU], by rw [hU]; exact hPc, va_K.moved hW.alike hKc, hDc.weaken (fun _ _ _ _ => trivial)⟩⟩ rfl rfl hl.1 rfl (lv_room (Nat.le_of_ble_eq_true rfl)) dX14_back_18 ⟨(Nat.le_of_ble_eq_true rfl), (Nat.le_of_ble_eq_true rfl)⟩) hS (fun q _ h => hFc q h) hFc (fun r_2013 u t H1 locs ht hvm hw hB hz1 hk1 hS => ?_)
    obtain ⟨hP1, hK1, hD1⟩ := hB
    rw [ht] at hP1
    have hK1 := va_K.moved hvm.symm hK1
    obtain ⟨hP, hD⟩ := va_joinP (X := [(h0, .inr (13, [v14_0, v14_1, v14_2, v14_3, v14_4, v14_5, v14_6, v14_7, v14_8, v14_9, v14_10, .ref q_1411, v14_12])), (q_1411, .inl (cA_1411, 1002, .inl (fun j : Nat => zI (a_2012 (j : Int)))))]) (cx := []) (wr := [(h0, .inr (13, [v14_0, v14_1, v14_2, v14_3, v14_4, v14_5, v14_6, v14_7, v14_8, v14_9, v14_10, .ref q_1411, v14_12])), (q_1411, .inl (cA_1411, 1002, .inl (fun j : Nat => zI (a_2012 (j : Int)))))]) (rx := []) (pl := va_pl L (pE P)) (pl1 := va_pl L (pE P)) hP hD [] [0, 1] rfl rfl (by decide) (by decide) hk1 hFc hP1 hD1
    have hK := (hK.sub (tys' := [(cA_1411, .boolean)]) [0] rfl).app hK1
    generalize H1 = H at hP hS ⊢
    have hP : va_P (dC, dI) vwQ ([(h0, .inr (13, [v14_0, v14_1, v14_2, v14_3, v14_4, v14_5, v14_6, v14_7, v14_8, v14_9, v14_10, .ref q_1411, v14_12])), (q_1411, .inl (cA_1411, 1002, .inl (fun j : Nat => zI (a_2012 (j : Int)))))] ++ va_pl L (pE P)) H := hP
    have hD : va_D A ([(h0, .inr (13, [v14_0, v14_1, v14_2, v14_3, v14_4, v14_5, v14_6, v14_7, v14_8, v14_9, v14_10, .ref q_1411, v14_12])), (q_1411, .inl (cA_1411, 1002, .inl (fun j : Nat => zI (a_2012 (j : Int)))))] ++ va_pl L (pE P)) := hD
    have hK : va_K (dC, dI) vwQ [(cA_1411, .boolean), (cO, .object "java/lang/Object")] s := hK
    refine W.widen (k := 0) (n := 0) (Nat.le_of_ble_eq_true rfl) (Nat.le_of_ble_eq_true rfl) ?_
    obtain rfl : r_2013 = (zI (rUsA (P.ro xr) (P.rA xr))) := hw
    have := rUsA_spec (P.ro xr) (P.rA xr)
    refine lv_if_eq (tgt := 34) hx hb dX14_back_21 (by decide) (fun b21 => ?_) (fun b21 => ?_)
    · have yb21 : (rUsA (P.ro xr) (P.rA xr) : Int) = (0 : Int) := (zI_eq (a := rUsA (P.ro xr) (P.rA xr)) (b := 0) (by omega) (by omega) (by omega) (by omega)).mp b21
      refine lv_aload_n hx hb dX14_back_34 rfl (lv_at hl 1 rfl) ?_
      have hPc := hP.part (X := [(h0, .inr (13, [v14_0, v14_1, v14_2, v14_3, v14_4, v14_5, v14_6, v14_7, v14_8, v14_9, v14_10, .ref q_1411, v14_12])), (q_1411, .inl (cA_1411, 1002, .inl (fun j : Nat => zI (a_2012 (j : Int)))))]) (cx := []) (pl := va_pl L (pE P)) [] rfl
      have hDc := hD.part (X := [(h0, .inr (13, [v14_0, v14_1, v14_2, v14_3, v14_4, v14_5, v14_6, v14_7, v14_8, v14_9, v14_10, .ref q_1411, v14_12])), (q_1411, .inl (cA_1411, 1002, .inl (fun j : Nat => zI (a_2012 (j : Int)))))]) (cx := []) (pl := va_pl L (pE P)) [] (by decide) rfl
      have hKc := hK.sub (tys' := [(cO, .object "java/lang/Object")]) [1] rfl
      have hFc := va_freeP (X := [(h0, .inr (13, [v14_0, v14_1, v14_2, v14_3, v14_4, v14_5, v14_6, v14_7, v14_8, v14_9, v14_10, .ref q_1411, v14_12])), (q_1411, .inl (cA_1411, 1002, .inl (fun j : Nat => zI (a_2012 (j : Int)))))]) (cx := []) (pl := va_pl L (pE P)) hD hS hA [] rfl
      refine va_calli (va_runV (As := []) (rest := []) ⟨hx, hb, hml, hown, hts⟩ (c_PR_usesB l dC dI cO L P xr hX_x hX_k hX_r H.size) (cwV 0 hts g_P14_backE_PR_usesB rfl rfl rfl (by decide +kernel) ⟨(Nat.le_of_ble_eq_true rfl), (Nat.le_of_ble_eq_true rfl)⟩) ⟨fun a U g mk q => by obtain ⟨q0, q1, qP, qK, qD⟩ := q; exact ⟨q0, q1, qP, va_K.moved (u := U) (U := U.calling g mk a) (Vm.Alike.refl U.vm) qK, qD⟩, recv_17 hKc hPc hX_x hX_k, fun U hU hW => ⟨rfl, by rw [hU], by rw [hU]; exact hPc, va_K.moved hW.alike hKc, hDc.weaken (fun _ _ _ _ => trivial)⟩⟩ rfl rfl hl.1 rfl (lv_room (Nat.le_of_ble_eq_true rfl)) dX14_back_35 ⟨(Nat.le_of_ble_eq_true rfl), (Nat.le_of_ble_eq_true rfl)⟩) hS (fun q _ h => hFc q h) hFc (fun r_2014 u t H1 locs ht hvm hw hB hz1 hk1 hS => ?_)
      obtain ⟨hP1, hK1, hD1⟩ := hB
      rw [ht] at hP1
      have hK1 := va_K.moved hvm.symm hK1
      obtain ⟨hP, hD⟩ := va_joinP (X := [(h0, .inr (13, [v14_0, v14_1, v14_2, v14_3, v14_4, v14_5, v14_6, v14_7, v14_8, v14_9, v14_10, .ref q_1411, v14_12])), (q_1411, .inl (cA_1411, 1002, .inl (fun j : Nat => zI (a_2012 (j : Int)))))]) (cx := []) (wr := [(h0, .inr (13, [v14_0, v14_1, v14_2, v14_3, v14_4, v14_5, v14_6, v14_7, v14_8, v14_9, v14_10, .ref q_1411, v14_12])), (q_1411, .inl (cA_1411, 1002, .inl (fun j : Nat => zI (a_2012 (j : Int)))))]) (rx := []) (pl := va_pl L (pE P)) (pl1 := va_pl L (pE P)) hP hD [] [0, 1] rfl rfl (by decide) (by decide) hk1 hFc hP1 hD1
      have hK := (hK.sub (tys' := [(cA_1411, .boolean)]) [0] rfl).app hK1
      generalize H1 = H at hP hS ⊢
      have hP : va_P (dC, dI) vwQ ([(h0, .inr (13, [v14_0, v14_1, v14_2, v14_3, v14_4, v14_5, v14_6, v14_7, v14_8, v14_9, v14_10, .ref q_1411, v14_12])), (q_1411, .inl (cA_1411, 1002, .inl (fun j : Nat => zI (a_2012 (j : Int)))))] ++ va_pl L (pE P)) H := hP
      have hD : va_D A ([(h0, .inr (13, [v14_0, v14_1, v14_2, v14_3, v14_4, v14_5, v14_6, v14_7, v14_8, v14_9, v14_10, .ref q_1411, v14_12])), (q_1411, .inl (cA_1411, 1002, .inl (fun j : Nat => zI (a_2012 (j : Int)))))] ++ va_pl L (pE P)) := hD
      have hK : va_K (dC, dI) vwQ [(cA_1411, .boolean), (cO, .object "java/lang/Object")] s := hK
      refine W.widen (k := 0) (n := 0) (Nat.le_of_ble_eq_true rfl) (Nat.le_of_ble_eq_true rfl) ?_
      obtain rfl : r_2014 = (zI (rUsB (P.ro xr) (P.rB xr))) := hw
      have := rUsB_spec (P.ro xr) (P.rB xr)
      refine lv_if_eq (tgt := 51) hx hb dX14_back_38 (by decide) (fun b38 => ?_) (fun b38 => ?_)
      · have yb38 : (rUsB (P.ro xr) (P.rB xr) : Int) = (0 : Int) := (zI_eq (a := rUsB (P.ro xr) (P.rB xr)) (b := 0) (by omega) (by omega) (by omega) (by omega)).mp b38
        subst hQ
        refine W.widen (k := 0) (n := 0) (Nat.le_of_ble_eq_true rfl) (Nat.le_of_ble_eq_true rfl) ?_
        exact W.vret hx hb hr (fun t ht hW => ⟨⟨(), rfl, trivial, a_2012, ⟨ra_2012, BKE.mk (f1 := a_2012) (f2 := a_2012) (Or.inr ⟨by omega, ea_2012⟩) (Or.inl ⟨by omega, rfl⟩) (Or.inl ⟨by omega, rfl⟩)⟩, by rw [ht]; exact hP, va_K.moved hW.alike hK, hD⟩, hS.F ht⟩) hS.2.2 dX14_back_51
      · have yb38 : ¬ (rUsB (P.ro xr) (P.rB xr) : Int) = (0 : Int) := fun q => b38 ((zI_eq (a := rUsB (P.ro xr) (P.rB xr)) (b := 0) (by omega) (by omega) (by omega) (by omega)).mpr q)
        refine lv_aload_n hx hb dX14_back_41 rfl (lv_at hl 0 rfl) ?_
        refine va_get (D := (dC, dI)) (ci := 13) (v := .ref q_1411) (C := RX14) (T := TX14) (N := 13) hx hb hts mem_P14_backE_3 hown hK hP 0 rfl rfl 11 (by decide) (ow (k := 10) rfl) (fun _ h9 => h9) rfl dX14_back_42 ?_
        refine lv_aload_n hx hb dX14_back_45 rfl (lv_at hl 1 rfl) ?_
        obtain ⟨kp_2015, hkp_2015⟩ := va_pl_get (X := [(h0, .inr (13, [v14_0, v14_1, v14_2, v14_3, v14_4, v14_5, v14_6, v14_7, v14_8, v14_9, v14_10, .ref q_1411, v14_12])), (q_1411, .inl (cA_1411, 1002, .inl (fun j : Nat => zI (a_2012 (j : Int)))))]) (f := pE P) hX_x
        rw [pE_row hX_k] at hkp_2015
        refine va_get (D := (dC, dI)) (ci := 21) (v := .int (zI (P.rb xr))) (C := RX17) (T := TX17) (N := 7) hx hb hts mem_P14_backE_4 hown hK hP kp_2015 hkp_2015 rfl 3 (by decide) (ow (k := 11) rfl) (fun _ h9 => h9) rfl dX14_back_46 ?_
        refine lv_iconst (v := 1) hx hb dX14_back_49 (by decide) ?_
        skip
        refine va_zast (i := zI (P.rb xr)) hx hb hK hP hD hS 1 0 rfl rfl (zI_in (a := P.rb xr) (n := 1002) (by omega) (by omega) (by decide)) dX14_back_50 (fun H locs hP hD hS => ?_)
        rw [show vp_nar .boolean 1 = 1 from zI_nar (a := 1) (by omega) (by omega)] at hP hD
        have eQ : upd (fun j : Nat => zI (a_2012 (j : Int))) (zI (P.rb xr)).toNatClampNeg 1 = (fun j : Nat => zI (zup a_2012 (P.rb xr) (1) (j : Int))) := zI_st a_2012 (e := P.rb xr) (v := 1) (by omega) (by omega)
        rw [eQ] at hP hD
        clear eQ
        have ra_2016 : ∀ j : Int, 0 ≤ zup a_2012 (P.rb xr) (1) j ∧ zup a_2012 (P.rb xr) (1) j ≤ 1 := zup_P (P := fun x9 => 0 ≤ x9 ∧ x9 ≤ 1) ra_2012 (show 0 ≤ (1) ∧ (1) ≤ 1 by omega)
        obtain ⟨a_2016, ea_2016⟩ : ∃ a9 : Int → Int, a9 = zup a_2012 (P.rb xr) (1) := ⟨_, rfl⟩
        rw [← ea_2016] at hP hD ra_2016
        have hP : va_P (dC, dI) vwQ ([(h0, .inr (13, [v14_0, v14_1, v14_2, v14_3, v14_4, v14_5, v14_6, v14_7, v14_8, v14_9, v14_10, .ref q_1411, v14_12])), (q_1411, .inl (cA_1411, 1002, .inl (fun j : Nat => zI (a_2016 (j : Int)))))] ++ va_pl L (pE P)) H := hP
        have hD : va_D A ([(h0, .inr (13, [v14_0, v14_1, v14_2, v14_3, v14_4, v14_5, v14_6, v14_7, v14_8, v14_9, v14_10, .ref q_1411, v14_12])), (q_1411, .inl (cA_1411, 1002, .inl (fun j : Nat => zI (a_2016 (j : Int)))))] ++ va_pl L (pE P)) := hD
        subst hQ
        refine W.widen (k := 0) (n := 0) (Nat.le_of_ble_eq_true rfl) (Nat.le_of_ble_eq_true rfl) ?_
        exact W.vret hx hb hr (fun t ht hW => ⟨⟨(), rfl, trivial, a_2016, ⟨ra_2016, BKE.mk (f1 := a_2012) (f2 := a_2012) (Or.inr ⟨by omega, ea_2012⟩) (Or.inl ⟨by omega, rfl⟩) (Or.inr ⟨by omega, ea_2016⟩)⟩, by rw [ht]; exact hP, va_K.moved hW.alike hK, hD⟩, hS.F ht⟩) hS.2.2 dX14_back_51
    · have yb21 : ¬ (rUsA (P.ro xr) (P.rA xr) : Int) = (0 : Int) := fun q => b21 ((zI_eq (a := rUsA (P.ro xr) (P.rA xr)) (b := 0) (by omega) (by omega) (by omega) (by omega)).mpr q)
      refine lv_aload_n hx hb dX14_back_24 rfl (lv_at hl 0 rfl) ?_
      refine va_get (D := (dC, dI)) (ci := 13) (v := .ref q_1411) (C := RX14) (T := TX14) (N := 13) hx hb hts mem_P14_backE_3 hown hK hP 0 rfl rfl 11 (by decide) (ow (k := 10) rfl) (fun _ h9 => h9) rfl dX14_back_25 ?_
      refine lv_aload_n hx hb dX14_back_28 rfl (lv_at hl 1 rfl) ?_
      obtain ⟨kp_2017, hkp_2017⟩ := va_pl_get (X := [(h0, .inr (13, [v14_0, v14_1, v14_2, v14_3, v14_4, v14_5, v14_6, v14_7, v14_8, v14_9, v14_10, .ref q_1411, v14_12])), (q_1411, .inl (cA_1411, 1002, .inl (fun j : Nat => zI (a_2012 (j : Int)))))]) (f := pE P) hX_x
      rw [pE_row hX_k] at hkp_2017
      refine va_get (D := (dC, dI)) (ci := 21) (v := .int (zI (P.ra xr))) (C := RX17) (T := TX17) (N := 7) hx hb hts mem_P14_backE_4 hown hK hP kp_2017 hkp_2017 rfl 2 (by decide) (ow (k := 12) rfl) (fun _ h9 => h9) rfl dX14_back_29 ?_
      refine lv_iconst (v := 1) hx hb dX14_back_32 (by decide) ?_
      skip
      refine va_zast (i := zI (P.ra xr)) hx hb hK hP hD hS 1 0 rfl rfl (zI_in (a := P.ra xr) (n := 1002) (by omega) (by omega) (by decide)) dX14_back_33 (fun H locs hP hD hS => ?_)
      rw [show vp_nar .boolean 1 = 1 from zI_nar (a := 1) (by omega) (by omega)] at hP hD
      have eQ : upd (fun j : Nat => zI (a_2012 (j : Int))) (zI (P.ra xr)).toNatClampNeg 1 = (fun j : Nat => zI (zup a_2012 (P.ra xr) (1) (j : Int))) := zI_st a_2012 (e := P.ra xr) (v := 1) (by omega) (by omega)
      rw [eQ] at hP hD
      clear eQ
      have ra_2018 : ∀ j : Int, 0 ≤ zup a_2012 (P.ra xr) (1) j ∧ zup a_2012 (P.ra xr) (1) j ≤ 1 := zup_P (P := fun x9 => 0 ≤ x9 ∧ x9 ≤ 1) ra_2012 (show 0 ≤ (1) ∧ (1) ≤ 1 by omega)
      obtain ⟨a_2018, ea_2018⟩ : ∃ a9 : Int → Int, a9 = zup a_2012 (P.ra xr) (1) := ⟨_, rfl⟩
      rw [← ea_2018] at hP hD ra_2018
      have hP : va_P (dC, dI) vwQ ([(h0, .inr (13, [v14_0, v14_1, v14_2, v14_3, v14_4, v14_5, v14_6, v14_7, v14_8, v14_9, v14_10, .ref q_1411, v14_12])), (q_1411, .inl (cA_1411, 1002, .inl (fun j : Nat => zI (a_2018 (j : Int)))))] ++ va_pl L (pE P)) H := hP
      have hD : va_D A ([(h0, .inr (13, [v14_0, v14_1, v14_2, v14_3, v14_4, v14_5, v14_6, v14_7, v14_8, v14_9, v14_10, .ref q_1411, v14_12])), (q_1411, .inl (cA_1411, 1002, .inl (fun j : Nat => zI (a_2018 (j : Int)))))] ++ va_pl L (pE P)) := hD
      refine lv_aload_n hx hb dX14_back_34 rfl (lv_at hl 1 rfl) ?_
      have hPc := hP.part (X := [(h0, .inr (13, [v14_0, v14_1, v14_2, v14_3, v14_4, v14_5, v14_6, v14_7, v14_8, v14_9, v14_10, .ref q_1411, v14_12])), (q_1411, .inl (cA_1411, 1002, .inl (fun j : Nat => zI (a_2018 (j : Int)))))]) (cx := []) (pl := va_pl L (pE P)) [] rfl
      have hDc := hD.part (X := [(h0, .inr (13, [v14_0, v14_1, v14_2, v14_3, v14_4, v14_5, v14_6, v14_7, v14_8, v14_9, v14_10, .ref q_1411, v14_12])), (q_1411, .inl (cA_1411, 1002, .inl (fun j : Nat => zI (a_2018 (j : Int)))))]) (cx := []) (pl := va_pl L (pE P)) [] (by decide) rfl
      have hKc := hK.sub (tys' := [(cO, .object "java/lang/Object")]) [1] rfl
      have hFc := va_freeP (X := [(h0, .inr (13, [v14_0, v14_1, v14_2, v14_3, v14_4, v14_5, v14_6, v14_7, v14_8, v14_9, v14_10, .ref q_1411, v14_12])), (q_1411, .inl (cA_1411, 1002, .inl (fun j : Nat => zI (a_2018 (j : Int)))))]) (cx := []) (pl := va_pl L (pE P)) hD hS hA [] rfl
      refine va_calli (va_runV (As := []) (rest := []) ⟨hx, hb, hml, hown, hts⟩ (c_PR_usesB l dC dI cO L P xr hX_x hX_k hX_r H.size) (cwV 0 hts g_P14_backE_PR_usesB rfl rfl rfl (by decide +kernel) ⟨(Nat.le_of_ble_eq_true rfl), (Nat.le_of_ble_eq_true rfl)⟩) ⟨fun a U g mk q => by obtain ⟨q0, q1, qP, qK, qD⟩ := q; exact ⟨q0, q1, qP, va_K.moved (u := U) (U := U.calling g mk a) (Vm.Alike.refl U.vm) qK, qD⟩, recv_17 hKc hPc hX_x hX_k, fun U hU hW => ⟨rfl, by rw [hU], by rw [hU]; exact hPc, va_K.moved hW.alike hKc, hDc.weaken (fun _ _ _ _ => trivial)⟩⟩ rfl rfl hl.1 rfl (lv_room (Nat.le_of_ble_eq_true rfl)) dX14_back_35 ⟨(Nat.le_of_ble_eq_true rfl), (Nat.le_of_ble_eq_true rfl)⟩) hS (fun q _ h => hFc q h) hFc (fun r_2019 u t H1 locs ht hvm hw hB hz1 hk1 hS => ?_)
      obtain ⟨hP1, hK1, hD1⟩ := hB
      rw [ht] at hP1
      have hK1 := va_K.moved hvm.symm hK1
      obtain ⟨hP, hD⟩ := va_joinP (X := [(h0, .inr (13, [v14_0, v14_1, v14_2, v14_3, v14_4, v14_5, v14_6, v14_7, v14_8, v14_9, v14_10, .ref q_1411, v14_12])), (q_1411, .inl (cA_1411, 1002, .inl (fun j : Nat => zI (a_2018 (j : Int)))))]) (cx := []) (wr := [(h0, .inr (13, [v14_0, v14_1, v14_2, v14_3, v14_4, v14_5, v14_6, v14_7, v14_8, v14_9, v14_10, .ref q_1411, v14_12])), (q_1411, .inl (cA_1411, 1002, .inl (fun j : Nat => zI (a_2018 (j : Int)))))]) (rx := []) (pl := va_pl L (pE P)) (pl1 := va_pl L (pE P)) hP hD [] [0, 1] rfl rfl (by decide) (by decide) hk1 hFc hP1 hD1
      have hK := (hK.sub (tys' := [(cA_1411, .boolean)]) [0] rfl).app hK1
      generalize H1 = H at hP hS ⊢
      have hP : va_P (dC, dI) vwQ ([(h0, .inr (13, [v14_0, v14_1, v14_2, v14_3, v14_4, v14_5, v14_6, v14_7, v14_8, v14_9, v14_10, .ref q_1411, v14_12])), (q_1411, .inl (cA_1411, 1002, .inl (fun j : Nat => zI (a_2018 (j : Int)))))] ++ va_pl L (pE P)) H := hP
      have hD : va_D A ([(h0, .inr (13, [v14_0, v14_1, v14_2, v14_3, v14_4, v14_5, v14_6, v14_7, v14_8, v14_9, v14_10, .ref q_1411, v14_12])), (q_1411, .inl (cA_1411, 1002, .inl (fun j : Nat => zI (a_2018 (j : Int)))))] ++ va_pl L (pE P)) := hD
      have hK : va_K (dC, dI) vwQ [(cA_1411, .boolean), (cO, .object "java/lang/Object")] s := hK
      refine W.widen (k := 0) (n := 0) (Nat.le_of_ble_eq_true rfl) (Nat.le_of_ble_eq_true rfl) ?_
      obtain rfl : r_2019 = (zI (rUsB (P.ro xr) (P.rB xr))) := hw
      have := rUsB_spec (P.ro xr) (P.rB xr)
      refine lv_if_eq (tgt := 51) hx hb dX14_back_38 (by decide) (fun b38 => ?_) (fun b38 => ?_)
      · have yb38 : (rUsB (P.ro xr) (P.rB xr) : Int) = (0 : Int) := (zI_eq (a := rUsB (P.ro xr) (P.rB xr)) (b := 0) (by omega) (by omega) (by omega) (by omega)).mp b38
        subst hQ
        refine W.widen (k := 0) (n := 0) (Nat.le_of_ble_eq_true rfl) (Nat.le_of_ble_eq_true rfl) ?_
        exact W.vret hx hb hr (fun t ht hW => ⟨⟨(), rfl, trivial, a_2018, ⟨ra_2018, BKE.mk (f1 := a_2012) (f2 := a_2018) (Or.inr ⟨by omega, ea_2012⟩) (Or.inr ⟨by omega, ea_2018⟩) (Or.inl ⟨by omega, rfl⟩)⟩, by rw [ht]; exact hP, va_K.moved hW.alike hK, hD⟩, hS.F ht⟩) hS.2.2 dX14_back_51
      · have yb38 : ¬ (rUsB (P.ro xr) (P.rB xr) : Int) = (0 : Int) := fun q => b38 ((zI_eq (a := rUsB (P.ro xr) (P.rB xr)) (b := 0) (by omega) (by omega) (by omega) (by omega)).mpr q)
        refine lv_aload_n hx hb dX14_back_41 rfl (lv_at hl 0 rfl) ?_
        refine va_get (D := (dC, dI)) (ci := 13) (v := .ref q_1411) (C := RX14) (T := TX14) (N := 13) hx hb hts mem_P14_backE_3 hown hK hP 0 rfl rfl 11 (by decide) (ow (k := 10) rfl) (fun _ h9 => h9) rfl dX14_back_42 ?_
        refine lv_aload_n hx hb dX14_back_45 rfl (lv_at hl 1 rfl) ?_
        obtain ⟨kp_2020, hkp_2020⟩ := va_pl_get (X := [(h0, .inr (13, [v14_0, v14_1, v14_2, v14_3, v14_4, v14_5, v14_6, v14_7, v14_8, v14_9, v14_10, .ref q_1411, v14_12])), (q_1411, .inl (cA_1411, 1002, .inl (fun j : Nat => zI (a_2018 (j : Int)))))]) (f := pE P) hX_x
        rw [pE_row hX_k] at hkp_2020
        refine va_get (D := (dC, dI)) (ci := 21) (v := .int (zI (P.rb xr))) (C := RX17) (T := TX17) (N := 7) hx hb hts mem_P14_backE_4 hown hK hP kp_2020 hkp_2020 rfl 3 (by decide) (ow (k := 11) rfl) (fun _ h9 => h9) rfl dX14_back_46 ?_
        refine lv_iconst (v := 1) hx hb dX14_back_49 (by decide) ?_
        skip
        refine va_zast (i := zI (P.rb xr)) hx hb hK hP hD hS 1 0 rfl rfl (zI_in (a := P.rb xr) (n := 1002) (by omega) (by omega) (by decide)) dX14_back_50 (fun H locs hP hD hS => ?_)
        rw [show vp_nar .boolean 1 = 1 from zI_nar (a := 1) (by omega) (by omega)] at hP hD
        have eQ : upd (fun j : Nat => zI (a_2018 (j : Int))) (zI (P.rb xr)).toNatClampNeg 1 = (fun j : Nat => zI (zup a_2018 (P.rb xr) (1) (j : Int))) := zI_st a_2018 (e := P.rb xr) (v := 1) (by omega) (by omega)
        rw [eQ] at hP hD
        clear eQ
        have ra_2021 : ∀ j : Int, 0 ≤ zup a_2018 (P.rb xr) (1) j ∧ zup a_2018 (P.rb xr) (1) j ≤ 1 := zup_P (P := fun x9 => 0 ≤ x9 ∧ x9 ≤ 1) ra_2018 (show 0 ≤ (1) ∧ (1) ≤ 1 by omega)
        obtain ⟨a_2021, ea_2021⟩ : ∃ a9 : Int → Int, a9 = zup a_2018 (P.rb xr) (1) := ⟨_, rfl⟩
        rw [← ea_2021] at hP hD ra_2021
        have hP : va_P (dC, dI) vwQ ([(h0, .inr (13, [v14_0, v14_1, v14_2, v14_3, v14_4, v14_5, v14_6, v14_7, v14_8, v14_9, v14_10, .ref q_1411, v14_12])), (q_1411, .inl (cA_1411, 1002, .inl (fun j : Nat => zI (a_2021 (j : Int)))))] ++ va_pl L (pE P)) H := hP
        have hD : va_D A ([(h0, .inr (13, [v14_0, v14_1, v14_2, v14_3, v14_4, v14_5, v14_6, v14_7, v14_8, v14_9, v14_10, .ref q_1411, v14_12])), (q_1411, .inl (cA_1411, 1002, .inl (fun j : Nat => zI (a_2021 (j : Int)))))] ++ va_pl L (pE P)) := hD
        subst hQ
        refine W.widen (k := 0) (n := 0) (Nat.le_of_ble_eq_true rfl) (Nat.le_of_ble_eq_true rfl) ?_
        exact W.vret hx hb hr (fun t ht hW => ⟨⟨(), rfl, trivial, a_2021, ⟨ra_2021, BKE.mk (f1 := a_2012) (f2 := a_2018) (Or.inr ⟨by omega, ea_2012⟩) (Or.inr ⟨by omega, ea_2018⟩) (Or.inr ⟨by omega, ea_2021⟩)⟩, by rw [ht]; exact hP, va_K.moved hW.alike hK, hD⟩, hS.F ht⟩) hS.2.2 dX14_back_51
