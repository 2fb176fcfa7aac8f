def o_P14_reachE : List Cond := [.fieldLink RX14 55 "SsaForgeModel$Flow" "n" "I", .fieldLink RX14 27 "SsaForgeModel$Flow" "stack" "[I", .fieldLink RX14 45 "SsaForgeModel$Flow" "c" "LSsaForgeModel$Code;", .methodLink RX14 75 yX13_get, .instanceMethod yX13_get, .selects RX13 yX13_get yX13_get, .initialized RX13, .methodLink RX14 79 yX12_ways, .instanceMethod yX12_ways, .selects RX12 yX12_ways yX12_ways, .initialized RX12, .methodLink RX14 84 yX12_way, .instanceMethod yX12_way, .selects RX12 yX12_way yX12_way]
def v_P14_reachE : List Cond := .code yX14_reach cX14_reach 7 none :: (o_P14_reachE ++ (wsX140 ++ (v_PC_get ++ (v_PB_ways ++ (v_PB_way ++ [])))))
theorem mow_P14_reachE : ∀ w ∈ o_P14_reachE, w ∈ v_P14_reachE := fun _ h => List.mem_cons_of_mem _ (List.mem_append_left _ h)
theorem mem_P14_reachE_0 : ∀ w ∈ wsX140, w ∈ v_P14_reachE := fun _ h => List.mem_cons_of_mem _ (List.mem_append_right _ (List.mem_append_left _ h))
theorem mem_P14_reachE_1 : ∀ w ∈ v_PC_get, w ∈ v_P14_reachE := fun _ h => List.mem_cons_of_mem _ (List.mem_append_right _ (List.mem_append_right _ (List.mem_append_left _ h)))
theorem mem_P14_reachE_2 : ∀ w ∈ v_PB_ways, w ∈ v_P14_reachE := fun _ h => List.mem_cons_of_mem _ (List.mem_append_right _ (List.mem_append_right _ (List.mem_append_right _ (List.mem_append_left _ h))))
theorem mem_P14_reachE_3 : ∀ w ∈ v_PB_way, w ∈ v_P14_reachE := fun _ h => List.mem_cons_of_mem _ (List.mem_append_right _ (List.mem_append_right _ (List.mem_append_right _ (List.mem_append_right _ (List.mem_append_left _ h)))))
set_option maxRecDepth 20000 in
theorem gw_P14_reachE : v_P14_reachE.all goodWord = true := by decide +kernel
set_option maxRecDepth 20000 in
theorem g_P14_reachE_PC_get : GoodIn v_P14_reachE (wsV RX14 75 RX13 yX13_get v_PC_get) := goodIn_app (goodIn_sub (fun w h => mow_P14_reachE w (by revert w h; decide +kernel)) (by decide +kernel)) (goodIn_sub mem_P14_reachE_1 gw_PC_get)
set_option maxRecDepth 20000 in
theorem g_P14_reachE_PB_ways : GoodIn v_P14_reachE (wsV RX14 79 RX12 yX12_ways v_PB_ways) := goodIn_app (goodIn_sub (fun w h => mow_P14_reachE w (by revert w h; decide +kernel)) (by decide +kernel)) (goodIn_sub mem_P14_reachE_2 gw_PB_ways)
set_option maxRecDepth 20000 in
theorem g_P14_reachE_PB_way : GoodIn v_P14_reachE (wsV RX14 84 RX12 yX12_way v_PB_way) := goodIn_app (goodIn_sub (fun w h => mow_P14_reachE w (by revert w h; decide +kernel)) (by decide +kernel)) (goodIn_sub mem_P14_reachE_3 gw_PB_way)
set_option maxHeartbeats 4000000 in
set_option maxRecDepth 100000 in
theorem c_P14_reachE (l : Launch) (dC : Nat → ClassId) (dI : Nat → Nat → Nat) (h0 : Nat) (z14_n : Int) (v14_2 : Value) (v14_3 : Value) (v14_4 : Value) (v14_5 : Value) (v14_6 : Value) (v14_8 : Value) (v14_9 : Value) (v14_10 : Value) (v14_11 : Value) (v14_12 : Value) (q_1407 : Nat) (cA_1407 : ClassId) (n14_stack : Nat) (a14_stack : Int → Int) (q_t : Nat) (cT : ClassId) (nt : Nat) (a_t : Int → Int) (hc : Nat) (v13_0 : Value) (v13_1 : Value) (v13_2 : Value) (v13_3 : Value) (v13_4 : Value) (v13_6 : Value) (la : Nat) (cO : ClassId) (L : List Nat) (P : PO) (u0 : Int) (hNz14_n : 0 ≤ z14_n ∧ z14_n ≤ 300) (hNn14_stack : n14_stack ≤ 1001) (hR_a14_stack : ∀ j : Int, 0 ≤ a14_stack j ∧ a14_stack j ≤ 299) (hNnt : nt ≤ 1000) (hR_a_t : ∀ j : Int, 0 ≤ a_t j ∧ a_t j ≤ 1) (hX_c : CDK L P cO la) (hNu : -1 ≤ u0 ∧ u0 ≤ 299) (hNn : z14_n = P.lz la ∧ 1 ≤ z14_n ∧ z14_n ≤ nt ∧ z14_n ≤ n14_stack) (sz : Nat) : Met l yX14_reach v_P14_reachE ({ frames := 4, cells := 0, slots := 0, locals := 85 }) (va_Pc [.ref h0, .int (zI (u0)), .ref q_t] (fun U => U.heap.size = sz ∧ va_P (dC, dI) vwQ ([(h0, .inr (13, [.ref hc, .int (zI (z14_n)), v14_2, v14_3, v14_4, v14_5, v14_6, .ref q_1407, v14_8, v14_9, v14_10, v14_11, v14_12])), (q_1407, .inl (cA_1407, n14_stack, .inl (fun j : Nat => zI (a14_stack (j : Int))))), (q_t, .inl (cT, nt, .inl (fun j : Nat => zI (a_t (j : Int))))), (hc, .inr (12, [v13_0, v13_1, v13_2, v13_3, v13_4, .ref la, v13_6]))] ++ va_pl L (pE P)) U.heap ∧ va_K (dC, dI) vwQ [(cA_1407, .int), (cT, .boolean), (cO, .object "java/lang/Object")] U ∧ va_D (fun _ => True) ([(h0, .inr (13, [.ref hc, .int (zI (z14_n)), v14_2, v14_3, v14_4, v14_5, v14_6, .ref q_1407, v14_8, v14_9, v14_10, v14_11, v14_12])), (q_1407, .inl (cA_1407, n14_stack, .inl (fun j : Nat => zI (a14_stack (j : Int))))), (q_t, .inl (cT, nt, .inl (fun j : Nat => zI (a_t (j : Int))))), (hc, .inr (12, [v13_0, v13_1, v13_2, v13_3, v13_4, .ref la, v13_6]))] ++ va_pl L (pE P)) ∧ va_Nw (.castable "SsaForgeModel$Block" "SsaForgeModel$Block") U)) (va_Qv (fun _ : Unit => True) (fun (_ : Unit) (t : State) => ∃ (a0_9 : Int → Int) (a1_9 : Int → Int), ((∀ j : Int, 0 ≤ a0_9 j ∧ a0_9 j ≤ 299) ∧ (∀ j : Int, 0 ≤ a1_9 j ∧ a1_9 j ≤ 1) ∧ (RCX P la u0 a1_9 z14_n)) ∧ va_P (dC, dI) vwQ ([(h0, .inr (13, [.ref hc, .int (zI (z14_n)), v14_2, v14_3, v14_4, v14_5, v14_6, .ref q_1407, v14_8, v14_9, v14_10, v14_11, v14_12])), (q_1407, .inl (cA_1407, n14_stack, .inl (fun j : Nat => zI (a0_9 (j : Int))))), (q_t, .inl (cT, nt, .inl (fun j : Nat => zI (a1_9 (j : Int))))), (hc, .inr (12, [v13_0, v13_1, v13_2, v13_3, v13_4, .ref la, v13_6]))] ++ va_pl L (pE P)) t.heap ∧ va_K (dC, dI) vwQ [(cA_1407, .int), (cT, .boolean), (cO, .object "java/lang/Object")] t ∧ va_D (va_A ([(h0, .inr (13, [.ref hc, .int (zI (z14_n)), v14_2, v14_3, v14_4, v14_5, v14_6, .ref q_1407, v14_8, v14_9, v14_10, v14_11, v14_12])), (q_1407, .inl (cA_1407, n14_stack, .inl (fun j : Nat => zI (a14_stack (j : Int))))), (q_t, .inl (cT, nt, .inl (fun j : Nat => zI (a_t (j : Int))))), (hc, .inr (12, [v13_0, v13_1, v13_2, v13_3, v13_4, .ref la, v13_6]))] ++ va_pl L (pE P)) sz) ([(h0, .inr (13, [.ref hc, .int (zI (z14_n)), v14_2, v14_3, v14_4, v14_5, v14_6, .ref q_1407, v14_8, v14_9, v14_10, v14_11, v14_12])), (q_1407, .inl (cA_1407, n14_stack, .inl (fun j : Nat => zI (a0_9 (j : Int))))), (q_t, .inl (cT, nt, .inl (fun j : Nat => zI (a1_9 (j : Int))))), (hc, .inr (12, [v13_0, v13_1, v13_2, v13_3, v13_4, .ref la, v13_6]))] ++ va_pl L (pE P))) (va_A ([(h0, .inr (13, [.ref hc, .int (zI (z14_n)), v14_2, v14_3, v14_4, v14_5, v14_6, .ref q_1407, v14_8, v14_9, v14_10, v14_11, v14_12])), (q_1407, .inl (cA_1407, n14_stack, .inl (fun j : Nat => zI (a14_stack (j : Int))))), (q_t, .inl (cT, nt, .inl (fun j : Nat => zI (a_t (j : Int))))), (hc, .inr (12, [v13_0, v13_1, v13_2, v13_3, v13_4, .ref la, v13_6]))] ++ va_pl L (pE P)) sz)) 0 0 (va_A ([(h0, .inr (13, [.ref hc, .int (zI (z14_n)), v14_2, v14_3, v14_4, v14_5, v14_6, .ref q_1407, v14_8, v14_9, v14_10, v14_11, v14_12])), (q_1407, .inl (cA_1407, n14_stack, .inl (fun j : Nat => zI (a14_stack (j : Int))))), (q_t, .inl (cT, nt, .inl (fun j : Nat => zI (a_t (j : Int))))), (hc, .inr (12, [v13_0, v13_1, v13_2, v13_3, v13_4, .ref la, v13_6]))] ++ va_pl L (pE P)) sz) := by
  refine Met.ofW (cc := cX14_reach) (maxL := 7) (ret := none) (by decide) rfl ?_
  intro p e s m args below meth c s₁ B hml hv
  obtain ⟨rfl, hsz, hP, hK, hD0, hp0⟩ := hv
  have hx := B.exec
  have hb := B.bytes
  have hr := B.returns
  have hts := atoms_spec (ws := v_P14_reachE) B.pre
  have hown : s.vm.findClass RX14 = some m.cls := findClass_of_methodNamed B.named
  have hlocks := B.notSynchronized
  have ow : ∀ {k : Nat} {w : Cond}, o_P14_reachE[k]? = some w → w.before ([.ref h0, .int (zI (u0)), .ref q_t] : List Value).toArray s = true := fun h => hts _ (mow_P14_reachE _ (List.mem_of_getElem? h))
  subst hsz
  have hD := hD0.self (sz := s.heap.size)
  generalize hAe : va_A ([(h0, .inr (13, [.ref hc, .int (zI (z14_n)), v14_2, v14_3, v14_4, v14_5, v14_6, .ref q_1407, v14_8, v14_9, v14_10, v14_11, v14_12])), (q_1407, .inl (cA_1407, n14_stack, .inl (fun j : Nat => zI (a14_stack (j : Int))))), (q_t, .inl (cT, nt, .inl (fun j : Nat => zI (a_t (j : Int))))), (hc, .inr (12, [v13_0, v13_1, v13_2, v13_3, v13_4, .ref la, v13_6]))] ++ va_pl L (pE P)) s.heap.size = A at hD ⊢
  have hA : ∀ q : Nat, s.heap.size ≤ q → A q := fun q h => by rw [← hAe]; exact Or.inr h
  have hS : va_S A s.heap s.heap [] := va_S.rf
  have hP : va_P (dC, dI) vwQ ([(h0, .inr (13, [.ref hc, .int (zI (z14_n)), v14_2, v14_3, v14_4, v14_5, v14_6, .ref q_1407, v14_8, v14_9, v14_10, v14_11, v14_12])), (q_1407, .inl (cA_1407, n14_stack, .inl (fun j : Nat => zI (a14_stack (j : Int))))), (q_t, .inl (cT, nt, .inl (fun j : Nat => zI (a_t (j : Int))))), (hc, .inr (12, [v13_0, v13_1, v13_2, v13_3, v13_4, .ref la, v13_6]))] ++ va_pl L (pE P)) s.heap := hP
  have hl := lv_entry ([.ref h0, .int (zI (u0)), .ref q_t]) (n := 7) (Nat.le_of_ble_eq_true rfl)
  rw [lg_entry_eq]
  generalize (lg_sl ([.ref h0, .int (zI (u0)), .ref q_t]) ++ List.replicate (7 - (lg_sl ([.ref h0, .int (zI (u0)), .ref q_t])).length) Slot.unset).toArray = ls at hl ⊢
  have hl : lv_has ls 7 [(0, .ref h0), (1, .int (zI (u0))), (2, .ref q_t)] := hl
  obtain ⟨H, hH⟩ : ∃ H, H = s.heap := ⟨_, rfl⟩
  rw [← hH] at hP
  have hS : va_S A s.heap H [] := by rw [hH]; exact hS
  rw [← hH]
  refine zW_cap (fun Q hQ => ?_)
  have hX_l := hX_c.1
  have hla := hX_c.1.2.2.1
  have hla2 := hX_c.2.1
  have hX_ro := hX_c.2.2.2
  obtain ⟨nn, hnn⟩ : ∃ q9 : Nat, (q9 : Int) = z14_n := ⟨z14_n.toNat, by omega⟩
  have hNnn : nn ≤ 300 := by omega
  refine lv_iconst (v := 0) hx hb dX14_reach_0 (by decide) ?_
  refine lv_istore_n (lv' := [(3, .int 0), (0, .ref h0), (1, .int (zI (u0))), (2, .ref q_t)]) hx hb dX14_reach_1 rfl hl (by decide) rfl (fun ls hl => ?_)
  have key2 : ∀ n2 : Nat, ∀ (d2_3 : Int) (w2_t : Int → Int) (ls : Array Slot) (H : Heap) (locs : List Loc), (0 ≤ d2_3 ∧ d2_3 ≤ 1000000000) → (∀ j : Int, 0 ≤ w2_t j ∧ w2_t j ≤ 1) → (∀ x : Int, 0 ≤ x → x < d2_3 → w2_t x = 0) → (((z14_n) - (d2_3) : Int).toNat) < n2 → lv_has ls 7 [(0, .ref h0), (1, .int (zI (u0))), (2, .ref q_t), (3, .int (zI (d2_3)))] → va_P (dC, dI) vwQ ([(h0, .inr (13, [.ref hc, .int (zI (z14_n)), v14_2, v14_3, v14_4, v14_5, v14_6, .ref q_1407, v14_8, v14_9, v14_10, v14_11, v14_12])), (q_1407, .inl (cA_1407, n14_stack, .inl (fun j : Nat => zI (a14_stack (j : Int))))), (q_t, .inl (cT, nt, .inl (fun j : Nat => zI (w2_t (j : Int))))), (hc, .inr (12, [v13_0, v13_1, v13_2, v13_3, v13_4, .ref la, v13_6]))] ++ va_pl L (pE P)) H → va_D A ([(h0, .inr (13, [.ref hc, .int (zI (z14_n)), v14_2, v14_3, v14_4, v14_5, v14_6, .ref q_1407, v14_8, v14_9, v14_10, v14_11, v14_12])), (q_1407, .inl (cA_1407, n14_stack, .inl (fun j : Nat => zI (a14_stack (j : Int))))), (q_t, .inl (cT, nt, .inl (fun j : Nat => zI (w2_t (j : Int))))), (hc, .inr (12, [v13_0, v13_1, v13_2, v13_3, v13_4, .ref la, v13_6]))] ++ va_pl L (pE P)) → va_S A s.heap H locs → W p l e (headSpec v_P14_reachE ({ frames := 4, cells := 0, slots := 0, locals := 85 })).room s m ([.ref h0, .int (zI (u0)), .ref q_t] : List Value).toArray below meth c H locs 0 0 Q (F0 m 2 ls []) := by
    intro n2
    induction n2 with
    | zero => intro d2_3 w2_t ls H locs jd2_3 jw2_t jz hm2; exact absurd hm2 (by omega)
    | succ n2 ih2 =>
      intro d2_3 w2_t ls H locs jd2_3 jw2_t jz hm2 hl hP hD hS
      refine lv_iload_n hx hb dX14_reach_2 rfl (lv_at hl 3 rfl) ?_
      refine lv_aload_n hx hb dX14_reach_3 rfl (lv_at hl 0 rfl) ?_
      refine va_get (D := (dC, dI)) (ci := 13) (v := .int (zI (z14_n))) (C := RX14) (T := TX14) (N := 13) hx hb hts mem_P14_reachE_0 hown hK hP 0 rfl rfl 1 (by decide) (ow (k := 0) rfl) (fun _ h9 => h9) rfl dX14_reach_4 ?_
      refine lv_icmp_ge (tgt := 20) hx hb dX14_reach_7 (by decide) (fun b7 => ?_) (fun b7 => ?_)
      · have yb7 : (z14_n : Int) ≤ (d2_3 : Int) := (zI_le (a := z14_n) (b := d2_3) (by omega) (by omega) (by omega) (by omega)).mp b7
        refine lv_iload_n hx hb dX14_reach_20 rfl (lv_at hl 1 rfl) ?_
        refine lv_if_ne (tgt := 25) hx hb dX14_reach_21 (by decide) (fun b21 => ?_) (fun b21 => ?_)
        · have yb21 : ¬ (u0 : Int) = (0 : Int) := fun q => b21 ((zI_eq (a := u0) (b := 0) (by omega) (by omega) (by omega) (by omega)).mpr q)
          have hz0 := jz 0 (by omega) (by omega)
          have hu0 := un_rng w2_t nn
          refine lv_iconst (v := 0) hx hb dX14_reach_25 (by decide) ?_
          refine lv_istore_n (lv' := [(3, .int 0), (0, .ref h0), (1, .int (zI (u0))), (2, .ref q_t)]) hx hb dX14_reach_26 rfl hl (by decide) rfl (fun ls hl => ?_)
          refine lv_aload_n hx hb dX14_reach_27 rfl (lv_at hl 1 rfl) ?_
          refine va_get (D := (dC, dI)) (ci := 13) (v := .ref q_1407) (C := RX14) (T := TX14) (N := 13) hx hb hts mem_P14_reachE_0 hown hK hP 0 rfl rfl 7 (by decide) (ow (k := 1) rfl) (fun _ h9 => h9) rfl dX14_reach_28 ?_
          refine lv_iload_n hx hb dX14_reach_31 rfl (lv_at hl 0 rfl) ?_
          refine lv_iconst (v := 0) hx hb dX14_reach_32 (by decide) ?_
          refine va_iast (i := zI (0)) hx hb hK hP hD hS 1 0 rfl rfl (zI_in (a := 0) (n := n14_stack) (by omega) (by omega) (by omega)) dX14_reach_33 (fun H locs hP hD hS => ?_)
          have eQ : upd (fun j : Nat => zI (a14_stack (j : Int))) (zI (0)).toNatClampNeg 0 = (fun j : Nat => zI (zup a14_stack (0) (0) (j : Int))) := zI_st a14_stack (e := 0) (v := 0) (by omega) (by omega)
          rw [eQ] at hP hD
          clear eQ
          have ra_2001 : ∀ j : Int, 0 ≤ zup a14_stack (0) (0) j ∧ zup a14_stack (0) (0) j ≤ 299 := zup_P (P := fun x9 => 0 ≤ x9 ∧ x9 ≤ 299) hR_a14_stack (show 0 ≤ (0) ∧ (0) ≤ 299 by omega)
          obtain ⟨a_2001, ea_2001⟩ : ∃ a9 : Int → Int, a9 = zup a14_stack (0) (0) := ⟨_, rfl⟩
          rw [← ea_2001] at hP hD ra_2001
          have hP : va_P (dC, dI) vwQ ([(h0, .inr (13, [.ref hc, .int (zI (z14_n)), v14_2, v14_3, v14_4, v14_5, v14_6, .ref q_1407, v14_8, v14_9, v14_10, v14_11, v14_12])), (q_1407, .inl (cA_1407, n14_stack, .inl (fun j : Nat => zI (a_2001 (j : Int))))), (q_t, .inl (cT, nt, .inl (fun j : Nat => zI (w2_t (j : Int))))), (hc, .inr (12, [v13_0, v13_1, v13_2, v13_3, v13_4, .ref la, v13_6]))] ++ va_pl L (pE P)) H := hP
          have hD : va_D A ([(h0, .inr (13, [.ref hc, .int (zI (z14_n)), v14_2, v14_3, v14_4, v14_5, v14_6, .ref q_1407, v14_8, v14_9, v14_10, v14_11, v14_12])), (q_1407, .inl (cA_1407, n14_stack, .inl (fun j : Nat => zI (a_2001 (j : Int))))), (q_t, .inl (cT, nt, .inl (fun j : Nat => zI (w2_t (j : Int))))), (hc, .inr (12, [v13_0, v13_1, v13_2, v13_3, v13_4, .ref la, v13_6]))] ++ va_pl L (pE P)) := hD
          refine lv_iinc (v := 1) (lv' := [(3, .int 1), (0, .ref h0), (1, .int (zI (u0))), (2, .ref q_t)]) hx hb dX14_reach_34 hl (k := 0) rfl (by decide) (by decide) rfl (fun ls hl => ?_)
          refine lv_aload_n hx hb dX14_reach_37 rfl (lv_at hl 3 rfl) ?_
          refine lv_iconst (v := 0) hx hb dX14_reach_38 (by decide) ?_
          refine lv_iconst (v := 1) hx hb dX14_reach_39 (by decide) ?_
          refine va_zast (i := zI (0)) hx hb hK hP hD hS 2 1 rfl rfl (zI_in (a := 0) (n := nt) (by omega) (by omega) (by omega)) dX14_reach_40 (fun H locs hP hD hS => ?_)
          rw [show vp_nar .boolean 1 = 1 from zI_nar (a := 1) (by omega) (by omega)] at hP hD
          have eQ : upd (fun j : Nat => zI (w2_t (j : Int))) (zI (0)).toNatClampNeg 1 = (fun j : Nat => zI (zup w2_t (0) (1) (j : Int))) := zI_st w2_t (e := 0) (v := 1) (by omega) (by omega)
          rw [eQ] at hP hD
          clear eQ
          have ra_2002 : ∀ j : Int, 0 ≤ zup w2_t (0) (1) j ∧ zup w2_t (0) (1) j ≤ 1 := zup_P (P := fun x9 => 0 ≤ x9 ∧ x9 ≤ 1) jw2_t (show 0 ≤ (1) ∧ (1) ≤ 1 by omega)
          obtain ⟨a_2002, ea_2002⟩ : ∃ a9 : Int → Int, a9 = zup w2_t (0) (1) := ⟨_, rfl⟩
          rw [← ea_2002] at hP hD ra_2002
          have huna_2002 := un_set w2_t (k := 0) (v := 1) nn (by omega) (by omega)
          rw [← ea_2002] at huna_2002
          have hura_2002 := un_rng a_2002 nn
          have hP : va_P (dC, dI) vwQ ([(h0, .inr (13, [.ref hc, .int (zI (z14_n)), v14_2, v14_3, v14_4, v14_5, v14_6, .ref q_1407, v14_8, v14_9, v14_10, v14_11, v14_12])), (q_1407, .inl (cA_1407, n14_stack, .inl (fun j : Nat => zI (a_2001 (j : Int))))), (q_t, .inl (cT, nt, .inl (fun j : Nat => zI (a_2002 (j : Int))))), (hc, .inr (12, [v13_0, v13_1, v13_2, v13_3, v13_4, .ref la, v13_6]))] ++ va_pl L (pE P)) H := hP
          have hD : va_D A ([(h0, .inr (13, [.ref hc, .int (zI (z14_n)), v14_2, v14_3, v14_4, v14_5, v14_6, .ref q_1407, v14_8, v14_9, v14_10, v14_11, v14_12])), (q_1407, .inl (cA_1407, n14_stack, .inl (fun j : Nat => zI (a_2001 (j : Int))))), (q_t, .inl (cT, nt, .inl (fun j : Nat => zI (a_2002 (j : Int))))), (hc, .inr (12, [v13_0, v13_1, v13_2, v13_3, v13_4, .ref la, v13_6]))] ++ va_pl L (pE P)) := hD
          have key41 : ∀ n41 : Nat, ∀ (d41_3 : Int) (w41_1407 : Int → Int) (w41_t : Int → Int) (ls : Array Slot) (H : Heap) (locs : List Loc), (0 ≤ d41_3 ∧ d41_3 + un w41_t nn ≤ z14_n) → (∀ j : Int, 0 ≤ w41_1407 j ∧ w41_1407 j ≤ 299) → (∀ j : Int, 0 ≤ w41_t j ∧ w41_t j ≤ 1) → (STK w41_1407 (d41_3) z14_n) → (RI1 P la u0 w41_t z14_n) → (RI2 P la u0 w41_t w41_1407 (d41_3) z14_n) → (w41_t 0 ≠ 0) → ((2 * un w41_t nn + d41_3 : Int).toNat) < n41 → lv_has ls 7 [(0, .ref h0), (1, .int (zI (u0))), (2, .ref q_t), (3, .int (zI (d41_3)))] → va_P (dC, dI) vwQ ([(h0, .inr (13, [.ref hc, .int (zI (z14_n)), v14_2, v14_3, v14_4, v14_5, v14_6, .ref q_1407, v14_8, v14_9, v14_10, v14_11, v14_12])), (q_1407, .inl (cA_1407, n14_stack, .inl (fun j : Nat => zI (w41_1407 (j : Int))))), (q_t, .inl (cT, nt, .inl (fun j : Nat => zI (w41_t (j : Int))))), (hc, .inr (12, [v13_0, v13_1, v13_2, v13_3, v13_4, .ref la, v13_6]))] ++ va_pl L (pE P)) H → va_D A ([(h0, .inr (13, [.ref hc, .int (zI (z14_n)), v14_2, v14_3, v14_4, v14_5, v14_6, .ref q_1407, v14_8, v14_9, v14_10, v14_11, v14_12])), (q_1407, .inl (cA_1407, n14_stack, .inl (fun j : Nat => zI (w41_1407 (j : Int))))), (q_t, .inl (cT, nt, .inl (fun j : Nat => zI (w41_t (j : Int))))), (hc, .inr (12, [v13_0, v13_1, v13_2, v13_3, v13_4, .ref la, v13_6]))] ++ va_pl L (pE P)) → va_S A s.heap H locs → W p l e (headSpec v_P14_reachE ({ frames := 4, cells := 0, slots := 0, locals := 85 })).room s m ([.ref h0, .int (zI (u0)), .ref q_t] : List Value).toArray below meth c H locs 0 0 Q (F0 m 41 ls []) := by
            intro n41
            induction n41 with
            | zero => intro d41_3 w41_1407 w41_t ls H locs jd41_3 jw41_1407 jw41_t js41 jr41 jq41 jo41 hm41; exact absurd hm41 (by omega)
            | succ n41 ih41 =>
              intro d41_3 w41_1407 w41_t ls H locs jd41_3 jw41_1407 jw41_t js41 jr41 jq41 jo41 hm41 hl hP hD hS
              have hu0 := un_rng w41_t nn
              refine lv_iload_n hx hb dX14_reach_41 rfl (lv_at hl 3 rfl) ?_
              refine lv_if_le (tgt := 126) hx hb dX14_reach_42 (by decide) (fun b42 => ?_) (fun b42 => ?_)
              · have yb42 : (d41_3 : Int) ≤ (0 : Int) := (zI_le (a := d41_3) (b := 0) (by omega) (by omega) (by omega) (by omega)).mp b42
                subst hQ
                refine W.widen (k := 0) (n := 0) (Nat.le_of_ble_eq_true rfl) (Nat.le_of_ble_eq_true rfl) ?_
                exact W.vret hx hb hr (fun t ht hW => ⟨⟨(), rfl, trivial, w41_1407, w41_t, ⟨jw41_1407, jw41_t, (jq41.rcx jr41 (by omega) hX_c (by omega) (fun _ => jo41) (by omega))⟩, by rw [ht]; exact hP, va_K.moved hW.alike hK, hD⟩, hS.F ht⟩) hS.2.2 dX14_reach_126
              · have yb42 : ¬ (d41_3 : Int) ≤ (0 : Int) := fun q => b42 ((zI_le (a := d41_3) (b := 0) (by omega) (by omega) (by omega) (by omega)).mpr q)
                refine lv_iinc (v := zI (d41_3 - 1)) (lv' := [(3, .int (zI (d41_3 - 1))), (0, .ref h0), (1, .int (zI (u0))), (2, .ref q_t)]) hx hb dX14_reach_45 hl (k := 3) rfl (zI_dec (d41_3) (1)) (by decide) rfl (fun ls hl => ?_)
                refine lv_aload_n hx hb dX14_reach_48 rfl (lv_at hl 1 rfl) ?_
                refine va_get (D := (dC, dI)) (ci := 13) (v := .ref hc) (C := RX14) (T := TX14) (N := 13) hx hb hts mem_P14_reachE_0 hown hK hP 0 rfl rfl 0 (by decide) (ow (k := 2) rfl) (fun _ h9 => h9) rfl dX14_reach_49 ?_
                refine lv_aload_n hx hb dX14_reach_52 rfl (lv_at hl 1 rfl) ?_
                refine va_get (D := (dC, dI)) (ci := 13) (v := .ref q_1407) (C := RX14) (T := TX14) (N := 13) hx hb hts mem_P14_reachE_0 hown hK hP 0 rfl rfl 7 (by decide) (ow (k := 1) rfl) (fun _ h9 => h9) rfl dX14_reach_53 ?_
                refine lv_iload_n hx hb dX14_reach_56 rfl (lv_at hl 0 rfl) ?_
                refine va_iald hx hb hK hP 1 0 rfl rfl (zI_in (a := d41_3 - 1) (n := n14_stack) (by omega) (by omega) (by omega)) dX14_reach_57 ?_
                refine lv_topi (fun z ez => ?_)
                obtain rfl : z = zI (w41_1407 (d41_3 - 1)) := ez.trans (zI_ld (w41_1407) (by omega) (by omega))
                have k1 := jw41_1407 (d41_3 - 1)
                have hs9 := js41 (d41_3 - 1) (by omega) (by omega)
                obtain ⟨x, ex⟩ : ∃ q9 : Nat, q9 = P.el la (w41_1407 (d41_3 - 1)) := ⟨_, rfl⟩
                have hX_el := ex
                have hxB : BOK L P cO (P.lz la) x := (by rw [ex]; exact hX_c.2.2.1 (w41_1407 (d41_3 - 1)) (by omega) (by omega))
                have hfb := hxB.2.2.2.2
                obtain ⟨nb, enb⟩ : ∃ q9 : Int, q9 = P.lz la := ⟨_, rfl⟩
                have hX_B : BOK L P cO nb x := (by rw [enb]; exact hxB)
                obtain ⟨xb, exb⟩ : ∃ q9 : Nat, q9 = x := ⟨_, rfl⟩
                have hPc := hP.part (X := [(h0, .inr (13, [.ref hc, .int (zI (z14_n)), v14_2, v14_3, v14_4, v14_5, v14_6, .ref q_1407, v14_8, v14_9, v14_10, v14_11, v14_12])), (q_1407, .inl (cA_1407, n14_stack, .inl (fun j : Nat => zI (w41_1407 (j : Int))))), (q_t, .inl (cT, nt, .inl (fun j : Nat => zI (w41_t (j : Int))))), (hc, .inr (12, [v13_0, v13_1, v13_2, v13_3, v13_4, .ref la, v13_6]))]) (cx := [(hc, .inr (12, [v13_0, v13_1, v13_2, v13_3, v13_4, .ref la, v13_6]))]) (pl := va_pl L (pE P)) [3] rfl
                have hDc := hD.part (X := [(h0, .inr (13, [.ref hc, .int (zI (z14_n)), v14_2, v14_3, v14_4, v14_5, v14_6, .ref q_1407, v14_8, v14_9, v14_10, v14_11, v14_12])), (q_1407, .inl (cA_1407, n14_stack, .inl (fun j : Nat => zI (w41_1407 (j : Int))))), (q_t, .inl (cT, nt, .inl (fun j : Nat => zI (w41_t (j : Int))))), (hc, .inr (12, [v13_0, v13_1, v13_2, v13_3, v13_4, .ref la, v13_6]))]) (cx := [(hc, .inr (12, [v13_0, v13_1, v13_2, v13_3, v13_4, .ref la, v13_6]))]) (pl := va_pl L (pE P)) [3] (by decide) rfl
                have hKc := hK.sub (tys' := [(cO, .object "java/lang/Object")]) [2] rfl
                have hFc := va_freeP (X := [(h0, .inr (13, [.ref hc, .int (zI (z14_n)), v14_2, v14_3, v14_4, v14_5, v14_6, .ref q_1407, v14_8, v14_9, v14_10, v14_11, v14_12])), (q_1407, .inl (cA_1407, n14_stack, .inl (fun j : Nat => zI (w41_1407 (j : Int))))), (q_t, .inl (cT, nt, .inl (fun j : Nat => zI (w41_t (j : Int))))), (hc, .inr (12, [v13_0, v13_1, v13_2, v13_3, v13_4, .ref la, v13_6]))]) (cx := [(hc, .inr (12, [v13_0, v13_1, v13_2, v13_3, v13_4, .ref la, v13_6]))]) (pl := va_pl L (pE P)) hD hS hA [3] rfl
                refine va_callr (va_runV (As := [.int (zI (w41_1407 (d41_3 - 1)))]) (rest := []) ⟨hx, hb, hml, hown, hts⟩ (c_PC_get l dC dI hc v13_0 v13_1 v13_2 v13_3 v13_4 v13_6 la cO L P (w41_1407 (d41_3 - 1)) x hX_l (by omega) hX_el H.size) (cwV 1 hts g_P14_reachE_PC_get rfl rfl rfl (by decide +kernel) ⟨(Nat.le_of_ble_eq_true rfl), (Nat.le_of_ble_eq_true rfl)⟩) ⟨fun a U g mk q => by obtain ⟨q0, q1, qP, qK, qD, e0⟩ := q; exact ⟨q0, q1, qP, va_K.moved (u := U) (U := U.calling g mk a) (Vm.Alike.refl U.vm) qK, qD, va_Nw.same rfl (u := U) (U := U.calling g mk a) rfl e0⟩, va_recv hKc hPc (ci := 12) (q0 := 0) rfl rfl, fun U hU hW => ⟨rfl, by rw [hU], by rw [hU]; exact hPc, va_K.moved hW.alike hKc, hDc.weaken (fun _ _ _ _ => trivial), va_Nw.warmC hW hp0⟩⟩ rfl rfl hl.1 rfl (lv_room (Nat.le_of_ble_eq_true rfl)) dX14_reach_58 ⟨(Nat.le_of_ble_eq_true rfl), (Nat.le_of_ble_eq_true rfl)⟩) hS (fun q _ h => hFc q h) hFc (fun u q_2003 t H1 locs ht hvm hw hB hz1 hk1 hS => ?_)
                obtain ⟨hxt_2003, hP1, hK1, hD1⟩ := hB
                rw [ht] at hP1
                have hK1 := va_K.moved hvm.symm hK1
                obtain ⟨hP, hD⟩ := va_joinP (X := [(h0, .inr (13, [.ref hc, .int (zI (z14_n)), v14_2, v14_3, v14_4, v14_5, v14_6, .ref q_1407, v14_8, v14_9, v14_10, v14_11, v14_12])), (q_1407, .inl (cA_1407, n14_stack, .inl (fun j : Nat => zI (w41_1407 (j : Int))))), (q_t, .inl (cT, nt, .inl (fun j : Nat => zI (w41_t (j : Int))))), (hc, .inr (12, [v13_0, v13_1, v13_2, v13_3, v13_4, .ref la, v13_6]))]) (cx := [(hc, .inr (12, [v13_0, v13_1, v13_2, v13_3, v13_4, .ref la, v13_6]))]) (wr := [(h0, .inr (13, [.ref hc, .int (zI (z14_n)), v14_2, v14_3, v14_4, v14_5, v14_6, .ref q_1407, v14_8, v14_9, v14_10, v14_11, v14_12])), (q_1407, .inl (cA_1407, n14_stack, .inl (fun j : Nat => zI (w41_1407 (j : Int))))), (q_t, .inl (cT, nt, .inl (fun j : Nat => zI (w41_t (j : Int)))))]) (rx := [(hc, .inr (12, [v13_0, v13_1, v13_2, v13_3, v13_4, .ref la, v13_6]))]) (pl := va_pl L (pE P)) (pl1 := va_pl L (pE P)) hP hD [3] [0, 1, 2] rfl rfl (by decide) (by decide) hk1 hFc hP1 hD1
                have hK := (hK.sub (tys' := [(cA_1407, .int), (cT, .boolean)]) [0, 1] rfl).app hK1
                generalize H1 = H at hP hS ⊢
                have hP : va_P (dC, dI) vwQ ([(h0, .inr (13, [.ref hc, .int (zI (z14_n)), v14_2, v14_3, v14_4, v14_5, v14_6, .ref q_1407, v14_8, v14_9, v14_10, v14_11, v14_12])), (q_1407, .inl (cA_1407, n14_stack, .inl (fun j : Nat => zI (w41_1407 (j : Int))))), (q_t, .inl (cT, nt, .inl (fun j : Nat => zI (w41_t (j : Int))))), (hc, .inr (12, [v13_0, v13_1, v13_2, v13_3, v13_4, .ref la, v13_6]))] ++ va_pl L (pE P)) H := hP
                have hD : va_D A ([(h0, .inr (13, [.ref hc, .int (zI (z14_n)), v14_2, v14_3, v14_4, v14_5, v14_6, .ref q_1407, v14_8, v14_9, v14_10, v14_11, v14_12])), (q_1407, .inl (cA_1407, n14_stack, .inl (fun j : Nat => zI (w41_1407 (j : Int))))), (q_t, .inl (cT, nt, .inl (fun j : Nat => zI (w41_t (j : Int))))), (hc, .inr (12, [v13_0, v13_1, v13_2, v13_3, v13_4, .ref la, v13_6]))] ++ va_pl L (pE P)) := hD
                have hK : va_K (dC, dI) vwQ [(cA_1407, .int), (cT, .boolean), (cO, .object "java/lang/Object")] s := hK
                refine W.widen (k := 0) (n := 0) (Nat.le_of_ble_eq_true rfl) (Nat.le_of_ble_eq_true rfl) ?_
                rw [hxt_2003]
                refine lv_astore (lv' := [(4, .ref x), (3, .int (zI (d41_3 - 1))), (0, .ref h0), (1, .int (zI (u0))), (2, .ref q_t)]) hx hb dX14_reach_61 hl (by decide) rfl (fun ls hl => ?_)
                refine lv_iconst (v := 0) hx hb dX14_reach_63 (by decide) ?_
                refine lv_istore (lv' := [(5, .int 0), (4, .ref x), (3, .int (zI (d41_3 - 1))), (0, .ref h0), (1, .int (zI (u0))), (2, .ref q_t)]) hx hb dX14_reach_64 hl (by decide) rfl (fun ls hl => ?_)
                have key66 : ∀ n66 : Nat, ∀ (d66_5 : Int) (d66_3 : Int) (w66_1407 : Int → Int) (w66_t : Int → Int) (ls : Array Slot) (H : Heap) (locs : List Loc), (0 ≤ d66_5 ∧ d66_5 ≤ 2) → (0 ≤ d66_3 ∧ d66_3 + un w66_t nn ≤ z14_n - 1 ∧ 2 * un w66_t nn + d66_3 ≤ 2 * un w41_t nn + d41_3 - 1) → (∀ j : Int, 0 ≤ w66_1407 j ∧ w66_1407 j ≤ 299) → (∀ j : Int, 0 ≤ w66_t j ∧ w66_t j ≤ 1) → (STK w66_1407 (d66_3) z14_n) → (RI1 P la u0 w66_t z14_n) → (RI3 P la u0 w66_t w66_1407 (d66_3) z14_n (w41_1407 (d41_3 - 1)) (d66_5)) → (w66_t 0 ≠ 0) → ((10 - d66_5 : Int).toNat) < n66 → lv_has ls 7 [(0, .ref h0), (1, .int (zI (u0))), (2, .ref q_t), (3, .int (zI (d66_3))), (4, .ref x), (5, .int (zI (d66_5)))] → va_P (dC, dI) vwQ ([(h0, .inr (13, [.ref hc, .int (zI (z14_n)), v14_2, v14_3, v14_4, v14_5, v14_6, .ref q_1407, v14_8, v14_9, v14_10, v14_11, v14_12])), (q_1407, .inl (cA_1407, n14_stack, .inl (fun j : Nat => zI (w66_1407 (j : Int))))), (q_t, .inl (cT, nt, .inl (fun j : Nat => zI (w66_t (j : Int))))), (hc, .inr (12, [v13_0, v13_1, v13_2, v13_3, v13_4, .ref la, v13_6]))] ++ va_pl L (pE P)) H → va_D A ([(h0, .inr (13, [.ref hc, .int (zI (z14_n)), v14_2, v14_3, v14_4, v14_5, v14_6, .ref q_1407, v14_8, v14_9, v14_10, v14_11, v14_12])), (q_1407, .inl (cA_1407, n14_stack, .inl (fun j : Nat => zI (w66_1407 (j : Int))))), (q_t, .inl (cT, nt, .inl (fun j : Nat => zI (w66_t (j : Int))))), (hc, .inr (12, [v13_0, v13_1, v13_2, v13_3, v13_4, .ref la, v13_6]))] ++ va_pl L (pE P)) → va_S A s.heap H locs → W p l e (headSpec v_P14_reachE ({ frames := 4, cells := 0, slots := 0, locals := 85 })).room s m ([.ref h0, .int (zI (u0)), .ref q_t] : List Value).toArray below meth c H locs 0 0 Q (F0 m 66 ls []) := by
                  intro n66
                  induction n66 with
                  | zero => intro d66_5 d66_3 w66_1407 w66_t ls H locs jd66_5 jd66_3 jw66_1407 jw66_t js66 jr66 jq66 jo66 hm66; exact absurd hm66 (by omega)
                  | succ n66 ih66 =>
                    intro d66_5 d66_3 w66_1407 w66_t ls H locs jd66_5 jd66_3 jw66_1407 jw66_t js66 jr66 jq66 jo66 hm66 hl hP hD hS
                    have hu0 := un_rng w66_t nn
                    refine lv_iload hx hb dX14_reach_66 (lv_at hl 5 rfl) ?_
                    refine lv_aload hx hb dX14_reach_68 (lv_at hl 4 rfl) ?_
                    have hPc := hP.part (X := [(h0, .inr (13, [.ref hc, .int (zI (z14_n)), v14_2, v14_3, v14_4, v14_5, v14_6, .ref q_1407, v14_8, v14_9, v14_10, v14_11, v14_12])), (q_1407, .inl (cA_1407, n14_stack, .inl (fun j : Nat => zI (w66_1407 (j : Int))))), (q_t, .inl (cT, nt, .inl (fun j : Nat => zI (w66_t (j : Int))))), (hc, .inr (12, [v13_0, v13_1, v13_2, v13_3, v13_4, .ref la, v13_6]))]) (cx := []) (pl := va_pl L (pE P)) [] rfl
                    have hDc := hD.part (X := [(h0, .inr (13, [.ref hc, .int (zI (z14_n)), v14_2, v14_3, v14_4, v14_5, v14_6, .ref q_1407, v14_8, v14_9, v14_10, v14_11, v14_12])), (q_1407, .inl (cA_1407, n14_stack, .inl (fun j : Nat => zI (w66_1407 (j : Int))))), (q_t, .inl (cT, nt, .inl (fun j : Nat => zI (w66_t (j : Int))))), (hc, .inr (12, [v13_0, v13_1, v13_2, v13_3, v13_4, .ref la, v13_6]))]) (cx := []) (pl := va_pl L (pE P)) [] (by decide) rfl
                    have hKc := hK.sub (tys' := [(cO, .object "java/lang/Object")]) [2] rfl
                    have hFc := va_freeP (X := [(h0, .inr (13, [.ref hc, .int (zI (z14_n)), v14_2, v14_3, v14_4, v14_5, v14_6, .ref q_1407, v14_8, v14_9, v14_10, v14_11, v14_12])), (q_1407, .inl (cA_1407, n14_stack, .inl (fun j : Nat => zI (w66_1407 (j : Int))))), (q_t, .inl (cT, nt, .inl (fun j : Nat => zI (w66_t (j : Int))))), (hc, .inr (12, [v13_0, v13_1, v13_2, v13_3, v13_4, .ref la, v13_6]))]) (cx := []) (pl := va_pl L (pE P)) hD hS hA [] rfl
                    refine va_calli (va_runV (As := []) (rest := [.int (zI (d66_5))]) ⟨hx, hb, hml, hown, hts⟩ (c_PB_ways l dC dI cO L P x nb hX_B hX_ro (by omega) H.size) (cwV 0 hts g_P14_reachE_PB_ways rfl rfl rfl (by decide +kernel) ⟨(Nat.le_of_ble_eq_true rfl), (Nat.le_of_ble_eq_true rfl)⟩) ⟨fun a U g mk q => by obtain ⟨q0, q1, qP, qK, qD⟩ := q; exact ⟨q0, q1, qP, va_K.moved (u := U) (U := U.calling g mk a) (Vm.Alike.refl U.vm) qK, qD⟩, recv_12 hKc hPc hxB.1.1 hxB.1.2, fun U hU hW => ⟨rfl, by rw [hU], by rw [hU]; exact hPc, va_K.moved hW.alike hKc, hDc.weaken (fun _ _ _ _ => trivial)⟩⟩ rfl rfl hl.1 rfl (lv_room (Nat.le_of_ble_eq_true rfl)) dX14_reach_70 ⟨(Nat.le_of_ble_eq_true rfl), (Nat.le_of_ble_eq_true rfl)⟩) hS (fun q _ h => hFc q h) hFc (fun r_2004 u t H1 locs ht hvm hw hB hz1 hk1 hS => ?_)
                    obtain ⟨hP1, hK1, hD1⟩ := hB
                    rw [ht] at hP1
                    have hK1 := va_K.moved hvm.symm hK1
                    obtain ⟨hP, hD⟩ := va_joinP (X := [(h0, .inr (13, [.ref hc, .int (zI (z14_n)), v14_2, v14_3, v14_4, v14_5, v14_6, .ref q_1407, v14_8, v14_9, v14_10, v14_11, v14_12])), (q_1407, .inl (cA_1407, n14_stack, .inl (fun j : Nat => zI (w66_1407 (j : Int))))), (q_t, .inl (cT, nt, .inl (fun j : Nat => zI (w66_t (j : Int))))), (hc, .inr (12, [v13_0, v13_1, v13_2, v13_3, v13_4, .ref la, v13_6]))]) (cx := []) (wr := [(h0, .inr (13, [.ref hc, .int (zI (z14_n)), v14_2, v14_3, v14_4, v14_5, v14_6, .ref q_1407, v14_8, v14_9, v14_10, v14_11, v14_12])), (q_1407, .inl (cA_1407, n14_stack, .inl (fun j : Nat => zI (w66_1407 (j : Int))))), (q_t, .inl (cT, nt, .inl (fun j : Nat => zI (w66_t (j : Int))))), (hc, .inr (12, [v13_0, v13_1, v13_2, v13_3, v13_4, .ref la, v13_6]))]) (rx := []) (pl := va_pl L (pE P)) (pl1 := va_pl L (pE P)) hP hD [] [0, 1, 2, 3] rfl rfl (by decide) (by decide) hk1 hFc hP1 hD1
                    have hK := (hK.sub (tys' := [(cA_1407, .int), (cT, .boolean)]) [0, 1] rfl).app hK1
                    generalize H1 = H at hP hS ⊢
                    have hP : va_P (dC, dI) vwQ ([(h0, .inr (13, [.ref hc, .int (zI (z14_n)), v14_2, v14_3, v14_4, v14_5, v14_6, .ref q_1407, v14_8, v14_9, v14_10, v14_11, v14_12])), (q_1407, .inl (cA_1407, n14_stack, .inl (fun j : Nat => zI (w66_1407 (j : Int))))), (q_t, .inl (cT, nt, .inl (fun j : Nat => zI (w66_t (j : Int))))), (hc, .inr (12, [v13_0, v13_1, v13_2, v13_3, v13_4, .ref la, v13_6]))] ++ va_pl L (pE P)) H := hP
                    have hD : va_D A ([(h0, .inr (13, [.ref hc, .int (zI (z14_n)), v14_2, v14_3, v14_4, v14_5, v14_6, .ref q_1407, v14_8, v14_9, v14_10, v14_11, v14_12])), (q_1407, .inl (cA_1407, n14_stack, .inl (fun j : Nat => zI (w66_1407 (j : Int))))), (q_t, .inl (cT, nt, .inl (fun j : Nat => zI (w66_t (j : Int))))), (hc, .inr (12, [v13_0, v13_1, v13_2, v13_3, v13_4, .ref la, v13_6]))] ++ va_pl L (pE P)) := hD
                    have hK : va_K (dC, dI) vwQ [(cA_1407, .int), (cT, .boolean), (cO, .object "java/lang/Object")] s := hK
                    refine W.widen (k := 0) (n := 0) (Nat.le_of_ble_eq_true rfl) (Nat.le_of_ble_eq_true rfl) ?_
                    obtain rfl : r_2004 = (zI (rWays (P.ro (P.be x)) (P.bf x) (P.bs x))) := hw
                    have := rWays_spec (P.ro (P.be x)) (P.bf x) (P.bs x)
                    refine lv_icmp_ge (tgt := 123) hx hb dX14_reach_73 (by decide) (fun b73 => ?_) (fun b73 => ?_)
                    · have yb73 : (rWays (P.ro (P.be x)) (P.bf x) (P.bs x) : Int) ≤ (d66_5 : Int) := (zI_le (a := rWays (P.ro (P.be x)) (P.bf x) (P.bs x)) (b := d66_5) (by omega) (by omega) (by omega) (by omega)).mp b73
                      refine lv_goto (tgt := 41) hx hb dX14_reach_123 (by decide) ?_
                      exact ih41 d66_3 w66_1407 w66_t ls H _ (by omega) jw66_1407 jw66_t js66 jr66 (jq66.done ex (by omega)) jo66 (by omega) (lv_sub hl [0, 1, 2, 3] rfl) hP hD hS
                    · have yb73 : ¬ (rWays (P.ro (P.be x)) (P.bf x) (P.bs x) : Int) ≤ (d66_5 : Int) := fun q => b73 ((zI_le (a := rWays (P.ro (P.be x)) (P.bf x) (P.bs x)) (b := d66_5) (by omega) (by omega) (by omega) (by omega)).mpr q)
                      refine lv_aload hx hb dX14_reach_76 (lv_at hl 4 rfl) ?_
                      refine lv_iload hx hb dX14_reach_78 (lv_at hl 5 rfl) ?_
                      have hPc := hP.part (X := [(h0, .inr (13, [.ref hc, .int (zI (z14_n)), v14_2, v14_3, v14_4, v14_5, v14_6, .ref q_1407, v14_8, v14_9, v14_10, v14_11, v14_12])), (q_1407, .inl (cA_1407, n14_stack, .inl (fun j : Nat => zI (w66_1407 (j : Int))))), (q_t, .inl (cT, nt, .inl (fun j : Nat => zI (w66_t (j : Int))))), (hc, .inr (12, [v13_0, v13_1, v13_2, v13_3, v13_4, .ref la, v13_6]))]) (cx := []) (pl := va_pl L (pE P)) [] rfl
                      have hDc := hD.part (X := [(h0, .inr (13, [.ref hc, .int (zI (z14_n)), v14_2, v14_3, v14_4, v14_5, v14_6, .ref q_1407, v14_8, v14_9, v14_10, v14_11, v14_12])), (q_1407, .inl (cA_1407, n14_stack, .inl (fun j : Nat => zI (w66_1407 (j : Int))))), (q_t, .inl (cT, nt, .inl (fun j : Nat => zI (w66_t (j : Int))))), (hc, .inr (12, [v13_0, v13_1, v13_2, v13_3, v13_4, .ref la, v13_6]))]) (cx := []) (pl := va_pl L (pE P)) [] (by decide) rfl
                      have hKc := hK.sub (tys' := [(cO, .object "java/lang/Object")]) [2] rfl
                      have hFc := va_freeP (X := [(h0, .inr (13, [.ref hc, .int (zI (z14_n)), v14_2, v14_3, v14_4, v14_5, v14_6, .ref q_1407, v14_8, v14_9, v14_10, v14_11, v14_12])), (q_1407, .inl (cA_1407, n14_stack, .inl (fun j : Nat => zI (w66_1407 (j : Int))))), (q_t, .inl (cT, nt, .inl (fun j : Nat => zI (w66_t (j : Int))))), (hc, .inr (12, [v13_0, v13_1, v13_2, v13_3, v13_4, .ref la, v13_6]))]) (cx := []) (pl := va_pl L (pE P)) hD hS hA [] rfl
                      refine va_calli (va_runV (As := [.int (zI (d66_5))]) (rest := []) ⟨hx, hb, hml, hown, hts⟩ (c_PB_way l dC dI cO L P x nb d66_5 hX_B (by omega) H.size) (cwV 1 hts g_P14_reachE_PB_way rfl rfl rfl (by decide +kernel) ⟨(Nat.le_of_ble_eq_true rfl), (Nat.le_of_ble_eq_true rfl)⟩) ⟨fun a U g mk q => by obtain ⟨q0, q1, qP, qK, qD⟩ := q; exact ⟨q0, q1, qP, va_K.moved (u := U) (U := U.calling g mk a) (Vm.Alike.refl U.vm) qK, qD⟩, recv_12 hKc hPc hxB.1.1 hxB.1.2, fun U hU hW => ⟨rfl, by rw [hU], by rw [hU]; exact hPc, va_K.moved hW.alike hKc, hDc.weaken (fun _ _ _ _ => trivial)⟩⟩ rfl rfl hl.1 rfl (lv_room (Nat.le_of_ble_eq_true rfl)) dX14_reach_80 ⟨(Nat.le_of_ble_eq_true rfl), (Nat.le_of_ble_eq_true rfl)⟩) hS (fun q _ h => hFc q h) hFc (fun r_2005 u t H1 locs ht hvm hw hB hz1 hk1 hS => ?_)
                      obtain ⟨hP1, hK1, hD1⟩ := hB
                      rw [ht] at hP1
                      have hK1 := va_K.moved hvm.symm hK1
                      obtain ⟨hP, hD⟩ := va_joinP (X := [(h0, .inr (13, [.ref hc, .int (zI (z14_n)), v14_2, v14_3, v14_4, v14_5, v14_6, .ref q_1407, v14_8, v14_9, v14_10, v14_11, v14_12])), (q_1407, .inl (cA_1407, n14_stack, .inl (fun j : Nat => zI (w66_1407 (j : Int))))), (q_t, .inl (cT, nt, .inl (fun j : Nat => zI (w66_t (j : Int))))), (hc, .inr (12, [v13_0, v13_1, v13_2, v13_3, v13_4, .ref la, v13_6]))]) (cx := []) (wr := [(h0, .inr (13, [.ref hc, .int (zI (z14_n)), v14_2, v14_3, v14_4, v14_5, v14_6, .ref q_1407, v14_8, v14_9, v14_10, v14_11, v14_12])), (q_1407, .inl (cA_1407, n14_stack, .inl (fun j : Nat => zI (w66_1407 (j : Int))))), (q_t, .inl (cT, nt, .inl (fun j : Nat => zI (w66_t (j : Int))))), (hc, .inr (12, [v13_0, v13_1, v13_2, v13_3, v13_4, .ref la, v13_6]))]) (rx := []) (pl := va_pl L (pE P)) (pl1 := va_pl L (pE P)) hP hD [] [0, 1, 2, 3] rfl rfl (by decide) (by decide) hk1 hFc hP1 hD1
                      have hK := (hK.sub (tys' := [(cA_1407, .int), (cT, .boolean)]) [0, 1] rfl).app hK1
                      generalize H1 = H at hP hS ⊢
                      have hP : va_P (dC, dI) vwQ ([(h0, .inr (13, [.ref hc, .int (zI (z14_n)), v14_2, v14_3, v14_4, v14_5, v14_6, .ref q_1407, v14_8, v14_9, v14_10, v14_11, v14_12])), (q_1407, .inl (cA_1407, n14_stack, .inl (fun j : Nat => zI (w66_1407 (j : Int))))), (q_t, .inl (cT, nt, .inl (fun j : Nat => zI (w66_t (j : Int))))), (hc, .inr (12, [v13_0, v13_1, v13_2, v13_3, v13_4, .ref la, v13_6]))] ++ va_pl L (pE P)) H := hP
                      have hD : va_D A ([(h0, .inr (13, [.ref hc, .int (zI (z14_n)), v14_2, v14_3, v14_4, v14_5, v14_6, .ref q_1407, v14_8, v14_9, v14_10, v14_11, v14_12])), (q_1407, .inl (cA_1407, n14_stack, .inl (fun j : Nat => zI (w66_1407 (j : Int))))), (q_t, .inl (cT, nt, .inl (fun j : Nat => zI (w66_t (j : Int))))), (hc, .inr (12, [v13_0, v13_1, v13_2, v13_3, v13_4, .ref la, v13_6]))] ++ va_pl L (pE P)) := hD
                      have hK : va_K (dC, dI) vwQ [(cA_1407, .int), (cT, .boolean), (cO, .object "java/lang/Object")] s := hK
                      refine W.widen (k := 0) (n := 0) (Nat.le_of_ble_eq_true rfl) (Nat.le_of_ble_eq_true rfl) ?_
                      obtain rfl : r_2005 = (zI (rWay (P.bf x) (P.bs x) (d66_5))) := hw
                      have := rWay_spec (P.bf x) (P.bs x) (d66_5)
                      refine lv_istore (lv' := [(6, .int (zI (rWay (P.bf x) (P.bs x) (d66_5)))), (0, .ref h0), (1, .int (zI (u0))), (2, .ref q_t), (3, .int (zI (d66_3))), (4, .ref x), (5, .int (zI (d66_5)))]) hx hb dX14_reach_83 hl (by decide) rfl (fun ls hl => ?_)
                      refine lv_iload hx hb dX14_reach_85 (lv_at hl 0 rfl) ?_
                      refine lv_iload_n hx hb dX14_reach_87 rfl (lv_at hl 2 rfl) ?_
                      refine lv_icmp_eq (tgt := 117) hx hb dX14_reach_88 (by decide) (fun b88 => ?_) (fun b88 => ?_)
                      · have yb88 : (rWay (P.bf x) (P.bs x) (d66_5) : Int) = (u0 : Int) := (zI_eq (a := rWay (P.bf x) (P.bs x) (d66_5)) (b := u0) (by omega) (by omega) (by omega) (by omega)).mp b88
                        refine lv_iinc (v := zI (d66_5 + 1)) (lv' := [(5, .int (zI (d66_5 + 1))), (6, .int (zI (rWay (P.bf x) (P.bs x) (d66_5)))), (0, .ref h0), (1, .int (zI (u0))), (2, .ref q_t), (3, .int (zI (d66_3))), (4, .ref x)]) hx hb dX14_reach_117 hl (k := 6) rfl (zI_add (d66_5) (1)) (by decide) rfl (fun ls hl => ?_)
                        refine lv_goto (tgt := 66) hx hb dX14_reach_120 (by decide) ?_
                        exact ih66 (d66_5 + 1) d66_3 w66_1407 w66_t ls H _ (by omega) (by omega) jw66_1407 jw66_t js66 jr66 (jq66.skip ex (by omega)) jo66 (by omega) (lv_sub hl [2, 3, 4, 5, 6, 0] rfl) hP hD hS
                      · have yb88 : ¬ (rWay (P.bf x) (P.bs x) (d66_5) : Int) = (u0 : Int) := fun q => b88 ((zI_eq (a := rWay (P.bf x) (P.bs x) (d66_5)) (b := u0) (by omega) (by omega) (by omega) (by omega)).mpr q)
                        refine lv_aload_n hx hb dX14_reach_91 rfl (lv_at hl 3 rfl) ?_
                        refine lv_iload hx hb dX14_reach_92 (lv_at hl 0 rfl) ?_
                        refine va_zald hx hb hK hP 2 1 rfl rfl (zI_in (a := rWay (P.bf x) (P.bs x) (d66_5)) (n := nt) (by omega) (by omega) (by omega)) dX14_reach_94 ?_
                        refine lv_topi (fun z ez => ?_)
                        obtain rfl : z = zI (w66_t (rWay (P.bf x) (P.bs x) (d66_5))) := ez.trans (zI_ld (w66_t) (by omega) (by omega))
                        have k2 := jw66_t (rWay (P.bf x) (P.bs x) (d66_5))
                        refine lv_if_eq (tgt := 101) hx hb dX14_reach_95 (by decide) (fun b95 => ?_) (fun b95 => ?_)
                        · have yb95 : (w66_t (rWay (P.bf x) (P.bs x) (d66_5)) : Int) = (0 : Int) := (zI_eq (a := w66_t (rWay (P.bf x) (P.bs x) (d66_5))) (b := 0) (by omega) (by omega) (by omega) (by omega)).mp b95
                          refine lv_aload_n hx hb dX14_reach_101 rfl (lv_at hl 3 rfl) ?_
                          refine lv_iload hx hb dX14_reach_102 (lv_at hl 0 rfl) ?_
                          refine lv_iconst (v := 1) hx hb dX14_reach_104 (by decide) ?_
                          refine va_zast (i := zI (rWay (P.bf x) (P.bs x) (d66_5))) hx hb hK hP hD hS 2 1 rfl rfl (zI_in (a := rWay (P.bf x) (P.bs x) (d66_5)) (n := nt) (by omega) (by omega) (by omega)) dX14_reach_105 (fun H locs hP hD hS => ?_)
                          rw [show vp_nar .boolean 1 = 1 from zI_nar (a := 1) (by omega) (by omega)] at hP hD
                          have eQ : upd (fun j : Nat => zI (w66_t (j : Int))) (zI (rWay (P.bf x) (P.bs x) (d66_5))).toNatClampNeg 1 = (fun j : Nat => zI (zup w66_t (rWay (P.bf x) (P.bs x) (d66_5)) (1) (j : Int))) := zI_st w66_t (e := rWay (P.bf x) (P.bs x) (d66_5)) (v := 1) (by omega) (by omega)
                          rw [eQ] at hP hD
                          clear eQ
                          have ra_2006 : ∀ j : Int, 0 ≤ zup w66_t (rWay (P.bf x) (P.bs x) (d66_5)) (1) j ∧ zup w66_t (rWay (P.bf x) (P.bs x) (d66_5)) (1) j ≤ 1 := zup_P (P := fun x9 => 0 ≤ x9 ∧ x9 ≤ 1) jw66_t (show 0 ≤ (1) ∧ (1) ≤ 1 by omega)
                          obtain ⟨a_2006, ea_2006⟩ : ∃ a9 : Int → Int, a9 = zup w66_t (rWay (P.bf x) (P.bs x) (d66_5)) (1) := ⟨_, rfl⟩
                          rw [← ea_2006] at hP hD ra_2006
                          have huna_2006 := un_set w66_t (k := rWay (P.bf x) (P.bs x) (d66_5)) (v := 1) nn (by omega) (by omega)
                          rw [← ea_2006] at huna_2006
                          have hura_2006 := un_rng a_2006 nn
                          have hP : va_P (dC, dI) vwQ ([(h0, .inr (13, [.ref hc, .int (zI (z14_n)), v14_2, v14_3, v14_4, v14_5, v14_6, .ref q_1407, v14_8, v14_9, v14_10, v14_11, v14_12])), (q_1407, .inl (cA_1407, n14_stack, .inl (fun j : Nat => zI (w66_1407 (j : Int))))), (q_t, .inl (cT, nt, .inl (fun j : Nat => zI (a_2006 (j : Int))))), (hc, .inr (12, [v13_0, v13_1, v13_2, v13_3, v13_4, .ref la, v13_6]))] ++ va_pl L (pE P)) H := hP
                          have hD : va_D A ([(h0, .inr (13, [.ref hc, .int (zI (z14_n)), v14_2, v14_3, v14_4, v14_5, v14_6, .ref q_1407, v14_8, v14_9, v14_10, v14_11, v14_12])), (q_1407, .inl (cA_1407, n14_stack, .inl (fun j : Nat => zI (w66_1407 (j : Int))))), (q_t, .inl (cT, nt, .inl (fun j : Nat => zI (a_2006 (j : Int))))), (hc, .inr (12, [v13_0, v13_1, v13_2, v13_3, v13_4, .ref la, v13_6]))] ++ va_pl L (pE P)) := hD
                          refine lv_aload_n hx hb dX14_reach_106 rfl (lv_at hl 1 rfl) ?_
                          refine va_get (D := (dC, dI)) (ci := 13) (v := .ref q_1407) (C := RX14) (T := TX14) (N := 13) hx hb hts mem_P14_reachE_0 hown hK hP 0 rfl rfl 7 (by decide) (ow (k := 1) rfl) (fun _ h9 => h9) rfl dX14_reach_107 ?_
                          refine lv_iload_n hx hb dX14_reach_110 rfl (lv_at hl 4 rfl) ?_
                          refine lv_iload hx hb dX14_reach_111 (lv_at hl 0 rfl) ?_
                          refine va_iast (i := zI (d66_3)) hx hb hK hP hD hS 1 0 rfl rfl (zI_in (a := d66_3) (n := n14_stack) (by omega) (by omega) (by omega)) dX14_reach_113 (fun H locs hP hD hS => ?_)
                          have eQ : upd (fun j : Nat => zI (w66_1407 (j : Int))) (zI (d66_3)).toNatClampNeg (zI (rWay (P.bf x) (P.bs x) (d66_5))) = (fun j : Nat => zI (zup w66_1407 (d66_3) (rWay (P.bf x) (P.bs x) (d66_5)) (j : Int))) := zI_st w66_1407 (e := d66_3) (v := rWay (P.bf x) (P.bs x) (d66_5)) (by omega) (by omega)
                          rw [eQ] at hP hD
                          clear eQ
                          have ra_2007 : ∀ j : Int, 0 ≤ zup w66_1407 (d66_3) (rWay (P.bf x) (P.bs x) (d66_5)) j ∧ zup w66_1407 (d66_3) (rWay (P.bf x) (P.bs x) (d66_5)) j ≤ 299 := zup_P (P := fun x9 => 0 ≤ x9 ∧ x9 ≤ 299) jw66_1407 (show 0 ≤ (rWay (P.bf x) (P.bs x) (d66_5)) ∧ (rWay (P.bf x) (P.bs x) (d66_5)) ≤ 299 by omega)
                          obtain ⟨a_2007, ea_2007⟩ : ∃ a9 : Int → Int, a9 = zup w66_1407 (d66_3) (rWay (P.bf x) (P.bs x) (d66_5)) := ⟨_, rfl⟩
                          rw [← ea_2007] at hP hD ra_2007
                          have hP : va_P (dC, dI) vwQ ([(h0, .inr (13, [.ref hc, .int (zI (z14_n)), v14_2, v14_3, v14_4, v14_5, v14_6, .ref q_1407, v14_8, v14_9, v14_10, v14_11, v14_12])), (q_1407, .inl (cA_1407, n14_stack, .inl (fun j : Nat => zI (a_2007 (j : Int))))), (q_t, .inl (cT, nt, .inl (fun j : Nat => zI (a_2006 (j : Int))))), (hc, .inr (12, [v13_0, v13_1, v13_2, v13_3, v13_4, .ref la, v13_6]))] ++ va_pl L (pE P)) H := hP
                          have hD : va_D A ([(h0, .inr (13, [.ref hc, .int (zI (z14_n)), v14_2, v14_3, v14_4, v14_5, v14_6, .ref q_1407, v14_8, v14_9, v14_10, v14_11, v14_12])), (q_1407, .inl (cA_1407, n14_stack, .inl (fun j : Nat => zI (a_2007 (j : Int))))), (q_t, .inl (cT, nt, .inl (fun j : Nat => zI (a_2006 (j : Int))))), (hc, .inr (12, [v13_0, v13_1, v13_2, v13_3, v13_4, .ref la, v13_6]))] ++ va_pl L (pE P)) := hD
                          refine lv_iinc (v := zI (d66_3 + 1)) (lv' := [(3, .int (zI (d66_3 + 1))), (6, .int (zI (rWay (P.bf x) (P.bs x) (d66_5)))), (0, .ref h0), (1, .int (zI (u0))), (2, .ref q_t), (4, .ref x), (5, .int (zI (d66_5)))]) hx hb dX14_reach_114 hl (k := 4) rfl (zI_add (d66_3) (1)) (by decide) rfl (fun ls hl => ?_)
                          refine lv_iinc (v := zI (d66_5 + 1)) (lv' := [(5, .int (zI (d66_5 + 1))), (3, .int (zI (d66_3 + 1))), (6, .int (zI (rWay (P.bf x) (P.bs x) (d66_5)))), (0, .ref h0), (1, .int (zI (u0))), (2, .ref q_t), (4, .ref x)]) hx hb dX14_reach_117 hl (k := 6) rfl (zI_add (d66_5) (1)) (by decide) rfl (fun ls hl => ?_)
                          refine lv_goto (tgt := 66) hx hb dX14_reach_120 (by decide) ?_
                          exact ih66 (d66_5 + 1) (d66_3 + 1) a_2007 a_2006 ls H _ (by omega) (by omega) ra_2007 ra_2006 (by rw [ea_2007]; exact js66.push (by omega) (by omega)) (by rw [ea_2006]; exact jr66.push jq66 ex (by omega) (by omega) (by omega) (by omega) (by omega)) (by rw [ea_2006, ea_2007]; exact jq66.push ex (by omega)) (by rw [ea_2006]; unfold zup; split; decide; exact jo66) (by omega) (lv_sub hl [3, 4, 5, 1, 6, 0] rfl) hP hD hS
                        · have yb95 : ¬ (w66_t (rWay (P.bf x) (P.bs x) (d66_5)) : Int) = (0 : Int) := fun q => b95 ((zI_eq (a := w66_t (rWay (P.bf x) (P.bs x) (d66_5))) (b := 0) (by omega) (by omega) (by omega) (by omega)).mpr q)
                          refine lv_goto (tgt := 117) hx hb dX14_reach_98 (by decide) ?_
                          refine lv_iinc (v := zI (d66_5 + 1)) (lv' := [(5, .int (zI (d66_5 + 1))), (6, .int (zI (rWay (P.bf x) (P.bs x) (d66_5)))), (0, .ref h0), (1, .int (zI (u0))), (2, .ref q_t), (3, .int (zI (d66_3))), (4, .ref x)]) hx hb dX14_reach_117 hl (k := 6) rfl (zI_add (d66_5) (1)) (by decide) rfl (fun ls hl => ?_)
                          refine lv_goto (tgt := 66) hx hb dX14_reach_120 (by decide) ?_
                          exact ih66 (d66_5 + 1) d66_3 w66_1407 w66_t ls H _ (by omega) (by omega) jw66_1407 jw66_t js66 jr66 (jq66.skip ex (by omega)) jo66 (by omega) (lv_sub hl [2, 3, 4, 5, 6, 0] rfl) hP hD hS
                exact key66 ((10 - 0 : Int).toNat + 1) 0 (d41_3 - 1) w41_1407 w41_t ls H _ (by omega) (by omega) jw41_1407 jw41_t (js41.pop (by omega)) jr41 (jq41.pop (by omega)) jo41 (by omega) (lv_sub hl [3, 4, 5, 2, 1, 0] rfl) hP hD hS
          exact key41 ((2 * un a_2002 nn + 1 : Int).toNat + 1) 1 a_2001 a_2002 ls H _ (by omega) ra_2001 ra_2002 (fun j j0 j1 => by rw [ea_2001]; unfold zup; split <;> omega) (by rw [ea_2002]; exact RI1.first (fun x a b => jz x a (by omega)) (by omega)) (by rw [ea_2002, ea_2001]; exact RI2.first (fun x a b => jz x a (by omega))) (by rw [ea_2002, zup_eq]; decide) (by omega) (lv_sub hl [1, 2, 3, 0] rfl) hP hD hS
        · have yb21 : (u0 : Int) = (0 : Int) := (zI_eq (a := u0) (b := 0) (by omega) (by omega) (by omega) (by omega)).mp b21
          subst hQ
          refine W.widen (k := 0) (n := 0) (Nat.le_of_ble_eq_true rfl) (Nat.le_of_ble_eq_true rfl) ?_
          exact W.vret hx hb hr (fun t ht hW => ⟨⟨(), rfl, trivial, a14_stack, w2_t, ⟨hR_a14_stack, jw2_t, (RCX.none (by omega) (fun x a b => jz x a (by omega)))⟩, by rw [ht]; exact hP, va_K.moved hW.alike hK, hD⟩, hS.F ht⟩) hS.2.2 dX14_reach_24
      · have yb7 : ¬ (z14_n : Int) ≤ (d2_3 : Int) := fun q => b7 ((zI_le (a := z14_n) (b := d2_3) (by omega) (by omega) (by omega) (by omega)).mpr q)
        refine lv_aload_n hx hb dX14_reach_10 rfl (lv_at hl 2 rfl) ?_
        refine lv_iload_n hx hb dX14_reach_11 rfl (lv_at hl 3 rfl) ?_
        refine lv_iconst (v := 0) hx hb dX14_reach_12 (by decide) ?_
        refine va_zast (i := zI (d2_3)) hx hb hK hP hD hS 2 1 rfl rfl (zI_in (a := d2_3) (n := nt) (by omega) (by omega) (by omega)) dX14_reach_13 (fun H locs hP hD hS => ?_)
        rw [show vp_nar .boolean 0 = 0 from zI_nar (a := 0) (by omega) (by omega)] at hP hD
        have eQ : upd (fun j : Nat => zI (w2_t (j : Int))) (zI (d2_3)).toNatClampNeg 0 = (fun j : Nat => zI (zup w2_t (d2_3) (0) (j : Int))) := zI_st w2_t (e := d2_3) (v := 0) (by omega) (by omega)
        rw [eQ] at hP hD
        clear eQ
        have ra_2008 : ∀ j : Int, 0 ≤ zup w2_t (d2_3) (0) j ∧ zup w2_t (d2_3) (0) j ≤ 1 := zup_P (P := fun x9 => 0 ≤ x9 ∧ x9 ≤ 1) jw2_t (show 0 ≤ (0) ∧ (0) ≤ 1 by omega)
        obtain ⟨a_2008, ea_2008⟩ : ∃ a9 : Int → Int, a9 = zup w2_t (d2_3) (0) := ⟨_, rfl⟩
        rw [← ea_2008] at hP hD ra_2008
        have huna_2008 := un_set w2_t (k := d2_3) (v := 0) nn (by omega) (by omega)
        rw [← ea_2008] at huna_2008
        have hura_2008 := un_rng a_2008 nn
        have hP : va_P (dC, dI) vwQ ([(h0, .inr (13, [.ref hc, .int (zI (z14_n)), v14_2, v14_3, v14_4, v14_5, v14_6, .ref q_1407, v14_8, v14_9, v14_10, v14_11, v14_12])), (q_1407, .inl (cA_1407, n14_stack, .inl (fun j : Nat => zI (a14_stack (j : Int))))), (q_t, .inl (cT, nt, .inl (fun j : Nat => zI (a_2008 (j : Int))))), (hc, .inr (12, [v13_0, v13_1, v13_2, v13_3, v13_4, .ref la, v13_6]))] ++ va_pl L (pE P)) H := hP
        have hD : va_D A ([(h0, .inr (13, [.ref hc, .int (zI (z14_n)), v14_2, v14_3, v14_4, v14_5, v14_6, .ref q_1407, v14_8, v14_9, v14_10, v14_11, v14_12])), (q_1407, .inl (cA_1407, n14_stack, .inl (fun j : Nat => zI (a14_stack (j : Int))))), (q_t, .inl (cT, nt, .inl (fun j : Nat => zI (a_2008 (j : Int))))), (hc, .inr (12, [v13_0, v13_1, v13_2, v13_3, v13_4, .ref la, v13_6]))] ++ va_pl L (pE P)) := hD
        refine lv_iinc (v := zI (d2_3 + 1)) (lv' := [(3, .int (zI (d2_3 + 1))), (0, .ref h0), (1, .int (zI (u0))), (2, .ref q_t)]) hx hb dX14_reach_14 hl (k := 3) rfl (zI_add (d2_3) (1)) (by decide) rfl (fun ls hl => ?_)
        refine lv_goto (tgt := 2) hx hb dX14_reach_17 (by decide) ?_
        exact ih2 (d2_3 + 1) a_2008 ls H _ (by omega) ra_2008 (fun x h1 h2 => by rw [ea_2008]; unfold zup; split; rfl; exact jz x h1 (by omega)) (by omega) (lv_sub hl [1, 2, 3, 0] rfl) hP hD hS
  exact key2 (((z14_n) - (0) : Int).toNat + 1) 0 a_t ls H _ (by omega) hR_a_t (fun x h1 h2 => by omega) (by omega) (lv_sub hl [1, 2, 3, 0] rfl) hP hD hS
