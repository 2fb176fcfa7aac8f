theorem dX14_isFrontier_0 : decode cX14_isFrontier 0 = .ok (.aload_n 0, 1) := by decide +kernel
theorem dX14_isFrontier_1 : decode cX14_isFrontier 1 = .ok (.getfield 9, 3) := by decide +kernel
theorem dX14_isFrontier_4 : decode cX14_isFrontier 4 = .ok (.iload_n 1, 1) := by decide +kernel
theorem dX14_isFrontier_5 : decode cX14_isFrontier 5 = .ok (.baload, 1) := by decide +kernel
theorem dX14_isFrontier_6 : decode cX14_isFrontier 6 = .ok (.ifCond .eq 19, 3) := by decide +kernel
theorem dX14_isFrontier_25 : decode cX14_isFrontier 25 = .ok (.iconst 0, 1) := by decide +kernel
theorem dX14_isFrontier_26 : decode cX14_isFrontier 26 = .ok (.ireturn, 1) := by decide +kernel
theorem dX14_isFrontier_9 : decode cX14_isFrontier 9 = .ok (.iload_n 1, 1) := by decide +kernel
theorem dX14_isFrontier_10 : decode cX14_isFrontier 10 = .ok (.iload_n 2, 1) := by decide +kernel
theorem dX14_isFrontier_11 : decode cX14_isFrontier 11 = .ok (.if_icmp .eq 16, 3) := by decide +kernel
theorem dX14_isFrontier_27 : decode cX14_isFrontier 27 = .ok (.iconst 0, 1) := by decide +kernel
theorem dX14_isFrontier_28 : decode cX14_isFrontier 28 = .ok (.istore_n 3, 1) := by decide +kernel
theorem dX14_isFrontier_29 : decode cX14_isFrontier 29 = .ok (.iload_n 3, 1) := by decide +kernel
theorem dX14_isFrontier_30 : decode cX14_isFrontier 30 = .ok (.aload_n 0, 1) := by decide +kernel
theorem dX14_isFrontier_31 : decode cX14_isFrontier 31 = .ok (.getfield 55, 3) := by decide +kernel
theorem dX14_isFrontier_34 : decode cX14_isFrontier 34 = .ok (.if_icmp .ge 31, 3) := by decide +kernel
theorem dX14_isFrontier_65 : decode cX14_isFrontier 65 = .ok (.iconst 0, 1) := by decide +kernel
theorem dX14_isFrontier_66 : decode cX14_isFrontier 66 = .ok (.ireturn, 1) := by decide +kernel
theorem dX14_isFrontier_37 : decode cX14_isFrontier 37 = .ok (.aload_n 0, 1) := by decide +kernel
theorem dX14_isFrontier_38 : decode cX14_isFrontier 38 = .ok (.getfield 16, 3) := by decide +kernel
theorem dX14_isFrontier_41 : decode cX14_isFrontier 41 = .ok (.iload_n 1, 1) := by decide +kernel
theorem dX14_isFrontier_42 : decode cX14_isFrontier 42 = .ok (.aaload, 1) := by decide +kernel
theorem dX14_isFrontier_43 : decode cX14_isFrontier 43 = .ok (.iload_n 3, 1) := by decide +kernel
theorem dX14_isFrontier_44 : decode cX14_isFrontier 44 = .ok (.baload, 1) := by decide +kernel
theorem dX14_isFrontier_45 : decode cX14_isFrontier 45 = .ok (.ifCond .eq 14, 3) := by decide +kernel
theorem dX14_isFrontier_59 : decode cX14_isFrontier 59 = .ok (.iinc 3 1, 3) := by decide +kernel
theorem dX14_isFrontier_62 : decode cX14_isFrontier 62 = .ok (.goto (-33), 3) := by decide +kernel
theorem dX14_isFrontier_48 : decode cX14_isFrontier 48 = .ok (.aload_n 0, 1) := by decide +kernel
theorem dX14_isFrontier_49 : decode cX14_isFrontier 49 = .ok (.iload_n 3, 1) := by decide +kernel
theorem dX14_isFrontier_50 : decode cX14_isFrontier 50 = .ok (.iload_n 2, 1) := by decide +kernel
theorem dX14_isFrontier_51 : decode cX14_isFrontier 51 = .ok (.invokevirtual 91, 3) := by decide +kernel
theorem dX14_isFrontier_54 : decode cX14_isFrontier 54 = .ok (.ifCond .eq 5, 3) := by decide +kernel
theorem dX14_isFrontier_57 : decode cX14_isFrontier 57 = .ok (.iconst 1, 1) := by decide +kernel
theorem dX14_isFrontier_58 : decode cX14_isFrontier 58 = .ok (.ireturn, 1) := by decide +kernel
theorem dX14_isFrontier_14 : decode cX14_isFrontier 14 = .ok (.aload_n 0, 1) := by decide +kernel
theorem dX14_isFrontier_15 : decode cX14_isFrontier 15 = .ok (.getfield 16, 3) := by decide +kernel
theorem dX14_isFrontier_18 : decode cX14_isFrontier 18 = .ok (.iload_n 1, 1) := by decide +kernel
theorem dX14_isFrontier_19 : decode cX14_isFrontier 19 = .ok (.aaload, 1) := by decide +kernel
theorem dX14_isFrontier_20 : decode cX14_isFrontier 20 = .ok (.iload_n 2, 1) := by decide +kernel
theorem dX14_isFrontier_21 : decode cX14_isFrontier 21 = .ok (.baload, 1) := by decide +kernel
theorem dX14_isFrontier_22 : decode cX14_isFrontier 22 = .ok (.ifCond .eq 5, 3) := by decide +kernel
def o_P14_isFrontier : List Cond := [.fieldLink RX14 9 "SsaForgeModel$Flow" "reached" "[Z", .fieldLink RX14 55 "SsaForgeModel$Flow" "n" "I", .fieldLink RX14 16 "SsaForgeModel$Flow" "dominates" "[[Z", .methodLink RX14 91 yX14_isPred, .instanceMethod yX14_isPred, .selects RX14 yX14_isPred yX14_isPred, .initialized RX14]
def v_P14_isFrontier : List Cond := .code yX14_isFrontier cX14_isFrontier 4 (some .boolean) :: (o_P14_isFrontier ++ (wsX140 ++ (v_P14_isPred ++ [])))
theorem mow_P14_isFrontier : ∀ w ∈ o_P14_isFrontier, w ∈ v_P14_isFrontier := fun _ h => List.mem_cons_of_mem _ (List.mem_append_left _ h)
theorem mem_P14_isFrontier_0 : ∀ w ∈ wsX140, w ∈ v_P14_isFrontier := fun _ h => List.mem_cons_of_mem _ (List.mem_append_right _ (List.mem_append_left _ h))
theorem mem_P14_isFrontier_1 : ∀ w ∈ v_P14_isPred, w ∈ v_P14_isFrontier := fun _ h => List.mem_cons_of_mem _ (List.mem_append_right _ (List.mem_append_right _ (List.mem_append_left _ h)))
set_option maxRecDepth 20000 in
theorem gw_P14_isFrontier : v_P14_isFrontier.all goodWord = true := by decide +kernel
set_option maxRecDepth 20000 in
theorem g_P14_isFrontier_P14_isPred : GoodIn v_P14_isFrontier (wsV RX14 91 RX14 yX14_isPred v_P14_isPred) := goodIn_app (goodIn_sub (fun w h => mow_P14_isFrontier w (by revert w h; decide +kernel)) (by decide +kernel)) (goodIn_sub mem_P14_isFrontier_1 gw_P14_isPred)
set_option maxHeartbeats 4000000 in
set_option maxRecDepth 100000 in
theorem c_P14_isFrontier (l : Launch) (dC : Nat → ClassId) (dI : Nat → Nat → Nat) (cI : ClassId) (cZ : ClassId) (h0 : Nat) (z14_n : Int) (v14_4 : Value) (v14_5 : Value) (v14_6 : Value) (v14_7 : Value) (v14_8 : Value) (v14_9 : Value) (v14_10 : Value) (v14_11 : Value) (v14_12 : Value) (q_1402 : Nat) (cA_1402 : ClassId) (n14_reached : Nat) (a14_reached : Int → Int) (q_d : Nat) (cD : ClassId) (nd : Nat) (fd : Nat → Option Nat) (hc : Nat) (v13_0 : Value) (v13_1 : Value) (v13_2 : Value) (v13_3 : Value) (v13_4 : Value) (v13_6 : Value) (la : Nat) (cO : ClassId) (L : List Nat) (P : PO) (sx_ed : Nat) (b0 : Int) (x0 : Int) (hNz14_n : 0 ≤ z14_n ∧ z14_n ≤ 300) (hNn14_reached : n14_reached ≤ 1000) (hR_a14_reached : ∀ j : Int, 0 ≤ a14_reached j ∧ a14_reached j ≤ 1) (hNnd : nd ≤ 1000) (hX_a : ALP L P cO cI cZ sx_ed la) (hX_D : TBK L P 44 cZ fd (P.lz la) (P.lz la) 0 1) (hNb : z14_n = P.lz la ∧ 1 ≤ z14_n ∧ 0 ≤ b0 ∧ b0 < z14_n ∧ 0 ≤ x0 ∧ x0 < z14_n ∧ z14_n ≤ n14_reached ∧ z14_n ≤ nd) (sz : Nat) : Met l yX14_isFrontier v_P14_isFrontier ({ frames := 5, cells := 0, slots := 0, locals := 109 }) (va_Pc [.ref h0, .int (zI (b0)), .int (zI (x0))] (fun U => U.heap.size = sz ∧ va_P (dC, dI) vwQ ([(h0, .inr (13, [.ref hc, .int (zI (z14_n)), .ref q_1402, .ref q_d, v14_4, v14_5, v14_6, v14_7, v14_8, v14_9, v14_10, v14_11, v14_12])), (q_1402, .inl (cA_1402, n14_reached, .inl (fun j : Nat => zI (a14_reached (j : Int))))), (q_d, .inl (cD, nd, .inr (.inr (.inr (.inr fd))))), (hc, .inr (12, [v13_0, v13_1, v13_2, v13_3, v13_4, .ref la, v13_6]))] ++ va_pl L (pE P)) U.heap ∧ va_K (dC, dI) vwQ [(cA_1402, .boolean), (cD, .array .boolean), (cO, .object "java/lang/Object"), (cI, .int), (cZ, .boolean)] U ∧ va_D (fun _ => True) ([(h0, .inr (13, [.ref hc, .int (zI (z14_n)), .ref q_1402, .ref q_d, v14_4, v14_5, v14_6, v14_7, v14_8, v14_9, v14_10, v14_11, v14_12])), (q_1402, .inl (cA_1402, n14_reached, .inl (fun j : Nat => zI (a14_reached (j : Int))))), (q_d, .inl (cD, nd, .inr (.inr (.inr (.inr fd))))), (hc, .inr (12, [v13_0, v13_1, v13_2, v13_3, v13_4, .ref la, v13_6]))] ++ va_pl L (pE P)) ∧ va_Nw (.castable "SsaForgeModel$Block" "SsaForgeModel$Block") U)) (va_Qi (fun (r : Int32) (_ : Unit) => ∃ z : Int, r = zI z ∧ (0 ≤ z ∧ z ≤ 1)) (fun (_ : Unit) (t : State) => va_P (dC, dI) vwQ ([(h0, .inr (13, [.ref hc, .int (zI (z14_n)), .ref q_1402, .ref q_d, v14_4, v14_5, v14_6, v14_7, v14_8, v14_9, v14_10, v14_11, v14_12])), (q_1402, .inl (cA_1402, n14_reached, .inl (fun j : Nat => zI (a14_reached (j : Int))))), (q_d, .inl (cD, nd, .inr (.inr (.inr (.inr fd))))), (hc, .inr (12, [v13_0, v13_1, v13_2, v13_3, v13_4, .ref la, v13_6]))] ++ va_pl L (pE P)) t.heap ∧ va_K (dC, dI) vwQ [(cA_1402, .boolean), (cD, .array .boolean), (cO, .object "java/lang/Object"), (cI, .int), (cZ, .boolean)] t ∧ va_D (va_A ([(h0, .inr (13, [.ref hc, .int (zI (z14_n)), .ref q_1402, .ref q_d, v14_4, v14_5, v14_6, v14_7, v14_8, v14_9, v14_10, v14_11, v14_12])), (q_1402, .inl (cA_1402, n14_reached, .inl (fun j : Nat => zI (a14_reached (j : Int))))), (q_d, .inl (cD, nd, .inr (.inr (.inr (.inr fd))))), (hc, .inr (12, [v13_0, v13_1, v13_2, v13_3, v13_4, .ref la, v13_6]))] ++ va_pl L (pE P)) sz) ([(h0, .inr (13, [.ref hc, .int (zI (z14_n)), .ref q_1402, .ref q_d, v14_4, v14_5, v14_6, v14_7, v14_8, v14_9, v14_10, v14_11, v14_12])), (q_1402, .inl (cA_1402, n14_reached, .inl (fun j : Nat => zI (a14_reached (j : Int))))), (q_d, .inl (cD, nd, .inr (.inr (.inr (.inr fd))))), (hc, .inr (12, [v13_0, v13_1, v13_2, v13_3, v13_4, .ref la, v13_6]))] ++ va_pl L (pE P))) (va_A ([(h0, .inr (13, [.ref hc, .int (zI (z14_n)), .ref q_1402, .ref q_d, v14_4, v14_5, v14_6, v14_7, v14_8, v14_9, v14_10, v14_11, v14_12])), (q_1402, .inl (cA_1402, n14_reached, .inl (fun j : Nat => zI (a14_reached (j : Int))))), (q_d, .inl (cD, nd, .inr (.inr (.inr (.inr fd))))), (hc, .inr (12, [v13_0, v13_1, v13_2, v13_3, v13_4, .ref la, v13_6]))] ++ va_pl L (pE P)) sz)) 0 0 (va_A ([(h0, .inr (13, [.ref hc, .int (zI (z14_n)), .ref q_1402, .ref q_d, v14_4, v14_5, v14_6, v14_7, v14_8, v14_9, v14_10, v14_11, v14_12])), (q_1402, .inl (cA_1402, n14_reached, .inl (fun j : Nat => zI (a14_reached (j : Int))))), (q_d, .inl (cD, nd, .inr (.inr (.inr (.inr fd))))), (hc, .inr (12, [v13_0, v13_1, v13_2, v13_3, v13_4, .ref la, v13_6]))] ++ va_pl L (pE P)) sz) := by
  refine Met.ofW (cc := cX14_isFrontier) (maxL := 4) (ret := (some .boolean)) (by decide) rfl ?_
  intro p e s m args below meth c s₁ B hml hv
  obtain ⟨rfl, hsz, hP, hK, hD0, hp0⟩ := hv
  have hx := B.exec
  have hb := B.bytes
  have hr := B.returns
  have hts := atoms_spec (ws := v_P14_isFrontier) B.pre
  have hown : s.vm.findClass RX14 = some m.cls := findClass_of_methodNamed B.named
  have hlocks := B.notSynchronized
  have ow : ∀ {k : Nat} {w : Cond}, o_P14_isFrontier[k]? = some w → w.before ([.ref h0, .int (zI (b0)), .int (zI (x0))] : List Value).toArray s = true := fun h => hts _ (mow_P14_isFrontier _ (List.mem_of_getElem? h))
  subst hsz
  have hD := hD0.self (sz := s.heap.size)
  generalize hAe : va_A ([(h0, .inr (13, [.ref hc, .int (zI (z14_n)), .ref q_1402, .ref q_d, v14_4, v14_5, v14_6, v14_7, v14_8, v14_9, v14_10, v14_11, v14_12])), (q_1402, .inl (cA_1402, n14_reached, .inl (fun j : Nat => zI (a14_reached (j : Int))))), (q_d, .inl (cD, nd, .inr (.inr (.inr (.inr fd))))), (hc, .inr (12, [v13_0, v13_1, v13_2, v13_3, v13_4, .ref la, v13_6]))] ++ va_pl L (pE P)) s.heap.size = A at hD ⊢
  have hA : ∀ q : Nat, s.heap.size ≤ q → A q := fun q h => by rw [← hAe]; exact Or.inr h
  have hS : va_S A s.heap s.heap [] := va_S.rf
  have hP : va_P (dC, dI) vwQ ([(h0, .inr (13, [.ref hc, .int (zI (z14_n)), .ref q_1402, .ref q_d, v14_4, v14_5, v14_6, v14_7, v14_8, v14_9, v14_10, v14_11, v14_12])), (q_1402, .inl (cA_1402, n14_reached, .inl (fun j : Nat => zI (a14_reached (j : Int))))), (q_d, .inl (cD, nd, .inr (.inr (.inr (.inr fd))))), (hc, .inr (12, [v13_0, v13_1, v13_2, v13_3, v13_4, .ref la, v13_6]))] ++ va_pl L (pE P)) s.heap := hP
  have hl := lv_entry ([.ref h0, .int (zI (b0)), .int (zI (x0))]) (n := 4) (Nat.le_of_ble_eq_true rfl)
  rw [lg_entry_eq]
  generalize (lg_sl ([.ref h0, .int (zI (b0)), .int (zI (x0))]) ++ List.replicate (4 - (lg_sl ([.ref h0, .int (zI (b0)), .int (zI (x0))])).length) Slot.unset).toArray = ls at hl ⊢
  have hl : lv_has ls 4 [(0, .ref h0), (1, .int (zI (b0))), (2, .int (zI (x0)))] := hl
  obtain ⟨H, hH⟩ : ∃ H, H = s.heap := ⟨_, rfl⟩
  rw [← hH] at hP
  have hS : va_S A s.heap H [] := by rw [hH]; exact hS
  rw [← hH]
  refine zW_cap (fun Q hQ => ?_)
  have hX_a9 := hX_a
  have hla := hX_a.lok.2.2.1
  have hla2 := hX_a.1.1.2.1
  refine lv_aload_n hx hb dX14_isFrontier_0 rfl (lv_at hl 0 rfl) ?_
  refine va_get (D := (dC, dI)) (ci := 13) (v := .ref q_1402) (C := RX14) (T := TX14) (N := 13) hx hb hts mem_P14_isFrontier_0 hown hK hP 0 rfl rfl 2 (by decide) (ow (k := 0) rfl) (fun _ h9 => h9) rfl dX14_isFrontier_1 ?_
  refine lv_iload_n hx hb dX14_isFrontier_4 rfl (lv_at hl 1 rfl) ?_
  refine va_zald hx hb hK hP 1 0 rfl rfl (zI_in (a := b0) (n := n14_reached) (by omega) (by omega) (by omega)) dX14_isFrontier_5 ?_
  refine lv_topi (fun z ez => ?_)
  obtain rfl : z = zI (a14_reached (b0)) := ez.trans (zI_ld (a14_reached) (by omega) (by omega))
  have k1 := hR_a14_reached (b0)
  refine lv_if_eq (tgt := 25) hx hb dX14_isFrontier_6 (by decide) (fun b6 => ?_) (fun b6 => ?_)
  · have yb6 : (a14_reached (b0) : Int) = (0 : Int) := (zI_eq (a := a14_reached (b0)) (b := 0) (by omega) (by omega) (by omega) (by omega)).mp b6
    refine lv_iconst (v := 0) hx hb dX14_isFrontier_25 (by decide) ?_
    subst hQ
    refine W.widen (k := 0) (n := 0) (Nat.le_of_ble_eq_true rfl) (Nat.le_of_ble_eq_true rfl) ?_
    exact W.zret (v := 0) hx hb hr (by decide) (fun t ht hW => ⟨⟨0, (), rfl, ⟨0, rfl, by omega⟩, by rw [ht]; exact hP, va_K.moved hW.alike hK, hD⟩, hS.F ht⟩) hS.2.2 dX14_isFrontier_26
  · have yb6 : ¬ (a14_reached (b0) : Int) = (0 : Int) := fun q => b6 ((zI_eq (a := a14_reached (b0)) (b := 0) (by omega) (by omega) (by omega) (by omega)).mpr q)
    refine lv_iload_n hx hb dX14_isFrontier_9 rfl (lv_at hl 1 rfl) ?_
    refine lv_iload_n hx hb dX14_isFrontier_10 rfl (lv_at hl 2 rfl) ?_
    refine lv_icmp_eq (tgt := 27) hx hb dX14_isFrontier_11 (by decide) (fun b11 => ?_) (fun b11 => ?_)
    · have yb11 : (b0 : Int) = (x0 : Int) := (zI_eq (a := b0) (b := x0) (by omega) (by omega) (by omega) (by omega)).mp b11
      refine lv_iconst (v := 0) hx hb dX14_isFrontier_27 (by decide) ?_
      refine lv_istore_n (lv' := [(3, .int 0), (0, .ref h0), (1, .int (zI (b0))), (2, .int (zI (x0)))]) hx hb dX14_isFrontier_28 rfl hl (by decide) rfl (fun ls hl => ?_)
      have key29 : ∀ n29 : Nat, ∀ (d29_3 : Int) (ls : Array Slot) (H : Heap) (locs : List Loc), (0 ≤ d29_3 ∧ d29_3 ≤ z14_n) → ((z14_n - d29_3 : Int).toNat) < n29 → lv_has ls 4 [(0, .ref h0), (1, .int (zI (b0))), (2, .int (zI (x0))), (3, .int (zI (d29_3)))] → va_P (dC, dI) vwQ ([(h0, .inr (13, [.ref hc, .int (zI (z14_n)), .ref q_1402, .ref q_d, v14_4, v14_5, v14_6, v14_7, v14_8, v14_9, v14_10, v14_11, v14_12])), (q_1402, .inl (cA_1402, n14_reached, .inl (fun j : Nat => zI (a14_reached (j : Int))))), (q_d, .inl (cD, nd, .inr (.inr (.inr (.inr fd))))), (hc, .inr (12, [v13_0, v13_1, v13_2, v13_3, v13_4, .ref la, v13_6]))] ++ va_pl L (pE P)) H → va_D A ([(h0, .inr (13, [.ref hc, .int (zI (z14_n)), .ref q_1402, .ref q_d, v14_4, v14_5, v14_6, v14_7, v14_8, v14_9, v14_10, v14_11, v14_12])), (q_1402, .inl (cA_1402, n14_reached, .inl (fun j : Nat => zI (a14_reached (j : Int))))), (q_d, .inl (cD, nd, .inr (.inr (.inr (.inr fd))))), (hc, .inr (12, [v13_0, v13_1, v13_2, v13_3, v13_4, .ref la, v13_6]))] ++ va_pl L (pE P)) → va_S A s.heap H locs → W p l e (headSpec v_P14_isFrontier ({ frames := 5, cells := 0, slots := 0, locals := 109 })).room s m ([.ref h0, .int (zI (b0)), .int (zI (x0))] : List Value).toArray below meth c H locs 0 0 Q (F0 m 29 ls []) := by
        intro n29
        induction n29 with
        | zero => intro d29_3 ls H locs jd29_3 hm29; exact absurd hm29 (by omega)
        | succ n29 ih29 =>
          intro d29_3 ls H locs jd29_3 hm29 hl hP hD hS
          skip
          refine lv_iload_n hx hb dX14_isFrontier_29 rfl (lv_at hl 3 rfl) ?_
          refine lv_aload_n hx hb dX14_isFrontier_30 rfl (lv_at hl 0 rfl) ?_
          refine va_get (D := (dC, dI)) (ci := 13) (v := .int (zI (z14_n))) (C := RX14) (T := TX14) (N := 13) hx hb hts mem_P14_isFrontier_0 hown hK hP 0 rfl rfl 1 (by decide) (ow (k := 1) rfl) (fun _ h9 => h9) rfl dX14_isFrontier_31 ?_
          refine lv_icmp_ge (tgt := 65) hx hb dX14_isFrontier_34 (by decide) (fun b34 => ?_) (fun b34 => ?_)
          · have yb34 : (z14_n : Int) ≤ (d29_3 : Int) := (zI_le (a := z14_n) (b := d29_3) (by omega) (by omega) (by omega) (by omega)).mp b34
            refine lv_iconst (v := 0) hx hb dX14_isFrontier_65 (by decide) ?_
            subst hQ
            refine W.widen (k := 0) (n := 0) (Nat.le_of_ble_eq_true rfl) (Nat.le_of_ble_eq_true rfl) ?_
            exact W.zret (v := 0) hx hb hr (by decide) (fun t ht hW => ⟨⟨0, (), rfl, ⟨0, rfl, by omega⟩, by rw [ht]; exact hP, va_K.moved hW.alike hK, hD⟩, hS.F ht⟩) hS.2.2 dX14_isFrontier_66
          · have yb34 : ¬ (z14_n : Int) ≤ (d29_3 : Int) := fun q => b34 ((zI_le (a := z14_n) (b := d29_3) (by omega) (by omega) (by omega) (by omega)).mpr q)
            refine lv_aload_n hx hb dX14_isFrontier_37 rfl (lv_at hl 0 rfl) ?_
            refine va_get (D := (dC, dI)) (ci := 13) (v := .ref q_d) (C := RX14) (T := TX14) (N := 13) hx hb hts mem_P14_isFrontier_0 hown hK hP 0 rfl rfl 3 (by decide) (ow (k := 2) rfl) (fun _ h9 => h9) rfl dX14_isFrontier_38 ?_
            refine lv_iload_n hx hb dX14_isFrontier_41 rfl (lv_at hl 1 rfl) ?_
            obtain ⟨yt_2001, heyt_2001, hmyt_2001, hnyt_2001, hiyt_2001⟩ := hX_D (b0) (by omega) (by omega)
            refine va_aldr hx hb hK hP 2 1 rfl rfl (zI_in (a := b0) (n := nd) (by omega) (by omega) (by omega)) dX14_isFrontier_42 ?_
            rw [show va_rf (fd (zI (b0)).toNatClampNeg) = .ref yt_2001 from (by rw [zI_cl (by omega) (by omega), heyt_2001]; rfl)]
            refine lv_iload_n hx hb dX14_isFrontier_43 rfl (lv_at hl 3 rfl) ?_
            obtain ⟨kp_2002, hkp_2002⟩ := va_pl_get (X := [(h0, .inr (13, [.ref hc, .int (zI (z14_n)), .ref q_1402, .ref q_d, v14_4, v14_5, v14_6, v14_7, v14_8, v14_9, v14_10, v14_11, v14_12])), (q_1402, .inl (cA_1402, n14_reached, .inl (fun j : Nat => zI (a14_reached (j : Int))))), (q_d, .inl (cD, nd, .inr (.inr (.inr (.inr fd))))), (hc, .inr (12, [v13_0, v13_1, v13_2, v13_3, v13_4, .ref la, v13_6]))]) (f := pE P) hmyt_2001.1
            rw [pE_n44 hmyt_2001.2.1, hmyt_2001.2.2] at hkp_2002
            refine va_zald hx hb hK hP kp_2002 4 hkp_2002 rfl (zI_in (a := d29_3) (n := P.an yt_2001) (by omega) (by omega) (by omega)) dX14_isFrontier_44 ?_
            refine lv_topi (fun z ez => ?_)
            obtain rfl : z = zI (P.ia yt_2001 (d29_3)) := ez.trans (zI_ld (P.ia yt_2001) (by omega) (by omega))
            have := hiyt_2001 (d29_3)
            refine lv_if_eq (tgt := 59) hx hb dX14_isFrontier_45 (by decide) (fun b45 => ?_) (fun b45 => ?_)
            · have yb45 : (P.ia yt_2001 (d29_3) : Int) = (0 : Int) := (zI_eq (a := P.ia yt_2001 (d29_3)) (b := 0) (by omega) (by omega) (by omega) (by omega)).mp b45
              refine lv_iinc (v := zI (d29_3 + 1)) (lv' := [(3, .int (zI (d29_3 + 1))), (0, .ref h0), (1, .int (zI (b0))), (2, .int (zI (x0)))]) hx hb dX14_isFrontier_59 hl (k := 3) rfl (zI_add (d29_3) (1)) (by decide) rfl (fun ls hl => ?_)
              refine lv_goto (tgt := 29) hx hb dX14_isFrontier_62 (by decide) ?_
              exact ih29 (d29_3 + 1) ls H _ (by omega) (by omega) (lv_sub hl [1, 2, 3, 0] rfl) hP hD hS
            · have yb45 : ¬ (P.ia yt_2001 (d29_3) : Int) = (0 : Int) := fun q => b45 ((zI_eq (a := P.ia yt_2001 (d29_3)) (b := 0) (by omega) (by omega) (by omega) (by omega)).mpr q)
              refine lv_aload_n hx hb dX14_isFrontier_48 rfl (lv_at hl 0 rfl) ?_
              refine lv_iload_n hx hb dX14_isFrontier_49 rfl (lv_at hl 3 rfl) ?_
              refine lv_iload_n hx hb dX14_isFrontier_50 rfl (lv_at hl 2 rfl) ?_
              have hX_c := hX_a9.1.1
              have hPc := hP.part (X := [(h0, .inr (13, [.ref hc, .int (zI (z14_n)), .ref q_1402, .ref q_d, v14_4, v14_5, v14_6, v14_7, v14_8, v14_9, v14_10, v14_11, v14_12])), (q_1402, .inl (cA_1402, n14_reached, .inl (fun j : Nat => zI (a14_reached (j : Int))))), (q_d, .inl (cD, nd, .inr (.inr (.inr (.inr fd))))), (hc, .inr (12, [v13_0, v13_1, v13_2, v13_3, v13_4, .ref la, v13_6]))]) (cx := [(h0, .inr (13, [.ref hc, .int (zI (z14_n)), .ref q_1402, .ref q_d, v14_4, v14_5, v14_6, v14_7, v14_8, v14_9, v14_10, v14_11, v14_12])), (hc, .inr (12, [v13_0, v13_1, v13_2, v13_3, v13_4, .ref la, v13_6]))]) (pl := va_pl L (pE P)) [0, 3] rfl
              have hDc := hD.part (X := [(h0, .inr (13, [.ref hc, .int (zI (z14_n)), .ref q_1402, .ref q_d, v14_4, v14_5, v14_6, v14_7, v14_8, v14_9, v14_10, v14_11, v14_12])), (q_1402, .inl (cA_1402, n14_reached, .inl (fun j : Nat => zI (a14_reached (j : Int))))), (q_d, .inl (cD, nd, .inr (.inr (.inr (.inr fd))))), (hc, .inr (12, [v13_0, v13_1, v13_2, v13_3, v13_4, .ref la, v13_6]))]) (cx := [(h0, .inr (13, [.ref hc, .int (zI (z14_n)), .ref q_1402, .ref q_d, v14_4, v14_5, v14_6, v14_7, v14_8, v14_9, v14_10, v14_11, v14_12])), (hc, .inr (12, [v13_0, v13_1, v13_2, v13_3, v13_4, .ref la, v13_6]))]) (pl := va_pl L (pE P)) [0, 3] (by decide) rfl
              have hKc := hK.sub (tys' := [(cO, .object "java/lang/Object")]) [2] rfl
              have hFc := va_freeP (X := [(h0, .inr (13, [.ref hc, .int (zI (z14_n)), .ref q_1402, .ref q_d, v14_4, v14_5, v14_6, v14_7, v14_8, v14_9, v14_10, v14_11, v14_12])), (q_1402, .inl (cA_1402, n14_reached, .inl (fun j : Nat => zI (a14_reached (j : Int))))), (q_d, .inl (cD, nd, .inr (.inr (.inr (.inr fd))))), (hc, .inr (12, [v13_0, v13_1, v13_2, v13_3, v13_4, .ref la, v13_6]))]) (cx := [(h0, .inr (13, [.ref hc, .int (zI (z14_n)), .ref q_1402, .ref q_d, v14_4, v14_5, v14_6, v14_7, v14_8, v14_9, v14_10, v14_11, v14_12])), (hc, .inr (12, [v13_0, v13_1, v13_2, v13_3, v13_4, .ref la, v13_6]))]) (pl := va_pl L (pE P)) hD hS hA [0, 3] rfl
              refine va_calli (va_runV (As := [.int (zI (d29_3)), .int (zI (x0))]) (rest := []) ⟨hx, hb, hml, hown, hts⟩ (c_P14_isPred l dC dI h0 (.int (zI (z14_n))) (.ref q_1402) (.ref q_d) v14_4 v14_5 v14_6 v14_7 v14_8 v14_9 v14_10 v14_11 v14_12 hc v13_0 v13_1 v13_2 v13_3 v13_4 v13_6 la cO L P d29_3 x0 hX_c (by omega) H.size) (cwV 2 hts g_P14_isFrontier_P14_isPred rfl rfl rfl (by decide +kernel) ⟨(Nat.le_of_ble_eq_true rfl), (Nat.le_of_ble_eq_true rfl)⟩) ⟨fun a U g mk q => by obtain ⟨q0, q1, qP, qK, qD, e0⟩ := q; exact ⟨q0, q1, qP, va_K.moved (u := U) (U := U.calling g mk a) (Vm.Alike.refl U.vm) qK, qD, va_Nw.same rfl (u := U) (U := U.calling g mk a) rfl e0⟩, va_recv hKc hPc (ci := 13) (q0 := 0) rfl rfl, fun U hU hW => ⟨rfl, by rw [hU], by rw [hU]; exact hPc, va_K.moved hW.alike hKc, hDc.weaken (fun _ _ _ _ => trivial), va_Nw.warmC hW hp0⟩⟩ rfl rfl hl.1 rfl (lv_room (Nat.le_of_ble_eq_true rfl)) dX14_isFrontier_51 ⟨(Nat.le_of_ble_eq_true rfl), (Nat.le_of_ble_eq_true rfl)⟩) hS (fun q _ h => hFc q h) hFc (fun r_2003 u t H1 locs ht hvm hw hB hz1 hk1 hS => ?_)
              obtain ⟨hP1, hK1, hD1⟩ := hB
              rw [ht] at hP1
              have hK1 := va_K.moved hvm.symm hK1
              obtain ⟨hP, hD⟩ := va_joinP (X := [(h0, .inr (13, [.ref hc, .int (zI (z14_n)), .ref q_1402, .ref q_d, v14_4, v14_5, v14_6, v14_7, v14_8, v14_9, v14_10, v14_11, v14_12])), (q_1402, .inl (cA_1402, n14_reached, .inl (fun j : Nat => zI (a14_reached (j : Int))))), (q_d, .inl (cD, nd, .inr (.inr (.inr (.inr fd))))), (hc, .inr (12, [v13_0, v13_1, v13_2, v13_3, v13_4, .ref la, v13_6]))]) (cx := [(h0, .inr (13, [.ref hc, .int (zI (z14_n)), .ref q_1402, .ref q_d, v14_4, v14_5, v14_6, v14_7, v14_8, v14_9, v14_10, v14_11, v14_12])), (hc, .inr (12, [v13_0, v13_1, v13_2, v13_3, v13_4, .ref la, v13_6]))]) (wr := [(q_1402, .inl (cA_1402, n14_reached, .inl (fun j : Nat => zI (a14_reached (j : Int))))), (q_d, .inl (cD, nd, .inr (.inr (.inr (.inr fd)))))]) (rx := [(h0, .inr (13, [.ref hc, .int (zI (z14_n)), .ref q_1402, .ref q_d, v14_4, v14_5, v14_6, v14_7, v14_8, v14_9, v14_10, v14_11, v14_12])), (hc, .inr (12, [v13_0, v13_1, v13_2, v13_3, v13_4, .ref la, v13_6]))]) (pl := va_pl L (pE P)) (pl1 := va_pl L (pE P)) hP hD [0, 3] [1, 2] rfl rfl (by decide) (by decide) hk1 hFc hP1 hD1
              have hK := (hK.sub (tys' := [(cA_1402, .boolean), (cD, .array .boolean), (cI, .int), (cZ, .boolean)]) [0, 1, 3, 4] rfl).app hK1
              generalize H1 = H at hP hS ⊢
              have hP : va_P (dC, dI) vwQ ([(q_1402, .inl (cA_1402, n14_reached, .inl (fun j : Nat => zI (a14_reached (j : Int))))), (q_d, .inl (cD, nd, .inr (.inr (.inr (.inr fd))))), (h0, .inr (13, [.ref hc, .int (zI (z14_n)), .ref q_1402, .ref q_d, v14_4, v14_5, v14_6, v14_7, v14_8, v14_9, v14_10, v14_11, v14_12])), (hc, .inr (12, [v13_0, v13_1, v13_2, v13_3, v13_4, .ref la, v13_6]))] ++ va_pl L (pE P)) H := hP
              have hD : va_D A ([(q_1402, .inl (cA_1402, n14_reached, .inl (fun j : Nat => zI (a14_reached (j : Int))))), (q_d, .inl (cD, nd, .inr (.inr (.inr (.inr fd))))), (h0, .inr (13, [.ref hc, .int (zI (z14_n)), .ref q_1402, .ref q_d, v14_4, v14_5, v14_6, v14_7, v14_8, v14_9, v14_10, v14_11, v14_12])), (hc, .inr (12, [v13_0, v13_1, v13_2, v13_3, v13_4, .ref la, v13_6]))] ++ va_pl L (pE P)) := hD
              have hK : va_K (dC, dI) vwQ [(cA_1402, .boolean), (cD, .array .boolean), (cI, .int), (cZ, .boolean), (cO, .object "java/lang/Object")] s := hK
              refine W.widen (k := 0) (n := 0) (Nat.le_of_ble_eq_true rfl) (Nat.le_of_ble_eq_true rfl) ?_
              have hw_2004 := hw
              obtain ⟨z_2005, rfl, hzz_2005⟩ := hw_2004
              refine lv_if_eq (tgt := 59) hx hb dX14_isFrontier_54 (by decide) (fun b54 => ?_) (fun b54 => ?_)
              · have yb54 : (z_2005 : Int) = (0 : Int) := (zI_eq (a := z_2005) (b := 0) (by omega) (by omega) (by omega) (by omega)).mp b54
                refine lv_iinc (v := zI (d29_3 + 1)) (lv' := [(3, .int (zI (d29_3 + 1))), (0, .ref h0), (1, .int (zI (b0))), (2, .int (zI (x0)))]) hx hb dX14_isFrontier_59 hl (k := 3) rfl (zI_add (d29_3) (1)) (by decide) rfl (fun ls hl => ?_)
                refine lv_goto (tgt := 29) hx hb dX14_isFrontier_62 (by decide) ?_
                have hP := hP.part (X := [(q_1402, .inl (cA_1402, n14_reached, .inl (fun j : Nat => zI (a14_reached (j : Int))))), (q_d, .inl (cD, nd, .inr (.inr (.inr (.inr fd))))), (h0, .inr (13, [.ref hc, .int (zI (z14_n)), .ref q_1402, .ref q_d, v14_4, v14_5, v14_6, v14_7, v14_8, v14_9, v14_10, v14_11, v14_12])), (hc, .inr (12, [v13_0, v13_1, v13_2, v13_3, v13_4, .ref la, v13_6]))]) (cx := [(h0, .inr (13, [.ref hc, .int (zI (z14_n)), .ref q_1402, .ref q_d, v14_4, v14_5, v14_6, v14_7, v14_8, v14_9, v14_10, v14_11, v14_12])), (q_1402, .inl (cA_1402, n14_reached, .inl (fun j : Nat => zI (a14_reached (j : Int))))), (q_d, .inl (cD, nd, .inr (.inr (.inr (.inr fd))))), (hc, .inr (12, [v13_0, v13_1, v13_2, v13_3, v13_4, .ref la, v13_6]))]) (pl := va_pl L (pE P)) [2, 0, 1, 3] rfl
                have hD := hD.part (X := [(q_1402, .inl (cA_1402, n14_reached, .inl (fun j : Nat => zI (a14_reached (j : Int))))), (q_d, .inl (cD, nd, .inr (.inr (.inr (.inr fd))))), (h0, .inr (13, [.ref hc, .int (zI (z14_n)), .ref q_1402, .ref q_d, v14_4, v14_5, v14_6, v14_7, v14_8, v14_9, v14_10, v14_11, v14_12])), (hc, .inr (12, [v13_0, v13_1, v13_2, v13_3, v13_4, .ref la, v13_6]))]) (cx := [(h0, .inr (13, [.ref hc, .int (zI (z14_n)), .ref q_1402, .ref q_d, v14_4, v14_5, v14_6, v14_7, v14_8, v14_9, v14_10, v14_11, v14_12])), (q_1402, .inl (cA_1402, n14_reached, .inl (fun j : Nat => zI (a14_reached (j : Int))))), (q_d, .inl (cD, nd, .inr (.inr (.inr (.inr fd))))), (hc, .inr (12, [v13_0, v13_1, v13_2, v13_3, v13_4, .ref la, v13_6]))]) (pl := va_pl L (pE P)) [2, 0, 1, 3] (by decide) rfl
                exact ih29 (d29_3 + 1) ls H _ (by omega) (by omega) (lv_sub hl [1, 2, 3, 0] rfl) hP hD hS
              · have yb54 : ¬ (z_2005 : Int) = (0 : Int) := fun q => b54 ((zI_eq (a := z_2005) (b := 0) (by omega) (by omega) (by omega) (by omega)).mpr q)
                refine lv_iconst (v := 1) hx hb dX14_isFrontier_57 (by decide) ?_
                subst hQ
                have hP := hP.part (X := [(q_1402, .inl (cA_1402, n14_reached, .inl (fun j : Nat => zI (a14_reached (j : Int))))), (q_d, .inl (cD, nd, .inr (.inr (.inr (.inr fd))))), (h0, .inr (13, [.ref hc, .int (zI (z14_n)), .ref q_1402, .ref q_d, v14_4, v14_5, v14_6, v14_7, v14_8, v14_9, v14_10, v14_11, v14_12])), (hc, .inr (12, [v13_0, v13_1, v13_2, v13_3, v13_4, .ref la, v13_6]))]) (cx := [(h0, .inr (13, [.ref hc, .int (zI (z14_n)), .ref q_1402, .ref q_d, v14_4, v14_5, v14_6, v14_7, v14_8, v14_9, v14_10, v14_11, v14_12])), (q_1402, .inl (cA_1402, n14_reached, .inl (fun j : Nat => zI (a14_reached (j : Int))))), (q_d, .inl (cD, nd, .inr (.inr (.inr (.inr fd))))), (hc, .inr (12, [v13_0, v13_1, v13_2, v13_3, v13_4, .ref la, v13_6]))]) (pl := va_pl L (pE P)) [2, 0, 1, 3] rfl
                have hD := hD.part (X := [(q_1402, .inl (cA_1402, n14_reached, .inl (fun j : Nat => zI (a14_reached (j : Int))))), (q_d, .inl (cD, nd, .inr (.inr (.inr (.inr fd))))), (h0, .inr (13, [.ref hc, .int (zI (z14_n)), .ref q_1402, .ref q_d, v14_4, v14_5, v14_6, v14_7, v14_8, v14_9, v14_10, v14_11, v14_12])), (hc, .inr (12, [v13_0, v13_1, v13_2, v13_3, v13_4, .ref la, v13_6]))]) (cx := [(h0, .inr (13, [.ref hc, .int (zI (z14_n)), .ref q_1402, .ref q_d, v14_4, v14_5, v14_6, v14_7, v14_8, v14_9, v14_10, v14_11, v14_12])), (q_1402, .inl (cA_1402, n14_reached, .inl (fun j : Nat => zI (a14_reached (j : Int))))), (q_d, .inl (cD, nd, .inr (.inr (.inr (.inr fd))))), (hc, .inr (12, [v13_0, v13_1, v13_2, v13_3, v13_4, .ref la, v13_6]))]) (pl := va_pl L (pE P)) [2, 0, 1, 3] (by decide) rfl
                have hK := hK.sub (tys' := [(cA_1402, .boolean), (cD, .array .boolean), (cO, .object "java/lang/Object"), (cI, .int), (cZ, .boolean)]) [0, 1, 4, 2, 3] rfl
                refine W.widen (k := 0) (n := 0) (Nat.le_of_ble_eq_true rfl) (Nat.le_of_ble_eq_true rfl) ?_
                exact W.zret (v := 1) hx hb hr (by decide) (fun t ht hW => ⟨⟨1, (), rfl, ⟨1, rfl, by omega⟩, by rw [ht]; exact hP, va_K.moved hW.alike hK, hD⟩, hS.F ht⟩) hS.2.2 dX14_isFrontier_58
      exact key29 ((z14_n - 0 : Int).toNat + 1) 0 ls H _ (by omega) (by omega) (lv_sub hl [1, 2, 3, 0] rfl) hP hD hS
    · have yb11 : ¬ (b0 : Int) = (x0 : Int) := fun q => b11 ((zI_eq (a := b0) (b := x0) (by omega) (by omega) (by omega) (by omega)).mpr q)
      refine lv_aload_n hx hb dX14_isFrontier_14 rfl (lv_at hl 0 rfl) ?_
      refine va_get (D := (dC, dI)) (ci := 13) (v := .ref q_d) (C := RX14) (T := TX14) (N := 13) hx hb hts mem_P14_isFrontier_0 hown hK hP 0 rfl rfl 3 (by decide) (ow (k := 2) rfl) (fun _ h9 => h9) rfl dX14_isFrontier_15 ?_
      refine lv_iload_n hx hb dX14_isFrontier_18 rfl (lv_at hl 1 rfl) ?_
      obtain ⟨yt_2006, heyt_2006, hmyt_2006, hnyt_2006, hiyt_2006⟩ := hX_D (b0) (by omega) (by omega)
      refine va_aldr hx hb hK hP 2 1 rfl rfl (zI_in (a := b0) (n := nd) (by omega) (by omega) (by omega)) dX14_isFrontier_19 ?_
      rw [show va_rf (fd (zI (b0)).toNatClampNeg) = .ref yt_2006 from (by rw [zI_cl (by omega) (by omega), heyt_2006]; rfl)]
      refine lv_iload_n hx hb dX14_isFrontier_20 rfl (lv_at hl 2 rfl) ?_
      obtain ⟨kp_2007, hkp_2007⟩ := va_pl_get (X := [(h0, .inr (13, [.ref hc, .int (zI (z14_n)), .ref q_1402, .ref q_d, v14_4, v14_5, v14_6, v14_7, v14_8, v14_9, v14_10, v14_11, v14_12])), (q_1402, .inl (cA_1402, n14_reached, .inl (fun j : Nat => zI (a14_reached (j : Int))))), (q_d, .inl (cD, nd, .inr (.inr (.inr (.inr fd))))), (hc, .inr (12, [v13_0, v13_1, v13_2, v13_3, v13_4, .ref la, v13_6]))]) (f := pE P) hmyt_2006.1
      rw [pE_n44 hmyt_2006.2.1, hmyt_2006.2.2] at hkp_2007
      refine va_zald hx hb hK hP kp_2007 4 hkp_2007 rfl (zI_in (a := x0) (n := P.an yt_2006) (by omega) (by omega) (by omega)) dX14_isFrontier_21 ?_
      refine lv_topi (fun z ez => ?_)
      obtain rfl : z = zI (P.ia yt_2006 (x0)) := ez.trans (zI_ld (P.ia yt_2006) (by omega) (by omega))
      have := hiyt_2006 (x0)
      refine lv_if_eq (tgt := 27) hx hb dX14_isFrontier_22 (by decide) (fun b22 => ?_) (fun b22 => ?_)
      · have yb22 : (P.ia yt_2006 (x0) : Int) = (0 : Int) := (zI_eq (a := P.ia yt_2006 (x0)) (b := 0) (by omega) (by omega) (by omega) (by omega)).mp b22
        refine lv_iconst (v := 0) hx hb dX14_isFrontier_27 (by decide) ?_
        refine lv_istore_n (lv' := [(3, .int 0), (0, .ref h0), (1, .int (zI (b0))), (2, .int (zI (x0)))]) hx hb dX14_isFrontier_28 rfl hl (by decide) rfl (fun ls hl => ?_)
        have key29 : ∀ n29 : Nat, ∀ (d29_3 : Int) (ls : Array Slot) (H : Heap) (locs : List Loc), (0 ≤ d29_3 ∧ d29_3 ≤ z14_n) → ((z14_n - d29_3 : Int).toNat) < n29 → lv_has ls 4 [(0, .ref h0), (1, .int (zI (b0))), (2, .int (zI (x0))), (3, .int (zI (d29_3)))] → va_P (dC, dI) vwQ ([(h0, .inr (13, [.ref hc, .int (zI (z14_n)), .ref q_1402, .ref q_d, v14_4, v14_5, v14_6, v14_7, v14_8, v14_9, v14_10, v14_11, v14_12])), (q_1402, .inl (cA_1402, n14_reached, .inl (fun j : Nat => zI (a14_reached (j : Int))))), (q_d, .inl (cD, nd, .inr (.inr (.inr (.inr fd))))), (hc, .inr (12, [v13_0, v13_1, v13_2, v13_3, v13_4, .ref la, v13_6]))] ++ va_pl L (pE P)) H → va_D A ([(h0, .inr (13, [.ref hc, .int (zI (z14_n)), .ref q_1402, .ref q_d, v14_4, v14_5, v14_6, v14_7, v14_8, v14_9, v14_10, v14_11, v14_12])), (q_1402, .inl (cA_1402, n14_reached, .inl (fun j : Nat => zI (a14_reached (j : Int))))), (q_d, .inl (cD, nd, .inr (.inr (.inr (.inr fd))))), (hc, .inr (12, [v13_0, v13_1, v13_2, v13_3, v13_4, .ref la, v13_6]))] ++ va_pl L (pE P)) → va_S A s.heap H locs → W p l e (headSpec v_P14_isFrontier ({ frames := 5, cells := 0, slots := 0, locals := 109 })).room s m ([.ref h0, .int (zI (b0)), .int (zI (x0))] : List Value).toArray below meth c H locs 0 0 Q (F0 m 29 ls []) := by
          intro n29
          induction n29 with
          | zero => intro d29_3 ls H locs jd29_3 hm29; exact absurd hm29 (by omega)
          | succ n29 ih29 =>
            intro d29_3 ls H locs jd29_3 hm29 hl hP hD hS
            skip
            refine lv_iload_n hx hb dX14_isFrontier_29 rfl (lv_at hl 3 rfl) ?_
            refine lv_aload_n hx hb dX14_isFrontier_30 rfl (lv_at hl 0 rfl) ?_
            refine va_get (D := (dC, dI)) (ci := 13) (v := .int (zI (z14_n))) (C := RX14) (T := TX14) (N := 13) hx hb hts mem_P14_isFrontier_0 hown hK hP 0 rfl rfl 1 (by decide) (ow (k := 1) rfl) (fun _ h9 => h9) rfl dX14_isFrontier_31 ?_
            refine lv_icmp_ge (tgt := 65) hx hb dX14_isFrontier_34 (by decide) (fun b34 => ?_) (fun b34 => ?_)
            · have yb34 : (z14_n : Int) ≤ (d29_3 : Int) := (zI_le (a := z14_n) (b := d29_3) (by omega) (by omega) (by omega) (by omega)).mp b34
              refine lv_iconst (v := 0) hx hb dX14_isFrontier_65 (by decide) ?_
              subst hQ
              refine W.widen (k := 0) (n := 0) (Nat.le_of_ble_eq_true rfl) (Nat.le_of_ble_eq_true rfl) ?_
              exact W.zret (v := 0) hx hb hr (by decide) (fun t ht hW => ⟨⟨0, (), rfl, ⟨0, rfl, by omega⟩, by rw [ht]; exact hP, va_K.moved hW.alike hK, hD⟩, hS.F ht⟩) hS.2.2 dX14_isFrontier_66
            · have yb34 : ¬ (z14_n : Int) ≤ (d29_3 : Int) := fun q => b34 ((zI_le (a := z14_n) (b := d29_3) (by omega) (by omega) (by omega) (by omega)).mpr q)
              refine lv_aload_n hx hb dX14_isFrontier_37 rfl (lv_at hl 0 rfl) ?_
              refine va_get (D := (dC, dI)) (ci := 13) (v := .ref q_d) (C := RX14) (T := TX14) (N := 13) hx hb hts mem_P14_isFrontier_0 hown hK hP 0 rfl rfl 3 (by decide) (ow (k := 2) rfl) (fun _ h9 => h9) rfl dX14_isFrontier_38 ?_
              refine lv_iload_n hx hb dX14_isFrontier_41 rfl (lv_at hl 1 rfl) ?_
              obtain ⟨yt_2008, heyt_2008, hmyt_2008, hnyt_2008, hiyt_2008⟩ := hX_D (b0) (by omega) (by omega)
              refine va_aldr hx hb hK hP 2 1 rfl rfl (zI_in (a := b0) (n := nd) (by omega) (by omega) (by omega)) dX14_isFrontier_42 ?_
              rw [show va_rf (fd (zI (b0)).toNatClampNeg) = .ref yt_2008 from (by rw [zI_cl (by omega) (by omega), heyt_2008]; rfl)]
              refine lv_iload_n hx hb dX14_isFrontier_43 rfl (lv_at hl 3 rfl) ?_
              obtain ⟨kp_2009, hkp_2009⟩ := va_pl_get (X := [(h0, .inr (13, [.ref hc, .int (zI (z14_n)), .ref q_1402, .ref q_d, v14_4, v14_5, v14_6, v14_7, v14_8, v14_9, v14_10, v14_11, v14_12])), (q_1402, .inl (cA_1402, n14_reached, .inl (fun j : Nat => zI (a14_reached (j : Int))))), (q_d, .inl (cD, nd, .inr (.inr (.inr (.inr fd))))), (hc, .inr (12, [v13_0, v13_1, v13_2, v13_3, v13_4, .ref la, v13_6]))]) (f := pE P) hmyt_2008.1
              rw [pE_n44 hmyt_2008.2.1, hmyt_2008.2.2] at hkp_2009
              refine va_zald hx hb hK hP kp_2009 4 hkp_2009 rfl (zI_in (a := d29_3) (n := P.an yt_2008) (by omega) (by omega) (by omega)) dX14_isFrontier_44 ?_
              refine lv_topi (fun z ez => ?_)
              obtain rfl : z = zI (P.ia yt_2008 (d29_3)) := ez.trans (zI_ld (P.ia yt_2008) (by omega) (by omega))
              have := hiyt_2008 (d29_3)
              refine lv_if_eq (tgt := 59) hx hb dX14_isFrontier_45 (by decide) (fun b45 => ?_) (fun b45 => ?_)
              · have yb45 : (P.ia yt_2008 (d29_3) : Int) = (0 : Int) := (zI_eq (a := P.ia yt_2008 (d29_3)) (b := 0) (by omega) (by omega) (by omega) (by omega)).mp b45
                refine lv_iinc (v := zI (d29_3 + 1)) (lv' := [(3, .int (zI (d29_3 + 1))), (0, .ref h0), (1, .int (zI (b0))), (2, .int (zI (x0)))]) hx hb dX14_isFrontier_59 hl (k := 3) rfl (zI_add (d29_3) (1)) (by decide) rfl (fun ls hl => ?_)
                refine lv_goto (tgt := 29) hx hb dX14_isFrontier_62 (by decide) ?_
                exact ih29 (d29_3 + 1) ls H _ (by omega) (by omega) (lv_sub hl [1, 2, 3, 0] rfl) hP hD hS
              · have yb45 : ¬ (P.ia yt_2008 (d29_3) : Int) = (0 : Int) := fun q => b45 ((zI_eq (a := P.ia yt_2008 (d29_3)) (b := 0) (by omega) (by omega) (by omega) (by omega)).mpr q)
                refine lv_aload_n hx hb dX14_isFrontier_48 rfl (lv_at hl 0 rfl) ?_
                refine lv_iload_n hx hb dX14_isFrontier_49 rfl (lv_at hl 3 rfl) ?_
                refine lv_iload_n hx hb dX14_isFrontier_50 rfl (lv_at hl 2 rfl) ?_
                have hX_c := hX_a9.1.1
                have hPc := hP.part (X := [(h0, .inr (13, [.ref hc, .int (zI (z14_n)), .ref q_1402, .ref q_d, v14_4, v14_5, v14_6, v14_7, v14_8, v14_9, v14_10, v14_11, v14_12])), (q_1402, .inl (cA_1402, n14_reached, .inl (fun j : Nat => zI (a14_reached (j : Int))))), (q_d, .inl (cD, nd, .inr (.inr (.inr (.inr fd))))), (hc, .inr (12, [v13_0, v13_1, v13_2, v13_3, v13_4, .ref la, v13_6]))]) (cx := [(h0, .inr (13, [.ref hc, .int (zI (z14_n)), .ref q_1402, .ref q_d, v14_4, v14_5, v14_6, v14_7, v14_8, v14_9, v14_10, v14_11, v14_12])), (hc, .inr (12, [v13_0, v13_1, v13_2, v13_3, v13_4, .ref la, v13_6]))]) (pl := va_pl L (pE P)) [0, 3] rfl
                have hDc := hD.part (X := [(h0, .inr (13, [.ref hc, .int (zI (z14_n)), .ref q_1402, .ref q_d, v14_4, v14_5, v14_6, v14_7, v14_8, v14_9, v14_10, v14_11, v14_12])), (q_1402, .inl (cA_1402, n14_reached, .inl (fun j : Nat => zI (a14_reached (j : Int))))), (q_d, .inl (cD, nd, .inr (.inr (.inr (.inr fd))))), (hc, .inr (12, [v13_0, v13_1, v13_2, v13_3, v13_4, .ref la, v13_6]))]) (cx := [(h0, .inr (13, [.ref hc, .int (zI (z14_n)), .ref q_1402, .ref q_d, v14_4, v14_5, v14_6, v14_7, v14_8, v14_9, v14_10, v14_11, v14_12])), (hc, .inr (12, [v13_0, v13_1, v13_2, v13_3, v13_4, .ref la, v13_6]))]) (pl := va_pl L (pE P)) [0, 3] (by decide) rfl
                have hKc := hK.sub (tys' := [(cO, .object "java/lang/Object")]) [2] rfl
                have hFc := va_freeP (X := [(h0, .inr (13, [.ref hc, .int (zI (z14_n)), .ref q_1402, .ref q_d, v14_4, v14_5, v14_6, v14_7, v14_8, v14_9, v14_10, v14_11, v14_12])), (q_1402, .inl (cA_1402, n14_reached, .inl (fun j : Nat => zI (a14_reached (j : Int))))), (q_d, .inl (cD, nd, .inr (.inr (.inr (.inr fd))))), (hc, .inr (12, [v13_0, v13_1, v13_2, v13_3, v13_4, .ref la, v13_6]))]) (cx := [(h0, .inr (13, [.ref hc, .int (zI (z14_n)), .ref q_1402, .ref q_d, v14_4, v14_5, v14_6, v14_7, v14_8, v14_9, v14_10, v14_11, v14_12])), (hc, .inr (12, [v13_0, v13_1, v13_2, v13_3, v13_4, .ref la, v13_6]))]) (pl := va_pl L (pE P)) hD hS hA [0, 3] rfl
                refine va_calli (va_runV (As := [.int (zI (d29_3)), .int (zI (x0))]) (rest := []) ⟨hx, hb, hml, hown, hts⟩ (c_P14_isPred l dC dI h0 (.int (zI (z14_n))) (.ref q_1402) (.ref q_d) v14_4 v14_5 v14_6 v14_7 v14_8 v14_9 v14_10 v14_11 v14_12 hc v13_0 v13_1 v13_2 v13_3 v13_4 v13_6 la cO L P d29_3 x0 hX_c (by omega) H.size) (cwV 2 hts g_P14_isFrontier_P14_isPred rfl rfl rfl (by decide +kernel) ⟨(Nat.le_of_ble_eq_true rfl), (Nat.le_of_ble_eq_true rfl)⟩) ⟨fun a U g mk q => by obtain ⟨q0, q1, qP, qK, qD, e0⟩ := q; exact ⟨q0, q1, qP, va_K.moved (u := U) (U := U.calling g mk a) (Vm.Alike.refl U.vm) qK, qD, va_Nw.same rfl (u := U) (U := U.calling g mk a) rfl e0⟩, va_recv hKc hPc (ci := 13) (q0 := 0) rfl rfl, fun U hU hW => ⟨rfl, by rw [hU], by rw [hU]; exact hPc, va_K.moved hW.alike hKc, hDc.weaken (fun _ _ _ _ => trivial), va_Nw.warmC hW hp0⟩⟩ rfl rfl hl.1 rfl (lv_room (Nat.le_of_ble_eq_true rfl)) dX14_isFrontier_51 ⟨(Nat.le_of_ble_eq_true rfl), (Nat.le_of_ble_eq_true rfl)⟩) hS (fun q _ h => hFc q h) hFc (fun r_2010 u t H1 locs ht hvm hw hB hz1 hk1 hS => ?_)
                obtain ⟨hP1, hK1, hD1⟩ := hB
                rw [ht] at hP1
                have hK1 := va_K.moved hvm.symm hK1
                obtain ⟨hP, hD⟩ := va_joinP (X := [(h0, .inr (13, [.ref hc, .int (zI (z14_n)), .ref q_1402, .ref q_d, v14_4, v14_5, v14_6, v14_7, v14_8, v14_9, v14_10, v14_11, v14_12])), (q_1402, .inl (cA_1402, n14_reached, .inl (fun j : Nat => zI (a14_reached (j : Int))))), (q_d, .inl (cD, nd, .inr (.inr (.inr (.inr fd))))), (hc, .inr (12, [v13_0, v13_1, v13_2, v13_3, v13_4, .ref la, v13_6]))]) (cx := [(h0, .inr (13, [.ref hc, .int (zI (z14_n)), .ref q_1402, .ref q_d, v14_4, v14_5, v14_6, v14_7, v14_8, v14_9, v14_10, v14_11, v14_12])), (hc, .inr (12, [v13_0, v13_1, v13_2, v13_3, v13_4, .ref la, v13_6]))]) (wr := [(q_1402, .inl (cA_1402, n14_reached, .inl (fun j : Nat => zI (a14_reached (j : Int))))), (q_d, .inl (cD, nd, .inr (.inr (.inr (.inr fd)))))]) (rx := [(h0, .inr (13, [.ref hc, .int (zI (z14_n)), .ref q_1402, .ref q_d, v14_4, v14_5, v14_6, v14_7, v14_8, v14_9, v14_10, v14_11, v14_12])), (hc, .inr (12, [v13_0, v13_1, v13_2, v13_3, v13_4, .ref la, v13_6]))]) (pl := va_pl L (pE P)) (pl1 := va_pl L (pE P)) hP hD [0, 3] [1, 2] rfl rfl (by decide) (by decide) hk1 hFc hP1 hD1
                have hK := (hK.sub (tys' := [(cA_1402, .boolean), (cD, .array .boolean), (cI, .int), (cZ, .boolean)]) [0, 1, 3, 4] rfl).app hK1
                generalize H1 = H at hP hS ⊢
                have hP : va_P (dC, dI) vwQ ([(q_1402, .inl (cA_1402, n14_reached, .inl (fun j : Nat => zI (a14_reached (j : Int))))), (q_d, .inl (cD, nd, .inr (.inr (.inr (.inr fd))))), (h0, .inr (13, [.ref hc, .int (zI (z14_n)), .ref q_1402, .ref q_d, v14_4, v14_5, v14_6, v14_7, v14_8, v14_9, v14_10, v14_11, v14_12])), (hc, .inr (12, [v13_0, v13_1, v13_2, v13_3, v13_4, .ref la, v13_6]))] ++ va_pl L (pE P)) H := hP
                have hD : va_D A ([(q_1402, .inl (cA_1402, n14_reached, .inl (fun j : Nat => zI (a14_reached (j : Int))))), (q_d, .inl (cD, nd, .inr (.inr (.inr (.inr fd))))), (h0, .inr (13, [.ref hc, .int (zI (z14_n)), .ref q_1402, .ref q_d, v14_4, v14_5, v14_6, v14_7, v14_8, v14_9, v14_10, v14_11, v14_12])), (hc, .inr (12, [v13_0, v13_1, v13_2, v13_3, v13_4, .ref la, v13_6]))] ++ va_pl L (pE P)) := hD
                have hK : va_K (dC, dI) vwQ [(cA_1402, .boolean), (cD, .array .boolean), (cI, .int), (cZ, .boolean), (cO, .object "java/lang/Object")] s := hK
                refine W.widen (k := 0) (n := 0) (Nat.le_of_ble_eq_true rfl) (Nat.le_of_ble_eq_true rfl) ?_
                have hw_2011 := hw
                obtain ⟨z_2012, rfl, hzz_2012⟩ := hw_2011
                refine lv_if_eq (tgt := 59) hx hb dX14_isFrontier_54 (by decide) (fun b54 => ?_) (fun b54 => ?_)
                · have yb54 : (z_2012 : Int) = (0 : Int) := (zI_eq (a := z_2012) (b := 0) (by omega) (by omega) (by omega) (by omega)).mp b54
                  refine lv_iinc (v := zI (d29_3 + 1)) (lv' := [(3, .int (zI (d29_3 + 1))), (0, .ref h0), (1, .int (zI (b0))), (2, .int (zI (x0)))]) hx hb dX14_isFrontier_59 hl (k := 3) rfl (zI_add (d29_3) (1)) (by decide) rfl (fun ls hl => ?_)
                  refine lv_goto (tgt := 29) hx hb dX14_isFrontier_62 (by decide) ?_
                  have hP := hP.part (X := [(q_1402, .inl (cA_1402, n14_reached, .inl (fun j : Nat => zI (a14_reached (j : Int))))), (q_d, .inl (cD, nd, .inr (.inr (.inr (.inr fd))))), (h0, .inr (13, [.ref hc, .int (zI (z14_n)), .ref q_1402, .ref q_d, v14_4, v14_5, v14_6, v14_7, v14_8, v14_9, v14_10, v14_11, v14_12])), (hc, .inr (12, [v13_0, v13_1, v13_2, v13_3, v13_4, .ref la, v13_6]))]) (cx := [(h0, .inr (13, [.ref hc, .int (zI (z14_n)), .ref q_1402, .ref q_d, v14_4, v14_5, v14_6, v14_7, v14_8, v14_9, v14_10, v14_11, v14_12])), (q_1402, .inl (cA_1402, n14_reached, .inl (fun j : Nat => zI (a14_reached (j : Int))))), (q_d, .inl (cD, nd, .inr (.inr (.inr (.inr fd))))), (hc, .inr (12, [v13_0, v13_1, v13_2, v13_3, v13_4, .ref la, v13_6]))]) (pl := va_pl L (pE P)) [2, 0, 1, 3] rfl
                  have hD := hD.part (X := [(q_1402, .inl (cA_1402, n14_reached, .inl (fun j : Nat => zI (a14_reached (j : Int))))), (q_d, .inl (cD, nd, .inr (.inr (.inr (.inr fd))))), (h0, .inr (13, [.ref hc, .int (zI (z14_n)), .ref q_1402, .ref q_d, v14_4, v14_5, v14_6, v14_7, v14_8, v14_9, v14_10, v14_11, v14_12])), (hc, .inr (12, [v13_0, v13_1, v13_2, v13_3, v13_4, .ref la, v13_6]))]) (cx := [(h0, .inr (13, [.ref hc, .int (zI (z14_n)), .ref q_1402, .ref q_d, v14_4, v14_5, v14_6, v14_7, v14_8, v14_9, v14_10, v14_11, v14_12])), (q_1402, .inl (cA_1402, n14_reached, .inl (fun j : Nat => zI (a14_reached (j : Int))))), (q_d, .inl (cD, nd, .inr (.inr (.inr (.inr fd))))), (hc, .inr (12, [v13_0, v13_1, v13_2, v13_3, v13_4, .ref la, v13_6]))]) (pl := va_pl L (pE P)) [2, 0, 1, 3] (by decide) rfl
                  exact ih29 (d29_3 + 1) ls H _ (by omega) (by omega) (lv_sub hl [1, 2, 3, 0] rfl) hP hD hS
                · have yb54 : ¬ (z_2012 : Int) = (0 : Int) := fun q => b54 ((zI_eq (a := z_2012) (b := 0) (by omega) (by omega) (by omega) (by omega)).mpr q)
                  refine lv_iconst (v := 1) hx hb dX14_isFrontier_57 (by decide) ?_
                  subst hQ
                  have hP := hP.part (X := [(q_1402, .inl (cA_1402, n14_reached, .inl (fun j : Nat => zI (a14_reached (j : Int))))), (q_d, .inl (cD, nd, .inr (.inr (.inr (.inr fd))))), (h0, .inr (13, [.ref hc, .int (zI (z14_n)), .ref q_1402, .ref q_d, v14_4, v14_5, v14_6, v14_7, v14_8, v14_9, v14_10, v14_11, v14_12])), (hc, .inr (12, [v13_0, v13_1, v13_2, v13_3, v13_4, .ref la, v13_6]))]) (cx := [(h0, .inr (13, [.ref hc, .int (zI (z14_n)), .ref q_1402, .ref q_d, v14_4, v14_5, v14_6, v14_7, v14_8, v14_9, v14_10, v14_11, v14_12])), (q_1402, .inl (cA_1402, n14_reached, .inl (fun j : Nat => zI (a14_reached (j : Int))))), (q_d, .inl (cD, nd, .inr (.inr (.inr (.inr fd))))), (hc, .inr (12, [v13_0, v13_1, v13_2, v13_3, v13_4, .ref la, v13_6]))]) (pl := va_pl L (pE P)) [2, 0, 1, 3] rfl
                  have hD := hD.part (X := [(q_1402, .inl (cA_1402, n14_reached, .inl (fun j : Nat => zI (a14_reached (j : Int))))), (q_d, .inl (cD, nd, .inr (.inr (.inr (.inr fd))))), (h0, .inr (13, [.ref hc, .int (zI (z14_n)), .ref q_1402, .ref q_d, v14_4, v14_5, v14_6, v14_7, v14_8, v14_9, v14_10, v14_11, v14_12])), (hc, .inr (12, [v13_0, v13_1, v13_2, v13_3, v13_4, .ref la, v13_6]))]) (cx := [(h0, .inr (13, [.ref hc, .int (zI (z14_n)), .ref q_1402, .ref q_d, v14_4, v14_5, v14_6, v14_7, v14_8, v14_9, v14_10, v14_11, v14_12])), (q_1402, .inl (cA_1402, n14_reached, .inl (fun j : Nat => zI (a14_reached (j : Int))))), (q_d, .inl (cD, nd, .inr (.inr (.inr (.inr fd))))), (hc, .inr (12, [v13_0, v13_1, v13_2, v13_3, v13_4, .ref la, v13_6]))]) (pl := va_pl L (pE P)) [2, 0, 1, 3] (by decide) rfl
                  have hK := hK.sub (tys' := [(cA_1402, .boolean), (cD, .array .boolean), (cO, .object "java/lang/Object"), (cI, .int), (cZ, .boolean)]) [0, 1, 4, 2, 3] rfl
                  refine W.widen (k := 0) (n := 0) (Nat.le_of_ble_eq_true rfl) (Nat.le_of_ble_eq_true rfl) ?_
                  exact W.zret (v := 1) hx hb hr (by decide) (fun t ht hW => ⟨⟨1, (), rfl, ⟨1, rfl, by omega⟩, by rw [ht]; exact hP, va_K.moved hW.alike hK, hD⟩, hS.F ht⟩) hS.2.2 dX14_isFrontier_58
        exact key29 ((z14_n - 0 : Int).toNat + 1) 0 ls H _ (by omega) (by omega) (lv_sub hl [1, 2, 3, 0] rfl) hP hD hS
      · have yb22 : ¬ (P.ia yt_2006 (x0) : Int) = (0 : Int) := fun q => b22 ((zI_eq (a := P.ia yt_2006 (x0)) (b := 0) (by omega) (by omega) (by omega) (by omega)).mpr q)
        refine lv_iconst (v := 0) hx hb dX14_isFrontier_25 (by decide) ?_
        subst hQ
        refine W.widen (k := 0) (n := 0) (Nat.le_of_ble_eq_true rfl) (Nat.le_of_ble_eq_true rfl) ?_
        exact W.zret (v := 0) hx hb hr (by decide) (fun t ht hW => ⟨⟨0, (), rfl, ⟨0, rfl, by omega⟩, by rw [ht]; exact hP, va_K.moved hW.alike hK, hD⟩, hS.F ht⟩) hS.2.2 dX14_isFrontier_26
theorem dX14_liveAt_0 : decode cX14_liveAt 0 = .ok (.iconst 0, 1) := by decide +kernel
theorem dX14_liveAt_1 : decode cX14_liveAt 1 = .ok (.istore_n 2, 1) := by decide +kernel
theorem dX14_liveAt_2 : decode cX14_liveAt 2 = .ok (.iconst 0, 1) := by decide +kernel
theorem dX14_liveAt_3 : decode cX14_liveAt 3 = .ok (.istore_n 3, 1) := by decide +kernel
theorem dX14_liveAt_4 : decode cX14_liveAt 4 = .ok (.iload_n 3, 1) := by decide +kernel
theorem dX14_liveAt_5 : decode cX14_liveAt 5 = .ok (.sipush 1001, 3) := by decide +kernel
theorem dX14_liveAt_8 : decode cX14_liveAt 8 = .ok (.if_icmp .gt 28, 3) := by decide +kernel
theorem dX14_liveAt_36 : decode cX14_liveAt 36 = .ok (.iload_n 2, 1) := by decide +kernel
theorem dX14_liveAt_37 : decode cX14_liveAt 37 = .ok (.ireturn, 1) := by decide +kernel
theorem dX14_liveAt_11 : decode cX14_liveAt 11 = .ok (.iload_n 2, 1) := by decide +kernel
theorem dX14_liveAt_12 : decode cX14_liveAt 12 = .ok (.aload_n 0, 1) := by decide +kernel
theorem dX14_liveAt_13 : decode cX14_liveAt 13 = .ok (.getfield 36, 3) := by decide +kernel
theorem dX14_liveAt_16 : decode cX14_liveAt 16 = .ok (.iload_n 1, 1) := by decide +kernel
theorem dX14_liveAt_17 : decode cX14_liveAt 17 = .ok (.aaload, 1) := by decide +kernel
theorem dX14_liveAt_18 : decode cX14_liveAt 18 = .ok (.iload_n 3, 1) := by decide +kernel
theorem dX14_liveAt_19 : decode cX14_liveAt 19 = .ok (.baload, 1) := by decide +kernel
theorem dX14_liveAt_20 : decode cX14_liveAt 20 = .ok (.ifCond .eq 7, 3) := by decide +kernel
theorem dX14_liveAt_27 : decode cX14_liveAt 27 = .ok (.iconst 0, 1) := by decide +kernel
theorem dX14_liveAt_28 : decode cX14_liveAt 28 = .ok (.iadd, 1) := by decide +kernel
theorem dX14_liveAt_29 : decode cX14_liveAt 29 = .ok (.istore_n 2, 1) := by decide +kernel
theorem dX14_liveAt_30 : decode cX14_liveAt 30 = .ok (.iinc 3 1, 3) := by decide +kernel
theorem dX14_liveAt_33 : decode cX14_liveAt 33 = .ok (.goto (-29), 3) := by decide +kernel
theorem dX14_liveAt_23 : decode cX14_liveAt 23 = .ok (.iconst 1, 1) := by decide +kernel
theorem dX14_liveAt_24 : decode cX14_liveAt 24 = .ok (.goto 4, 3) := by decide +kernel
def o_P14_liveAt : List Cond := [.fieldLink RX14 36 "SsaForgeModel$Flow" "live" "[[Z"]
def v_P14_liveAt : List Cond := .code yX14_liveAt cX14_liveAt 4 (some .int) :: (o_P14_liveAt ++ (wsX140 ++ []))
theorem mow_P14_liveAt : ∀ w ∈ o_P14_liveAt, w ∈ v_P14_liveAt := fun _ h => List.mem_cons_of_mem _ (List.mem_append_left _ h)
theorem mem_P14_liveAt_0 : ∀ w ∈ wsX140, w ∈ v_P14_liveAt := fun _ h => List.mem_cons_of_mem _ (List.mem_append_right _ (List.mem_append_left _ h))
set_option maxRecDepth 20000 in
theorem gw_P14_liveAt : v_P14_liveAt.all goodWord = true := by decide +kernel
set_option maxHeartbeats 4000000 in
set_option maxRecDepth 100000 in
theorem c_P14_liveAt (l : Launch) (dC : Nat → ClassId) (dI : Nat → Nat → Nat) (cI : ClassId) (cZ : ClassId) (h0 : Nat) (v14_1 : Value) (v14_2 : Value) (v14_3 : Value) (v14_4 : Value) (v14_5 : Value) (v14_6 : Value) (v14_7 : Value) (v14_8 : Value) (v14_9 : Value) (v14_11 : Value) (v14_12 : Value) (q_v : Nat) (cV : ClassId) (nv : Nat) (fv : Nat → Option Nat) (hc : Nat) (v13_0 : Value) (v13_1 : Value) (v13_2 : Value) (v13_3 : Value) (v13_4 : Value) (v13_6 : Value) (la : Nat) (cO : ClassId) (L : List Nat) (P : PO) (sx_ed : Nat) (b0 : Int) (hNnv : nv ≤ 1000) (hX_a : ALP L P cO cI cZ sx_ed la) (hX_T : TBK L P 43 cZ fv (P.lz la) 1002 0 1) (hNb : 0 ≤ b0 ∧ b0 < P.lz la ∧ P.lz la ≤ nv) (sz : Nat) : Met l yX14_liveAt v_P14_liveAt ({ frames := 0, cells := 0, slots := 0, locals := 0 }) (va_Pc [.ref h0, .int (zI (b0))] (fun U => U.heap.size = sz ∧ va_P (dC, dI) vwQ ([(h0, .inr (13, [.ref hc, v14_1, v14_2, v14_3, v14_4, v14_5, v14_6, v14_7, v14_8, v14_9, .ref q_v, v14_11, v14_12])), (q_v, .inl (cV, nv, .inr (.inr (.inr (.inr fv))))), (hc, .inr (12, [v13_0, v13_1, v13_2, v13_3, v13_4, .ref la, v13_6]))] ++ va_pl L (pE P)) U.heap ∧ va_K (dC, dI) vwQ [(cV, .array .boolean), (cO, .object "java/lang/Object"), (cI, .int), (cZ, .boolean)] U ∧ va_D (fun _ => True) ([(h0, .inr (13, [.ref hc, v14_1, v14_2, v14_3, v14_4, v14_5, v14_6, v14_7, v14_8, v14_9, .ref q_v, v14_11, v14_12])), (q_v, .inl (cV, nv, .inr (.inr (.inr (.inr fv))))), (hc, .inr (12, [v13_0, v13_1, v13_2, v13_3, v13_4, .ref la, v13_6]))] ++ va_pl L (pE P)))) (va_Qi (fun (r : Int32) (_ : Unit) => ∃ z : Int, r = zI z ∧ (0 ≤ z ∧ z ≤ 1002)) (fun (_ : Unit) (t : State) => va_P (dC, dI) vwQ ([(h0, .inr (13, [.ref hc, v14_1, v14_2, v14_3, v14_4, v14_5, v14_6, v14_7, v14_8, v14_9, .ref q_v, v14_11, v14_12])), (q_v, .inl (cV, nv, .inr (.inr (.inr (.inr fv))))), (hc, .inr (12, [v13_0, v13_1, v13_2, v13_3, v13_4, .ref la, v13_6]))] ++ va_pl L (pE P)) t.heap ∧ va_K (dC, dI) vwQ [(cV, .array .boolean), (cO, .object "java/lang/Object"), (cI, .int), (cZ, .boolean)] t ∧ va_D (va_A ([(h0, .inr (13, [.ref hc, v14_1, v14_2, v14_3, v14_4, v14_5, v14_6, v14_7, v14_8, v14_9, .ref q_v, v14_11, v14_12])), (q_v, .inl (cV, nv, .inr (.inr (.inr (.inr fv))))), (hc, .inr (12, [v13_0, v13_1, v13_2, v13_3, v13_4, .ref la, v13_6]))] ++ va_pl L (pE P)) sz) ([(h0, .inr (13, [.ref hc, v14_1, v14_2, v14_3, v14_4, v14_5, v14_6, v14_7, v14_8, v14_9, .ref q_v, v14_11, v14_12])), (q_v, .inl (cV, nv, .inr (.inr (.inr (.inr fv))))), (hc, .inr (12, [v13_0, v13_1, v13_2, v13_3, v13_4, .ref la, v13_6]))] ++ va_pl L (pE P))) (va_A ([(h0, .inr (13, [.ref hc, v14_1, v14_2, v14_3, v14_4, v14_5, v14_6, v14_7, v14_8, v14_9, .ref q_v, v14_11, v14_12])), (q_v, .inl (cV, nv, .inr (.inr (.inr (.inr fv))))), (hc, .inr (12, [v13_0, v13_1, v13_2, v13_3, v13_4, .ref la, v13_6]))] ++ va_pl L (pE P)) sz)) 0 0 (va_A ([(h0, .inr (13, [.ref hc, v14_1, v14_2, v14_3, v14_4, v14_5, v14_6, v14_7, v14_8, v14_9, .ref q_v, v14_11, v14_12])), (q_v, .inl (cV, nv, .inr (.inr (.inr (.inr fv))))), (hc, .inr (12, [v13_0, v13_1, v13_2, v13_3, v13_4, .ref la, v13_6]))] ++ va_pl L (pE P)) sz) := by
  refine Met.ofW (cc := cX14_liveAt) (maxL := 4) (ret := (some .int)) (by decide) rfl ?_
  intro p e s m args below meth c s₁ B hml hv
  obtain ⟨rfl, hsz, hP, hK, hD0⟩ := hv
  have hx := B.exec
  have hb := B.bytes
  have hr := B.returns
  have hts := atoms_spec (ws := v_P14_liveAt) B.pre
  have hown : s.vm.findClass RX14 = some m.cls := findClass_of_methodNamed B.named
  have hlocks := B.notSynchronized
  have ow : ∀ {k : Nat} {w : Cond}, o_P14_liveAt[k]? = some w → w.before ([.ref h0, .int (zI (b0))] : List Value).toArray s = true := fun h => hts _ (mow_P14_liveAt _ (List.mem_of_getElem? h))
  subst hsz
  have hD := hD0.self (sz := s.heap.size)
  generalize hAe : va_A ([(h0, .inr (13, [.ref hc, v14_1, v14_2, v14_3, v14_4, v14_5, v14_6, v14_7, v14_8, v14_9, .ref q_v, v14_11, v14_12])), (q_v, .inl (cV, nv, .inr (.inr (.inr (.inr fv))))), (hc, .inr (12, [v13_0, v13_1, v13_2, v13_3, v13_4, .ref la, v13_6]))] ++ va_pl L (pE P)) s.heap.size = A at hD ⊢
  have hA : ∀ q : Nat, s.heap.size ≤ q → A q := fun q h => by rw [← hAe]; exact Or.inr h
  have hS : va_S A s.heap s.heap [] := va_S.rf
  have hP : va_P (dC, dI) vwQ ([(h0, .inr (13, [.ref hc, v14_1, v14_2, v14_3, v14_4, v14_5, v14_6, v14_7, v14_8, v14_9, .ref q_v, v14_11, v14_12])), (q_v, .inl (cV, nv, .inr (.inr (.inr (.inr fv))))), (hc, .inr (12, [v13_0, v13_1, v13_2, v13_3, v13_4, .ref la, v13_6]))] ++ va_pl L (pE P)) s.heap := hP
  have hl := lv_entry ([.ref h0, .int (zI (b0))]) (n := 4) (Nat.le_of_ble_eq_true rfl)
  rw [lg_entry_eq]
  generalize (lg_sl ([.ref h0, .int (zI (b0))]) ++ List.replicate (4 - (lg_sl ([.ref h0, .int (zI (b0))])).length) Slot.unset).toArray = ls at hl ⊢
  have hl : lv_has ls 4 [(0, .ref h0), (1, .int (zI (b0)))] := hl
  obtain ⟨H, hH⟩ : ∃ H, H = s.heap := ⟨_, rfl⟩
  rw [← hH] at hP
  have hS : va_S A s.heap H [] := by rw [hH]; exact hS
  rw [← hH]
  refine zW_cap (fun Q hQ => ?_)
  have hX_a9 := hX_a
  have hla := hX_a.lok.2.2.1
  have hla2 := hX_a.1.1.2.1
  refine lv_iconst (v := 0) hx hb dX14_liveAt_0 (by decide) ?_
  refine lv_istore_n (lv' := [(2, .int 0), (0, .ref h0), (1, .int (zI (b0)))]) hx hb dX14_liveAt_1 rfl hl (by decide) rfl (fun ls hl => ?_)
  refine lv_iconst (v := 0) hx hb dX14_liveAt_2 (by decide) ?_
  refine lv_istore_n (lv' := [(3, .int 0), (2, .int 0), (0, .ref h0), (1, .int (zI (b0)))]) hx hb dX14_liveAt_3 rfl hl (by decide) rfl (fun ls hl => ?_)
  have key4 : ∀ n4 : Nat, ∀ (d4_3 : Int) (d4_2 : Int) (ls : Array Slot) (H : Heap) (locs : List Loc), (0 ≤ d4_3 ∧ d4_3 ≤ 1002) → (0 ≤ d4_2 ∧ d4_2 ≤ d4_3) → ((1002 - d4_3 : Int).toNat) < n4 → lv_has ls 4 [(0, .ref h0), (1, .int (zI (b0))), (2, .int (zI (d4_2))), (3, .int (zI (d4_3)))] → va_P (dC, dI) vwQ ([(h0, .inr (13, [.ref hc, v14_1, v14_2, v14_3, v14_4, v14_5, v14_6, v14_7, v14_8, v14_9, .ref q_v, v14_11, v14_12])), (q_v, .inl (cV, nv, .inr (.inr (.inr (.inr fv))))), (hc, .inr (12, [v13_0, v13_1, v13_2, v13_3, v13_4, .ref la, v13_6]))] ++ va_pl L (pE P)) H → va_D A ([(h0, .inr (13, [.ref hc, v14_1, v14_2, v14_3, v14_4, v14_5, v14_6, v14_7, v14_8, v14_9, .ref q_v, v14_11, v14_12])), (q_v, .inl (cV, nv, .inr (.inr (.inr (.inr fv))))), (hc, .inr (12, [v13_0, v13_1, v13_2, v13_3, v13_4, .ref la, v13_6]))] ++ va_pl L (pE P)) → va_S A s.heap H locs → W p l e (headSpec v_P14_liveAt ({ frames := 0, cells := 0, slots := 0, locals := 0 })).room s m ([.ref h0, .int (zI (b0))] : List Value).toArray below meth c H locs 0 0 Q (F0 m 4 ls []) := by
    intro n4
    induction n4 with
    | zero => intro d4_3 d4_2 ls H locs jd4_3 jd4_2 hm4; exact absurd hm4 (by omega)
    | succ n4 ih4 =>
      intro d4_3 d4_2 ls H locs jd4_3 jd4_2 hm4 hl hP hD hS
      skip
      refine lv_iload_n hx hb dX14_liveAt_4 rfl (lv_at hl 3 rfl) ?_
      refine lv_sipush (v := 1001) hx hb dX14_liveAt_5 (by decide) ?_
      refine lv_icmp_gt (tgt := 36) hx hb dX14_liveAt_8 (by decide) (fun b8 => ?_) (fun b8 => ?_)
      · have yb8 : (1001 : Int) < (d4_3 : Int) := (zI_lt (a := 1001) (b := d4_3) (by omega) (by omega) (by omega) (by omega)).mp b8
        refine lv_iload_n hx hb dX14_liveAt_36 rfl (lv_at hl 2 rfl) ?_
        subst hQ
        refine W.widen (k := 0) (n := 0) (Nat.le_of_ble_eq_true rfl) (Nat.le_of_ble_eq_true rfl) ?_
        exact W.iret (v := (zI (d4_2))) hx hb hr (fun t ht hW => ⟨⟨(zI (d4_2)), (), rfl, ⟨d4_2, rfl, by omega⟩, by rw [ht]; exact hP, va_K.moved hW.alike hK, hD⟩, hS.F ht⟩) hS.2.2 dX14_liveAt_37
      · have yb8 : ¬ (1001 : Int) < (d4_3 : Int) := fun q => b8 ((zI_lt (a := 1001) (b := d4_3) (by omega) (by omega) (by omega) (by omega)).mpr q)
        refine lv_iload_n hx hb dX14_liveAt_11 rfl (lv_at hl 2 rfl) ?_
        refine lv_aload_n hx hb dX14_liveAt_12 rfl (lv_at hl 0 rfl) ?_
        refine va_get (D := (dC, dI)) (ci := 13) (v := .ref q_v) (C := RX14) (T := TX14) (N := 13) hx hb hts mem_P14_liveAt_0 hown hK hP 0 rfl rfl 10 (by decide) (ow (k := 0) rfl) (fun _ h9 => h9) rfl dX14_liveAt_13 ?_
        refine lv_iload_n hx hb dX14_liveAt_16 rfl (lv_at hl 1 rfl) ?_
        obtain ⟨yt_1, heyt_1, hmyt_1, hnyt_1, hiyt_1⟩ := hX_T (b0) (by omega) (by omega)
        refine va_aldr hx hb hK hP 1 0 rfl rfl (zI_in (a := b0) (n := nv) (by omega) (by omega) (by omega)) dX14_liveAt_17 ?_
        rw [show va_rf (fv (zI (b0)).toNatClampNeg) = .ref yt_1 from (by rw [zI_cl (by omega) (by omega), heyt_1]; rfl)]
        refine lv_iload_n hx hb dX14_liveAt_18 rfl (lv_at hl 3 rfl) ?_
        obtain ⟨kp_2, hkp_2⟩ := va_pl_get (X := [(h0, .inr (13, [.ref hc, v14_1, v14_2, v14_3, v14_4, v14_5, v14_6, v14_7, v14_8, v14_9, .ref q_v, v14_11, v14_12])), (q_v, .inl (cV, nv, .inr (.inr (.inr (.inr fv))))), (hc, .inr (12, [v13_0, v13_1, v13_2, v13_3, v13_4, .ref la, v13_6]))]) (f := pE P) hmyt_1.1
        rw [pE_n43 hmyt_1.2.1, hmyt_1.2.2] at hkp_2
        refine va_zald hx hb hK hP kp_2 3 hkp_2 rfl (zI_in (a := d4_3) (n := P.an yt_1) (by omega) (by omega) (by omega)) dX14_liveAt_19 ?_
        refine lv_topi (fun z ez => ?_)
        obtain rfl : z = zI (P.ia yt_1 (d4_3)) := ez.trans (zI_ld (P.ia yt_1) (by omega) (by omega))
        have := hiyt_1 (d4_3)
        refine lv_if_eq (tgt := 27) hx hb dX14_liveAt_20 (by decide) (fun b20 => ?_) (fun b20 => ?_)
        · have yb20 : (P.ia yt_1 (d4_3) : Int) = (0 : Int) := (zI_eq (a := P.ia yt_1 (d4_3)) (b := 0) (by omega) (by omega) (by omega) (by omega)).mp b20
          refine lv_iconst (v := 0) hx hb dX14_liveAt_27 (by decide) ?_
          refine lv_iadd hx hb dX14_liveAt_28 ?_
          refine lv_topi (fun z ez => ?_)
          obtain rfl : z = zI (d4_2 + 0) := ez.trans (zI_add (d4_2) (0))
          refine lv_istore_n (lv' := [(2, .int (zI (d4_2 + 0))), (0, .ref h0), (1, .int (zI (b0))), (3, .int (zI (d4_3)))]) hx hb dX14_liveAt_29 rfl hl (by decide) rfl (fun ls hl => ?_)
          refine lv_iinc (v := zI (d4_3 + 1)) (lv' := [(3, .int (zI (d4_3 + 1))), (2, .int (zI (d4_2 + 0))), (0, .ref h0), (1, .int (zI (b0)))]) hx hb dX14_liveAt_30 hl (k := 3) rfl (zI_add (d4_3) (1)) (by decide) rfl (fun ls hl => ?_)
          refine lv_goto (tgt := 4) hx hb dX14_liveAt_33 (by decide) ?_
          exact ih4 (d4_3 + 1) (d4_2 + 0) ls H _ (by omega) (by omega) (by omega) (lv_sub hl [2, 3, 1, 0] rfl) hP hD hS
        · have yb20 : ¬ (P.ia yt_1 (d4_3) : Int) = (0 : Int) := fun q => b20 ((zI_eq (a := P.ia yt_1 (d4_3)) (b := 0) (by omega) (by omega) (by omega) (by omega)).mpr q)
          refine lv_iconst (v := 1) hx hb dX14_liveAt_23 (by decide) ?_
          refine lv_goto (tgt := 28) hx hb dX14_liveAt_24 (by decide) ?_
          refine lv_iadd hx hb dX14_liveAt_28 ?_
          refine lv_topi (fun z ez => ?_)
          obtain rfl : z = zI (d4_2 + 1) := ez.trans (zI_add (d4_2) (1))
          refine lv_istore_n (lv' := [(2, .int (zI (d4_2 + 1))), (0, .ref h0), (1, .int (zI (b0))), (3, .int (zI (d4_3)))]) hx hb dX14_liveAt_29 rfl hl (by decide) rfl (fun ls hl => ?_)
          refine lv_iinc (v := zI (d4_3 + 1)) (lv' := [(3, .int (zI (d4_3 + 1))), (2, .int (zI (d4_2 + 1))), (0, .ref h0), (1, .int (zI (b0)))]) hx hb dX14_liveAt_30 hl (k := 3) rfl (zI_add (d4_3) (1)) (by decide) rfl (fun ls hl => ?_)
          refine lv_goto (tgt := 4) hx hb dX14_liveAt_33 (by decide) ?_
          exact ih4 (d4_3 + 1) (d4_2 + 1) ls H _ (by omega) (by omega) (by omega) (lv_sub hl [2, 3, 1, 0] rfl) hP hD hS
  exact key4 ((1002 - 0 : Int).toNat + 1) 0 0 ls H _ (by omega) (by omega) (by omega) (lv_sub hl [2, 3, 1, 0] rfl) hP hD hS
