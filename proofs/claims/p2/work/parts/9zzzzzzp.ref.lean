theorem dX14_isPred_0 : decode cX14_isPred 0 = .ok (.aload_n 0, 1) := by decide +kernel
theorem dX14_isPred_1 : decode cX14_isPred 1 = .ok (.getfield 45, 3) := by decide +kernel
theorem dX14_isPred_4 : decode cX14_isPred 4 = .ok (.iload_n 1, 1) := by decide +kernel
theorem dX14_isPred_5 : decode cX14_isPred 5 = .ok (.invokevirtual 75, 3) := by decide +kernel
theorem dX14_isPred_8 : decode cX14_isPred 8 = .ok (.astore_n 3, 1) := by decide +kernel
theorem dX14_isPred_9 : decode cX14_isPred 9 = .ok (.iconst 0, 1) := by decide +kernel
theorem dX14_isPred_10 : decode cX14_isPred 10 = .ok (.istore 4, 2) := by decide +kernel
theorem dX14_isPred_12 : decode cX14_isPred 12 = .ok (.iload 4, 2) := by decide +kernel
theorem dX14_isPred_14 : decode cX14_isPred 14 = .ok (.aload_n 3, 1) := by decide +kernel
theorem dX14_isPred_15 : decode cX14_isPred 15 = .ok (.invokevirtual 79, 3) := by decide +kernel
theorem dX14_isPred_18 : decode cX14_isPred 18 = .ok (.if_icmp .ge 21, 3) := by decide +kernel
theorem dX14_isPred_39 : decode cX14_isPred 39 = .ok (.iconst 0, 1) := by decide +kernel
theorem dX14_isPred_40 : decode cX14_isPred 40 = .ok (.ireturn, 1) := by decide +kernel
theorem dX14_isPred_21 : decode cX14_isPred 21 = .ok (.aload_n 3, 1) := by decide +kernel
theorem dX14_isPred_22 : decode cX14_isPred 22 = .ok (.iload 4, 2) := by decide +kernel
theorem dX14_isPred_24 : decode cX14_isPred 24 = .ok (.invokevirtual 84, 3) := by decide +kernel
theorem dX14_isPred_27 : decode cX14_isPred 27 = .ok (.iload_n 2, 1) := by decide +kernel
theorem dX14_isPred_28 : decode cX14_isPred 28 = .ok (.if_icmp .ne 5, 3) := by decide +kernel
theorem dX14_isPred_33 : decode cX14_isPred 33 = .ok (.iinc 4 1, 3) := by decide +kernel
theorem dX14_isPred_36 : decode cX14_isPred 36 = .ok (.goto (-24), 3) := by decide +kernel
theorem dX14_isPred_31 : decode cX14_isPred 31 = .ok (.iconst 1, 1) := by decide +kernel
theorem dX14_isPred_32 : decode cX14_isPred 32 = .ok (.ireturn, 1) := by decide +kernel
def o_P14_isPred : List Cond := [.fieldLink RX14 45 "SsaForgeModel$Flow" "c" "LSsaForgeModel$Code;", .methodLink RX14 75 yX13_get, .instanceMethod yX13_get, .selects RX13 yX13_get yX13_get, .initialized RX13, .methodLink RX14 79 yX12_ways, .instanceMethod yX12_ways, .selects RX12 yX12_ways yX12_ways, .initialized RX12, .methodLink RX14 84 yX12_way, .instanceMethod yX12_way, .selects RX12 yX12_way yX12_way]
def v_P14_isPred : List Cond := .code yX14_isPred cX14_isPred 5 (some .boolean) :: (o_P14_isPred ++ (wsX140 ++ (v_PC_get ++ (v_PB_ways ++ (v_PB_way ++ [])))))
theorem mow_P14_isPred : ∀ w ∈ o_P14_isPred, w ∈ v_P14_isPred := fun _ h => List.mem_cons_of_mem _ (List.mem_append_left _ h)
theorem mem_P14_isPred_0 : ∀ w ∈ wsX140, w ∈ v_P14_isPred := fun _ h => List.mem_cons_of_mem _ (List.mem_append_right _ (List.mem_append_left _ h))
theorem mem_P14_isPred_1 : ∀ w ∈ v_PC_get, w ∈ v_P14_isPred := fun _ h => List.mem_cons_of_mem _ (List.mem_append_right _ (List.mem_append_right _ (List.mem_append_left _ h)))
theorem mem_P14_isPred_2 : ∀ w ∈ v_PB_ways, w ∈ v_P14_isPred := fun _ h => List.mem_cons_of_mem _ (List.mem_append_right _ (List.mem_append_right _ (List.mem_append_right _ (List.mem_append_left _ h))))
theorem mem_P14_isPred_3 : ∀ w ∈ v_PB_way, w ∈ v_P14_isPred := fun _ h => List.mem_cons_of_mem _ (List.mem_append_right _ (List.mem_append_right _ (List.mem_append_right _ (List.mem_append_right _ (List.mem_append_left _ h)))))
set_option maxRecDepth 20000 in
theorem gw_P14_isPred : v_P14_isPred.all goodWord = true := by decide +kernel
set_option maxRecDepth 20000 in
theorem g_P14_isPred_PC_get : GoodIn v_P14_isPred (wsV RX14 75 RX13 yX13_get v_PC_get) := goodIn_app (goodIn_sub (fun w h => mow_P14_isPred w (by revert w h; decide +kernel)) (by decide +kernel)) (goodIn_sub mem_P14_isPred_1 gw_PC_get)
set_option maxRecDepth 20000 in
theorem g_P14_isPred_PB_ways : GoodIn v_P14_isPred (wsV RX14 79 RX12 yX12_ways v_PB_ways) := goodIn_app (goodIn_sub (fun w h => mow_P14_isPred w (by revert w h; decide +kernel)) (by decide +kernel)) (goodIn_sub mem_P14_isPred_2 gw_PB_ways)
set_option maxRecDepth 20000 in
theorem g_P14_isPred_PB_way : GoodIn v_P14_isPred (wsV RX14 84 RX12 yX12_way v_PB_way) := goodIn_app (goodIn_sub (fun w h => mow_P14_isPred w (by revert w h; decide +kernel)) (by decide +kernel)) (goodIn_sub mem_P14_isPred_3 gw_PB_way)
set_option maxHeartbeats 4000000 in
set_option maxRecDepth 100000 in
theorem c_P14_isPred (l : Launch) (dC : Nat → ClassId) (dI : Nat → Nat → Nat) (h0 : Nat) (v14_1 : Value) (v14_2 : Value) (v14_3 : Value) (v14_4 : Value) (v14_5 : Value) (v14_6 : Value) (v14_7 : Value) (v14_8 : Value) (v14_9 : Value) (v14_10 : Value) (v14_11 : Value) (v14_12 : Value) (hc : Nat) (v13_0 : Value) (v13_1 : Value) (v13_2 : Value) (v13_3 : Value) (v13_4 : Value) (v13_6 : Value) (la : Nat) (cO : ClassId) (L : List Nat) (P : PO) (p0 : Int) (b0 : Int) (hX_c : CDK L P cO la) (hNp : 0 ≤ p0 ∧ p0 < P.lz la ∧ 0 ≤ b0 ∧ b0 ≤ 300) (sz : Nat) : Met l yX14_isPred v_P14_isPred ({ frames := 4, cells := 0, slots := 0, locals := 85 }) (va_Pc [.ref h0, .int (zI (p0)), .int (zI (b0))] (fun U => U.heap.size = sz ∧ va_P (dC, dI) vwQ ([(h0, .inr (13, [.ref hc, v14_1, v14_2, v14_3, v14_4, v14_5, v14_6, v14_7, v14_8, v14_9, v14_10, v14_11, v14_12])), (hc, .inr (12, [v13_0, v13_1, v13_2, v13_3, v13_4, .ref la, v13_6]))] ++ va_pl L (pE P)) U.heap ∧ va_K (dC, dI) vwQ [(cO, .object "java/lang/Object")] U ∧ va_D (fun _ => True) ([(h0, .inr (13, [.ref hc, v14_1, v14_2, v14_3, v14_4, v14_5, v14_6, v14_7, v14_8, v14_9, v14_10, v14_11, v14_12])), (hc, .inr (12, [v13_0, v13_1, v13_2, v13_3, v13_4, .ref la, v13_6]))] ++ va_pl L (pE P)) ∧ va_Nw (.castable "SsaForgeModel$Block" "SsaForgeModel$Block") U)) (va_Qi (fun (r : Int32) (_ : Unit) => ∃ z : Int, r = zI z ∧ (0 ≤ z ∧ z ≤ 1)) (fun (_ : Unit) (t : State) => va_P (dC, dI) vwQ ([(h0, .inr (13, [.ref hc, v14_1, v14_2, v14_3, v14_4, v14_5, v14_6, v14_7, v14_8, v14_9, v14_10, v14_11, v14_12])), (hc, .inr (12, [v13_0, v13_1, v13_2, v13_3, v13_4, .ref la, v13_6]))] ++ va_pl L (pE P)) t.heap ∧ va_K (dC, dI) vwQ [(cO, .object "java/lang/Object")] t ∧ va_D (va_A ([(h0, .inr (13, [.ref hc, v14_1, v14_2, v14_3, v14_4, v14_5, v14_6, v14_7, v14_8, v14_9, v14_10, v14_11, v14_12])), (hc, .inr (12, [v13_0, v13_1, v13_2, v13_3, v13_4, .ref la, v13_6]))] ++ va_pl L (pE P)) sz) ([(h0, .inr (13, [.ref hc, v14_1, v14_2, v14_3, v14_4, v14_5, v14_6, v14_7, v14_8, v14_9, v14_10, v14_11, v14_12])), (hc, .inr (12, [v13_0, v13_1, v13_2, v13_3, v13_4, .ref la, v13_6]))] ++ va_pl L (pE P))) (va_A ([(h0, .inr (13, [.ref hc, v14_1, v14_2, v14_3, v14_4, v14_5, v14_6, v14_7, v14_8, v14_9, v14_10, v14_11, v14_12])), (hc, .inr (12, [v13_0, v13_1, v13_2, v13_3, v13_4, .ref la, v13_6]))] ++ va_pl L (pE P)) sz)) 0 0 (va_A ([(h0, .inr (13, [.ref hc, v14_1, v14_2, v14_3, v14_4, v14_5, v14_6, v14_7, v14_8, v14_9, v14_10, v14_11, v14_12])), (hc, .inr (12, [v13_0, v13_1, v13_2, v13_3, v13_4, .ref la, v13_6]))] ++ va_pl L (pE P)) sz) := by
  refine Met.ofW (cc := cX14_isPred) (maxL := 5) (ret := (some .boolean)) (by decide) rfl ?_
  intro p e s m args below meth c s₁ B hml hv
  obtain ⟨rfl, hsz, hP, hK, hD0, hp0⟩ := hv
  have hx := B.exec
  have hb := B.bytes
  have hr := B.returns
  have hts := atoms_spec (ws := v_P14_isPred) B.pre
  have hown : s.vm.findClass RX14 = some m.cls := findClass_of_methodNamed B.named
  have hlocks := B.notSynchronized
  have ow : ∀ {k : Nat} {w : Cond}, o_P14_isPred[k]? = some w → w.before ([.ref h0, .int (zI (p0)), .int (zI (b0))] : List Value).toArray s = true := fun h => hts _ (mow_P14_isPred _ (List.mem_of_getElem? h))
  subst hsz
  have hD := hD0.self (sz := s.heap.size)
  generalize hAe : va_A ([(h0, .inr (13, [.ref hc, v14_1, v14_2, v14_3, v14_4, v14_5, v14_6, v14_7, v14_8, v14_9, v14_10, v14_11, v14_12])), (hc, .inr (12, [v13_0, v13_1, v13_2, v13_3, v13_4, .ref la, v13_6]))] ++ va_pl L (pE P)) s.heap.size = A at hD ⊢
  have hA : ∀ q : Nat, s.heap.size ≤ q → A q := fun q h => by rw [← hAe]; exact Or.inr h
  have hS : va_S A s.heap s.heap [] := va_S.rf
  have hP : va_P (dC, dI) vwQ ([(h0, .inr (13, [.ref hc, v14_1, v14_2, v14_3, v14_4, v14_5, v14_6, v14_7, v14_8, v14_9, v14_10, v14_11, v14_12])), (hc, .inr (12, [v13_0, v13_1, v13_2, v13_3, v13_4, .ref la, v13_6]))] ++ va_pl L (pE P)) s.heap := hP
  have hl := lv_entry ([.ref h0, .int (zI (p0)), .int (zI (b0))]) (n := 5) (Nat.le_of_ble_eq_true rfl)
  rw [lg_entry_eq]
  generalize (lg_sl ([.ref h0, .int (zI (p0)), .int (zI (b0))]) ++ List.replicate (5 - (lg_sl ([.ref h0, .int (zI (p0)), .int (zI (b0))])).length) Slot.unset).toArray = ls at hl ⊢
  have hl : lv_has ls 5 [(0, .ref h0), (1, .int (zI (p0))), (2, .int (zI (b0)))] := hl
  obtain ⟨H, hH⟩ : ∃ H, H = s.heap := ⟨_, rfl⟩
  rw [← hH] at hP
  have hS : va_S A s.heap H [] := by rw [hH]; exact hS
  rw [← hH]
  refine zW_cap (fun Q hQ => ?_)
  have hX_l := hX_c.1
  have hla := hX_c.1.2.2.1
  have hla2 := hX_c.2.1
  have hX_ro := hX_c.2.2.2
  refine lv_aload_n hx hb dX14_isPred_0 rfl (lv_at hl 0 rfl) ?_
  refine va_get (D := (dC, dI)) (ci := 13) (v := .ref hc) (C := RX14) (T := TX14) (N := 13) hx hb hts mem_P14_isPred_0 hown hK hP 0 rfl rfl 0 (by decide) (ow (k := 0) rfl) (fun _ h9 => h9) rfl dX14_isPred_1 ?_
  refine lv_iload_n hx hb dX14_isPred_4 rfl (lv_at hl 1 rfl) ?_
  obtain ⟨x, ex⟩ : ∃ q9 : Nat, q9 = P.el la (p0) := ⟨_, rfl⟩
  have hX_el := ex
  have hxB : BOK L P cO (P.lz la) x := (by rw [ex]; exact hX_c.2.2.1 (p0) (by omega) (by omega))
  have hfb := hxB.2.2.2.2
  obtain ⟨nb, enb⟩ : ∃ q9 : Int, q9 = P.lz la := ⟨_, rfl⟩
  have hX_B : BOK L P cO nb x := (by rw [enb]; exact hxB)
  obtain ⟨xb, exb⟩ : ∃ q9 : Nat, q9 = x := ⟨_, rfl⟩
  have hPc := hP.part (X := [(h0, .inr (13, [.ref hc, v14_1, v14_2, v14_3, v14_4, v14_5, v14_6, v14_7, v14_8, v14_9, v14_10, v14_11, v14_12])), (hc, .inr (12, [v13_0, v13_1, v13_2, v13_3, v13_4, .ref la, v13_6]))]) (cx := [(hc, .inr (12, [v13_0, v13_1, v13_2, v13_3, v13_4, .ref la, v13_6]))]) (pl := va_pl L (pE P)) [1] rfl
  have hDc := hD.part (X := [(h0, .inr (13, [.ref hc, v14_1, v14_2, v14_3, v14_4, v14_5, v14_6, v14_7, v14_8, v14_9, v14_10, v14_11, v14_12])), (hc, .inr (12, [v13_0, v13_1, v13_2, v13_3, v13_4, .ref la, v13_6]))]) (cx := [(hc, .inr (12, [v13_0, v13_1, v13_2, v13_3, v13_4, .ref la, v13_6]))]) (pl := va_pl L (pE P)) [1] (by decide) rfl
  have hKc := hK.sub (tys' := [(cO, .object "java/lang/Object")]) [0] rfl
  have hFc := va_freeP (X := [(h0, .inr (13, [.ref hc, v14_1, v14_2, v14_3, v14_4, v14_5, v14_6, v14_7, v14_8, v14_9, v14_10, v14_11, v14_12])), (hc, .inr (12, [v13_0, v13_1, v13_2, v13_3, v13_4, .ref la, v13_6]))]) (cx := [(hc, .inr (12, [v13_0, v13_1, v13_2, v13_3, v13_4, .ref la, v13_6]))]) (pl := va_pl L (pE P)) hD hS hA [1] rfl
  refine va_callr (va_runV (As := [.int (zI (p0))]) (rest := []) ⟨hx, hb, hml, hown, hts⟩ (c_PC_get l dC dI hc v13_0 v13_1 v13_2 v13_3 v13_4 v13_6 la cO L P p0 x hX_l (by omega) hX_el H.size) (cwV 1 hts g_P14_isPred_PC_get rfl rfl rfl (by decide +kernel) ⟨(Nat.le_of_ble_eq_true rfl), (Nat.le_of_ble_eq_true rfl)⟩) ⟨fun a U g mk q => by obtain ⟨q0, q1, qP, qK, qD, e0⟩ := q; exact ⟨q0, q1, qP, va_K.moved (u := U) (U := U.calling g mk a) (Vm.Alike.refl U.vm) qK, qD, va_Nw.same rfl (u := U) (U := U.calling g mk a) rfl e0⟩, va_recv hKc hPc (ci := 12) (q0 := 0) rfl rfl, fun U hU hW => ⟨rfl, by rw [hU], by rw [hU]; exact hPc, va_K.moved hW.alike hKc, hDc.weaken (fun _ _ _ _ => trivial), va_Nw.warmC hW hp0⟩⟩ rfl rfl hl.1 rfl (lv_room (Nat.le_of_ble_eq_true rfl)) dX14_isPred_5 ⟨(Nat.le_of_ble_eq_true rfl), (Nat.le_of_ble_eq_true rfl)⟩) hS (fun q _ h => hFc q h) hFc (fun u q_1 t H1 locs ht hvm hw hB hz1 hk1 hS => ?_)
  obtain ⟨hxt_1, hP1, hK1, hD1⟩ := hB
  rw [ht] at hP1
  have hK1 := va_K.moved hvm.symm hK1
  obtain ⟨hP, hD⟩ := va_joinP (X := [(h0, .inr (13, [.ref hc, v14_1, v14_2, v14_3, v14_4, v14_5, v14_6, v14_7, v14_8, v14_9, v14_10, v14_11, v14_12])), (hc, .inr (12, [v13_0, v13_1, v13_2, v13_3, v13_4, .ref la, v13_6]))]) (cx := [(hc, .inr (12, [v13_0, v13_1, v13_2, v13_3, v13_4, .ref la, v13_6]))]) (wr := [(h0, .inr (13, [.ref hc, v14_1, v14_2, v14_3, v14_4, v14_5, v14_6, v14_7, v14_8, v14_9, v14_10, v14_11, v14_12]))]) (rx := [(hc, .inr (12, [v13_0, v13_1, v13_2, v13_3, v13_4, .ref la, v13_6]))]) (pl := va_pl L (pE P)) (pl1 := va_pl L (pE P)) hP hD [1] [0] rfl rfl (by decide) (by decide) hk1 hFc hP1 hD1
  have hK := (hK.sub (tys' := []) [] rfl).app hK1
  generalize H1 = H at hP hS ⊢
  have hP : va_P (dC, dI) vwQ ([(h0, .inr (13, [.ref hc, v14_1, v14_2, v14_3, v14_4, v14_5, v14_6, v14_7, v14_8, v14_9, v14_10, v14_11, v14_12])), (hc, .inr (12, [v13_0, v13_1, v13_2, v13_3, v13_4, .ref la, v13_6]))] ++ va_pl L (pE P)) H := hP
  have hD : va_D A ([(h0, .inr (13, [.ref hc, v14_1, v14_2, v14_3, v14_4, v14_5, v14_6, v14_7, v14_8, v14_9, v14_10, v14_11, v14_12])), (hc, .inr (12, [v13_0, v13_1, v13_2, v13_3, v13_4, .ref la, v13_6]))] ++ va_pl L (pE P)) := hD
  have hK : va_K (dC, dI) vwQ [(cO, .object "java/lang/Object")] s := hK
  refine W.widen (k := 0) (n := 0) (Nat.le_of_ble_eq_true rfl) (Nat.le_of_ble_eq_true rfl) ?_
  rw [hxt_1]
  refine lv_astore_n (lv' := [(3, .ref x), (0, .ref h0), (1, .int (zI (p0))), (2, .int (zI (b0)))]) hx hb dX14_isPred_8 rfl hl (by decide) rfl (fun ls hl => ?_)
  refine lv_iconst (v := 0) hx hb dX14_isPred_9 (by decide) ?_
  refine lv_istore (lv' := [(4, .int 0), (3, .ref x), (0, .ref h0), (1, .int (zI (p0))), (2, .int (zI (b0)))]) hx hb dX14_isPred_10 hl (by decide) rfl (fun ls hl => ?_)
  have key12 : ∀ n12 : Nat, ∀ (d12_4 : Int) (ls : Array Slot) (H : Heap) (locs : List Loc), (0 ≤ d12_4 ∧ d12_4 ≤ 2) → ((10 - d12_4 : Int).toNat) < n12 → lv_has ls 5 [(0, .ref h0), (1, .int (zI (p0))), (2, .int (zI (b0))), (3, .ref x), (4, .int (zI (d12_4)))] → va_P (dC, dI) vwQ ([(h0, .inr (13, [.ref hc, v14_1, v14_2, v14_3, v14_4, v14_5, v14_6, v14_7, v14_8, v14_9, v14_10, v14_11, v14_12])), (hc, .inr (12, [v13_0, v13_1, v13_2, v13_3, v13_4, .ref la, v13_6]))] ++ va_pl L (pE P)) H → va_D A ([(h0, .inr (13, [.ref hc, v14_1, v14_2, v14_3, v14_4, v14_5, v14_6, v14_7, v14_8, v14_9, v14_10, v14_11, v14_12])), (hc, .inr (12, [v13_0, v13_1, v13_2, v13_3, v13_4, .ref la, v13_6]))] ++ va_pl L (pE P)) → va_S A s.heap H locs → W p l e (headSpec v_P14_isPred ({ frames := 4, cells := 0, slots := 0, locals := 85 })).room s m ([.ref h0, .int (zI (p0)), .int (zI (b0))] : List Value).toArray below meth c H locs 0 0 Q (F0 m 12 ls []) := by
    intro n12
    induction n12 with
    | zero => intro d12_4 ls H locs jd12_4 hm12; exact absurd hm12 (by omega)
    | succ n12 ih12 =>
      intro d12_4 ls H locs jd12_4 hm12 hl hP hD hS
      refine lv_iload hx hb dX14_isPred_12 (lv_at hl 4 rfl) ?_
      refine lv_aload_n hx hb dX14_isPred_14 rfl (lv_at hl 3 rfl) ?_
      have hPc := hP.part (X := [(h0, .inr (13, [.ref hc, v14_1, v14_2, v14_3, v14_4, v14_5, v14_6, v14_7, v14_8, v14_9, v14_10, v14_11, v14_12])), (hc, .inr (12, [v13_0, v13_1, v13_2, v13_3, v13_4, .ref la, v13_6]))]) (cx := []) (pl := va_pl L (pE P)) [] rfl
      have hDc := hD.part (X := [(h0, .inr (13, [.ref hc, v14_1, v14_2, v14_3, v14_4, v14_5, v14_6, v14_7, v14_8, v14_9, v14_10, v14_11, v14_12])), (hc, .inr (12, [v13_0, v13_1, v13_2, v13_3, v13_4, .ref la, v13_6]))]) (cx := []) (pl := va_pl L (pE P)) [] (by decide) rfl
      have hKc := hK.sub (tys' := [(cO, .object "java/lang/Object")]) [0] rfl
      have hFc := va_freeP (X := [(h0, .inr (13, [.ref hc, v14_1, v14_2, v14_3, v14_4, v14_5, v14_6, v14_7, v14_8, v14_9, v14_10, v14_11, v14_12])), (hc, .inr (12, [v13_0, v13_1, v13_2, v13_3, v13_4, .ref la, v13_6]))]) (cx := []) (pl := va_pl L (pE P)) hD hS hA [] rfl
      refine va_calli (va_runV (As := []) (rest := [.int (zI (d12_4))]) ⟨hx, hb, hml, hown, hts⟩ (c_PB_ways l dC dI cO L P x nb hX_B hX_ro (by omega) H.size) (cwV 0 hts g_P14_isPred_PB_ways rfl rfl rfl (by decide +kernel) ⟨(Nat.le_of_ble_eq_true rfl), (Nat.le_of_ble_eq_true rfl)⟩) ⟨fun a U g mk q => by obtain ⟨q0, q1, qP, qK, qD⟩ := q; exact ⟨q0, q1, qP, va_K.moved (u := U) (U := U.calling g mk a) (Vm.Alike.refl U.vm) qK, qD⟩, recv_12 hKc hPc hxB.1.1 hxB.1.2, fun U hU hW => ⟨rfl, by rw [hU], by rw [hU]; exact hPc, va_K.moved hW.alike hKc, hDc.weaken (fun _ _ _ _ => trivial)⟩⟩ rfl rfl hl.1 rfl (lv_room (Nat.le_of_ble_eq_true rfl)) dX14_isPred_15 ⟨(Nat.le_of_ble_eq_true rfl), (Nat.le_of_ble_eq_true rfl)⟩) hS (fun q _ h => hFc q h) hFc (fun r_2 u t H1 locs ht hvm hw hB hz1 hk1 hS => ?_)
      obtain ⟨hP1, hK1, hD1⟩ := hB
      rw [ht] at hP1
      have hK1 := va_K.moved hvm.symm hK1
      obtain ⟨hP, hD⟩ := va_joinP (X := [(h0, .inr (13, [.ref hc, v14_1, v14_2, v14_3, v14_4, v14_5, v14_6, v14_7, v14_8, v14_9, v14_10, v14_11, v14_12])), (hc, .inr (12, [v13_0, v13_1, v13_2, v13_3, v13_4, .ref la, v13_6]))]) (cx := []) (wr := [(h0, .inr (13, [.ref hc, v14_1, v14_2, v14_3, v14_4, v14_5, v14_6, v14_7, v14_8, v14_9, v14_10, v14_11, v14_12])), (hc, .inr (12, [v13_0, v13_1, v13_2, v13_3, v13_4, .ref la, v13_6]))]) (rx := []) (pl := va_pl L (pE P)) (pl1 := va_pl L (pE P)) hP hD [] [0, 1] rfl rfl (by decide) (by decide) hk1 hFc hP1 hD1
      have hK := (hK.sub (tys' := []) [] rfl).app hK1
      generalize H1 = H at hP hS ⊢
      have hP : va_P (dC, dI) vwQ ([(h0, .inr (13, [.ref hc, v14_1, v14_2, v14_3, v14_4, v14_5, v14_6, v14_7, v14_8, v14_9, v14_10, v14_11, v14_12])), (hc, .inr (12, [v13_0, v13_1, v13_2, v13_3, v13_4, .ref la, v13_6]))] ++ va_pl L (pE P)) H := hP
      have hD : va_D A ([(h0, .inr (13, [.ref hc, v14_1, v14_2, v14_3, v14_4, v14_5, v14_6, v14_7, v14_8, v14_9, v14_10, v14_11, v14_12])), (hc, .inr (12, [v13_0, v13_1, v13_2, v13_3, v13_4, .ref la, v13_6]))] ++ va_pl L (pE P)) := hD
      have hK : va_K (dC, dI) vwQ [(cO, .object "java/lang/Object")] s := hK
      refine W.widen (k := 0) (n := 0) (Nat.le_of_ble_eq_true rfl) (Nat.le_of_ble_eq_true rfl) ?_
      obtain rfl : r_2 = (zI (rWays (P.ro (P.be x)) (P.bf x) (P.bs x))) := hw
      have := rWays_spec (P.ro (P.be x)) (P.bf x) (P.bs x)
      refine lv_icmp_ge (tgt := 39) hx hb dX14_isPred_18 (by decide) (fun b18 => ?_) (fun b18 => ?_)
      · have yb18 : (rWays (P.ro (P.be x)) (P.bf x) (P.bs x) : Int) ≤ (d12_4 : Int) := (zI_le (a := rWays (P.ro (P.be x)) (P.bf x) (P.bs x)) (b := d12_4) (by omega) (by omega) (by omega) (by omega)).mp b18
        refine lv_iconst (v := 0) hx hb dX14_isPred_39 (by decide) ?_
        subst hQ
        refine W.widen (k := 0) (n := 0) (Nat.le_of_ble_eq_true rfl) (Nat.le_of_ble_eq_true rfl) ?_
        exact W.zret (v := 0) hx hb hr (by decide) (fun t ht hW => ⟨⟨0, (), rfl, ⟨0, rfl, by omega⟩, by rw [ht]; exact hP, va_K.moved hW.alike hK, hD⟩, hS.F ht⟩) hS.2.2 dX14_isPred_40
      · have yb18 : ¬ (rWays (P.ro (P.be x)) (P.bf x) (P.bs x) : Int) ≤ (d12_4 : Int) := fun q => b18 ((zI_le (a := rWays (P.ro (P.be x)) (P.bf x) (P.bs x)) (b := d12_4) (by omega) (by omega) (by omega) (by omega)).mpr q)
        refine lv_aload_n hx hb dX14_isPred_21 rfl (lv_at hl 3 rfl) ?_
        refine lv_iload hx hb dX14_isPred_22 (lv_at hl 4 rfl) ?_
        have hPc := hP.part (X := [(h0, .inr (13, [.ref hc, v14_1, v14_2, v14_3, v14_4, v14_5, v14_6, v14_7, v14_8, v14_9, v14_10, v14_11, v14_12])), (hc, .inr (12, [v13_0, v13_1, v13_2, v13_3, v13_4, .ref la, v13_6]))]) (cx := []) (pl := va_pl L (pE P)) [] rfl
        have hDc := hD.part (X := [(h0, .inr (13, [.ref hc, v14_1, v14_2, v14_3, v14_4, v14_5, v14_6, v14_7, v14_8, v14_9, v14_10, v14_11, v14_12])), (hc, .inr (12, [v13_0, v13_1, v13_2, v13_3, v13_4, .ref la, v13_6]))]) (cx := []) (pl := va_pl L (pE P)) [] (by decide) rfl
        have hKc := hK.sub (tys' := [(cO, .object "java/lang/Object")]) [0] rfl
        have hFc := va_freeP (X := [(h0, .inr (13, [.ref hc, v14_1, v14_2, v14_3, v14_4, v14_5, v14_6, v14_7, v14_8, v14_9, v14_10, v14_11, v14_12])), (hc, .inr (12, [v13_0, v13_1, v13_2, v13_3, v13_4, .ref la, v13_6]))]) (cx := []) (pl := va_pl L (pE P)) hD hS hA [] rfl
        refine va_calli (va_runV (As := [.int (zI (d12_4))]) (rest := []) ⟨hx, hb, hml, hown, hts⟩ (c_PB_way l dC dI cO L P x nb d12_4 hX_B (by omega) H.size) (cwV 1 hts g_P14_isPred_PB_way rfl rfl rfl (by decide +kernel) ⟨(Nat.le_of_ble_eq_true rfl), (Nat.le_of_ble_eq_true rfl)⟩) ⟨fun a U g mk q => by obtain ⟨q0, q1, qP, qK, qD⟩ := q; exact ⟨q0, q1, qP, va_K.moved (u := U) (U := U.calling g mk a) (Vm.Alike.refl U.vm) qK, qD⟩, recv_12 hKc hPc hxB.1.1 hxB.1.2, fun U hU hW => ⟨rfl, by rw [hU], by rw [hU]; exact hPc, va_K.moved hW.alike hKc, hDc.weaken (fun _ _ _ _ => trivial)⟩⟩ rfl rfl hl.1 rfl (lv_room (Nat.le_of_ble_eq_true rfl)) dX14_isPred_24 ⟨(Nat.le_of_ble_eq_true rfl), (Nat.le_of_ble_eq_true rfl)⟩) hS (fun q _ h => hFc q h) hFc (fun r_3 u t H1 locs ht hvm hw hB hz1 hk1 hS => ?_)
        obtain ⟨hP1, hK1, hD1⟩ := hB
        rw [ht] at hP1
        have hK1 := va_K.moved hvm.symm hK1
        obtain ⟨hP, hD⟩ := va_joinP (X := [(h0, .inr (13, [.ref hc, v14_1, v14_2, v14_3, v14_4, v14_5, v14_6, v14_7, v14_8, v14_9, v14_10, v14_11, v14_12])), (hc, .inr (12, [v13_0, v13_1, v13_2, v13_3, v13_4, .ref la, v13_6]))]) (cx := []) (wr := [(h0, .inr (13, [.ref hc, v14_1, v14_2, v14_3, v14_4, v14_5, v14_6, v14_7, v14_8, v14_9, v14_10, v14_11, v14_12])), (hc, .inr (12, [v13_0, v13_1, v13_2, v13_3, v13_4, .ref la, v13_6]))]) (rx := []) (pl := va_pl L (pE P)) (pl1 := va_pl L (pE P)) hP hD [] [0, 1] rfl rfl (by decide) (by decide) hk1 hFc hP1 hD1
        have hK := (hK.sub (tys' := []) [] rfl).app hK1
        generalize H1 = H at hP hS ⊢
        have hP : va_P (dC, dI) vwQ ([(h0, .inr (13, [.ref hc, v14_1, v14_2, v14_3, v14_4, v14_5, v14_6, v14_7, v14_8, v14_9, v14_10, v14_11, v14_12])), (hc, .inr (12, [v13_0, v13_1, v13_2, v13_3, v13_4, .ref la, v13_6]))] ++ va_pl L (pE P)) H := hP
        have hD : va_D A ([(h0, .inr (13, [.ref hc, v14_1, v14_2, v14_3, v14_4, v14_5, v14_6, v14_7, v14_8, v14_9, v14_10, v14_11, v14_12])), (hc, .inr (12, [v13_0, v13_1, v13_2, v13_3, v13_4, .ref la, v13_6]))] ++ va_pl L (pE P)) := hD
        have hK : va_K (dC, dI) vwQ [(cO, .object "java/lang/Object")] s := hK
        refine W.widen (k := 0) (n := 0) (Nat.le_of_ble_eq_true rfl) (Nat.le_of_ble_eq_true rfl) ?_
        obtain rfl : r_3 = (zI (rWay (P.bf x) (P.bs x) (d12_4))) := hw
        have := rWay_spec (P.bf x) (P.bs x) (d12_4)
        refine lv_iload_n hx hb dX14_isPred_27 rfl (lv_at hl 2 rfl) ?_
        refine lv_icmp_ne (tgt := 33) hx hb dX14_isPred_28 (by decide) (fun b28 => ?_) (fun b28 => ?_)
        · have yb28 : ¬ (rWay (P.bf x) (P.bs x) (d12_4) : Int) = (b0 : Int) := fun q => b28 ((zI_eq (a := rWay (P.bf x) (P.bs x) (d12_4)) (b := b0) (by omega) (by omega) (by omega) (by omega)).mpr q)
          refine lv_iinc (v := zI (d12_4 + 1)) (lv' := [(4, .int (zI (d12_4 + 1))), (0, .ref h0), (1, .int (zI (p0))), (2, .int (zI (b0))), (3, .ref x)]) hx hb dX14_isPred_33 hl (k := 4) rfl (zI_add (d12_4) (1)) (by decide) rfl (fun ls hl => ?_)
          refine lv_goto (tgt := 12) hx hb dX14_isPred_36 (by decide) ?_
          exact ih12 (d12_4 + 1) ls H _ (by omega) (by omega) (lv_sub hl [1, 2, 3, 4, 0] rfl) hP hD hS
        · have yb28 : (rWay (P.bf x) (P.bs x) (d12_4) : Int) = (b0 : Int) := (zI_eq (a := rWay (P.bf x) (P.bs x) (d12_4)) (b := b0) (by omega) (by omega) (by omega) (by omega)).mp b28
          refine lv_iconst (v := 1) hx hb dX14_isPred_31 (by decide) ?_
          subst hQ
          refine W.widen (k := 0) (n := 0) (Nat.le_of_ble_eq_true rfl) (Nat.le_of_ble_eq_true rfl) ?_
          exact W.zret (v := 1) hx hb hr (by decide) (fun t ht hW => ⟨⟨1, (), rfl, ⟨1, rfl, by omega⟩, by rw [ht]; exact hP, va_K.moved hW.alike hK, hD⟩, hS.F ht⟩) hS.2.2 dX14_isPred_32
  exact key12 ((10 - 0 : Int).toNat + 1) 0 ls H _ (by omega) (by omega) (lv_sub hl [2, 3, 4, 1, 0] rfl) hP hD hS
theorem dX14_preds_0 : decode cX14_preds 0 = .ok (.iconst 0, 1) := by decide +kernel
theorem dX14_preds_1 : decode cX14_preds 1 = .ok (.istore_n 2, 1) := by decide +kernel
theorem dX14_preds_2 : decode cX14_preds 2 = .ok (.iconst 0, 1) := by decide +kernel
theorem dX14_preds_3 : decode cX14_preds 3 = .ok (.istore_n 3, 1) := by decide +kernel
theorem dX14_preds_4 : decode cX14_preds 4 = .ok (.iload_n 3, 1) := by decide +kernel
theorem dX14_preds_5 : decode cX14_preds 5 = .ok (.aload_n 0, 1) := by decide +kernel
theorem dX14_preds_6 : decode cX14_preds 6 = .ok (.getfield 55, 3) := by decide +kernel
theorem dX14_preds_9 : decode cX14_preds 9 = .ok (.if_icmp .ge 26, 3) := by decide +kernel
theorem dX14_preds_35 : decode cX14_preds 35 = .ok (.iload_n 2, 1) := by decide +kernel
theorem dX14_preds_36 : decode cX14_preds 36 = .ok (.ireturn, 1) := by decide +kernel
theorem dX14_preds_12 : decode cX14_preds 12 = .ok (.iload_n 2, 1) := by decide +kernel
theorem dX14_preds_13 : decode cX14_preds 13 = .ok (.aload_n 0, 1) := by decide +kernel
theorem dX14_preds_14 : decode cX14_preds 14 = .ok (.iload_n 3, 1) := by decide +kernel
theorem dX14_preds_15 : decode cX14_preds 15 = .ok (.iload_n 1, 1) := by decide +kernel
theorem dX14_preds_16 : decode cX14_preds 16 = .ok (.invokevirtual 91, 3) := by decide +kernel
theorem dX14_preds_19 : decode cX14_preds 19 = .ok (.ifCond .eq 7, 3) := by decide +kernel
theorem dX14_preds_27 : decode cX14_preds 27 = .ok (.iadd, 1) := by decide +kernel
theorem dX14_preds_28 : decode cX14_preds 28 = .ok (.istore_n 2, 1) := by decide +kernel
theorem dX14_preds_29 : decode cX14_preds 29 = .ok (.iinc 3 1, 3) := by decide +kernel
theorem dX14_preds_32 : decode cX14_preds 32 = .ok (.goto (-28), 3) := by decide +kernel
theorem dX14_preds_26 : decode cX14_preds 26 = .ok (.iconst 0, 1) := by decide +kernel
theorem dX14_preds_22 : decode cX14_preds 22 = .ok (.iconst 1, 1) := by decide +kernel
theorem dX14_preds_23 : decode cX14_preds 23 = .ok (.goto 4, 3) := by decide +kernel
def o_P14_preds : List Cond := [.fieldLink RX14 55 "SsaForgeModel$Flow" "n" "I", .methodLink RX14 91 yX14_isPred, .instanceMethod yX14_isPred, .selects RX14 yX14_isPred yX14_isPred, .initialized RX14]
def v_P14_preds : List Cond := .code yX14_preds cX14_preds 4 (some .int) :: (o_P14_preds ++ (wsX140 ++ (v_P14_isPred ++ [])))
theorem mow_P14_preds : ∀ w ∈ o_P14_preds, w ∈ v_P14_preds := fun _ h => List.mem_cons_of_mem _ (List.mem_append_left _ h)
theorem mem_P14_preds_0 : ∀ w ∈ wsX140, w ∈ v_P14_preds := fun _ h => List.mem_cons_of_mem _ (List.mem_append_right _ (List.mem_append_left _ h))
theorem mem_P14_preds_1 : ∀ w ∈ v_P14_isPred, w ∈ v_P14_preds := fun _ h => List.mem_cons_of_mem _ (List.mem_append_right _ (List.mem_append_right _ (List.mem_append_left _ h)))
set_option maxRecDepth 20000 in
theorem gw_P14_preds : v_P14_preds.all goodWord = true := by decide +kernel
set_option maxRecDepth 20000 in
theorem g_P14_preds_P14_isPred : GoodIn v_P14_preds (wsV RX14 91 RX14 yX14_isPred v_P14_isPred) := goodIn_app (goodIn_sub (fun w h => mow_P14_preds w (by revert w h; decide +kernel)) (by decide +kernel)) (goodIn_sub mem_P14_preds_1 gw_P14_isPred)
set_option maxHeartbeats 4000000 in
set_option maxRecDepth 100000 in
theorem c_P14_preds (l : Launch) (dC : Nat → ClassId) (dI : Nat → Nat → Nat) (h0 : Nat) (z14_n : Int) (v14_2 : Value) (v14_3 : Value) (v14_4 : Value) (v14_5 : Value) (v14_6 : Value) (v14_7 : Value) (v14_8 : Value) (v14_9 : Value) (v14_10 : Value) (v14_11 : Value) (v14_12 : Value) (hc : Nat) (v13_0 : Value) (v13_1 : Value) (v13_2 : Value) (v13_3 : Value) (v13_4 : Value) (v13_6 : Value) (la : Nat) (cO : ClassId) (L : List Nat) (P : PO) (b0 : Int) (hNz14_n : 0 ≤ z14_n ∧ z14_n ≤ 300) (hX_c : CDK L P cO la) (hNb : z14_n = P.lz la ∧ 0 ≤ b0 ∧ b0 ≤ 300) (sz : Nat) : Met l yX14_preds v_P14_preds ({ frames := 5, cells := 0, slots := 0, locals := 109 }) (va_Pc [.ref h0, .int (zI (b0))] (fun U => U.heap.size = sz ∧ va_P (dC, dI) vwQ ([(h0, .inr (13, [.ref hc, .int (zI (z14_n)), v14_2, v14_3, v14_4, v14_5, v14_6, v14_7, v14_8, v14_9, v14_10, v14_11, v14_12])), (hc, .inr (12, [v13_0, v13_1, v13_2, v13_3, v13_4, .ref la, v13_6]))] ++ va_pl L (pE P)) U.heap ∧ va_K (dC, dI) vwQ [(cO, .object "java/lang/Object")] U ∧ va_D (fun _ => True) ([(h0, .inr (13, [.ref hc, .int (zI (z14_n)), v14_2, v14_3, v14_4, v14_5, v14_6, v14_7, v14_8, v14_9, v14_10, v14_11, v14_12])), (hc, .inr (12, [v13_0, v13_1, v13_2, v13_3, v13_4, .ref la, v13_6]))] ++ va_pl L (pE P)) ∧ va_Nw (.castable "SsaForgeModel$Block" "SsaForgeModel$Block") U)) (va_Qi (fun (r : Int32) (_ : Unit) => ∃ z : Int, r = zI z ∧ (0 ≤ z ∧ z ≤ 300)) (fun (_ : Unit) (t : State) => va_P (dC, dI) vwQ ([(h0, .inr (13, [.ref hc, .int (zI (z14_n)), v14_2, v14_3, v14_4, v14_5, v14_6, v14_7, v14_8, v14_9, v14_10, v14_11, v14_12])), (hc, .inr (12, [v13_0, v13_1, v13_2, v13_3, v13_4, .ref la, v13_6]))] ++ va_pl L (pE P)) t.heap ∧ va_K (dC, dI) vwQ [(cO, .object "java/lang/Object")] t ∧ va_D (va_A ([(h0, .inr (13, [.ref hc, .int (zI (z14_n)), v14_2, v14_3, v14_4, v14_5, v14_6, v14_7, v14_8, v14_9, v14_10, v14_11, v14_12])), (hc, .inr (12, [v13_0, v13_1, v13_2, v13_3, v13_4, .ref la, v13_6]))] ++ va_pl L (pE P)) sz) ([(h0, .inr (13, [.ref hc, .int (zI (z14_n)), v14_2, v14_3, v14_4, v14_5, v14_6, v14_7, v14_8, v14_9, v14_10, v14_11, v14_12])), (hc, .inr (12, [v13_0, v13_1, v13_2, v13_3, v13_4, .ref la, v13_6]))] ++ va_pl L (pE P))) (va_A ([(h0, .inr (13, [.ref hc, .int (zI (z14_n)), v14_2, v14_3, v14_4, v14_5, v14_6, v14_7, v14_8, v14_9, v14_10, v14_11, v14_12])), (hc, .inr (12, [v13_0, v13_1, v13_2, v13_3, v13_4, .ref la, v13_6]))] ++ va_pl L (pE P)) sz)) 0 0 (va_A ([(h0, .inr (13, [.ref hc, .int (zI (z14_n)), v14_2, v14_3, v14_4, v14_5, v14_6, v14_7, v14_8, v14_9, v14_10, v14_11, v14_12])), (hc, .inr (12, [v13_0, v13_1, v13_2, v13_3, v13_4, .ref la, v13_6]))] ++ va_pl L (pE P)) sz) := by
  refine Met.ofW (cc := cX14_preds) (maxL := 4) (ret := (some .int)) (by decide) rfl ?_
  intro p e s m args below meth c s₁ B hml hv
  obtain ⟨rfl, hsz, hP, hK, hD0, hp0⟩ := hv
  have hx := B.exec
  have hb := B.bytes
  have hr := B.returns
  have hts := atoms_spec (ws := v_P14_preds) B.pre
  have hown : s.vm.findClass RX14 = some m.cls := findClass_of_methodNamed B.named
  have hlocks := B.notSynchronized
  have ow : ∀ {k : Nat} {w : Cond}, o_P14_preds[k]? = some w → w.before ([.ref h0, .int (zI (b0))] : List Value).toArray s = true := fun h => hts _ (mow_P14_preds _ (List.mem_of_getElem? h))
  subst hsz
  have hD := hD0.self (sz := s.heap.size)
  generalize hAe : va_A ([(h0, .inr (13, [.ref hc, .int (zI (z14_n)), v14_2, v14_3, v14_4, v14_5, v14_6, v14_7, v14_8, v14_9, v14_10, v14_11, v14_12])), (hc, .inr (12, [v13_0, v13_1, v13_2, v13_3, v13_4, .ref la, v13_6]))] ++ va_pl L (pE P)) s.heap.size = A at hD ⊢
  have hA : ∀ q : Nat, s.heap.size ≤ q → A q := fun q h => by rw [← hAe]; exact Or.inr h
  have hS : va_S A s.heap s.heap [] := va_S.rf
  have hP : va_P (dC, dI) vwQ ([(h0, .inr (13, [.ref hc, .int (zI (z14_n)), v14_2, v14_3, v14_4, v14_5, v14_6, v14_7, v14_8, v14_9, v14_10, v14_11, v14_12])), (hc, .inr (12, [v13_0, v13_1, v13_2, v13_3, v13_4, .ref la, v13_6]))] ++ va_pl L (pE P)) s.heap := hP
  have hl := lv_entry ([.ref h0, .int (zI (b0))]) (n := 4) (Nat.le_of_ble_eq_true rfl)
  rw [lg_entry_eq]
  generalize (lg_sl ([.ref h0, .int (zI (b0))]) ++ List.replicate (4 - (lg_sl ([.ref h0, .int (zI (b0))])).length) Slot.unset).toArray = ls at hl ⊢
  have hl : lv_has ls 4 [(0, .ref h0), (1, .int (zI (b0)))] := hl
  obtain ⟨H, hH⟩ : ∃ H, H = s.heap := ⟨_, rfl⟩
  rw [← hH] at hP
  have hS : va_S A s.heap H [] := by rw [hH]; exact hS
  rw [← hH]
  refine zW_cap (fun Q hQ => ?_)
  have hX_l := hX_c.1
  have hla := hX_c.1.2.2.1
  have hla2 := hX_c.2.1
  have hX_ro := hX_c.2.2.2
  refine lv_iconst (v := 0) hx hb dX14_preds_0 (by decide) ?_
  refine lv_istore_n (lv' := [(2, .int 0), (0, .ref h0), (1, .int (zI (b0)))]) hx hb dX14_preds_1 rfl hl (by decide) rfl (fun ls hl => ?_)
  refine lv_iconst (v := 0) hx hb dX14_preds_2 (by decide) ?_
  refine lv_istore_n (lv' := [(3, .int 0), (2, .int 0), (0, .ref h0), (1, .int (zI (b0)))]) hx hb dX14_preds_3 rfl hl (by decide) rfl (fun ls hl => ?_)
  have key4 : ∀ n4 : Nat, ∀ (d4_3 : Int) (d4_2 : Int) (ls : Array Slot) (H : Heap) (locs : List Loc), (0 ≤ d4_3 ∧ d4_3 ≤ z14_n) → (0 ≤ d4_2 ∧ d4_2 ≤ d4_3) → ((z14_n - d4_3 : Int).toNat) < n4 → lv_has ls 4 [(0, .ref h0), (1, .int (zI (b0))), (2, .int (zI (d4_2))), (3, .int (zI (d4_3)))] → va_P (dC, dI) vwQ ([(h0, .inr (13, [.ref hc, .int (zI (z14_n)), v14_2, v14_3, v14_4, v14_5, v14_6, v14_7, v14_8, v14_9, v14_10, v14_11, v14_12])), (hc, .inr (12, [v13_0, v13_1, v13_2, v13_3, v13_4, .ref la, v13_6]))] ++ va_pl L (pE P)) H → va_D A ([(h0, .inr (13, [.ref hc, .int (zI (z14_n)), v14_2, v14_3, v14_4, v14_5, v14_6, v14_7, v14_8, v14_9, v14_10, v14_11, v14_12])), (hc, .inr (12, [v13_0, v13_1, v13_2, v13_3, v13_4, .ref la, v13_6]))] ++ va_pl L (pE P)) → va_S A s.heap H locs → W p l e (headSpec v_P14_preds ({ frames := 5, cells := 0, slots := 0, locals := 109 })).room s m ([.ref h0, .int (zI (b0))] : List Value).toArray below meth c H locs 0 0 Q (F0 m 4 ls []) := by
    intro n4
    induction n4 with
    | zero => intro d4_3 d4_2 ls H locs jd4_3 jd4_2 hm4; exact absurd hm4 (by omega)
    | succ n4 ih4 =>
      intro d4_3 d4_2 ls H locs jd4_3 jd4_2 hm4 hl hP hD hS
      refine lv_iload_n hx hb dX14_preds_4 rfl (lv_at hl 3 rfl) ?_
      refine lv_aload_n hx hb dX14_preds_5 rfl (lv_at hl 0 rfl) ?_
      refine va_get (D := (dC, dI)) (ci := 13) (v := .int (zI (z14_n))) (C := RX14) (T := TX14) (N := 13) hx hb hts mem_P14_preds_0 hown hK hP 0 rfl rfl 1 (by decide) (ow (k := 0) rfl) (fun _ h9 => h9) rfl dX14_preds_6 ?_
      refine lv_icmp_ge (tgt := 35) hx hb dX14_preds_9 (by decide) (fun b9 => ?_) (fun b9 => ?_)
      · have yb9 : (z14_n : Int) ≤ (d4_3 : Int) := (zI_le (a := z14_n) (b := d4_3) (by omega) (by omega) (by omega) (by omega)).mp b9
        refine lv_iload_n hx hb dX14_preds_35 rfl (lv_at hl 2 rfl) ?_
        subst hQ
        refine W.widen (k := 0) (n := 0) (Nat.le_of_ble_eq_true rfl) (Nat.le_of_ble_eq_true rfl) ?_
        exact W.iret (v := (zI (d4_2))) hx hb hr (fun t ht hW => ⟨⟨(zI (d4_2)), (), rfl, ⟨d4_2, rfl, by omega⟩, by rw [ht]; exact hP, va_K.moved hW.alike hK, hD⟩, hS.F ht⟩) hS.2.2 dX14_preds_36
      · have yb9 : ¬ (z14_n : Int) ≤ (d4_3 : Int) := fun q => b9 ((zI_le (a := z14_n) (b := d4_3) (by omega) (by omega) (by omega) (by omega)).mpr q)
        refine lv_iload_n hx hb dX14_preds_12 rfl (lv_at hl 2 rfl) ?_
        refine lv_aload_n hx hb dX14_preds_13 rfl (lv_at hl 0 rfl) ?_
        refine lv_iload_n hx hb dX14_preds_14 rfl (lv_at hl 3 rfl) ?_
        refine lv_iload_n hx hb dX14_preds_15 rfl (lv_at hl 1 rfl) ?_
        have hPc := hP.part (X := [(h0, .inr (13, [.ref hc, .int (zI (z14_n)), v14_2, v14_3, v14_4, v14_5, v14_6, v14_7, v14_8, v14_9, v14_10, v14_11, v14_12])), (hc, .inr (12, [v13_0, v13_1, v13_2, v13_3, v13_4, .ref la, v13_6]))]) (cx := [(h0, .inr (13, [.ref hc, .int (zI (z14_n)), v14_2, v14_3, v14_4, v14_5, v14_6, v14_7, v14_8, v14_9, v14_10, v14_11, v14_12])), (hc, .inr (12, [v13_0, v13_1, v13_2, v13_3, v13_4, .ref la, v13_6]))]) (pl := va_pl L (pE P)) [0, 1] rfl
        have hDc := hD.part (X := [(h0, .inr (13, [.ref hc, .int (zI (z14_n)), v14_2, v14_3, v14_4, v14_5, v14_6, v14_7, v14_8, v14_9, v14_10, v14_11, v14_12])), (hc, .inr (12, [v13_0, v13_1, v13_2, v13_3, v13_4, .ref la, v13_6]))]) (cx := [(h0, .inr (13, [.ref hc, .int (zI (z14_n)), v14_2, v14_3, v14_4, v14_5, v14_6, v14_7, v14_8, v14_9, v14_10, v14_11, v14_12])), (hc, .inr (12, [v13_0, v13_1, v13_2, v13_3, v13_4, .ref la, v13_6]))]) (pl := va_pl L (pE P)) [0, 1] (by decide) rfl
        have hKc := hK.sub (tys' := [(cO, .object "java/lang/Object")]) [0] rfl
        have hFc := va_freeP (X := [(h0, .inr (13, [.ref hc, .int (zI (z14_n)), v14_2, v14_3, v14_4, v14_5, v14_6, v14_7, v14_8, v14_9, v14_10, v14_11, v14_12])), (hc, .inr (12, [v13_0, v13_1, v13_2, v13_3, v13_4, .ref la, v13_6]))]) (cx := [(h0, .inr (13, [.ref hc, .int (zI (z14_n)), v14_2, v14_3, v14_4, v14_5, v14_6, v14_7, v14_8, v14_9, v14_10, v14_11, v14_12])), (hc, .inr (12, [v13_0, v13_1, v13_2, v13_3, v13_4, .ref la, v13_6]))]) (pl := va_pl L (pE P)) hD hS hA [0, 1] rfl
        refine va_calli (va_runV (As := [.int (zI (d4_3)), .int (zI (b0))]) (rest := [.int (zI (d4_2))]) ⟨hx, hb, hml, hown, hts⟩ (c_P14_isPred l dC dI h0 (.int (zI (z14_n))) v14_2 v14_3 v14_4 v14_5 v14_6 v14_7 v14_8 v14_9 v14_10 v14_11 v14_12 hc v13_0 v13_1 v13_2 v13_3 v13_4 v13_6 la cO L P d4_3 b0 hX_c (by omega) H.size) (cwV 2 hts g_P14_preds_P14_isPred rfl rfl rfl (by decide +kernel) ⟨(Nat.le_of_ble_eq_true rfl), (Nat.le_of_ble_eq_true rfl)⟩) ⟨fun a U g mk q => by obtain ⟨q0, q1, qP, qK, qD, e0⟩ := q; exact ⟨q0, q1, qP, va_K.moved (u := U) (U := U.calling g mk a) (Vm.Alike.refl U.vm) qK, qD, va_Nw.same rfl (u := U) (U := U.calling g mk a) rfl e0⟩, va_recv hKc hPc (ci := 13) (q0 := 0) rfl rfl, fun U hU hW => ⟨rfl, by rw [hU], by rw [hU]; exact hPc, va_K.moved hW.alike hKc, hDc.weaken (fun _ _ _ _ => trivial), va_Nw.warmC hW hp0⟩⟩ rfl rfl hl.1 rfl (lv_room (Nat.le_of_ble_eq_true rfl)) dX14_preds_16 ⟨(Nat.le_of_ble_eq_true rfl), (Nat.le_of_ble_eq_true rfl)⟩) hS (fun q _ h => hFc q h) hFc (fun r_1 u t H1 locs ht hvm hw hB hz1 hk1 hS => ?_)
        obtain ⟨hP1, hK1, hD1⟩ := hB
        rw [ht] at hP1
        have hK1 := va_K.moved hvm.symm hK1
        obtain ⟨hP, hD⟩ := va_joinP (X := [(h0, .inr (13, [.ref hc, .int (zI (z14_n)), v14_2, v14_3, v14_4, v14_5, v14_6, v14_7, v14_8, v14_9, v14_10, v14_11, v14_12])), (hc, .inr (12, [v13_0, v13_1, v13_2, v13_3, v13_4, .ref la, v13_6]))]) (cx := [(h0, .inr (13, [.ref hc, .int (zI (z14_n)), v14_2, v14_3, v14_4, v14_5, v14_6, v14_7, v14_8, v14_9, v14_10, v14_11, v14_12])), (hc, .inr (12, [v13_0, v13_1, v13_2, v13_3, v13_4, .ref la, v13_6]))]) (wr := []) (rx := [(h0, .inr (13, [.ref hc, .int (zI (z14_n)), v14_2, v14_3, v14_4, v14_5, v14_6, v14_7, v14_8, v14_9, v14_10, v14_11, v14_12])), (hc, .inr (12, [v13_0, v13_1, v13_2, v13_3, v13_4, .ref la, v13_6]))]) (pl := va_pl L (pE P)) (pl1 := va_pl L (pE P)) hP hD [0, 1] [] rfl rfl (by decide) (by decide) hk1 hFc hP1 hD1
        have hK := (hK.sub (tys' := []) [] rfl).app hK1
        generalize H1 = H at hP hS ⊢
        have hP : va_P (dC, dI) vwQ ([(h0, .inr (13, [.ref hc, .int (zI (z14_n)), v14_2, v14_3, v14_4, v14_5, v14_6, v14_7, v14_8, v14_9, v14_10, v14_11, v14_12])), (hc, .inr (12, [v13_0, v13_1, v13_2, v13_3, v13_4, .ref la, v13_6]))] ++ va_pl L (pE P)) H := hP
        have hD : va_D A ([(h0, .inr (13, [.ref hc, .int (zI (z14_n)), v14_2, v14_3, v14_4, v14_5, v14_6, v14_7, v14_8, v14_9, v14_10, v14_11, v14_12])), (hc, .inr (12, [v13_0, v13_1, v13_2, v13_3, v13_4, .ref la, v13_6]))] ++ va_pl L (pE P)) := hD
        have hK : va_K (dC, dI) vwQ [(cO, .object "java/lang/Object")] s := hK
        refine W.widen (k := 0) (n := 0) (Nat.le_of_ble_eq_true rfl) (Nat.le_of_ble_eq_true rfl) ?_
        have hw_2 := hw
        obtain ⟨z_3, rfl, hzz_3⟩ := hw_2
        have key27 : ∀ (ms27_0 : Int) (ls : Array Slot) (H : Heap) (locs : List Loc), (0 ≤ ms27_0 ∧ ms27_0 ≤ 1) → lv_has ls 4 [(0, .ref h0), (1, .int (zI (b0))), (2, .int (zI (d4_2))), (3, .int (zI (d4_3)))] → va_P (dC, dI) vwQ ([(h0, .inr (13, [.ref hc, .int (zI (z14_n)), v14_2, v14_3, v14_4, v14_5, v14_6, v14_7, v14_8, v14_9, v14_10, v14_11, v14_12])), (hc, .inr (12, [v13_0, v13_1, v13_2, v13_3, v13_4, .ref la, v13_6]))] ++ va_pl L (pE P)) H → va_D A ([(h0, .inr (13, [.ref hc, .int (zI (z14_n)), v14_2, v14_3, v14_4, v14_5, v14_6, v14_7, v14_8, v14_9, v14_10, v14_11, v14_12])), (hc, .inr (12, [v13_0, v13_1, v13_2, v13_3, v13_4, .ref la, v13_6]))] ++ va_pl L (pE P)) → va_S A s.heap H locs → W p l e (headSpec v_P14_preds ({ frames := 5, cells := 0, slots := 0, locals := 109 })).room s m ([.ref h0, .int (zI (b0))] : List Value).toArray below meth c H locs 0 0 Q (F0 m 27 ls [.int (zI (ms27_0)), .int (zI (d4_2))]) := by
          intro ms27_0 ls H locs jms27_0 hl hP hD hS
          refine lv_iadd hx hb dX14_preds_27 ?_
          refine lv_topi (fun z ez => ?_)
          obtain rfl : z = zI (d4_2 + ms27_0) := ez.trans (zI_add (d4_2) (ms27_0))
          refine lv_istore_n (lv' := [(2, .int (zI (d4_2 + ms27_0))), (0, .ref h0), (1, .int (zI (b0))), (3, .int (zI (d4_3)))]) hx hb dX14_preds_28 rfl hl (by decide) rfl (fun ls hl => ?_)
          refine lv_iinc (v := zI (d4_3 + 1)) (lv' := [(3, .int (zI (d4_3 + 1))), (2, .int (zI (d4_2 + ms27_0))), (0, .ref h0), (1, .int (zI (b0)))]) hx hb dX14_preds_29 hl (k := 3) rfl (zI_add (d4_3) (1)) (by decide) rfl (fun ls hl => ?_)
          refine lv_goto (tgt := 4) hx hb dX14_preds_32 (by decide) ?_
          exact ih4 (d4_3 + 1) (d4_2 + ms27_0) ls H _ (by omega) (by omega) (by omega) (lv_sub hl [2, 3, 1, 0] rfl) hP hD hS
        refine lv_if_eq (tgt := 26) hx hb dX14_preds_19 (by decide) (fun b19 => ?_) (fun b19 => ?_)
        · have yb19 : (z_3 : Int) = (0 : Int) := (zI_eq (a := z_3) (b := 0) (by omega) (by omega) (by omega) (by omega)).mp b19
          refine lv_iconst (v := 0) hx hb dX14_preds_26 (by decide) ?_
          exact key27 0 ls H _ (by omega) (lv_sub hl [0, 1, 2, 3] rfl) hP hD hS
        · have yb19 : ¬ (z_3 : Int) = (0 : Int) := fun q => b19 ((zI_eq (a := z_3) (b := 0) (by omega) (by omega) (by omega) (by omega)).mpr q)
          refine lv_iconst (v := 1) hx hb dX14_preds_22 (by decide) ?_
          refine lv_goto (tgt := 27) hx hb dX14_preds_23 (by decide) ?_
          exact key27 1 ls H _ (by omega) (lv_sub hl [0, 1, 2, 3] rfl) hP hD hS
  exact key4 ((z14_n - 0 : Int).toNat + 1) 0 0 ls H _ (by omega) (by omega) (by omega) (lv_sub hl [2, 3, 1, 0] rfl) hP hD hS
