def o_P14_isPredE : List Cond := [.fieldLink RX14 45 "SsaForgeModel$Flow" "c" "LSsaForgeModel$Code;", .methodLink RX14 75 yX13_get, .instanceMethod yX13_get, .selects RX13 yX13_get yX13_get, .initialized RX13, .methodLink RX14 79 yX12_ways, .instanceMethod yX12_ways, .selects RX12 yX12_ways yX12_ways, .initialized RX12, .methodLink RX14 84 yX12_way, .instanceMethod yX12_way, .selects RX12 yX12_way yX12_way]
def v_P14_isPredE : List Cond := .code yX14_isPred cX14_isPred 5 (some .boolean) :: (o_P14_isPredE ++ (wsX140 ++ (v_PC_get ++ (v_PB_ways ++ (v_PB_way ++ [])))))
theorem mow_P14_isPredE : ∀ w ∈ o_P14_isPredE, w ∈ v_P14_isPredE := fun _ h => List.mem_cons_of_mem _ (List.mem_append_left _ h)
theorem mem_P14_isPredE_0 : ∀ w ∈ wsX140, w ∈ v_P14_isPredE := fun _ h => List.mem_cons_of_mem _ (List.mem_append_right _ (List.mem_append_left _ h))
theorem mem_P14_isPredE_1 : ∀ w ∈ v_PC_get, w ∈ v_P14_isPredE := fun _ h => List.mem_cons_of_mem _ (List.mem_append_right _ (List.mem_append_right _ (List.mem_append_left _ h)))
theorem mem_P14_isPredE_2 : ∀ w ∈ v_PB_ways, w ∈ v_P14_isPredE := fun _ h => List.mem_cons_of_mem _ (List.mem_append_right _ (List.mem_append_right _ (List.mem_append_right _ (List.mem_append_left _ h))))
theorem mem_P14_isPredE_3 : ∀ w ∈ v_PB_way, w ∈ v_P14_isPredE := fun _ h => List.mem_cons_of_mem _ (List.mem_append_right _ (List.mem_append_right _ (List.mem_append_right _ (List.mem_append_right _ (List.mem_append_left _ h)))))
set_option maxRecDepth 20000 in
theorem gw_P14_isPredE : v_P14_isPredE.all goodWord = true := by decide +kernel
set_option maxRecDepth 20000 in
theorem g_P14_isPredE_PC_get : GoodIn v_P14_isPredE (wsV RX14 75 RX13 yX13_get v_PC_get) := goodIn_app (goodIn_sub (fun w h => mow_P14_isPredE w (by revert w h; decide +kernel)) (by decide +kernel)) (goodIn_sub mem_P14_isPredE_1 gw_PC_get)
set_option maxRecDepth 20000 in
theorem g_P14_isPredE_PB_ways : GoodIn v_P14_isPredE (wsV RX14 79 RX12 yX12_ways v_PB_ways) := goodIn_app (goodIn_sub (fun w h => mow_P14_isPredE w (by revert w h; decide +kernel)) (by decide +kernel)) (goodIn_sub mem_P14_isPredE_2 gw_PB_ways)
set_option maxRecDepth 20000 in
theorem g_P14_isPredE_PB_way : GoodIn v_P14_isPredE (wsV RX14 84 RX12 yX12_way v_PB_way) := goodIn_app (goodIn_sub (fun w h => mow_P14_isPredE w (by revert w h; decide +kernel)) (by decide +kernel)) (goodIn_sub mem_P14_isPredE_3 gw_PB_way)
set_option maxHeartbeats 4000000 in
set_option maxRecDepth 100000 in
theorem c_P14_isPredE (l : Launch) (dC : Nat → ClassId) (dI : Nat → Nat → Nat) (cI : ClassId) (cZ : ClassId) (h0 : Nat) (v14_1 : Value) (v14_2 : Value) (v14_3 : Value) (v14_4 : Value) (v14_5 : Value) (v14_6 : Value) (v14_7 : Value) (v14_8 : Value) (v14_9 : Value) (v14_10 : Value) (v14_11 : Value) (v14_12 : Value) (hc : Nat) (v13_0 : Value) (v13_1 : Value) (v13_2 : Value) (v13_3 : Value) (v13_4 : Value) (v13_6 : Value) (la : Nat) (cO : ClassId) (L : List Nat) (P : PO) (sx_ed : Nat) (p0 : Int) (b0 : Int) (hX_a : ALP L P cO cI cZ sx_ed la) (hNp : 0 ≤ p0 ∧ p0 < P.lz la ∧ 0 ≤ b0 ∧ b0 ≤ 300) (sz : Nat) : Met l yX14_isPred v_P14_isPredE ({ frames := 4, cells := 0, slots := 0, locals := 85 }) (va_Pc [.ref h0, .int (zI (p0)), .int (zI (b0))] (fun U => U.heap.size = sz ∧ va_P (dC, dI) vwQ ([(h0, .inr (13, [.ref hc, v14_1, v14_2, v14_3, v14_4, v14_5, v14_6, v14_7, v14_8, v14_9, v14_10, v14_11, v14_12])), (hc, .inr (12, [v13_0, v13_1, v13_2, v13_3, v13_4, .ref la, v13_6]))] ++ va_pl L (pE P)) U.heap ∧ va_K (dC, dI) vwQ [(cO, .object "java/lang/Object"), (cI, .int), (cZ, .boolean)] U ∧ va_D (fun _ => True) ([(h0, .inr (13, [.ref hc, v14_1, v14_2, v14_3, v14_4, v14_5, v14_6, v14_7, v14_8, v14_9, v14_10, v14_11, v14_12])), (hc, .inr (12, [v13_0, v13_1, v13_2, v13_3, v13_4, .ref la, v13_6]))] ++ va_pl L (pE P)) ∧ va_Nw (.castable "SsaForgeModel$Block" "SsaForgeModel$Block") U)) (va_Qi (fun (r : Int32) (_ : Unit) => ∃ z : Int, r = zI z ∧ (0 ≤ z ∧ z ≤ 1 ∧ ANS z (EDG P la p0 b0))) (fun (_ : Unit) (t : State) => va_P (dC, dI) vwQ ([(h0, .inr (13, [.ref hc, v14_1, v14_2, v14_3, v14_4, v14_5, v14_6, v14_7, v14_8, v14_9, v14_10, v14_11, v14_12])), (hc, .inr (12, [v13_0, v13_1, v13_2, v13_3, v13_4, .ref la, v13_6]))] ++ va_pl L (pE P)) t.heap ∧ va_K (dC, dI) vwQ [(cO, .object "java/lang/Object"), (cI, .int), (cZ, .boolean)] t ∧ va_D (va_A ([(h0, .inr (13, [.ref hc, v14_1, v14_2, v14_3, v14_4, v14_5, v14_6, v14_7, v14_8, v14_9, v14_10, v14_11, v14_12])), (hc, .inr (12, [v13_0, v13_1, v13_2, v13_3, v13_4, .ref la, v13_6]))] ++ va_pl L (pE P)) sz) ([(h0, .inr (13, [.ref hc, v14_1, v14_2, v14_3, v14_4, v14_5, v14_6, v14_7, v14_8, v14_9, v14_10, v14_11, v14_12])), (hc, .inr (12, [v13_0, v13_1, v13_2, v13_3, v13_4, .ref la, v13_6]))] ++ va_pl L (pE P))) (va_A ([(h0, .inr (13, [.ref hc, v14_1, v14_2, v14_3, v14_4, v14_5, v14_6, v14_7, v14_8, v14_9, v14_10, v14_11, v14_12])), (hc, .inr (12, [v13_0, v13_1, v13_2, v13_3, v13_4, .ref la, v13_6]))] ++ va_pl L (pE P)) sz)) 0 0 (va_A ([(h0, .inr (13, [.ref hc, v14_1, v14_2, v14_3, v14_4, v14_5, v14_6, v14_7, v14_8, v14_9, v14_10, v14_11, v14_12])), (hc, .inr (12, [v13_0, v13_1, v13_2, v13_3, v13_4, .ref la, v13_6]))] ++ va_pl L (pE P)) sz) := by
  refine Met.ofW (cc := cX14_isPred) (maxL := 5) (ret := (some .boolean)) (by decide) rfl ?_
  intro p e s m args below meth c s₁ B hml hv
  obtain ⟨rfl, hsz, hP, hK, hD0, hp0⟩ := hv
  have hx := B.exec
  have hb := B.bytes
  have hr := B.returns
  have hts := atoms_spec (ws := v_P14_isPredE) B.pre
  have hown : s.vm.findClass RX14 = some m.cls := findClass_of_methodNamed B.named
  have hlocks := B.notSynchronized
  have ow : ∀ {k : Nat} {w : Cond}, o_P14_isPredE[k]? = some w → w.before ([.ref h0, .int (zI (p0)), .int (zI (b0))] : List Value).toArray s = true := fun h => hts _ (mow_P14_isPredE _ (List.mem_of_getElem? h))
  subst hsz
  have hD := hD0.self (sz := s.heap.size)
  generalize hAe : va_A ([(h0, .inr (13, [.ref hc, v14_1, v14_2, v14_3, v14_4, v14_5, v14_6, v14_7, v14_8, v14_9, v14_10, v14_11, v14_12])), (hc, .inr (12, [v13_0, v13_1, v13_2, v13_3, v13_4, .ref la, v13_6]))] ++ va_pl L (pE P)) s.heap.size = A at hD ⊢
  have hA : ∀ q : Nat, s.heap.size ≤ q → A q := fun q h => by rw [← hAe]; exact Or.inr h
  have hS : va_S A s.heap s.heap [] := va_S.rf
  have hP : va_P (dC, dI) vwQ ([(h0, .inr (13, [.ref hc, v14_1, v14_2, v14_3, v14_4, v14_5, v14_6, v14_7, v14_8, v14_9, v14_10, v14_11, v14_12])), (hc, .inr (12, [v13_0, v13_1, v13_2, v13_3, v13_4, .ref la, v13_6]))] ++ va_pl L (pE P)) s.heap := hP
  have hl := lv_entry ([.ref h0, .int (zI (p0)), .int (zI (b0))]) (n := 5) (Nat.le_of_ble_eq_true rfl)
  rw [lg_entry_eq]
  generalize (lg_sl ([.ref h0, .int (zI (p0)), .int (zI (b0))]) ++ List.replicate (5 - (lg_sl ([.ref h0, .int (zI (p0)), .int (zI (b0))])).length) Slot.unset).toArray = ls at hl ⊢
  have hl : lv_has ls 5 [(0, .ref h0), (1, .int (zI (p0))), (2, .int (zI (b0)))] := hl
  obtain ⟨H, hH⟩ : ∃ H, H = s.heap := ⟨_, rfl⟩
  rw [← hH] at hP
  have hS : va_S A s.heap H [] := by rw [hH]; exact hS
  rw [← hH]
  refine zW_cap (fun Q hQ => ?_)
  have hX_a9 := hX_a
  have hla := hX_a.lok.2.2.1
  have hla2 := hX_a.1.1.2.1
  refine lv_aload_n hx hb dX14_isPred_0 rfl (lv_at hl 0 rfl) ?_
  refine va_get (D := (dC, dI)) (ci := 13) (v := .ref hc) (C := RX14) (T := TX14) (N := 13) hx hb hts mem_P14_isPredE_0 hown hK hP 0 rfl rfl 0 (by decide) (ow (k := 0) rfl) (fun _ h9 => h9) rfl dX14_isPred_1 ?_
  refine lv_iload_n hx hb dX14_isPred_4 rfl (lv_at hl 1 rfl) ?_
  have hX_l := hX_a9.lok
  have hlz9 := hX_l.2.2.1
  obtain ⟨x, ex⟩ : ∃ q9 : Nat, q9 = P.el la (p0) := ⟨_, rfl⟩
  have hX_el := ex
  have hPc := hP.part (X := [(h0, .inr (13, [.ref hc, v14_1, v14_2, v14_3, v14_4, v14_5, v14_6, v14_7, v14_8, v14_9, v14_10, v14_11, v14_12])), (hc, .inr (12, [v13_0, v13_1, v13_2, v13_3, v13_4, .ref la, v13_6]))]) (cx := [(hc, .inr (12, [v13_0, v13_1, v13_2, v13_3, v13_4, .ref la, v13_6]))]) (pl := va_pl L (pE P)) [1] rfl
  have hDc := hD.part (X := [(h0, .inr (13, [.ref hc, v14_1, v14_2, v14_3, v14_4, v14_5, v14_6, v14_7, v14_8, v14_9, v14_10, v14_11, v14_12])), (hc, .inr (12, [v13_0, v13_1, v13_2, v13_3, v13_4, .ref la, v13_6]))]) (cx := [(hc, .inr (12, [v13_0, v13_1, v13_2, v13_3, v13_4, .ref la, v13_6]))]) (pl := va_pl L (pE P)) [1] (by decide) rfl
  have hKc := hK.sub (tys' := [(cO, .object "java/lang/Object")]) [0] rfl
  have hFc := va_freeP (X := [(h0, .inr (13, [.ref hc, v14_1, v14_2, v14_3, v14_4, v14_5, v14_6, v14_7, v14_8, v14_9, v14_10, v14_11, v14_12])), (hc, .inr (12, [v13_0, v13_1, v13_2, v13_3, v13_4, .ref la, v13_6]))]) (cx := [(hc, .inr (12, [v13_0, v13_1, v13_2, v13_3, v13_4, .ref la, v13_6]))]) (pl := va_pl L (pE P)) hD hS hA [1] rfl
  refine va_callr (va_runV (As := [.int (zI (p0))]) (rest := []) ⟨hx, hb, hml, hown, hts⟩ (c_PC_get l dC dI hc v13_0 v13_1 v13_2 v13_3 v13_4 v13_6 la cO L P p0 x hX_l (by omega) hX_el H.size) (cwV 1 hts g_P14_isPredE_PC_get rfl rfl rfl (by decide +kernel) ⟨(Nat.le_of_ble_eq_true rfl), (Nat.le_of_ble_eq_true rfl)⟩) ⟨fun a U g mk q => by obtain ⟨q0, q1, qP, qK, qD, e0⟩ := q; exact ⟨q0, q1, qP, va_K.moved (u := U) (U := U.calling g mk a) (Vm.Alike.refl U.vm) qK, qD, va_Nw.same rfl (u := U) (U := U.calling g mk a) rfl e0⟩, va_recv hKc hPc (ci := 12) (q0 := 0) rfl rfl, fun U hU hW => ⟨rfl, by rw [hU], by rw [hU]; exact hPc, va_K.moved hW.alike hKc, hDc.weaken (fun _ _ _ _ => trivial), va_Nw.warmC hW hp0⟩⟩ rfl rfl hl.1 rfl (lv_room (Nat.le_of_ble_eq_true rfl)) dX14_isPred_5 ⟨(Nat.le_of_ble_eq_true rfl), (Nat.le_of_ble_eq_true rfl)⟩) hS (fun q _ h => hFc q h) hFc (fun u q_1 t H1 locs ht hvm hw hB hz1 hk1 hS => ?_)
  obtain ⟨hxt_1, hP1, hK1, hD1⟩ := hB
  rw [ht] at hP1
  have hK1 := va_K.moved hvm.symm hK1
  obtain ⟨hP, hD⟩ := va_joinP (X := [(h0, .inr (13, [.ref hc, v14_1, v14_2, v14_3, v14_4, v14_5, v14_6, v14_7, v14_8, v14_9, v14_10, v14_11, v14_12])), (hc, .inr (12, [v13_0, v13_1, v13_2, v13_3, v13_4, .ref la, v13_6]))]) (cx := [(hc, .inr (12, [v13_0, v13_1, v13_2, v13_3, v13_4, .ref la, v13_6]))]) (wr := [(h0, .inr (13, [.ref hc, v14_1, v14_2, v14_3, v14_4, v14_5, v14_6, v14_7, v14_8, v14_9, v14_10, v14_11, v14_12]))]) (rx := [(hc, .inr (12, [v13_0, v13_1, v13_2, v13_3, v13_4, .ref la, v13_6]))]) (pl := va_pl L (pE P)) (pl1 := va_pl L (pE P)) hP hD [1] [0] rfl rfl (by decide) (by decide) hk1 hFc hP1 hD1
  have hK := (hK.sub (tys' := [(cI, .int), (cZ, .boolean)]) [1, 2] rfl).app hK1
  generalize H1 = H at hP hS ⊢
  have hP : va_P (dC, dI) vwQ ([(h0, .inr (13, [.ref hc, v14_1, v14_2, v14_3, v14_4, v14_5, v14_6, v14_7, v14_8, v14_9, v14_10, v14_11, v14_12])), (hc, .inr (12, [v13_0, v13_1, v13_2, v13_3, v13_4, .ref la, v13_6]))] ++ va_pl L (pE P)) H := hP
  have hD : va_D A ([(h0, .inr (13, [.ref hc, v14_1, v14_2, v14_3, v14_4, v14_5, v14_6, v14_7, v14_8, v14_9, v14_10, v14_11, v14_12])), (hc, .inr (12, [v13_0, v13_1, v13_2, v13_3, v13_4, .ref la, v13_6]))] ++ va_pl L (pE P)) := hD
  have hK : va_K (dC, dI) vwQ [(cI, .int), (cZ, .boolean), (cO, .object "java/lang/Object")] s := hK
  refine W.widen (k := 0) (n := 0) (Nat.le_of_ble_eq_true rfl) (Nat.le_of_ble_eq_true rfl) ?_
  rw [hxt_1]
  obtain ⟨xb_2, h9⟩ : ∃ q9 : Nat, q9 = x := ⟨_, rfl⟩
  subst h9
  have hi_3 : INB P la xb_2 := ⟨p0, by omega, by omega, ex⟩
  clear hX_el
  have hx_5 := ex
  have hB_4 := hX_a9.inb hi_3
  have hfb := hB_4.2.2.2.2
  refine lv_astore_n (lv' := [(3, .ref xb_2), (0, .ref h0), (1, .int (zI (p0))), (2, .int (zI (b0)))]) hx hb dX14_isPred_8 rfl hl (by decide) rfl (fun ls hl => ?_)
  refine lv_iconst (v := 0) hx hb dX14_isPred_9 (by decide) ?_
  refine lv_istore (lv' := [(4, .int 0), (3, .ref xb_2), (0, .ref h0), (1, .int (zI (p0))), (2, .int (zI (b0)))]) hx hb dX14_isPred_10 hl (by decide) rfl (fun ls hl => ?_)
  have key12 : ∀ n12 : Nat, ∀ (d12_4 : Int) (ls : Array Slot) (H : Heap) (locs : List Loc), (0 ≤ d12_4 ∧ d12_4 ≤ 2) → (WNO P xb_2 b0 (d12_4)) → ((10 - d12_4 : Int).toNat) < n12 → lv_has ls 5 [(0, .ref h0), (1, .int (zI (p0))), (2, .int (zI (b0))), (3, .ref xb_2), (4, .int (zI (d12_4)))] → va_P (dC, dI) vwQ ([(h0, .inr (13, [.ref hc, v14_1, v14_2, v14_3, v14_4, v14_5, v14_6, v14_7, v14_8, v14_9, v14_10, v14_11, v14_12])), (hc, .inr (12, [v13_0, v13_1, v13_2, v13_3, v13_4, .ref la, v13_6]))] ++ va_pl L (pE P)) H → va_D A ([(h0, .inr (13, [.ref hc, v14_1, v14_2, v14_3, v14_4, v14_5, v14_6, v14_7, v14_8, v14_9, v14_10, v14_11, v14_12])), (hc, .inr (12, [v13_0, v13_1, v13_2, v13_3, v13_4, .ref la, v13_6]))] ++ va_pl L (pE P)) → va_S A s.heap H locs → W p l e (headSpec v_P14_isPredE ({ frames := 4, cells := 0, slots := 0, locals := 85 })).room s m ([.ref h0, .int (zI (p0)), .int (zI (b0))] : List Value).toArray below meth c H locs 0 0 Q (F0 m 12 ls []) := by
    intro n12
    induction n12 with
    | zero => intro d12_4 ls H locs jd12_4 jw12 hm12; exact absurd hm12 (by omega)
    | succ n12 ih12 =>
      intro d12_4 ls H locs jd12_4 jw12 hm12 hl hP hD hS
      skip
      refine lv_iload hx hb dX14_isPred_12 (lv_at hl 4 rfl) ?_
      refine lv_aload_n hx hb dX14_isPred_14 rfl (lv_at hl 3 rfl) ?_
      have hX_ro := hX_a9.1.1.2.2.2
      obtain ⟨nb, enb⟩ : ∃ q9 : Int, q9 = P.lz la := ⟨_, rfl⟩
      have hX_B : BOK L P cO nb xb_2 := (by rw [enb]; exact (hX_a9.inb hi_3))
      obtain ⟨xb, exb⟩ : ∃ q9 : Nat, q9 = xb_2 := ⟨_, rfl⟩
      have hPc := hP.part (X := [(h0, .inr (13, [.ref hc, v14_1, v14_2, v14_3, v14_4, v14_5, v14_6, v14_7, v14_8, v14_9, v14_10, v14_11, v14_12])), (hc, .inr (12, [v13_0, v13_1, v13_2, v13_3, v13_4, .ref la, v13_6]))]) (cx := []) (pl := va_pl L (pE P)) [] rfl
      have hDc := hD.part (X := [(h0, .inr (13, [.ref hc, v14_1, v14_2, v14_3, v14_4, v14_5, v14_6, v14_7, v14_8, v14_9, v14_10, v14_11, v14_12])), (hc, .inr (12, [v13_0, v13_1, v13_2, v13_3, v13_4, .ref la, v13_6]))]) (cx := []) (pl := va_pl L (pE P)) [] (by decide) rfl
      have hKc := hK.sub (tys' := [(cO, .object "java/lang/Object")]) [2] rfl
      have hFc := va_freeP (X := [(h0, .inr (13, [.ref hc, v14_1, v14_2, v14_3, v14_4, v14_5, v14_6, v14_7, v14_8, v14_9, v14_10, v14_11, v14_12])), (hc, .inr (12, [v13_0, v13_1, v13_2, v13_3, v13_4, .ref la, v13_6]))]) (cx := []) (pl := va_pl L (pE P)) hD hS hA [] rfl
      refine va_calli (va_runV (As := []) (rest := [.int (zI (d12_4))]) ⟨hx, hb, hml, hown, hts⟩ (c_PB_ways l dC dI cO L P xb_2 nb hX_B hX_ro (by omega) H.size) (cwV 0 hts g_P14_isPredE_PB_ways rfl rfl rfl (by decide +kernel) ⟨(Nat.le_of_ble_eq_true rfl), (Nat.le_of_ble_eq_true rfl)⟩) ⟨fun a U g mk q => by obtain ⟨q0, q1, qP, qK, qD⟩ := q; exact ⟨q0, q1, qP, va_K.moved (u := U) (U := U.calling g mk a) (Vm.Alike.refl U.vm) qK, qD⟩, recv_12 hKc hPc hB_4.1.1 hB_4.1.2, fun U hU hW => ⟨rfl, by rw [hU], by rw [hU]; exact hPc, va_K.moved hW.alike hKc, hDc.weaken (fun _ _ _ _ => trivial)⟩⟩ rfl rfl hl.1 rfl (lv_room (Nat.le_of_ble_eq_true rfl)) dX14_isPred_15 ⟨(Nat.le_of_ble_eq_true rfl), (Nat.le_of_ble_eq_true rfl)⟩) hS (fun q _ h => hFc q h) hFc (fun r_6 u t H1 locs ht hvm hw hB hz1 hk1 hS => ?_)
      obtain ⟨hP1, hK1, hD1⟩ := hB
      rw [ht] at hP1
      have hK1 := va_K.moved hvm.symm hK1
      obtain ⟨hP, hD⟩ := va_joinP (X := [(h0, .inr (13, [.ref hc, v14_1, v14_2, v14_3, v14_4, v14_5, v14_6, v14_7, v14_8, v14_9, v14_10, v14_11, v14_12])), (hc, .inr (12, [v13_0, v13_1, v13_2, v13_3, v13_4, .ref la, v13_6]))]) (cx := []) (wr := [(h0, .inr (13, [.ref hc, v14_1, v14_2, v14_3, v14_4, v14_5, v14_6, v14_7, v14_8, v14_9, v14_10, v14_11, v14_12])), (hc, .inr (12, [v13_0, v13_1, v13_2, v13_3, v13_4, .ref la, v13_6]))]) (rx := []) (pl := va_pl L (pE P)) (pl1 := va_pl L (pE P)) hP hD [] [0, 1] rfl rfl (by decide) (by decide) hk1 hFc hP1 hD1
      have hK := (hK.sub (tys' := [(cI, .int), (cZ, .boolean)]) [0, 1] rfl).app hK1
      generalize H1 = H at hP hS ⊢
      have hP : va_P (dC, dI) vwQ ([(h0, .inr (13, [.ref hc, v14_1, v14_2, v14_3, v14_4, v14_5, v14_6, v14_7, v14_8, v14_9, v14_10, v14_11, v14_12])), (hc, .inr (12, [v13_0, v13_1, v13_2, v13_3, v13_4, .ref la, v13_6]))] ++ va_pl L (pE P)) H := hP
      have hD : va_D A ([(h0, .inr (13, [.ref hc, v14_1, v14_2, v14_3, v14_4, v14_5, v14_6, v14_7, v14_8, v14_9, v14_10, v14_11, v14_12])), (hc, .inr (12, [v13_0, v13_1, v13_2, v13_3, v13_4, .ref la, v13_6]))] ++ va_pl L (pE P)) := hD
      have hK : va_K (dC, dI) vwQ [(cI, .int), (cZ, .boolean), (cO, .object "java/lang/Object")] s := hK
      refine W.widen (k := 0) (n := 0) (Nat.le_of_ble_eq_true rfl) (Nat.le_of_ble_eq_true rfl) ?_
      obtain rfl : r_6 = (zI (rWays (P.ro (P.be xb_2)) (P.bf xb_2) (P.bs xb_2))) := hw
      have := rWays_spec (P.ro (P.be xb_2)) (P.bf xb_2) (P.bs xb_2)
      refine lv_icmp_ge (tgt := 39) hx hb dX14_isPred_18 (by decide) (fun b18 => ?_) (fun b18 => ?_)
      · have yb18 : (rWays (P.ro (P.be xb_2)) (P.bf xb_2) (P.bs xb_2) : Int) ≤ (d12_4 : Int) := (zI_le (a := rWays (P.ro (P.be xb_2)) (P.bf xb_2) (P.bs xb_2)) (b := d12_4) (by omega) (by omega) (by omega) (by omega)).mp b18
        refine lv_iconst (v := 0) hx hb dX14_isPred_39 (by decide) ?_
        subst hQ
        have hK := hK.sub (tys' := [(cO, .object "java/lang/Object"), (cI, .int), (cZ, .boolean)]) [2, 0, 1] rfl
        refine W.widen (k := 0) (n := 0) (Nat.le_of_ble_eq_true rfl) (Nat.le_of_ble_eq_true rfl) ?_
        exact W.zret (v := 0) hx hb hr (by decide) (fun t ht hW => ⟨⟨0, (), rfl, ⟨0, rfl, (by first | exact ⟨by omega, by omega, ANS.yes (EDG.yes hx_5 (d := d12_4) (by omega) (by omega) (by omega))⟩ | exact ⟨by omega, by omega, ANS.no (jw12.no hx_5 (by omega))⟩)⟩, by rw [ht]; exact hP, va_K.moved hW.alike hK, hD⟩, hS.F ht⟩) hS.2.2 dX14_isPred_40
      · have yb18 : ¬ (rWays (P.ro (P.be xb_2)) (P.bf xb_2) (P.bs xb_2) : Int) ≤ (d12_4 : Int) := fun q => b18 ((zI_le (a := rWays (P.ro (P.be xb_2)) (P.bf xb_2) (P.bs xb_2)) (b := d12_4) (by omega) (by omega) (by omega) (by omega)).mpr q)
        refine lv_aload_n hx hb dX14_isPred_21 rfl (lv_at hl 3 rfl) ?_
        refine lv_iload hx hb dX14_isPred_22 (lv_at hl 4 rfl) ?_
        have hX_ro := hX_a9.1.1.2.2.2
        obtain ⟨nb, enb⟩ : ∃ q9 : Int, q9 = P.lz la := ⟨_, rfl⟩
        have hX_B : BOK L P cO nb xb_2 := (by rw [enb]; exact (hX_a9.inb hi_3))
        obtain ⟨xb, exb⟩ : ∃ q9 : Nat, q9 = xb_2 := ⟨_, rfl⟩
        have hPc := hP.part (X := [(h0, .inr (13, [.ref hc, v14_1, v14_2, v14_3, v14_4, v14_5, v14_6, v14_7, v14_8, v14_9, v14_10, v14_11, v14_12])), (hc, .inr (12, [v13_0, v13_1, v13_2, v13_3, v13_4, .ref la, v13_6]))]) (cx := []) (pl := va_pl L (pE P)) [] rfl
        have hDc := hD.part (X := [(h0, .inr (13, [.ref hc, v14_1, v14_2, v14_3, v14_4, v14_5, v14_6, v14_7, v14_8, v14_9, v14_10, v14_11, v14_12])), (hc, .inr (12, [v13_0, v13_1, v13_2, v13_3, v13_4, .ref la, v13_6]))]) (cx := []) (pl := va_pl L (pE P)) [] (by decide) rfl
        have hKc := hK.sub (tys' := [(cO, .object "java/lang/Object")]) [2] rfl
        have hFc := va_freeP (X := [(h0, .inr (13, [.ref hc, v14_1, v14_2, v14_3, v14_4, v14_5, v14_6, v14_7, v14_8, v14_9, v14_10, v14_11, v14_12])), (hc, .inr (12, [v13_0, v13_1, v13_2, v13_3, v13_4, .ref la, v13_6]))]) (cx := []) (pl := va_pl L (pE P)) hD hS hA [] rfl
        refine va_calli (va_runV (As := [.int (zI (d12_4))]) (rest := []) ⟨hx, hb, hml, hown, hts⟩ (c_PB_way l dC dI cO L P xb_2 nb d12_4 hX_B (by omega) H.size) (cwV 1 hts g_P14_isPredE_PB_way rfl rfl rfl (by decide +kernel) ⟨(Nat.le_of_ble_eq_true rfl), (Nat.le_of_ble_eq_true rfl)⟩) ⟨fun a U g mk q => by obtain ⟨q0, q1, qP, qK, qD⟩ := q; exact ⟨q0, q1, qP, va_K.moved (u := U) (U := U.calling g mk a) (Vm.Alike.refl U.vm) qK, qD⟩, recv_12 hKc hPc hB_4.1.1 hB_4.1.2, fun U hU hW => ⟨rfl, by rw [hU], by rw [hU]; exact hPc, va_K.moved hW.alike hKc, hDc.weaken (fun _ _ _ _ => trivial)⟩⟩ rfl rfl hl.1 rfl (lv_room (Nat.le_of_ble_eq_true rfl)) dX14_isPred_24 ⟨(Nat.le_of_ble_eq_true rfl), (Nat.le_of_ble_eq_true rfl)⟩) hS (fun q _ h => hFc q h) hFc (fun r_7 u t H1 locs ht hvm hw hB hz1 hk1 hS => ?_)
        obtain ⟨hP1, hK1, hD1⟩ := hB
        rw [ht] at hP1
        have hK1 := va_K.moved hvm.symm hK1
        obtain ⟨hP, hD⟩ := va_joinP (X := [(h0, .inr (13, [.ref hc, v14_1, v14_2, v14_3, v14_4, v14_5, v14_6, v14_7, v14_8, v14_9, v14_10, v14_11, v14_12])), (hc, .inr (12, [v13_0, v13_1, v13_2, v13_3, v13_4, .ref la, v13_6]))]) (cx := []) (wr := [(h0, .inr (13, [.ref hc, v14_1, v14_2, v14_3, v14_4, v14_5, v14_6, v14_7, v14_8, v14_9, v14_10, v14_11, v14_12])), (hc, .inr (12, [v13_0, v13_1, v13_2, v13_3, v13_4, .ref la, v13_6]))]) (rx := []) (pl := va_pl L (pE P)) (pl1 := va_pl L (pE P)) hP hD [] [0, 1] rfl rfl (by decide) (by decide) hk1 hFc hP1 hD1
        have hK := (hK.sub (tys' := [(cI, .int), (cZ, .boolean)]) [0, 1] rfl).app hK1
        generalize H1 = H at hP hS ⊢
        have hP : va_P (dC, dI) vwQ ([(h0, .inr (13, [.ref hc, v14_1, v14_2, v14_3, v14_4, v14_5, v14_6, v14_7, v14_8, v14_9, v14_10, v14_11, v14_12])), (hc, .inr (12, [v13_0, v13_1, v13_2, v13_3, v13_4, .ref la, v13_6]))] ++ va_pl L (pE P)) H := hP
        have hD : va_D A ([(h0, .inr (13, [.ref hc, v14_1, v14_2, v14_3, v14_4, v14_5, v14_6, v14_7, v14_8, v14_9, v14_10, v14_11, v14_12])), (hc, .inr (12, [v13_0, v13_1, v13_2, v13_3, v13_4, .ref la, v13_6]))] ++ va_pl L (pE P)) := hD
        have hK : va_K (dC, dI) vwQ [(cI, .int), (cZ, .boolean), (cO, .object "java/lang/Object")] s := hK
        refine W.widen (k := 0) (n := 0) (Nat.le_of_ble_eq_true rfl) (Nat.le_of_ble_eq_true rfl) ?_
        obtain rfl : r_7 = (zI (rWay (P.bf xb_2) (P.bs xb_2) (d12_4))) := hw
        have := rWay_spec (P.bf xb_2) (P.bs xb_2) (d12_4)
        refine lv_iload_n hx hb dX14_isPred_27 rfl (lv_at hl 2 rfl) ?_
        refine lv_icmp_ne (tgt := 33) hx hb dX14_isPred_28 (by decide) (fun b28 => ?_) (fun b28 => ?_)
        · have yb28 : ¬ (rWay (P.bf xb_2) (P.bs xb_2) (d12_4) : Int) = (b0 : Int) := fun q => b28 ((zI_eq (a := rWay (P.bf xb_2) (P.bs xb_2) (d12_4)) (b := b0) (by omega) (by omega) (by omega) (by omega)).mpr q)
          refine lv_iinc (v := zI (d12_4 + 1)) (lv' := [(4, .int (zI (d12_4 + 1))), (0, .ref h0), (1, .int (zI (p0))), (2, .int (zI (b0))), (3, .ref xb_2)]) hx hb dX14_isPred_33 hl (k := 4) rfl (zI_add (d12_4) (1)) (by decide) rfl (fun ls hl => ?_)
          refine lv_goto (tgt := 12) hx hb dX14_isPred_36 (by decide) ?_
          exact ih12 (d12_4 + 1) ls H _ (by omega) (jw12.next (by omega)) (by omega) (lv_sub hl [1, 2, 3, 4, 0] rfl) hP hD hS
        · have yb28 : (rWay (P.bf xb_2) (P.bs xb_2) (d12_4) : Int) = (b0 : Int) := (zI_eq (a := rWay (P.bf xb_2) (P.bs xb_2) (d12_4)) (b := b0) (by omega) (by omega) (by omega) (by omega)).mp b28
          refine lv_iconst (v := 1) hx hb dX14_isPred_31 (by decide) ?_
          subst hQ
          have hK := hK.sub (tys' := [(cO, .object "java/lang/Object"), (cI, .int), (cZ, .boolean)]) [2, 0, 1] rfl
          refine W.widen (k := 0) (n := 0) (Nat.le_of_ble_eq_true rfl) (Nat.le_of_ble_eq_true rfl) ?_
          exact W.zret (v := 1) hx hb hr (by decide) (fun t ht hW => ⟨⟨1, (), rfl, ⟨1, rfl, (by first | exact ⟨by omega, by omega, ANS.yes (EDG.yes hx_5 (d := d12_4) (by omega) (by omega) (by omega))⟩ | exact ⟨by omega, by omega, ANS.no (jw12.no hx_5 (by omega))⟩)⟩, by rw [ht]; exact hP, va_K.moved hW.alike hK, hD⟩, hS.F ht⟩) hS.2.2 dX14_isPred_32
  exact key12 ((10 - 0 : Int).toNat + 1) 0 ls H _ (by omega) (WNO.none _ _ _) (by omega) (lv_sub hl [2, 3, 4, 1, 0] rfl) hP hD hS
def o_P14_isFrontierE : List Cond := [.fieldLink RX14 9 "SsaForgeModel$Flow" "reached" "[Z", .fieldLink RX14 55 "SsaForgeModel$Flow" "n" "I", .fieldLink RX14 16 "SsaForgeModel$Flow" "dominates" "[[Z", .methodLink RX14 91 yX14_isPred, .instanceMethod yX14_isPred, .selects RX14 yX14_isPred yX14_isPred, .initialized RX14]
def v_P14_isFrontierE : List Cond := .code yX14_isFrontier cX14_isFrontier 4 (some .boolean) :: (o_P14_isFrontierE ++ (wsX140 ++ (v_P14_isPredE ++ [])))
theorem mow_P14_isFrontierE : ∀ w ∈ o_P14_isFrontierE, w ∈ v_P14_isFrontierE := fun _ h => List.mem_cons_of_mem _ (List.mem_append_left _ h)
theorem mem_P14_isFrontierE_0 : ∀ w ∈ wsX140, w ∈ v_P14_isFrontierE := fun _ h => List.mem_cons_of_mem _ (List.mem_append_right _ (List.mem_append_left _ h))
theorem mem_P14_isFrontierE_1 : ∀ w ∈ v_P14_isPredE, w ∈ v_P14_isFrontierE := fun _ h => List.mem_cons_of_mem _ (List.mem_append_right _ (List.mem_append_right _ (List.mem_append_left _ h)))
set_option maxRecDepth 20000 in
theorem gw_P14_isFrontierE : v_P14_isFrontierE.all goodWord = true := by decide +kernel
set_option maxRecDepth 20000 in
theorem g_P14_isFrontierE_P14_isPredE : GoodIn v_P14_isFrontierE (wsV RX14 91 RX14 yX14_isPred v_P14_isPredE) := goodIn_app (goodIn_sub (fun w h => mow_P14_isFrontierE w (by revert w h; decide +kernel)) (by decide +kernel)) (goodIn_sub mem_P14_isFrontierE_1 gw_P14_isPredE)
set_option maxHeartbeats 4000000 in
set_option maxRecDepth 100000 in
theorem c_P14_isFrontierE (l : Launch) (dC : Nat → ClassId) (dI : Nat → Nat → Nat) (cI : ClassId) (cZ : ClassId) (h0 : Nat) (z14_n : Int) (v14_4 : Value) (v14_5 : Value) (v14_6 : Value) (v14_7 : Value) (v14_8 : Value) (v14_9 : Value) (v14_10 : Value) (v14_11 : Value) (v14_12 : Value) (q_1402 : Nat) (cA_1402 : ClassId) (n14_reached : Nat) (a14_reached : Int → Int) (q_d : Nat) (cD : ClassId) (nd : Nat) (fd : Nat → Option Nat) (hc : Nat) (v13_0 : Value) (v13_1 : Value) (v13_2 : Value) (v13_3 : Value) (v13_4 : Value) (v13_6 : Value) (la : Nat) (cO : ClassId) (L : List Nat) (P : PO) (sx_ed : Nat) (b0 : Int) (x0 : Int) (hNz14_n : 0 ≤ z14_n ∧ z14_n ≤ 300) (hNn14_reached : n14_reached ≤ 1000) (hR_a14_reached : ∀ j : Int, 0 ≤ a14_reached j ∧ a14_reached j ≤ 1) (hNnd : nd ≤ 1000) (hX_a : ALP L P cO cI cZ sx_ed la) (hX_D : TBK L P 44 cZ fd (P.lz la) (P.lz la) 0 1) (hNb : z14_n = P.lz la ∧ 1 ≤ z14_n ∧ 0 ≤ b0 ∧ b0 < z14_n ∧ 0 ≤ x0 ∧ x0 < z14_n ∧ z14_n ≤ n14_reached ∧ z14_n ≤ nd) (hX_R : RCX P la (-1) a14_reached (P.lz la)) (hX_W : DRWE P P fd la (P.lz la) (P.lz la)) (sz : Nat) : Met l yX14_isFrontier v_P14_isFrontierE ({ frames := 5, cells := 0, slots := 0, locals := 109 }) (va_Pc [.ref h0, .int (zI (b0)), .int (zI (x0))] (fun U => U.heap.size = sz ∧ va_P (dC, dI) vwQ ([(h0, .inr (13, [.ref hc, .int (zI (z14_n)), .ref q_1402, .ref q_d, v14_4, v14_5, v14_6, v14_7, v14_8, v14_9, v14_10, v14_11, v14_12])), (q_1402, .inl (cA_1402, n14_reached, .inl (fun j : Nat => zI (a14_reached (j : Int))))), (q_d, .inl (cD, nd, .inr (.inr (.inr (.inr fd))))), (hc, .inr (12, [v13_0, v13_1, v13_2, v13_3, v13_4, .ref la, v13_6]))] ++ va_pl L (pE P)) U.heap ∧ va_K (dC, dI) vwQ [(cA_1402, .boolean), (cD, .array .boolean), (cO, .object "java/lang/Object"), (cI, .int), (cZ, .boolean)] U ∧ va_D (fun _ => True) ([(h0, .inr (13, [.ref hc, .int (zI (z14_n)), .ref q_1402, .ref q_d, v14_4, v14_5, v14_6, v14_7, v14_8, v14_9, v14_10, v14_11, v14_12])), (q_1402, .inl (cA_1402, n14_reached, .inl (fun j : Nat => zI (a14_reached (j : Int))))), (q_d, .inl (cD, nd, .inr (.inr (.inr (.inr fd))))), (hc, .inr (12, [v13_0, v13_1, v13_2, v13_3, v13_4, .ref la, v13_6]))] ++ va_pl L (pE P)) ∧ va_Nw (.castable "SsaForgeModel$Block" "SsaForgeModel$Block") U)) (va_Qi (fun (r : Int32) (_ : Unit) => ∃ z : Int, r = zI z ∧ (0 ≤ z ∧ z ≤ 1 ∧ ANS z (FRO P la b0 x0))) (fun (_ : Unit) (t : State) => va_P (dC, dI) vwQ ([(h0, .inr (13, [.ref hc, .int (zI (z14_n)), .ref q_1402, .ref q_d, v14_4, v14_5, v14_6, v14_7, v14_8, v14_9, v14_10, v14_11, v14_12])), (q_1402, .inl (cA_1402, n14_reached, .inl (fun j : Nat => zI (a14_reached (j : Int))))), (q_d, .inl (cD, nd, .inr (.inr (.inr (.inr fd))))), (hc, .inr (12, [v13_0, v13_1, v13_2, v13_3, v13_4, .ref la, v13_6]))] ++ va_pl L (pE P)) t.heap ∧ va_K (dC, dI) vwQ [(cA_1402, .boolean), (cD, .array .boolean), (cO, .object "java/lang/Object"), (cI, .int), (cZ, .boolean)] t ∧ va_D (va_A ([(h0, .inr (13, [.ref hc, .int (zI (z14_n)), .ref q_1402, .ref q_d, v14_4, v14_5, v14_6, v14_7, v14_8, v14_9, v14_10, v14_11, v14_12])), (q_1402, .inl (cA_1402, n14_reached, .inl (fun j : Nat => zI (a14_reached (j : Int))))), (q_d, .inl (cD, nd, .inr (.inr (.inr (.inr fd))))), (hc, .inr (12, [v13_0, v13_1, v13_2, v13_3, v13_4, .ref la, v13_6]))] ++ va_pl L (pE P)) sz) ([(h0, .inr (13, [.ref hc, .int (zI (z14_n)), .ref q_1402, .ref q_d, v14_4, v14_5, v14_6, v14_7, v14_8, v14_9, v14_10, v14_11, v14_12])), (q_1402, .inl (cA_1402, n14_reached, .inl (fun j : Nat => zI (a14_reached (j : Int))))), (q_d, .inl (cD, nd, .inr (.inr (.inr (.inr fd))))), (hc, .inr (12, [v13_0, v13_1, v13_2, v13_3, v13_4, .ref la, v13_6]))] ++ va_pl L (pE P))) (va_A ([(h0, .inr (13, [.ref hc, .int (zI (z14_n)), .ref q_1402, .ref q_d, v14_4, v14_5, v14_6, v14_7, v14_8, v14_9, v14_10, v14_11, v14_12])), (q_1402, .inl (cA_1402, n14_reached, .inl (fun j : Nat => zI (a14_reached (j : Int))))), (q_d, .inl (cD, nd, .inr (.inr (.inr (.inr fd))))), (hc, .inr (12, [v13_0, v13_1, v13_2, v13_3, v13_4, .ref la, v13_6]))] ++ va_pl L (pE P)) sz)) 0 0 (va_A ([(h0, .inr (13, [.ref hc, .int (zI (z14_n)), .ref q_1402, .ref q_d, v14_4, v14_5, v14_6, v14_7, v14_8, v14_9, v14_10, v14_11, v14_12])), (q_1402, .inl (cA_1402, n14_reached, .inl (fun j : Nat => zI (a14_reached (j : Int))))), (q_d, .inl (cD, nd, .inr (.inr (.inr (.inr fd))))), (hc, .inr (12, [v13_0, v13_1, v13_2, v13_3, v13_4, .ref la, v13_6]))] ++ va_pl L (pE P)) sz) := by
  refine Met.ofW (cc := cX14_isFrontier) (maxL := 4) (ret := (some .boolean)) (by decide) rfl ?_
  intro p e s m args below meth c s₁ B hml hv
  obtain ⟨rfl, hsz, hP, hK, hD0, hp0⟩ := hv
  have hx := B.exec
  have hb := B.bytes
  have hr := B.returns
  have hts := atoms_spec (ws := v_P14_isFrontierE) B.pre
  have hown : s.vm.findClass RX14 = some m.cls := findClass_of_methodNamed B.named
  have hlocks := B.notSynchronized
  have ow : ∀ {k : Nat} {w : Cond}, o_P14_isFrontierE[k]? = some w → w.before ([.ref h0, .int (zI (b0)), .int (zI (x0))] : List Value).toArray s = true := fun h => hts _ (mow_P14_isFrontierE _ (List.mem_of_getElem? h))
  subst hsz
  have hD := hD0.self (sz := s.heap.size)
  generalize hAe : va_A ([(h0, .inr (13, [.ref hc, .int (zI (z14_n)), .ref q_1402, .ref q_d, v14_4, v14_5, v14_6, v14_7, v14_8, v14_9, v14_10, v14_11, v14_12])), (q_1402, .inl (cA_1402, n14_reached, .inl (fun j : Nat => zI (a14_reached (j : Int))))), (q_d, .inl (cD, nd, .inr (.inr (.inr (.inr fd))))), (hc, .inr (12, [v13_0, v13_1, v13_2, v13_3, v13_4, .ref la, v13_6]))] ++ va_pl L (pE P)) s.heap.size = A at hD ⊢
  have hA : ∀ q : Nat, s.heap.size ≤ q → A q := fun q h => by rw [← hAe]; exact Or.inr h
  have hS : va_S A s.heap s.heap [] := va_S.rf
  have hP : va_P (dC, dI) vwQ ([(h0, .inr (13, [.ref hc, .int (zI (z14_n)), .ref q_1402, .ref q_d, v14_4, v14_5, v14_6, v14_7, v14_8, v14_9, v14_10, v14_11, v14_12])), (q_1402, .inl (cA_1402, n14_reached, .inl (fun j : Nat => zI (a14_reached (j : Int))))), (q_d, .inl (cD, nd, .inr (.inr (.inr (.inr fd))))), (hc, .inr (12, [v13_0, v13_1, v13_2, v13_3, v13_4, .ref la, v13_6]))] ++ va_pl L (pE P)) s.heap := hP
  have hl := lv_entry ([.ref h0, .int (zI (b0)), .int (zI (x0))]) (n := 4) (Nat.le_of_ble_eq_true rfl)
  rw [lg_entry_eq]
  generalize (lg_sl ([.ref h0, .int (zI (b0)), .int (zI (x0))]) ++ List.replicate (4 - (lg_sl ([.ref h0, .int (zI (b0)), .int (zI (x0))])).length) Slot.unset).toArray = ls at hl ⊢
  have hl : lv_has ls 4 [(0, .ref h0), (1, .int (zI (b0))), (2, .int (zI (x0)))] := hl
  obtain ⟨H, hH⟩ : ∃ H, H = s.heap := ⟨_, rfl⟩
  rw [← hH] at hP
  have hS : va_S A s.heap H [] := by rw [hH]; exact hS
  rw [← hH]
  refine zW_cap (fun Q hQ => ?_)
  have hX_a9 := hX_a
  have hla := hX_a.lok.2.2.1
  have hla2 := hX_a.1.1.2.1
  refine lv_aload_n hx hb dX14_isFrontier_0 rfl (lv_at hl 0 rfl) ?_
  refine va_get (D := (dC, dI)) (ci := 13) (v := .ref q_1402) (C := RX14) (T := TX14) (N := 13) hx hb hts mem_P14_isFrontierE_0 hown hK hP 0 rfl rfl 2 (by decide) (ow (k := 0) rfl) (fun _ h9 => h9) rfl dX14_isFrontier_1 ?_
  refine lv_iload_n hx hb dX14_isFrontier_4 rfl (lv_at hl 1 rfl) ?_
  refine va_zald hx hb hK hP 1 0 rfl rfl (zI_in (a := b0) (n := n14_reached) (by omega) (by omega) (by omega)) dX14_isFrontier_5 ?_
  refine lv_topi (fun z ez => ?_)
  obtain rfl : z = zI (a14_reached (b0)) := ez.trans (zI_ld (a14_reached) (by omega) (by omega))
  have k1 := hR_a14_reached (b0)
  refine lv_if_eq (tgt := 25) hx hb dX14_isFrontier_6 (by decide) (fun b6 => ?_) (fun b6 => ?_)
  · have yb6 : (a14_reached (b0) : Int) = (0 : Int) := (zI_eq (a := a14_reached (b0)) (b := 0) (by omega) (by omega) (by omega) (by omega)).mp b6
    refine lv_iconst (v := 0) hx hb dX14_isFrontier_25 (by decide) ?_
    subst hQ
    refine W.widen (k := 0) (n := 0) (Nat.le_of_ble_eq_true rfl) (Nat.le_of_ble_eq_true rfl) ?_
    exact W.zret (v := 0) hx hb hr (by decide) (fun t ht hW => ⟨⟨0, (), rfl, ⟨0, rfl, (by first | exact ⟨by omega, by omega, ANS.yes ⟨hre9, (fun q9 => by first | exact q9.1 (by omega) | (have q8 := hdm8.mpr q9.2; omega)), d29_3, hdm9.mp (by omega), hpe9.1 (by omega)⟩⟩ | exact ⟨by omega, by omega, ANS.no (jf29.no hX_a9.1.1 (by omega) (by omega))⟩ | exact ⟨by omega, by omega, ANS.no (fun q9 => by first | (have q8 := (hX_R b0 (by omega) (by omega)).mpr q9.1; omega) | exact q9.2.1 ⟨by omega, hdm8.mp (by omega)⟩)⟩)⟩, by rw [ht]; exact hP, va_K.moved hW.alike hK, hD⟩, hS.F ht⟩) hS.2.2 dX14_isFrontier_26
  · have yb6 : ¬ (a14_reached (b0) : Int) = (0 : Int) := fun q => b6 ((zI_eq (a := a14_reached (b0)) (b := 0) (by omega) (by omega) (by omega) (by omega)).mpr q)
    refine lv_iload_n hx hb dX14_isFrontier_9 rfl (lv_at hl 1 rfl) ?_
    refine lv_iload_n hx hb dX14_isFrontier_10 rfl (lv_at hl 2 rfl) ?_
    refine lv_icmp_eq (tgt := 27) hx hb dX14_isFrontier_11 (by decide) (fun b11 => ?_) (fun b11 => ?_)
    · have yb11 : (b0 : Int) = (x0 : Int) := (zI_eq (a := b0) (b := x0) (by omega) (by omega) (by omega) (by omega)).mp b11
      have hre9 := (hX_R b0 (by omega) (by omega)).mp (by omega)
      refine lv_iconst (v := 0) hx hb dX14_isFrontier_27 (by decide) ?_
      refine lv_istore_n (lv' := [(3, .int 0), (0, .ref h0), (1, .int (zI (b0))), (2, .int (zI (x0)))]) hx hb dX14_isFrontier_28 rfl hl (by decide) rfl (fun ls hl => ?_)
      have key29 : ∀ n29 : Nat, ∀ (d29_3 : Int) (ls : Array Slot) (H : Heap) (locs : List Loc), (0 ≤ d29_3 ∧ d29_3 ≤ z14_n) → (FNO P la b0 x0 (d29_3)) → ((z14_n - d29_3 : Int).toNat) < n29 → lv_has ls 4 [(0, .ref h0), (1, .int (zI (b0))), (2, .int (zI (x0))), (3, .int (zI (d29_3)))] → va_P (dC, dI) vwQ ([(h0, .inr (13, [.ref hc, .int (zI (z14_n)), .ref q_1402, .ref q_d, v14_4, v14_5, v14_6, v14_7, v14_8, v14_9, v14_10, v14_11, v14_12])), (q_1402, .inl (cA_1402, n14_reached, .inl (fun j : Nat => zI (a14_reached (j : Int))))), (q_d, .inl (cD, nd, .inr (.inr (.inr (.inr fd))))), (hc, .inr (12, [v13_0, v13_1, v13_2, v13_3, v13_4, .ref la, v13_6]))] ++ va_pl L (pE P)) H → va_D A ([(h0, .inr (13, [.ref hc, .int (zI (z14_n)), .ref q_1402, .ref q_d, v14_4, v14_5, v14_6, v14_7, v14_8, v14_9, v14_10, v14_11, v14_12])), (q_1402, .inl (cA_1402, n14_reached, .inl (fun j : Nat => zI (a14_reached (j : Int))))), (q_d, .inl (cD, nd, .inr (.inr (.inr (.inr fd))))), (hc, .inr (12, [v13_0, v13_1, v13_2, v13_3, v13_4, .ref la, v13_6]))] ++ va_pl L (pE P)) → va_S A s.heap H locs → W p l e (headSpec v_P14_isFrontierE ({ frames := 5, cells := 0, slots := 0, locals := 109 })).room s m ([.ref h0, .int (zI (b0)), .int (zI (x0))] : List Value).toArray below meth c H locs 0 0 Q (F0 m 29 ls []) := by
        intro n29
        induction n29 with
        | zero => intro d29_3 ls H locs jd29_3 jf29 hm29; exact absurd hm29 (by omega)
        | succ n29 ih29 =>
          intro d29_3 ls H locs jd29_3 jf29 hm29 hl hP hD hS
          skip
          refine lv_iload_n hx hb dX14_isFrontier_29 rfl (lv_at hl 3 rfl) ?_
          refine lv_aload_n hx hb dX14_isFrontier_30 rfl (lv_at hl 0 rfl) ?_
          refine va_get (D := (dC, dI)) (ci := 13) (v := .int (zI (z14_n))) (C := RX14) (T := TX14) (N := 13) hx hb hts mem_P14_isFrontierE_0 hown hK hP 0 rfl rfl 1 (by decide) (ow (k := 1) rfl) (fun _ h9 => h9) rfl dX14_isFrontier_31 ?_
          refine lv_icmp_ge (tgt := 65) hx hb dX14_isFrontier_34 (by decide) (fun b34 => ?_) (fun b34 => ?_)
          · have yb34 : (z14_n : Int) ≤ (d29_3 : Int) := (zI_le (a := z14_n) (b := d29_3) (by omega) (by omega) (by omega) (by omega)).mp b34
            refine lv_iconst (v := 0) hx hb dX14_isFrontier_65 (by decide) ?_
            subst hQ
            refine W.widen (k := 0) (n := 0) (Nat.le_of_ble_eq_true rfl) (Nat.le_of_ble_eq_true rfl) ?_
            exact W.zret (v := 0) hx hb hr (by decide) (fun t ht hW => ⟨⟨0, (), rfl, ⟨0, rfl, (by first | exact ⟨by omega, by omega, ANS.yes ⟨hre9, (fun q9 => by first | exact q9.1 (by omega) | (have q8 := hdm8.mpr q9.2; omega)), d29_3, hdm9.mp (by omega), hpe9.1 (by omega)⟩⟩ | exact ⟨by omega, by omega, ANS.no (jf29.no hX_a9.1.1 (by omega) (by omega))⟩ | exact ⟨by omega, by omega, ANS.no (fun q9 => by first | (have q8 := (hX_R b0 (by omega) (by omega)).mpr q9.1; omega) | exact q9.2.1 ⟨by omega, hdm8.mp (by omega)⟩)⟩)⟩, by rw [ht]; exact hP, va_K.moved hW.alike hK, hD⟩, hS.F ht⟩) hS.2.2 dX14_isFrontier_66
          · have yb34 : ¬ (z14_n : Int) ≤ (d29_3 : Int) := fun q => b34 ((zI_le (a := z14_n) (b := d29_3) (by omega) (by omega) (by omega) (by omega)).mpr q)
            refine lv_aload_n hx hb dX14_isFrontier_37 rfl (lv_at hl 0 rfl) ?_
            refine va_get (D := (dC, dI)) (ci := 13) (v := .ref q_d) (C := RX14) (T := TX14) (N := 13) hx hb hts mem_P14_isFrontierE_0 hown hK hP 0 rfl rfl 3 (by decide) (ow (k := 2) rfl) (fun _ h9 => h9) rfl dX14_isFrontier_38 ?_
            refine lv_iload_n hx hb dX14_isFrontier_41 rfl (lv_at hl 1 rfl) ?_
            obtain ⟨yt_2001, heyt_2001, hmyt_2001, hnyt_2001, hiyt_2001⟩ := hX_D (b0) (by omega) (by omega)
            refine va_aldr hx hb hK hP 2 1 rfl rfl (zI_in (a := b0) (n := nd) (by omega) (by omega) (by omega)) dX14_isFrontier_42 ?_
            rw [show va_rf (fd (zI (b0)).toNatClampNeg) = .ref yt_2001 from (by rw [zI_cl (by omega) (by omega), heyt_2001]; rfl)]
            have hlv9 := LVT.at (P := P) heyt_2001
            refine lv_iload_n hx hb dX14_isFrontier_43 rfl (lv_at hl 3 rfl) ?_
            obtain ⟨kp_2002, hkp_2002⟩ := va_pl_get (X := [(h0, .inr (13, [.ref hc, .int (zI (z14_n)), .ref q_1402, .ref q_d, v14_4, v14_5, v14_6, v14_7, v14_8, v14_9, v14_10, v14_11, v14_12])), (q_1402, .inl (cA_1402, n14_reached, .inl (fun j : Nat => zI (a14_reached (j : Int))))), (q_d, .inl (cD, nd, .inr (.inr (.inr (.inr fd))))), (hc, .inr (12, [v13_0, v13_1, v13_2, v13_3, v13_4, .ref la, v13_6]))]) (f := pE P) hmyt_2001.1
            rw [pE_n44 hmyt_2001.2.1, hmyt_2001.2.2] at hkp_2002
            refine va_zald hx hb hK hP kp_2002 4 hkp_2002 rfl (zI_in (a := d29_3) (n := P.an yt_2001) (by omega) (by omega) (by omega)) dX14_isFrontier_44 ?_
            refine lv_topi (fun z ez => ?_)
            obtain rfl : z = zI (P.ia yt_2001 (d29_3)) := ez.trans (zI_ld (P.ia yt_2001) (by omega) (by omega))
            have := hiyt_2001 (d29_3)
            have hlv8 := hlv9 (d29_3)
            have hdm9 := hX_W b0 (d29_3) (by omega) (by omega) (by omega) (by omega)
            refine lv_if_eq (tgt := 59) hx hb dX14_isFrontier_45 (by decide) (fun b45 => ?_) (fun b45 => ?_)
            · have yb45 : (P.ia yt_2001 (d29_3) : Int) = (0 : Int) := (zI_eq (a := P.ia yt_2001 (d29_3)) (b := 0) (by omega) (by omega) (by omega) (by omega)).mp b45
              refine lv_iinc (v := zI (d29_3 + 1)) (lv' := [(3, .int (zI (d29_3 + 1))), (0, .ref h0), (1, .int (zI (b0))), (2, .int (zI (x0)))]) hx hb dX14_isFrontier_59 hl (k := 3) rfl (zI_add (d29_3) (1)) (by decide) rfl (fun ls hl => ?_)
              refine lv_goto (tgt := 29) hx hb dX14_isFrontier_62 (by decide) ?_
              exact ih29 (d29_3 + 1) ls H _ (by omega) (jf29.next (by first | exact Or.inl (fun q9 => by have q8 := hdm9.mpr q9; omega) | exact Or.inr (hpe9.2 (by omega)))) (by omega) (lv_sub hl [1, 2, 3, 0] rfl) hP hD hS
            · have yb45 : ¬ (P.ia yt_2001 (d29_3) : Int) = (0 : Int) := fun q => b45 ((zI_eq (a := P.ia yt_2001 (d29_3)) (b := 0) (by omega) (by omega) (by omega) (by omega)).mpr q)
              refine lv_aload_n hx hb dX14_isFrontier_48 rfl (lv_at hl 0 rfl) ?_
              refine lv_iload_n hx hb dX14_isFrontier_49 rfl (lv_at hl 3 rfl) ?_
              refine lv_iload_n hx hb dX14_isFrontier_50 rfl (lv_at hl 2 rfl) ?_
              have hX_a := hX_a9
              have hPc := hP.part (X := [(h0, .inr (13, [.ref hc, .int (zI (z14_n)), .ref q_1402, .ref q_d, v14_4, v14_5, v14_6, v14_7, v14_8, v14_9, v14_10, v14_11, v14_12])), (q_1402, .inl (cA_1402, n14_reached, .inl (fun j : Nat => zI (a14_reached (j : Int))))), (q_d, .inl (cD, nd, .inr (.inr (.inr (.inr fd))))), (hc, .inr (12, [v13_0, v13_1, v13_2, v13_3, v13_4, .ref la, v13_6]))]) (cx := [(h0, .inr (13, [.ref hc, .int (zI (z14_n)), .ref q_1402, .ref q_d, v14_4, v14_5, v14_6, v14_7, v14_8, v14_9, v14_10, v14_11, v14_12])), (hc, .inr (12, [v13_0, v13_1, v13_2, v13_3, v13_4, .ref la, v13_6]))]) (pl := va_pl L (pE P)) [0, 3] rfl
              have hDc := hD.part (X := [(h0, .inr (13, [.ref hc, .int (zI (z14_n)), .ref q_1402, .ref q_d, v14_4, v14_5, v14_6, v14_7, v14_8, v14_9, v14_10, v14_11, v14_12])), (q_1402, .inl (cA_1402, n14_reached, .inl (fun j : Nat => zI (a14_reached (j : Int))))), (q_d, .inl (cD, nd, .inr (.inr (.inr (.inr fd))))), (hc, .inr (12, [v13_0, v13_1, v13_2, v13_3, v13_4, .ref la, v13_6]))]) (cx := [(h0, .inr (13, [.ref hc, .int (zI (z14_n)), .ref q_1402, .ref q_d, v14_4, v14_5, v14_6, v14_7, v14_8, v14_9, v14_10, v14_11, v14_12])), (hc, .inr (12, [v13_0, v13_1, v13_2, v13_3, v13_4, .ref la, v13_6]))]) (pl := va_pl L (pE P)) [0, 3] (by decide) rfl
              have hKc := hK.sub (tys' := [(cO, .object "java/lang/Object"), (cI, .int), (cZ, .boolean)]) [2, 3, 4] rfl
              have hFc := va_freeP (X := [(h0, .inr (13, [.ref hc, .int (zI (z14_n)), .ref q_1402, .ref q_d, v14_4, v14_5, v14_6, v14_7, v14_8, v14_9, v14_10, v14_11, v14_12])), (q_1402, .inl (cA_1402, n14_reached, .inl (fun j : Nat => zI (a14_reached (j : Int))))), (q_d, .inl (cD, nd, .inr (.inr (.inr (.inr fd))))), (hc, .inr (12, [v13_0, v13_1, v13_2, v13_3, v13_4, .ref la, v13_6]))]) (cx := [(h0, .inr (13, [.ref hc, .int (zI (z14_n)), .ref q_1402, .ref q_d, v14_4, v14_5, v14_6, v14_7, v14_8, v14_9, v14_10, v14_11, v14_12])), (hc, .inr (12, [v13_0, v13_1, v13_2, v13_3, v13_4, .ref la, v13_6]))]) (pl := va_pl L (pE P)) hD hS hA [0, 3] rfl
              refine va_calli (va_runV (As := [.int (zI (d29_3)), .int (zI (x0))]) (rest := []) ⟨hx, hb, hml, hown, hts⟩ (c_P14_isPredE l dC dI cI cZ h0 (.int (zI (z14_n))) (.ref q_1402) (.ref q_d) v14_4 v14_5 v14_6 v14_7 v14_8 v14_9 v14_10 v14_11 v14_12 hc v13_0 v13_1 v13_2 v13_3 v13_4 v13_6 la cO L P sx_ed d29_3 x0 hX_a (by omega) H.size) (cwV 2 hts g_P14_isFrontierE_P14_isPredE rfl rfl rfl (by decide +kernel) ⟨(Nat.le_of_ble_eq_true rfl), (Nat.le_of_ble_eq_true rfl)⟩) ⟨fun a U g mk q => by obtain ⟨q0, q1, qP, qK, qD, e0⟩ := q; exact ⟨q0, q1, qP, va_K.moved (u := U) (U := U.calling g mk a) (Vm.Alike.refl U.vm) qK, qD, va_Nw.same rfl (u := U) (U := U.calling g mk a) rfl e0⟩, va_recv hKc hPc (ci := 13) (q0 := 0) rfl rfl, fun U hU hW => ⟨rfl, by rw [hU], by rw [hU]; exact hPc, va_K.moved hW.alike hKc, hDc.weaken (fun _ _ _ _ => trivial), va_Nw.warmC hW hp0⟩⟩ rfl rfl hl.1 rfl (lv_room (Nat.le_of_ble_eq_true rfl)) dX14_isFrontier_51 ⟨(Nat.le_of_ble_eq_true rfl), (Nat.le_of_ble_eq_true rfl)⟩) hS (fun q _ h => hFc q h) hFc (fun r_2003 u t H1 locs ht hvm hw hB hz1 hk1 hS => ?_)
              obtain ⟨hP1, hK1, hD1⟩ := hB
              rw [ht] at hP1
              have hK1 := va_K.moved hvm.symm hK1
              obtain ⟨hP, hD⟩ := va_joinP (X := [(h0, .inr (13, [.ref hc, .int (zI (z14_n)), .ref q_1402, .ref q_d, v14_4, v14_5, v14_6, v14_7, v14_8, v14_9, v14_10, v14_11, v14_12])), (q_1402, .inl (cA_1402, n14_reached, .inl (fun j : Nat => zI (a14_reached (j : Int))))), (q_d, .inl (cD, nd, .inr (.inr (.inr (.inr fd))))), (hc, .inr (12, [v13_0, v13_1, v13_2, v13_3, v13_4, .ref la, v13_6]))]) (cx := [(h0, .inr (13, [.ref hc, .int (zI (z14_n)), .ref q_1402, .ref q_d, v14_4, v14_5, v14_6, v14_7, v14_8, v14_9, v14_10, v14_11, v14_12])), (hc, .inr (12, [v13_0, v13_1, v13_2, v13_3, v13_4, .ref la, v13_6]))]) (wr := [(q_1402, .inl (cA_1402, n14_reached, .inl (fun j : Nat => zI (a14_reached (j : Int))))), (q_d, .inl (cD, nd, .inr (.inr (.inr (.inr fd)))))]) (rx := [(h0, .inr (13, [.ref hc, .int (zI (z14_n)), .ref q_1402, .ref q_d, v14_4, v14_5, v14_6, v14_7, v14_8, v14_9, v14_10, v14_11, v14_12])), (hc, .inr (12, [v13_0, v13_1, v13_2, v13_3, v13_4, .ref la, v13_6]))]) (pl := va_pl L (pE P)) (pl1 := va_pl L (pE P)) hP hD [0, 3] [1, 2] rfl rfl (by decide) (by decide) hk1 hFc hP1 hD1
              have hK := (hK.sub (tys' := [(cA_1402, .boolean), (cD, .array .boolean)]) [0, 1] rfl).app hK1
              generalize H1 = H at hP hS ⊢
              have hP : va_P (dC, dI) vwQ ([(q_1402, .inl (cA_1402, n14_reached, .inl (fun j : Nat => zI (a14_reached (j : Int))))), (q_d, .inl (cD, nd, .inr (.inr (.inr (.inr fd))))), (h0, .inr (13, [.ref hc, .int (zI (z14_n)), .ref q_1402, .ref q_d, v14_4, v14_5, v14_6, v14_7, v14_8, v14_9, v14_10, v14_11, v14_12])), (hc, .inr (12, [v13_0, v13_1, v13_2, v13_3, v13_4, .ref la, v13_6]))] ++ va_pl L (pE P)) H := hP
              have hD : va_D A ([(q_1402, .inl (cA_1402, n14_reached, .inl (fun j : Nat => zI (a14_reached (j : Int))))), (q_d, .inl (cD, nd, .inr (.inr (.inr (.inr fd))))), (h0, .inr (13, [.ref hc, .int (zI (z14_n)), .ref q_1402, .ref q_d, v14_4, v14_5, v14_6, v14_7, v14_8, v14_9, v14_10, v14_11, v14_12])), (hc, .inr (12, [v13_0, v13_1, v13_2, v13_3, v13_4, .ref la, v13_6]))] ++ va_pl L (pE P)) := hD
              have hK : va_K (dC, dI) vwQ [(cA_1402, .boolean), (cD, .array .boolean), (cO, .object "java/lang/Object"), (cI, .int), (cZ, .boolean)] s := hK
              refine W.widen (k := 0) (n := 0) (Nat.le_of_ble_eq_true rfl) (Nat.le_of_ble_eq_true rfl) ?_
              have hw_2004 := hw
              obtain ⟨z_2005, rfl, hzz_2005⟩ := hw_2004
              have hpe9 := hzz_2005.2.2
              refine lv_if_eq (tgt := 59) hx hb dX14_isFrontier_54 (by decide) (fun b54 => ?_) (fun b54 => ?_)
              · have yb54 : (z_2005 : Int) = (0 : Int) := (zI_eq (a := z_2005) (b := 0) (by omega) (by omega) (by omega) (by omega)).mp b54
                refine lv_iinc (v := zI (d29_3 + 1)) (lv' := [(3, .int (zI (d29_3 + 1))), (0, .ref h0), (1, .int (zI (b0))), (2, .int (zI (x0)))]) hx hb dX14_isFrontier_59 hl (k := 3) rfl (zI_add (d29_3) (1)) (by decide) rfl (fun ls hl => ?_)
                refine lv_goto (tgt := 29) hx hb dX14_isFrontier_62 (by decide) ?_
                have hP := hP.part (X := [(q_1402, .inl (cA_1402, n14_reached, .inl (fun j : Nat => zI (a14_reached (j : Int))))), (q_d, .inl (cD, nd, .inr (.inr (.inr (.inr fd))))), (h0, .inr (13, [.ref hc, .int (zI (z14_n)), .ref q_1402, .ref q_d, v14_4, v14_5, v14_6, v14_7, v14_8, v14_9, v14_10, v14_11, v14_12])), (hc, .inr (12, [v13_0, v13_1, v13_2, v13_3, v13_4, .ref la, v13_6]))]) (cx := [(h0, .inr (13, [.ref hc, .int (zI (z14_n)), .ref q_1402, .ref q_d, v14_4, v14_5, v14_6, v14_7, v14_8, v14_9, v14_10, v14_11, v14_12])), (q_1402, .inl (cA_1402, n14_reached, .inl (fun j : Nat => zI (a14_reached (j : Int))))), (q_d, .inl (cD, nd, .inr (.inr (.inr (.inr fd))))), (hc, .inr (12, [v13_0, v13_1, v13_2, v13_3, v13_4, .ref la, v13_6]))]) (pl := va_pl L (pE P)) [2, 0, 1, 3] rfl
                have hD := hD.part (X := [(q_1402, .inl (cA_1402, n14_reached, .inl (fun j : Nat => zI (a14_reached (j : Int))))), (q_d, .inl (cD, nd, .inr (.inr (.inr (.inr fd))))), (h0, .inr (13, [.ref hc, .int (zI (z14_n)), .ref q_1402, .ref q_d, v14_4, v14_5, v14_6, v14_7, v14_8, v14_9, v14_10, v14_11, v14_12])), (hc, .inr (12, [v13_0, v13_1, v13_2, v13_3, v13_4, .ref la, v13_6]))]) (cx := [(h0, .inr (13, [.ref hc, .int (zI (z14_n)), .ref q_1402, .ref q_d, v14_4, v14_5, v14_6, v14_7, v14_8, v14_9, v14_10, v14_11, v14_12])), (q_1402, .inl (cA_1402, n14_reached, .inl (fun j : Nat => zI (a14_reached (j : Int))))), (q_d, .inl (cD, nd, .inr (.inr (.inr (.inr fd))))), (hc, .inr (12, [v13_0, v13_1, v13_2, v13_3, v13_4, .ref la, v13_6]))]) (pl := va_pl L (pE P)) [2, 0, 1, 3] (by decide) rfl
                exact ih29 (d29_3 + 1) ls H _ (by omega) (jf29.next (by first | exact Or.inl (fun q9 => by have q8 := hdm9.mpr q9; omega) | exact Or.inr (hpe9.2 (by omega)))) (by omega) (lv_sub hl [1, 2, 3, 0] rfl) hP hD hS
              · have yb54 : ¬ (z_2005 : Int) = (0 : Int) := fun q => b54 ((zI_eq (a := z_2005) (b := 0) (by omega) (by omega) (by omega) (by omega)).mpr q)
                refine lv_iconst (v := 1) hx hb dX14_isFrontier_57 (by decide) ?_
                subst hQ
                have hP := hP.part (X := [(q_1402, .inl (cA_1402, n14_reached, .inl (fun j : Nat => zI (a14_reached (j : Int))))), (q_d, .inl (cD, nd, .inr (.inr (.inr (.inr fd))))), (h0, .inr (13, [.ref hc, .int (zI (z14_n)), .ref q_1402, .ref q_d, v14_4, v14_5, v14_6, v14_7, v14_8, v14_9, v14_10, v14_11, v14_12])), (hc, .inr (12, [v13_0, v13_1, v13_2, v13_3, v13_4, .ref la, v13_6]))]) (cx := [(h0, .inr (13, [.ref hc, .int (zI (z14_n)), .ref q_1402, .ref q_d, v14_4, v14_5, v14_6, v14_7, v14_8, v14_9, v14_10, v14_11, v14_12])), (q_1402, .inl (cA_1402, n14_reached, .inl (fun j : Nat => zI (a14_reached (j : Int))))), (q_d, .inl (cD, nd, .inr (.inr (.inr (.inr fd))))), (hc, .inr (12, [v13_0, v13_1, v13_2, v13_3, v13_4, .ref la, v13_6]))]) (pl := va_pl L (pE P)) [2, 0, 1, 3] rfl
                have hD := hD.part (X := [(q_1402, .inl (cA_1402, n14_reached, .inl (fun j : Nat => zI (a14_reached (j : Int))))), (q_d, .inl (cD, nd, .inr (.inr (.inr (.inr fd))))), (h0, .inr (13, [.ref hc, .int (zI (z14_n)), .ref q_1402, .ref q_d, v14_4, v14_5, v14_6, v14_7, v14_8, v14_9, v14_10, v14_11, v14_12])), (hc, .inr (12, [v13_0, v13_1, v13_2, v13_3, v13_4, .ref la, v13_6]))]) (cx := [(h0, .inr (13, [.ref hc, .int (zI (z14_n)), .ref q_1402, .ref q_d, v14_4, v14_5, v14_6, v14_7, v14_8, v14_9, v14_10, v14_11, v14_12])), (q_1402, .inl (cA_1402, n14_reached, .inl (fun j : Nat => zI (a14_reached (j : Int))))), (q_d, .inl (cD, nd, .inr (.inr (.inr (.inr fd))))), (hc, .inr (12, [v13_0, v13_1, v13_2, v13_3, v13_4, .ref la, v13_6]))]) (pl := va_pl L (pE P)) [2, 0, 1, 3] (by decide) rfl
                refine W.widen (k := 0) (n := 0) (Nat.le_of_ble_eq_true rfl) (Nat.le_of_ble_eq_true rfl) ?_
                exact W.zret (v := 1) hx hb hr (by decide) (fun t ht hW => ⟨⟨1, (), rfl, ⟨1, rfl, (by first | exact ⟨by omega, by omega, ANS.yes ⟨hre9, (fun q9 => by first | exact q9.1 (by omega) | (have q8 := hdm8.mpr q9.2; omega)), d29_3, hdm9.mp (by omega), hpe9.1 (by omega)⟩⟩ | exact ⟨by omega, by omega, ANS.no (jf29.no hX_a9.1.1 (by omega) (by omega))⟩ | exact ⟨by omega, by omega, ANS.no (fun q9 => by first | (have q8 := (hX_R b0 (by omega) (by omega)).mpr q9.1; omega) | exact q9.2.1 ⟨by omega, hdm8.mp (by omega)⟩)⟩)⟩, by rw [ht]; exact hP, va_K.moved hW.alike hK, hD⟩, hS.F ht⟩) hS.2.2 dX14_isFrontier_58
      exact key29 ((z14_n - 0 : Int).toNat + 1) 0 ls H _ (by omega) (FNO.none _ _ _ _) (by omega) (lv_sub hl [1, 2, 3, 0] rfl) hP hD hS
    · have yb11 : ¬ (b0 : Int) = (x0 : Int) := fun q => b11 ((zI_eq (a := b0) (b := x0) (by omega) (by omega) (by omega) (by omega)).mpr q)
      refine lv_aload_n hx hb dX14_isFrontier_14 rfl (lv_at hl 0 rfl) ?_
      refine va_get (D := (dC, dI)) (ci := 13) (v := .ref q_d) (C := RX14) (T := TX14) (N := 13) hx hb hts mem_P14_isFrontierE_0 hown hK hP 0 rfl rfl 3 (by decide) (ow (k := 2) rfl) (fun _ h9 => h9) rfl dX14_isFrontier_15 ?_
      refine lv_iload_n hx hb dX14_isFrontier_18 rfl (lv_at hl 1 rfl) ?_
      obtain ⟨yt_2006, heyt_2006, hmyt_2006, hnyt_2006, hiyt_2006⟩ := hX_D (b0) (by omega) (by omega)
      refine va_aldr hx hb hK hP 2 1 rfl rfl (zI_in (a := b0) (n := nd) (by omega) (by omega) (by omega)) dX14_isFrontier_19 ?_
      rw [show va_rf (fd (zI (b0)).toNatClampNeg) = .ref yt_2006 from (by rw [zI_cl (by omega) (by omega), heyt_2006]; rfl)]
      have hlv9 := LVT.at (P := P) heyt_2006
      refine lv_iload_n hx hb dX14_isFrontier_20 rfl (lv_at hl 2 rfl) ?_
      obtain ⟨kp_2007, hkp_2007⟩ := va_pl_get (X := [(h0, .inr (13, [.ref hc, .int (zI (z14_n)), .ref q_1402, .ref q_d, v14_4, v14_5, v14_6, v14_7, v14_8, v14_9, v14_10, v14_11, v14_12])), (q_1402, .inl (cA_1402, n14_reached, .inl (fun j : Nat => zI (a14_reached (j : Int))))), (q_d, .inl (cD, nd, .inr (.inr (.inr (.inr fd))))), (hc, .inr (12, [v13_0, v13_1, v13_2, v13_3, v13_4, .ref la, v13_6]))]) (f := pE P) hmyt_2006.1
      rw [pE_n44 hmyt_2006.2.1, hmyt_2006.2.2] at hkp_2007
      refine va_zald hx hb hK hP kp_2007 4 hkp_2007 rfl (zI_in (a := x0) (n := P.an yt_2006) (by omega) (by omega) (by omega)) dX14_isFrontier_21 ?_
      refine lv_topi (fun z ez => ?_)
      obtain rfl : z = zI (P.ia yt_2006 (x0)) := ez.trans (zI_ld (P.ia yt_2006) (by omega) (by omega))
      have := hiyt_2006 (x0)
      have hlv8 := hlv9 x0
      have hdm8 := hX_W b0 x0 (by omega) (by omega) (by omega) (by omega)
      refine lv_if_eq (tgt := 27) hx hb dX14_isFrontier_22 (by decide) (fun b22 => ?_) (fun b22 => ?_)
      · have yb22 : (P.ia yt_2006 (x0) : Int) = (0 : Int) := (zI_eq (a := P.ia yt_2006 (x0)) (b := 0) (by omega) (by omega) (by omega) (by omega)).mp b22
        have hre9 := (hX_R b0 (by omega) (by omega)).mp (by omega)
        refine lv_iconst (v := 0) hx hb dX14_isFrontier_27 (by decide) ?_
        refine lv_istore_n (lv' := [(3, .int 0), (0, .ref h0), (1, .int (zI (b0))), (2, .int (zI (x0)))]) hx hb dX14_isFrontier_28 rfl hl (by decide) rfl (fun ls hl => ?_)
        have key29 : ∀ n29 : Nat, ∀ (d29_3 : Int) (ls : Array Slot) (H : Heap) (locs : List Loc), (0 ≤ d29_3 ∧ d29_3 ≤ z14_n) → (FNO P la b0 x0 (d29_3)) → ((z14_n - d29_3 : Int).toNat) < n29 → lv_has ls 4 [(0, .ref h0), (1, .int (zI (b0))), (2, .int (zI (x0))), (3, .int (zI (d29_3)))] → va_P (dC, dI) vwQ ([(h0, .inr (13, [.ref hc, .int (zI (z14_n)), .ref q_1402, .ref q_d, v14_4, v14_5, v14_6, v14_7, v14_8, v14_9, v14_10, v14_11, v14_12])), (q_1402, .inl (cA_1402, n14_reached, .inl (fun j : Nat => zI (a14_reached (j : Int))))), (q_d, .inl (cD, nd, .inr (.inr (.inr (.inr fd))))), (hc, .inr (12, [v13_0, v13_1, v13_2, v13_3, v13_4, .ref la, v13_6]))] ++ va_pl L (pE P)) H → va_D A ([(h0, .inr (13, [.ref hc, .int (zI (z14_n)), .ref q_1402, .ref q_d, v14_4, v14_5, v14_6, v14_7, v14_8, v14_9, v14_10, v14_11, v14_12])), (q_1402, .inl (cA_1402, n14_reached, .inl (fun j : Nat => zI (a14_reached (j : Int))))), (q_d, .inl (cD, nd, .inr (.inr (.inr (.inr fd))))), (hc, .inr (12, [v13_0, v13_1, v13_2, v13_3, v13_4, .ref la, v13_6]))] ++ va_pl L (pE P)) → va_S A s.heap H locs → W p l e (headSpec v_P14_isFrontierE ({ frames := 5, cells := 0, slots := 0, locals := 109 })).room s m ([.ref h0, .int (zI (b0)), .int (zI (x0))] : List Value).toArray below meth c H locs 0 0 Q (F0 m 29 ls []) := by
          intro n29
          induction n29 with
          | zero => intro d29_3 ls H locs jd29_3 jf29 hm29; exact absurd hm29 (by omega)
          | succ n29 ih29 =>
            intro d29_3 ls H locs jd29_3 jf29 hm29 hl hP hD hS
            skip
            refine lv_iload_n hx hb dX14_isFrontier_29 rfl (lv_at hl 3 rfl) ?_
            refine lv_aload_n hx hb dX14_isFrontier_30 rfl (lv_at hl 0 rfl) ?_
            refine va_get (D := (dC, dI)) (ci := 13) (v := .int (zI (z14_n))) (C := RX14) (T := TX14) (N := 13) hx hb hts mem_P14_isFrontierE_0 hown hK hP 0 rfl rfl 1 (by decide) (ow (k := 1) rfl) (fun _ h9 => h9) rfl dX14_isFrontier_31 ?_
            refine lv_icmp_ge (tgt := 65) hx hb dX14_isFrontier_34 (by decide) (fun b34 => ?_) (fun b34 => ?_)
            · have yb34 : (z14_n : Int) ≤ (d29_3 : Int) := (zI_le (a := z14_n) (b := d29_3) (by omega) (by omega) (by omega) (by omega)).mp b34
              refine lv_iconst (v := 0) hx hb dX14_isFrontier_65 (by decide) ?_
              subst hQ
              refine W.widen (k := 0) (n := 0) (Nat.le_of_ble_eq_true rfl) (Nat.le_of_ble_eq_true rfl) ?_
              exact W.zret (v := 0) hx hb hr (by decide) (fun t ht hW => ⟨⟨0, (), rfl, ⟨0, rfl, (by first | exact ⟨by omega, by omega, ANS.yes ⟨hre9, (fun q9 => by first | exact q9.1 (by omega) | (have q8 := hdm8.mpr q9.2; omega)), d29_3, hdm9.mp (by omega), hpe9.1 (by omega)⟩⟩ | exact ⟨by omega, by omega, ANS.no (jf29.no hX_a9.1.1 (by omega) (by omega))⟩ | exact ⟨by omega, by omega, ANS.no (fun q9 => by first | (have q8 := (hX_R b0 (by omega) (by omega)).mpr q9.1; omega) | exact q9.2.1 ⟨by omega, hdm8.mp (by omega)⟩)⟩)⟩, by rw [ht]; exact hP, va_K.moved hW.alike hK, hD⟩, hS.F ht⟩) hS.2.2 dX14_isFrontier_66
            · have yb34 : ¬ (z14_n : Int) ≤ (d29_3 : Int) := fun q => b34 ((zI_le (a := z14_n) (b := d29_3) (by omega) (by omega) (by omega) (by omega)).mpr q)
              refine lv_aload_n hx hb dX14_isFrontier_37 rfl (lv_at hl 0 rfl) ?_
              refine va_get (D := (dC, dI)) (ci := 13) (v := .ref q_d) (C := RX14) (T := TX14) (N := 13) hx hb hts mem_P14_isFrontierE_0 hown hK hP 0 rfl rfl 3 (by decide) (ow (k := 2) rfl) (fun _ h9 => h9) rfl dX14_isFrontier_38 ?_
              refine lv_iload_n hx hb dX14_isFrontier_41 rfl (lv_at hl 1 rfl) ?_
              obtain ⟨yt_2008, heyt_2008, hmyt_2008, hnyt_2008, hiyt_2008⟩ := hX_D (b0) (by omega) (by omega)
              refine va_aldr hx hb hK hP 2 1 rfl rfl (zI_in (a := b0) (n := nd) (by omega) (by omega) (by omega)) dX14_isFrontier_42 ?_
              rw [show va_rf (fd (zI (b0)).toNatClampNeg) = .ref yt_2008 from (by rw [zI_cl (by omega) (by omega), heyt_2008]; rfl)]
              have hlv9 := LVT.at (P := P) heyt_2008
              refine lv_iload_n hx hb dX14_isFrontier_43 rfl (lv_at hl 3 rfl) ?_
              obtain ⟨kp_2009, hkp_2009⟩ := va_pl_get (X := [(h0, .inr (13, [.ref hc, .int (zI (z14_n)), .ref q_1402, .ref q_d, v14_4, v14_5, v14_6, v14_7, v14_8, v14_9, v14_10, v14_11, v14_12])), (q_1402, .inl (cA_1402, n14_reached, .inl (fun j : Nat => zI (a14_reached (j : Int))))), (q_d, .inl (cD, nd, .inr (.inr (.inr (.inr fd))))), (hc, .inr (12, [v13_0, v13_1, v13_2, v13_3, v13_4, .ref la, v13_6]))]) (f := pE P) hmyt_2008.1
              rw [pE_n44 hmyt_2008.2.1, hmyt_2008.2.2] at hkp_2009
              refine va_zald hx hb hK hP kp_2009 4 hkp_2009 rfl (zI_in (a := d29_3) (n := P.an yt_2008) (by omega) (by omega) (by omega)) dX14_isFrontier_44 ?_
              refine lv_topi (fun z ez => ?_)
              obtain rfl : z = zI (P.ia yt_2008 (d29_3)) := ez.trans (zI_ld (P.ia yt_2008) (by omega) (by omega))
              have := hiyt_2008 (d29_3)
              have hlv8 := hlv9 (d29_3)
              have hdm9 := hX_W b0 (d29_3) (by omega) (by omega) (by omega) (by omega)
              refine lv_if_eq (tgt := 59) hx hb dX14_isFrontier_45 (by decide) (fun b45 => ?_) (fun b45 => ?_)
              · have yb45 : (P.ia yt_2008 (d29_3) : Int) = (0 : Int) := (zI_eq (a := P.ia yt_2008 (d29_3)) (b := 0) (by omega) (by omega) (by omega) (by omega)).mp b45
                refine lv_iinc (v := zI (d29_3 + 1)) (lv' := [(3, .int (zI (d29_3 + 1))), (0, .ref h0), (1, .int (zI (b0))), (2, .int (zI (x0)))]) hx hb dX14_isFrontier_59 hl (k := 3) rfl (zI_add (d29_3) (1)) (by decide) rfl (fun ls hl => ?_)
                refine lv_goto (tgt := 29) hx hb dX14_isFrontier_62 (by decide) ?_
                exact ih29 (d29_3 + 1) ls H _ (by omega) (jf29.next (by first | exact Or.inl (fun q9 => by have q8 := hdm9.mpr q9; omega) | exact Or.inr (hpe9.2 (by omega)))) (by omega) (lv_sub hl [1, 2, 3, 0] rfl) hP hD hS
              · have yb45 : ¬ (P.ia yt_2008 (d29_3) : Int) = (0 : Int) := fun q => b45 ((zI_eq (a := P.ia yt_2008 (d29_3)) (b := 0) (by omega) (by omega) (by omega) (by omega)).mpr q)
                refine lv_aload_n hx hb dX14_isFrontier_48 rfl (lv_at hl 0 rfl) ?_
                refine lv_iload_n hx hb dX14_isFrontier_49 rfl (lv_at hl 3 rfl) ?_
                refine lv_iload_n hx hb dX14_isFrontier_50 rfl (lv_at hl 2 rfl) ?_
                have hX_a := hX_a9
                have hPc := hP.part (X := [(h0, .inr (13, [.ref hc, .int (zI (z14_n)), .ref q_1402, .ref q_d, v14_4, v14_5, v14_6, v14_7, v14_8, v14_9, v14_10, v14_11, v14_12])), (q_1402, .inl (cA_1402, n14_reached, .inl (fun j : Nat => zI (a14_reached (j : Int))))), (q_d, .inl (cD, nd, .inr (.inr (.inr (.inr fd))))), (hc, .inr (12, [v13_0, v13_1, v13_2, v13_3, v13_4, .ref la, v13_6]))]) (cx := [(h0, .inr (13, [.ref hc, .int (zI (z14_n)), .ref q_1402, .ref q_d, v14_4, v14_5, v14_6, v14_7, v14_8, v14_9, v14_10, v14_11, v14_12])), (hc, .inr (12, [v13_0, v13_1, v13_2, v13_3, v13_4, .ref la, v13_6]))]) (pl := va_pl L (pE P)) [0, 3] rfl
                have hDc := hD.part (X := [(h0, .inr (13, [.ref hc, .int (zI (z14_n)), .ref q_1402, .ref q_d, v14_4, v14_5, v14_6, v14_7, v14_8, v14_9, v14_10, v14_11, v14_12])), (q_1402, .inl (cA_1402, n14_reached, .inl (fun j : Nat => zI (a14_reached (j : Int))))), (q_d, .inl (cD, nd, .inr (.inr (.inr (.inr fd))))), (hc, .inr (12, [v13_0, v13_1, v13_2, v13_3, v13_4, .ref la, v13_6]))]) (cx := [(h0, .inr (13, [.ref hc, .int (zI (z14_n)), .ref q_1402, .ref q_d, v14_4, v14_5, v14_6, v14_7, v14_8, v14_9, v14_10, v14_11, v14_12])), (hc, .inr (12, [v13_0, v13_1, v13_2, v13_3, v13_4, .ref la, v13_6]))]) (pl := va_pl L (pE P)) [0, 3] (by decide) rfl
                have hKc := hK.sub (tys' := [(cO, .object "java/lang/Object"), (cI, .int), (cZ, .boolean)]) [2, 3, 4] rfl
                have hFc := va_freeP (X := [(h0, .inr (13, [.ref hc, .int (zI (z14_n)), .ref q_1402, .ref q_d, v14_4, v14_5, v14_6, v14_7, v14_8, v14_9, v14_10, v14_11, v14_12])), (q_1402, .inl (cA_1402, n14_reached, .inl (fun j : Nat => zI (a14_reached (j : Int))))), (q_d, .inl (cD, nd, .inr (.inr (.inr (.inr fd))))), (hc, .inr (12, [v13_0, v13_1, v13_2, v13_3, v13_4, .ref la, v13_6]))]) (cx := [(h0, .inr (13, [.ref hc, .int (zI (z14_n)), .ref q_1402, .ref q_d, v14_4, v14_5, v14_6, v14_7, v14_8, v14_9, v14_10, v14_11, v14_12])), (hc, .inr (12, [v13_0, v13_1, v13_2, v13_3, v13_4, .ref la, v13_6]))]) (pl := va_pl L (pE P)) hD hS hA [0, 3] rfl
                refine va_calli (va_runV (As := [.int (zI (d29_3)), .int (zI (x0))]) (rest := []) ⟨hx, hb, hml, hown, hts⟩ (c_P14_isPredE l dC dI cI cZ h0 (.int (zI (z14_n))) (.ref q_1402) (.ref q_d) v14_4 v14_5 v14_6 v14_7 v14_8 v14_9 v14_10 v14_11 v14_12 hc v13_0 v13_1 v13_2 v13_3 v13_4 v13_6 la cO L P sx_ed d29_3 x0 hX_a (by omega) H.size) (cwV 2 hts g_P14_isFrontierE_P14_isPredE rfl rfl rfl (by decide +kernel) ⟨(Nat.le_of_ble_eq_true rfl), (Nat.le_of_ble_eq_true rfl)⟩) ⟨fun a U g mk q => by obtain ⟨q0, q1, qP, qK, qD, e0⟩ := q; exact ⟨q0, q1, qP, va_K.moved (u := U) (U := U.calling g mk a) (Vm.Alike.refl U.vm) qK, qD, va_Nw.same rfl (u := U) (U := U.calling g mk a) rfl e0⟩, va_recv hKc hPc (ci := 13) (q0 := 0) rfl rfl, fun U hU hW => ⟨rfl, by rw [hU], by rw [hU]; exact hPc, va_K.moved hW.alike hKc, hDc.weaken (fun _ _ _ _ => trivial), va_Nw.warmC hW hp0⟩⟩ rfl rfl hl.1 rfl (lv_room (Nat.le_of_ble_eq_true rfl)) dX14_isFrontier_51 ⟨(Nat.le_of_ble_eq_true rfl), (Nat.le_of_ble_eq_true rfl)⟩) hS (fun q _ h => hFc q h) hFc (fun r_2010 u t H1 locs ht hvm hw hB hz1 hk1 hS => ?_)
                obtain ⟨hP1, hK1, hD1⟩ := hB
                rw [ht] at hP1
                have hK1 := va_K.moved hvm.symm hK1
                obtain ⟨hP, hD⟩ := va_joinP (X := [(h0, .inr (13, [.ref hc, .int (zI (z14_n)), .ref q_1402, .ref q_d, v14_4, v14_5, v14_6, v14_7, v14_8, v14_9, v14_10, v14_11, v14_12])), (q_1402, .inl (cA_1402, n14_reached, .inl (fun j : Nat => zI (a14_reached (j : Int))))), (q_d, .inl (cD, nd, .inr (.inr (.inr (.inr fd))))), (hc, .inr (12, [v13_0, v13_1, v13_2, v13_3, v13_4, .ref la, v13_6]))]) (cx := [(h0, .inr (13, [.ref hc, .int (zI (z14_n)), .ref q_1402, .ref q_d, v14_4, v14_5, v14_6, v14_7, v14_8, v14_9, v14_10, v14_11, v14_12])), (hc, .inr (12, [v13_0, v13_1, v13_2, v13_3, v13_4, .ref la, v13_6]))]) (wr := [(q_1402, .inl (cA_1402, n14_reached, .inl (fun j : Nat => zI (a14_reached (j : Int))))), (q_d, .inl (cD, nd, .inr (.inr (.inr (.inr fd)))))]) (rx := [(h0, .inr (13, [.ref hc, .int (zI (z14_n)), .ref q_1402, .ref q_d, v14_4, v14_5, v14_6, v14_7, v14_8, v14_9, v14_10, v14_11, v14_12])), (hc, .inr (12, [v13_0, v13_1, v13_2, v13_3, v13_4, .ref la, v13_6]))]) (pl := va_pl L (pE P)) (pl1 := va_pl L (pE P)) hP hD [0, 3] [1, 2] rfl rfl (by decide) (by decide) hk1 hFc hP1 hD1
                have hK := (hK.sub (tys' := [(cA_1402, .boolean), (cD, .array .boolean)]) [0, 1] rfl).app hK1
                generalize H1 = H at hP hS ⊢
                have hP : va_P (dC, dI) vwQ ([(q_1402, .inl (cA_1402, n14_reached, .inl (fun j : Nat => zI (a14_reached (j : Int))))), (q_d, .inl (cD, nd, .inr (.inr (.inr (.inr fd))))), (h0, .inr (13, [.ref hc, .int (zI (z14_n)), .ref q_1402, .ref q_d, v14_4, v14_5, v14_6, v14_7, v14_8, v14_9, v14_10, v14_11, v14_12])), (hc, .inr (12, [v13_0, v13_1, v13_2, v13_3, v13_4, .ref la, v13_6]))] ++ va_pl L (pE P)) H := hP
                have hD : va_D A ([(q_1402, .inl (cA_1402, n14_reached, .inl (fun j : Nat => zI (a14_reached (j : Int))))), (q_d, .inl (cD, nd, .inr (.inr (.inr (.inr fd))))), (h0, .inr (13, [.ref hc, .int (zI (z14_n)), .ref q_1402, .ref q_d, v14_4, v14_5, v14_6, v14_7, v14_8, v14_9, v14_10, v14_11, v14_12])), (hc, .inr (12, [v13_0, v13_1, v13_2, v13_3, v13_4, .ref la, v13_6]))] ++ va_pl L (pE P)) := hD
                have hK : va_K (dC, dI) vwQ [(cA_1402, .boolean), (cD, .array .boolean), (cO, .object "java/lang/Object"), (cI, .int), (cZ, .boolean)] s := hK
                refine W.widen (k := 0) (n := 0) (Nat.le_of_ble_eq_true rfl) (Nat.le_of_ble_eq_true rfl) ?_
                have hw_2011 := hw
                obtain ⟨z_2012, rfl, hzz_2012⟩ := hw_2011
                have hpe9 := hzz_2012.2.2
                refine lv_if_eq (tgt := 59) hx hb dX14_isFrontier_54 (by decide) (fun b54 => ?_) (fun b54 => ?_)
                · have yb54 : (z_2012 : Int) = (0 : Int) := (zI_eq (a := z_2012) (b := 0) (by omega) (by omega) (by omega) (by omega)).mp b54
                  refine lv_iinc (v := zI (d29_3 + 1)) (lv' := [(3, .int (zI (d29_3 + 1))), (0, .ref h0), (1, .int (zI (b0))), (2, .int (zI (x0)))]) hx hb dX14_isFrontier_59 hl (k := 3) rfl (zI_add (d29_3) (1)) (by decide) rfl (fun ls hl => ?_)
                  refine lv_goto (tgt := 29) hx hb dX14_isFrontier_62 (by decide) ?_
                  have hP := hP.part (X := [(q_1402, .inl (cA_1402, n14_reached, .inl (fun j : Nat => zI (a14_reached (j : Int))))), (q_d, .inl (cD, nd, .inr (.inr (.inr (.inr fd))))), (h0, .inr (13, [.ref hc, .int (zI (z14_n)), .ref q_1402, .ref q_d, v14_4, v14_5, v14_6, v14_7, v14_8, v14_9, v14_10, v14_11, v14_12])), (hc, .inr (12, [v13_0, v13_1, v13_2, v13_3, v13_4, .ref la, v13_6]))]) (cx := [(h0, .inr (13, [.ref hc, .int (zI (z14_n)), .ref q_1402, .ref q_d, v14_4, v14_5, v14_6, v14_7, v14_8, v14_9, v14_10, v14_11, v14_12])), (q_1402, .inl (cA_1402, n14_reached, .inl (fun j : Nat => zI (a14_reached (j : Int))))), (q_d, .inl (cD, nd, .inr (.inr (.inr (.inr fd))))), (hc, .inr (12, [v13_0, v13_1, v13_2, v13_3, v13_4, .ref la, v13_6]))]) (pl := va_pl L (pE P)) [2, 0, 1, 3] rfl
                  have hD := hD.part (X := [(q_1402, .inl (cA_1402, n14_reached, .inl (fun j : Nat => zI (a14_reached (j : Int))))), (q_d, .inl (cD, nd, .inr (.inr (.inr (.inr fd))))), (h0, .inr (13, [.ref hc, .int (zI (z14_n)), .ref q_1402, .ref q_d, v14_4, v14_5, v14_6, v14_7, v14_8, v14_9, v14_10, v14_11, v14_12])), (hc, .inr (12, [v13_0, v13_1, v13_2, v13_3, v13_4, .ref la, v13_6]))]) (cx := [(h0, .inr (13, [.ref hc, .int (zI (z14_n)), .ref q_1402, .ref q_d, v14_4, v14_5, v14_6, v14_7, v14_8, v14_9, v14_10, v14_11, v14_12])), (q_1402, .inl (cA_1402, n14_reached, .inl (fun j : Nat => zI (a14_reached (j : Int))))), (q_d, .inl (cD, nd, .inr (.inr (.inr (.inr fd))))), (hc, .inr (12, [v13_0, v13_1, v13_2, v13_3, v13_4, .ref la, v13_6]))]) (pl := va_pl L (pE P)) [2, 0, 1, 3] (by decide) rfl
                  exact ih29 (d29_3 + 1) ls H _ (by omega) (jf29.next (by first | exact Or.inl (fun q9 => by have q8 := hdm9.mpr q9; omega) | exact Or.inr (hpe9.2 (by omega)))) (by omega) (lv_sub hl [1, 2, 3, 0] rfl) hP hD hS
                · have yb54 : ¬ (z_2012 : Int) = (0 : Int) := fun q => b54 ((zI_eq (a := z_2012) (b := 0) (by omega) (by omega) (by omega) (by omega)).mpr q)
                  refine lv_iconst (v := 1) hx hb dX14_isFrontier_57 (by decide) ?_
                  subst hQ
                  have hP := hP.part (X := [(q_1402, .inl (cA_1402, n14_reached, .inl (fun j : Nat => zI (a14_reached (j : Int))))), (q_d, .inl (cD, nd, .inr (.inr (.inr (.inr fd))))), (h0, .inr (13, [.ref hc, .int (zI (z14_n)), .ref q_1402, .ref q_d, v14_4, v14_5, v14_6, v14_7, v14_8, v14_9, v14_10, v14_11, v14_12])), (hc, .inr (12, [v13_0, v13_1, v13_2, v13_3, v13_4, .ref la, v13_6]))]) (cx := [(h0, .inr (13, [.ref hc, .int (zI (z14_n)), .ref q_1402, .ref q_d, v14_4, v14_5, v14_6, v14_7, v14_8, v14_9, v14_10, v14_11, v14_12])), (q_1402, .inl (cA_1402, n14_reached, .inl (fun j : Nat => zI (a14_reached (j : Int))))), (q_d, .inl (cD, nd, .inr (.inr (.inr (.inr fd))))), (hc, .inr (12, [v13_0, v13_1, v13_2, v13_3, v13_4, .ref la, v13_6]))]) (pl := va_pl L (pE P)) [2, 0, 1, 3] rfl
                  have hD := hD.part (X := [(q_1402, .inl (cA_1402, n14_reached, .inl (fun j : Nat => zI (a14_reached (j : Int))))), (q_d, .inl (cD, nd, .inr (.inr (.inr (.inr fd))))), (h0, .inr (13, [.ref hc, .int (zI (z14_n)), .ref q_1402, .ref q_d, v14_4, v14_5, v14_6, v14_7, v14_8, v14_9, v14_10, v14_11, v14_12])), (hc, .inr (12, [v13_0, v13_1, v13_2, v13_3, v13_4, .ref la, v13_6]))]) (cx := [(h0, .inr (13, [.ref hc, .int (zI (z14_n)), .ref q_1402, .ref q_d, v14_4, v14_5, v14_6, v14_7, v14_8, v14_9, v14_10, v14_11, v14_12])), (q_1402, .inl (cA_1402, n14_reached, .inl (fun j : Nat => zI (a14_reached (j : Int))))), (q_d, .inl (cD, nd, .inr (.inr (.inr (.inr fd))))), (hc, .inr (12, [v13_0, v13_1, v13_2, v13_3, v13_4, .ref la, v13_6]))]) (pl := va_pl L (pE P)) [2, 0, 1, 3] (by decide) rfl
                  refine W.widen (k := 0) (n := 0) (Nat.le_of_ble_eq_true rfl) (Nat.le_of_ble_eq_true rfl) ?_
                  exact W.zret (v := 1) hx hb hr (by decide) (fun t ht hW => ⟨⟨1, (), rfl, ⟨1, rfl, (by first | exact ⟨by omega, by omega, ANS.yes ⟨hre9, (fun q9 => by first | exact q9.1 (by omega) | (have q8 := hdm8.mpr q9.2; omega)), d29_3, hdm9.mp (by omega), hpe9.1 (by omega)⟩⟩ | exact ⟨by omega, by omega, ANS.no (jf29.no hX_a9.1.1 (by omega) (by omega))⟩ | exact ⟨by omega, by omega, ANS.no (fun q9 => by first | (have q8 := (hX_R b0 (by omega) (by omega)).mpr q9.1; omega) | exact q9.2.1 ⟨by omega, hdm8.mp (by omega)⟩)⟩)⟩, by rw [ht]; exact hP, va_K.moved hW.alike hK, hD⟩, hS.F ht⟩) hS.2.2 dX14_isFrontier_58
        exact key29 ((z14_n - 0 : Int).toNat + 1) 0 ls H _ (by omega) (FNO.none _ _ _ _) (by omega) (lv_sub hl [1, 2, 3, 0] rfl) hP hD hS
      · have yb22 : ¬ (P.ia yt_2006 (x0) : Int) = (0 : Int) := fun q => b22 ((zI_eq (a := P.ia yt_2006 (x0)) (b := 0) (by omega) (by omega) (by omega) (by omega)).mpr q)
        refine lv_iconst (v := 0) hx hb dX14_isFrontier_25 (by decide) ?_
        subst hQ
        refine W.widen (k := 0) (n := 0) (Nat.le_of_ble_eq_true rfl) (Nat.le_of_ble_eq_true rfl) ?_
        exact W.zret (v := 0) hx hb hr (by decide) (fun t ht hW => ⟨⟨0, (), rfl, ⟨0, rfl, (by first | exact ⟨by omega, by omega, ANS.yes ⟨hre9, (fun q9 => by first | exact q9.1 (by omega) | (have q8 := hdm8.mpr q9.2; omega)), d29_3, hdm9.mp (by omega), hpe9.1 (by omega)⟩⟩ | exact ⟨by omega, by omega, ANS.no (jf29.no hX_a9.1.1 (by omega) (by omega))⟩ | exact ⟨by omega, by omega, ANS.no (fun q9 => by first | (have q8 := (hX_R b0 (by omega) (by omega)).mpr q9.1; omega) | exact q9.2.1 ⟨by omega, hdm8.mp (by omega)⟩)⟩)⟩, by rw [ht]; exact hP, va_K.moved hW.alike hK, hD⟩, hS.F ht⟩) hS.2.2 dX14_isFrontier_26
