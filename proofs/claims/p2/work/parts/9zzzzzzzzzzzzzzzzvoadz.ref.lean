def o_PC_countRowsE : List Cond := [.methodLink RX13 84 yX13_size, .instanceMethod yX13_size, .selects RX13 yX13_size yX13_size, .initialized RX13, .methodLink RX13 85 yX13_get, .instanceMethod yX13_get, .selects RX13 yX13_get yX13_get, .fieldLink RX13 54 "SsaForgeModel$Block" "rows" "Ljava/util/ArrayList;", .methodLink RX13 38 yJx4a65c_size_8abf5, .instanceMethod yJx4a65c_size_8abf5, .selects RJx4a65c yJx4a65c_size_8abf5 yJx4a65c_size_8abf5, .initialized RJx4a65c]
def v_PC_countRowsE : List Cond := .code yX13_countRows cX13_countRows 3 (some .int) :: (o_PC_countRowsE ++ (v_PC_size ++ (v_PC_get ++ (wsX120 ++ (v_PL_size ++ [])))))
theorem mow_PC_countRowsE : ∀ w ∈ o_PC_countRowsE, w ∈ v_PC_countRowsE := fun _ h => List.mem_cons_of_mem _ (List.mem_append_left _ h)
theorem mem_PC_countRowsE_0 : ∀ w ∈ v_PC_size, w ∈ v_PC_countRowsE := fun _ h => List.mem_cons_of_mem _ (List.mem_append_right _ (List.mem_append_left _ h))
theorem mem_PC_countRowsE_1 : ∀ w ∈ v_PC_get, w ∈ v_PC_countRowsE := fun _ h => List.mem_cons_of_mem _ (List.mem_append_right _ (List.mem_append_right _ (List.mem_append_left _ h)))
theorem mem_PC_countRowsE_2 : ∀ w ∈ wsX120, w ∈ v_PC_countRowsE := fun _ h => List.mem_cons_of_mem _ (List.mem_append_right _ (List.mem_append_right _ (List.mem_append_right _ (List.mem_append_left _ h))))
theorem mem_PC_countRowsE_3 : ∀ w ∈ v_PL_size, w ∈ v_PC_countRowsE := fun _ h => List.mem_cons_of_mem _ (List.mem_append_right _ (List.mem_append_right _ (List.mem_append_right _ (List.mem_append_right _ (List.mem_append_left _ h)))))
set_option maxRecDepth 20000 in
theorem gw_PC_countRowsE : v_PC_countRowsE.all goodWord = true := by decide +kernel
set_option maxRecDepth 20000 in
theorem g_PC_countRowsE_PC_size : GoodIn v_PC_countRowsE (wsV RX13 84 RX13 yX13_size v_PC_size) := goodIn_app (goodIn_sub (fun w h => mow_PC_countRowsE w (by revert w h; decide +kernel)) (by decide +kernel)) (goodIn_sub mem_PC_countRowsE_0 gw_PC_size)
set_option maxRecDepth 20000 in
theorem g_PC_countRowsE_PC_get : GoodIn v_PC_countRowsE (wsV RX13 85 RX13 yX13_get v_PC_get) := goodIn_app (goodIn_sub (fun w h => mow_PC_countRowsE w (by revert w h; decide +kernel)) (by decide +kernel)) (goodIn_sub mem_PC_countRowsE_1 gw_PC_get)
set_option maxRecDepth 20000 in
theorem g_PC_countRowsE_PL_size : GoodIn v_PC_countRowsE (wsV RX13 38 RJx4a65c yJx4a65c_size_8abf5 v_PL_size) := goodIn_app (goodIn_sub (fun w h => mow_PC_countRowsE w (by revert w h; decide +kernel)) (by decide +kernel)) (goodIn_sub mem_PC_countRowsE_3 gw_PL_size)
set_option maxHeartbeats 4000000 in
set_option maxRecDepth 100000 in
theorem c_PC_countRowsE (l : Launch) (dC : Nat → ClassId) (dI : Nat → Nat → Nat) (hc : Nat) (v13_0 : Value) (v13_1 : Value) (v13_2 : Value) (v13_3 : Value) (v13_4 : Value) (v13_6 : Value) (la : Nat) (cO : ClassId) (L : List Nat) (P : PO) (hX_c : CDK L P cO la) (sz : Nat) : Met l yX13_countRows v_PC_countRowsE ({ frames := 4, cells := 0, slots := 0, locals := 85 }) (va_Pc [.ref hc] (fun U => U.heap.size = sz ∧ va_P (dC, dI) vwQ ([(hc, .inr (12, [v13_0, v13_1, v13_2, v13_3, v13_4, .ref la, v13_6]))] ++ va_pl L (pE P)) U.heap ∧ va_K (dC, dI) vwQ [(cO, .object "java/lang/Object")] U ∧ va_D (fun _ => True) ([(hc, .inr (12, [v13_0, v13_1, v13_2, v13_3, v13_4, .ref la, v13_6]))] ++ va_pl L (pE P)) ∧ va_Nw (.castable "SsaForgeModel$Block" "SsaForgeModel$Block") U)) (va_Qi (fun (r : Int32) (_ : Unit) => ∃ z : Int, r = zI z ∧ (z = P.tot 2 la ∧ 0 ≤ z ∧ z ≤ 12000000)) (fun (_ : Unit) (t : State) => va_P (dC, dI) vwQ ([(hc, .inr (12, [v13_0, v13_1, v13_2, v13_3, v13_4, .ref la, v13_6]))] ++ va_pl L (pE P)) t.heap ∧ va_K (dC, dI) vwQ [(cO, .object "java/lang/Object")] t ∧ va_D (va_A ([(hc, .inr (12, [v13_0, v13_1, v13_2, v13_3, v13_4, .ref la, v13_6]))] ++ va_pl L (pE P)) sz) ([(hc, .inr (12, [v13_0, v13_1, v13_2, v13_3, v13_4, .ref la, v13_6]))] ++ va_pl L (pE P))) (va_A ([(hc, .inr (12, [v13_0, v13_1, v13_2, v13_3, v13_4, .ref la, v13_6]))] ++ va_pl L (pE P)) sz)) 0 0 (va_A ([(hc, .inr (12, [v13_0, v13_1, v13_2, v13_3, v13_4, .ref la, v13_6]))] ++ va_pl L (pE P)) sz) := by
  refine Met.ofW (cc := cX13_countRows) (maxL := 3) (ret := (some .int)) (by decide) rfl ?_
  intro p e s m args below meth c s₁ B hml hv
  obtain ⟨rfl, hsz, hP, hK, hD0, hp0⟩ := hv
  have hx := B.exec
  have hb := B.bytes
  have hr := B.returns
  have hts := atoms_spec (ws := v_PC_countRowsE) B.pre
  have hown : s.vm.findClass RX13 = some m.cls := findClass_of_methodNamed B.named
  have hlocks := B.notSynchronized
  have ow : ∀ {k : Nat} {w : Cond}, o_PC_countRowsE[k]? = some w → w.before ([.ref hc] : List Value).toArray s = true := fun h => hts _ (mow_PC_countRowsE _ (List.mem_of_getElem? h))
  subst hsz
  have hD := hD0.self (sz := s.heap.size)
  generalize hAe : va_A ([(hc, .inr (12, [v13_0, v13_1, v13_2, v13_3, v13_4, .ref la, v13_6]))] ++ va_pl L (pE P)) s.heap.size = A at hD ⊢
  have hA : ∀ q : Nat, s.heap.size ≤ q → A q := fun q h => by rw [← hAe]; exact Or.inr h
  have hS : va_S A s.heap s.heap [] := va_S.rf
  have hP : va_P (dC, dI) vwQ ([(hc, .inr (12, [v13_0, v13_1, v13_2, v13_3, v13_4, .ref la, v13_6]))] ++ va_pl L (pE P)) s.heap := hP
  have hl := lv_entry ([.ref hc]) (n := 3) (Nat.le_of_ble_eq_true rfl)
  rw [lg_entry_eq]
  generalize (lg_sl ([.ref hc]) ++ List.replicate (3 - (lg_sl ([.ref hc])).length) Slot.unset).toArray = ls at hl ⊢
  have hl : lv_has ls 3 [(0, .ref hc)] := hl
  obtain ⟨H, hH⟩ : ∃ H, H = s.heap := ⟨_, rfl⟩
  rw [← hH] at hP
  have hS : va_S A s.heap H [] := by rw [hH]; exact hS
  rw [← hH]
  refine zW_cap (fun Q hQ => ?_)
  have hX_l := hX_c.1
  have hla := hX_c.1.2.2.1
  have hla2 := hX_c.2.1
  have hs09 : sumI (fun i => P.lz (P.br (P.el la i))) (0 : Int).toNat = 0 := rfl
  refine lv_iconst (v := 0) hx hb dX13_countRows_0 (by decide) ?_
  refine lv_istore_n (lv' := [(1, .int 0), (0, .ref hc)]) hx hb dX13_countRows_1 rfl hl (by decide) rfl (fun ls hl => ?_)
  refine lv_iconst (v := 0) hx hb dX13_countRows_2 (by decide) ?_
  refine lv_istore_n (lv' := [(2, .int 0), (1, .int 0), (0, .ref hc)]) hx hb dX13_countRows_3 rfl hl (by decide) rfl (fun ls hl => ?_)
  have key4 : ∀ n4 : Nat, ∀ (d4_2 : Int) (d4_1 : Int) (ls : Array Slot) (H : Heap) (locs : List Loc), (0 ≤ d4_2 ∧ d4_2 ≤ P.lz la) → (0 ≤ d4_1 ∧ d4_1 ≤ 40000 * d4_2 ∧ d4_1 = sumI (fun i => P.lz (P.br (P.el la i))) (d4_2).toNat) → ((P.lz la - d4_2 : Int).toNat) < n4 → lv_has ls 3 [(0, .ref hc), (1, .int (zI (d4_1))), (2, .int (zI (d4_2)))] → va_P (dC, dI) vwQ ([(hc, .inr (12, [v13_0, v13_1, v13_2, v13_3, v13_4, .ref la, v13_6]))] ++ va_pl L (pE P)) H → va_D A ([(hc, .inr (12, [v13_0, v13_1, v13_2, v13_3, v13_4, .ref la, v13_6]))] ++ va_pl L (pE P)) → va_S A s.heap H locs → W p l e (headSpec v_PC_countRowsE ({ frames := 4, cells := 0, slots := 0, locals := 85 })).room s m ([.ref hc] : List Value).toArray below meth c H locs 0 0 Q (F0 m 4 ls []) := by
    intro n4
    induction n4 with
    | zero => intro d4_2 d4_1 ls H locs jd4_2 jd4_1 hm4; exact absurd hm4 (by omega)
    | succ n4 ih4 =>
      intro d4_2 d4_1 ls H locs jd4_2 jd4_1 hm4 hl hP hD hS
      refine lv_iload_n hx hb dX13_countRows_4 rfl (lv_at hl 2 rfl) ?_
      refine lv_aload_n hx hb dX13_countRows_5 rfl (lv_at hl 0 rfl) ?_
      have hPc := hP.part (X := [(hc, .inr (12, [v13_0, v13_1, v13_2, v13_3, v13_4, .ref la, v13_6]))]) (cx := [(hc, .inr (12, [v13_0, v13_1, v13_2, v13_3, v13_4, .ref la, v13_6]))]) (pl := va_pl L (pE P)) [0] rfl
      have hDc := hD.part (X := [(hc, .inr (12, [v13_0, v13_1, v13_2, v13_3, v13_4, .ref la, v13_6]))]) (cx := [(hc, .inr (12, [v13_0, v13_1, v13_2, v13_3, v13_4, .ref la, v13_6]))]) (pl := va_pl L (pE P)) [0] (by decide) rfl
      have hKc := hK.sub (tys' := [(cO, .object "java/lang/Object")]) [0] rfl
      have hFc := va_freeP (X := [(hc, .inr (12, [v13_0, v13_1, v13_2, v13_3, v13_4, .ref la, v13_6]))]) (cx := [(hc, .inr (12, [v13_0, v13_1, v13_2, v13_3, v13_4, .ref la, v13_6]))]) (pl := va_pl L (pE P)) hD hS hA [0] rfl
      refine va_calli (va_runV (As := []) (rest := [.int (zI (d4_2))]) ⟨hx, hb, hml, hown, hts⟩ (c_PC_size l dC dI hc v13_0 v13_1 v13_2 v13_3 v13_4 v13_6 la cO L P hX_l H.size) (cwV 0 hts g_PC_countRowsE_PC_size rfl rfl rfl (by decide +kernel) ⟨(Nat.le_of_ble_eq_true rfl), (Nat.le_of_ble_eq_true rfl)⟩) ⟨fun a U g mk q => by obtain ⟨q0, q1, qP, qK, qD⟩ := q; exact ⟨q0, q1, qP, va_K.moved (u := U) (U := U.calling g mk a) (Vm.Alike.refl U.vm) qK, qD⟩, va_recv hKc hPc (ci := 12) (q0 := 0) rfl rfl, fun U hU hW => ⟨rfl, by rw [hU], by rw [hU]; exact hPc, va_K.moved hW.alike hKc, hDc.weaken (fun _ _ _ _ => trivial)⟩⟩ rfl rfl hl.1 rfl (lv_room (Nat.le_of_ble_eq_true rfl)) dX13_countRows_6 ⟨(Nat.le_of_ble_eq_true rfl), (Nat.le_of_ble_eq_true rfl)⟩) hS (fun q _ h => hFc q h) hFc (fun r_1 u t H1 locs ht hvm hw hB hz1 hk1 hS => ?_)
      obtain ⟨hP1, hK1, hD1⟩ := hB
      rw [ht] at hP1
      have hK1 := va_K.moved hvm.symm hK1
      obtain ⟨hP, hD⟩ := va_joinP (X := [(hc, .inr (12, [v13_0, v13_1, v13_2, v13_3, v13_4, .ref la, v13_6]))]) (cx := [(hc, .inr (12, [v13_0, v13_1, v13_2, v13_3, v13_4, .ref la, v13_6]))]) (wr := []) (rx := [(hc, .inr (12, [v13_0, v13_1, v13_2, v13_3, v13_4, .ref la, v13_6]))]) (pl := va_pl L (pE P)) (pl1 := va_pl L (pE P)) hP hD [0] [] rfl rfl (by decide) (by decide) hk1 hFc hP1 hD1
      have hK := (hK.sub (tys' := []) [] rfl).app hK1
      generalize H1 = H at hP hS ⊢
      have hP : va_P (dC, dI) vwQ ([(hc, .inr (12, [v13_0, v13_1, v13_2, v13_3, v13_4, .ref la, v13_6]))] ++ va_pl L (pE P)) H := hP
      have hD : va_D A ([(hc, .inr (12, [v13_0, v13_1, v13_2, v13_3, v13_4, .ref la, v13_6]))] ++ va_pl L (pE P)) := hD
      have hK : va_K (dC, dI) vwQ [(cO, .object "java/lang/Object")] s := hK
      refine W.widen (k := 0) (n := 0) (Nat.le_of_ble_eq_true rfl) (Nat.le_of_ble_eq_true rfl) ?_
      obtain rfl : r_1 = (zI (P.lz la)) := hw
      refine lv_icmp_ge (tgt := 32) hx hb dX13_countRows_9 (by decide) (fun b9 => ?_) (fun b9 => ?_)
      · have yb9 : (P.lz la : Int) ≤ (d4_2 : Int) := (zI_le (a := P.lz la) (b := d4_2) (by omega) (by omega) (by omega) (by omega)).mp b9
        refine lv_iload_n hx hb dX13_countRows_32 rfl (lv_at hl 1 rfl) ?_
        subst hQ
        refine W.widen (k := 0) (n := 0) (Nat.le_of_ble_eq_true rfl) (Nat.le_of_ble_eq_true rfl) ?_
        exact W.iret (v := (zI (d4_1))) hx hb hr (fun t ht hW => ⟨⟨(zI (d4_1)), (), rfl, ⟨d4_1, rfl, (by refine ⟨?_, by omega, by omega⟩; show _ = sumI (fun i => P.lz (P.br (P.el la i))) (P.lz la).toNat; rw [show P.lz la = d4_2 from by omega]; omega)⟩, by rw [ht]; exact hP, va_K.moved hW.alike hK, hD⟩, hS.F ht⟩) hS.2.2 dX13_countRows_33
      · have yb9 : ¬ (P.lz la : Int) ≤ (d4_2 : Int) := fun q => b9 ((zI_le (a := P.lz la) (b := d4_2) (by omega) (by omega) (by omega) (by omega)).mpr q)
        refine lv_iload_n hx hb dX13_countRows_12 rfl (lv_at hl 1 rfl) ?_
        refine lv_aload_n hx hb dX13_countRows_13 rfl (lv_at hl 0 rfl) ?_
        refine lv_iload_n hx hb dX13_countRows_14 rfl (lv_at hl 2 rfl) ?_
        obtain ⟨x, ex⟩ : ∃ q9 : Nat, q9 = P.el la (d4_2) := ⟨_, rfl⟩
        have hX_el := ex
        have hxB : BOK L P cO (P.lz la) x := (by rw [ex]; exact hX_c.2.2.1 (d4_2) (by omega) (by omega))
        have hPc := hP.part (X := [(hc, .inr (12, [v13_0, v13_1, v13_2, v13_3, v13_4, .ref la, v13_6]))]) (cx := [(hc, .inr (12, [v13_0, v13_1, v13_2, v13_3, v13_4, .ref la, v13_6]))]) (pl := va_pl L (pE P)) [0] rfl
        have hDc := hD.part (X := [(hc, .inr (12, [v13_0, v13_1, v13_2, v13_3, v13_4, .ref la, v13_6]))]) (cx := [(hc, .inr (12, [v13_0, v13_1, v13_2, v13_3, v13_4, .ref la, v13_6]))]) (pl := va_pl L (pE P)) [0] (by decide) rfl
        have hKc := hK.sub (tys' := [(cO, .object "java/lang/Object")]) [0] rfl
        have hFc := va_freeP (X := [(hc, .inr (12, [v13_0, v13_1, v13_2, v13_3, v13_4, .ref la, v13_6]))]) (cx := [(hc, .inr (12, [v13_0, v13_1, v13_2, v13_3, v13_4, .ref la, v13_6]))]) (pl := va_pl L (pE P)) hD hS hA [0] rfl
        refine va_callr (va_runV (As := [.int (zI (d4_2))]) (rest := [.int (zI (d4_1))]) ⟨hx, hb, hml, hown, hts⟩ (c_PC_get l dC dI hc v13_0 v13_1 v13_2 v13_3 v13_4 v13_6 la cO L P d4_2 x hX_l (by omega) hX_el H.size) (cwV 1 hts g_PC_countRowsE_PC_get rfl rfl rfl (by decide +kernel) ⟨(Nat.le_of_ble_eq_true rfl), (Nat.le_of_ble_eq_true rfl)⟩) ⟨fun a U g mk q => by obtain ⟨q0, q1, qP, qK, qD, e0⟩ := q; exact ⟨q0, q1, qP, va_K.moved (u := U) (U := U.calling g mk a) (Vm.Alike.refl U.vm) qK, qD, va_Nw.same rfl (u := U) (U := U.calling g mk a) rfl e0⟩, va_recv hKc hPc (ci := 12) (q0 := 0) rfl rfl, fun U hU hW => ⟨rfl, by rw [hU], by rw [hU]; exact hPc, va_K.moved hW.alike hKc, hDc.weaken (fun _ _ _ _ => trivial), va_Nw.warmC hW hp0⟩⟩ rfl rfl hl.1 rfl (lv_room (Nat.le_of_ble_eq_true rfl)) dX13_countRows_15 ⟨(Nat.le_of_ble_eq_true rfl), (Nat.le_of_ble_eq_true rfl)⟩) hS (fun q _ h => hFc q h) hFc (fun u q_2 t H1 locs ht hvm hw hB hz1 hk1 hS => ?_)
        obtain ⟨hxt_2, hP1, hK1, hD1⟩ := hB
        rw [ht] at hP1
        have hK1 := va_K.moved hvm.symm hK1
        obtain ⟨hP, hD⟩ := va_joinP (X := [(hc, .inr (12, [v13_0, v13_1, v13_2, v13_3, v13_4, .ref la, v13_6]))]) (cx := [(hc, .inr (12, [v13_0, v13_1, v13_2, v13_3, v13_4, .ref la, v13_6]))]) (wr := []) (rx := [(hc, .inr (12, [v13_0, v13_1, v13_2, v13_3, v13_4, .ref la, v13_6]))]) (pl := va_pl L (pE P)) (pl1 := va_pl L (pE P)) hP hD [0] [] rfl rfl (by decide) (by decide) hk1 hFc hP1 hD1
        have hK := (hK.sub (tys' := []) [] rfl).app hK1
        generalize H1 = H at hP hS ⊢
        have hP : va_P (dC, dI) vwQ ([(hc, .inr (12, [v13_0, v13_1, v13_2, v13_3, v13_4, .ref la, v13_6]))] ++ va_pl L (pE P)) H := hP
        have hD : va_D A ([(hc, .inr (12, [v13_0, v13_1, v13_2, v13_3, v13_4, .ref la, v13_6]))] ++ va_pl L (pE P)) := hD
        have hK : va_K (dC, dI) vwQ [(cO, .object "java/lang/Object")] s := hK
        refine W.widen (k := 0) (n := 0) (Nat.le_of_ble_eq_true rfl) (Nat.le_of_ble_eq_true rfl) ?_
        rw [hxt_2]
        obtain ⟨kp_3, hkp_3⟩ := va_pl_get (X := [(hc, .inr (12, [v13_0, v13_1, v13_2, v13_3, v13_4, .ref la, v13_6]))]) (f := pE P) hxB.1.1
        rw [pE_block hxB.1.2] at hkp_3
        refine va_get (D := (dC, dI)) (ci := 19) (v := .ref (P.br x)) (C := RX12) (T := TX12) (N := 5) hx hb hts mem_PC_countRowsE_2 hown hK hP kp_3 hkp_3 rfl 1 (by decide) (ow (k := 7) rfl) (fun _ h9 => h9) rfl dX13_countRows_18 ?_
        obtain ⟨pr_4, epr_4⟩ : ∃ q9 : Nat, q9 = P.br x := ⟨_, rfl⟩
        rw [← epr_4]
        have hbl : LOK L P cO 17 pr_4 := (by rw [epr_4]; exact hxB.2.1)
        have hlpr_4 : P.lz pr_4 = P.lz (P.br x) := (by rw [epr_4])
        have hzpr_4 := hbl.2.2.1
        have hX_x := hbl.1
        have hX_k := hbl.2.1
        have hsq9 : P.lz pr_4 = P.lz (P.br (P.el la (d4_2))) := (by rw [epr_4, ex])
        have hsu9 := sumI_toN9 (fun i => P.lz (P.br (P.el la i))) (d := d4_2) (by omega)
        have hPc := hP.part (X := [(hc, .inr (12, [v13_0, v13_1, v13_2, v13_3, v13_4, .ref la, v13_6]))]) (cx := []) (pl := va_pl L (pE P)) [] rfl
        have hDc := hD.part (X := [(hc, .inr (12, [v13_0, v13_1, v13_2, v13_3, v13_4, .ref la, v13_6]))]) (cx := []) (pl := va_pl L (pE P)) [] (by decide) rfl
        have hKc := hK.sub (tys' := [(cO, .object "java/lang/Object")]) [0] rfl
        have hFc := va_freeP (X := [(hc, .inr (12, [v13_0, v13_1, v13_2, v13_3, v13_4, .ref la, v13_6]))]) (cx := []) (pl := va_pl L (pE P)) hD hS hA [] rfl
        refine va_calli (va_runV (As := []) (rest := [.int (zI (d4_1))]) ⟨hx, hb, hml, hown, hts⟩ (c_PL_size l dC dI cO L P pr_4 hX_x hX_k (by omega) H.size) (cwV 0 hts g_PC_countRowsE_PL_size rfl rfl rfl (by decide +kernel) ⟨(Nat.le_of_ble_eq_true rfl), (Nat.le_of_ble_eq_true rfl)⟩) ⟨fun a U g mk q => by obtain ⟨q0, q1, qP, qK, qD⟩ := q; exact ⟨q0, q1, qP, va_K.moved (u := U) (U := U.calling g mk a) (Vm.Alike.refl U.vm) qK, qD⟩, recv_30 hKc hPc hbl.1 hbl.2.1, fun U hU hW => ⟨rfl, by rw [hU], by rw [hU]; exact hPc, va_K.moved hW.alike hKc, hDc.weaken (fun _ _ _ _ => trivial)⟩⟩ rfl rfl hl.1 rfl (lv_room (Nat.le_of_ble_eq_true rfl)) dX13_countRows_21 ⟨(Nat.le_of_ble_eq_true rfl), (Nat.le_of_ble_eq_true rfl)⟩) hS (fun q _ h => hFc q h) hFc (fun r_5 u t H1 locs ht hvm hw hB hz1 hk1 hS => ?_)
        obtain ⟨hP1, hK1, hD1⟩ := hB
        rw [ht] at hP1
        have hK1 := va_K.moved hvm.symm hK1
        obtain ⟨hP, hD⟩ := va_joinP (X := [(hc, .inr (12, [v13_0, v13_1, v13_2, v13_3, v13_4, .ref la, v13_6]))]) (cx := []) (wr := [(hc, .inr (12, [v13_0, v13_1, v13_2, v13_3, v13_4, .ref la, v13_6]))]) (rx := []) (pl := va_pl L (pE P)) (pl1 := va_pl L (pE P)) hP hD [] [0] rfl rfl (by decide) (by decide) hk1 hFc hP1 hD1
        have hK := (hK.sub (tys' := []) [] rfl).app hK1
        generalize H1 = H at hP hS ⊢
        have hP : va_P (dC, dI) vwQ ([(hc, .inr (12, [v13_0, v13_1, v13_2, v13_3, v13_4, .ref la, v13_6]))] ++ va_pl L (pE P)) H := hP
        have hD : va_D A ([(hc, .inr (12, [v13_0, v13_1, v13_2, v13_3, v13_4, .ref la, v13_6]))] ++ va_pl L (pE P)) := hD
        have hK : va_K (dC, dI) vwQ [(cO, .object "java/lang/Object")] s := hK
        refine W.widen (k := 0) (n := 0) (Nat.le_of_ble_eq_true rfl) (Nat.le_of_ble_eq_true rfl) ?_
        obtain rfl : r_5 = (zI (P.lz pr_4)) := hw
        refine lv_iadd hx hb dX13_countRows_24 ?_
        refine lv_topi (fun z ez => ?_)
        obtain rfl : z = zI (d4_1 + (P.lz pr_4)) := ez.trans (zI_add (d4_1) (P.lz pr_4))
        refine lv_istore_n (lv' := [(1, .int (zI (d4_1 + (P.lz pr_4)))), (0, .ref hc), (2, .int (zI (d4_2)))]) hx hb dX13_countRows_25 rfl hl (by decide) rfl (fun ls hl => ?_)
        refine lv_iinc (v := zI (d4_2 + 1)) (lv' := [(2, .int (zI (d4_2 + 1))), (1, .int (zI (d4_1 + (P.lz pr_4)))), (0, .ref hc)]) hx hb dX13_countRows_26 hl (k := 2) rfl (zI_add (d4_2) (1)) (by decide) rfl (fun ls hl => ?_)
        refine lv_goto (tgt := 4) hx hb dX13_countRows_29 (by decide) ?_
        exact ih4 (d4_2 + 1) (d4_1 + (P.lz pr_4)) ls H _ (by omega) (by omega) (by omega) (lv_sub hl [2, 1, 0] rfl) hP hD hS
  exact key4 ((P.lz la - 0 : Int).toNat + 1) 0 0 ls H _ (by omega) (by omega) (by omega) (lv_sub hl [2, 1, 0] rfl) hP hD hS
