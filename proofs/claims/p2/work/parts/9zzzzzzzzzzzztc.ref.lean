def o_P19_resolvePhiE : List Cond := [.fieldLink RX19 81 "SsaForgeModel$Phi" "n" "I", .fieldLink RX19 253 "SsaForgeModel$Phi" "regs" "[Z", .fieldLink RX19 213 "SsaForgeModel$Phi" "operands" "[I", .methodLink RX19 293 yX19_last, .instanceMethod yX19_last, .selects RX19 yX19_last yX19_last, .initialized RX19, .fieldLink RX19 284 "SsaForgeModel" "replaced" "[Z", .fieldLink RX19 287 "SsaForgeModel" "by" "[I"]
def v_P19_resolvePhiE : List Cond := .code yX19_resolve_ cX19_resolve_ 4 none :: (o_P19_resolvePhiE ++ (wsX150 ++ (v_X19_lastE ++ (wsX190 ++ []))))
theorem mow_P19_resolvePhiE : ∀ w ∈ o_P19_resolvePhiE, w ∈ v_P19_resolvePhiE := fun _ h => List.mem_cons_of_mem _ (List.mem_append_left _ h)
theorem mem_P19_resolvePhiE_0 : ∀ w ∈ wsX150, w ∈ v_P19_resolvePhiE := fun _ h => List.mem_cons_of_mem _ (List.mem_append_right _ (List.mem_append_left _ h))
theorem mem_P19_resolvePhiE_1 : ∀ w ∈ v_X19_lastE, w ∈ v_P19_resolvePhiE := fun _ h => List.mem_cons_of_mem _ (List.mem_append_right _ (List.mem_append_right _ (List.mem_append_left _ h)))
theorem mem_P19_resolvePhiE_2 : ∀ w ∈ wsX190, w ∈ v_P19_resolvePhiE := fun _ h => List.mem_cons_of_mem _ (List.mem_append_right _ (List.mem_append_right _ (List.mem_append_right _ (List.mem_append_left _ h))))
set_option maxRecDepth 20000 in
theorem gw_P19_resolvePhiE : v_P19_resolvePhiE.all goodWord = true := by decide +kernel
set_option maxRecDepth 20000 in
theorem g_P19_resolvePhiE_X19_lastE : GoodIn v_P19_resolvePhiE (wsV RX19 293 RX19 yX19_last v_X19_lastE) := goodIn_app (goodIn_sub (fun w h => mow_P19_resolvePhiE w (by revert w h; decide +kernel)) (by decide +kernel)) (goodIn_sub mem_P19_resolvePhiE_1 gw_X19_lastE)
set_option maxHeartbeats 4000000 in
set_option maxRecDepth 100000 in
theorem c_P19_resolvePhiE (l : Launch) (dC : Nat → ClassId) (dI : Nat → Nat → Nat) (h0 : Nat) (v19_0 : Value) (v19_1 : Value) (v19_2 : Value) (v19_3 : Value) (v19_4 : Value) (v19_5 : Value) (v19_6 : Value) (v19_7 : Value) (v19_8 : Value) (v19_9 : Value) (v19_10 : Value) (v19_11 : Value) (q_1912 : Nat) (cA_1912 : ClassId) (a19_replaced : Int → Int) (q_1913 : Nat) (cA_1913 : ClassId) (a19_byReg : Int → Int) (q_1914 : Nat) (cA_1914 : ClassId) (a19_by : Int → Int) (v19_15 : Value) (v19_16 : Value) (v19_17 : Value) (v19_18 : Value) (v19_19 : Value) (v19_20 : Value) (v19_21 : Value) (v19_22 : Value) (v19_23 : Value) (v19_24 : Value) (v19_25 : Value) (v19_26 : Value) (v19_27 : Value) (v19_28 : Value) (v19_29 : Value) (v19_30 : Value) (v19_31 : Value) (v19_32 : Value) (v19_33 : Value) (v19_34 : Value) (v19_35 : Value) (v19_36 : Value) (v19_37 : Value) (v19_38 : Value) (v19_39 : Value) (v19_40 : Value) (cO : ClassId) (cI : ClassId) (cZ : ClassId) (L : List Nat) (P : PO) (xp : Nat) (hR_a19_replaced : ∀ j : Int, 0 ≤ a19_replaced j ∧ a19_replaced j ≤ 1) (hR_a19_byReg : ∀ j : Int, 0 ≤ a19_byReg j ∧ a19_byReg j ≤ 1) (hR_a19_by : ∀ j : Int, -2147483648 ≤ a19_by j ∧ a19_by j ≤ 2147483647) (hX_p : PIK L P cI cZ xp) (hX_R : RPL a19_replaced a19_byReg a19_by) (sz : Nat) : Met l yX19_resolve_ v_P19_resolvePhiE ({ frames := 1, cells := 0, slots := 0, locals := 23 }) (va_Pc [.ref h0, .ref xp] (fun U => U.heap.size = sz ∧ va_P (dC, dI) vwQ ([(h0, .inr (16, [v19_0, v19_1, v19_2, v19_3, v19_4, v19_5, v19_6, v19_7, v19_8, v19_9, v19_10, v19_11, .ref q_1912, .ref q_1913, .ref q_1914, v19_15, v19_16, v19_17, v19_18, v19_19, v19_20, v19_21, v19_22, v19_23, v19_24, v19_25, v19_26, v19_27, v19_28, v19_29, v19_30, v19_31, v19_32, v19_33, v19_34, v19_35, v19_36, v19_37, v19_38, v19_39, v19_40])), (q_1912, .inl (cA_1912, 1002, .inl (fun j : Nat => zI (a19_replaced (j : Int))))), (q_1913, .inl (cA_1913, 1002, .inl (fun j : Nat => zI (a19_byReg (j : Int))))), (q_1914, .inl (cA_1914, 1002, .inl (fun j : Nat => zI (a19_by (j : Int)))))] ++ va_pl L (pE P)) U.heap ∧ va_K (dC, dI) vwQ [(cA_1912, .boolean), (cA_1913, .boolean), (cA_1914, .int), (cO, .object "java/lang/Object"), (cI, .int), (cZ, .boolean)] U ∧ va_D (fun _ => True) ([(h0, .inr (16, [v19_0, v19_1, v19_2, v19_3, v19_4, v19_5, v19_6, v19_7, v19_8, v19_9, v19_10, v19_11, .ref q_1912, .ref q_1913, .ref q_1914, v19_15, v19_16, v19_17, v19_18, v19_19, v19_20, v19_21, v19_22, v19_23, v19_24, v19_25, v19_26, v19_27, v19_28, v19_29, v19_30, v19_31, v19_32, v19_33, v19_34, v19_35, v19_36, v19_37, v19_38, v19_39, v19_40])), (q_1912, .inl (cA_1912, 1002, .inl (fun j : Nat => zI (a19_replaced (j : Int))))), (q_1913, .inl (cA_1913, 1002, .inl (fun j : Nat => zI (a19_byReg (j : Int))))), (q_1914, .inl (cA_1914, 1002, .inl (fun j : Nat => zI (a19_by (j : Int)))))] ++ va_pl L (pE P)))) (va_Qv (fun _ : Unit => True) (fun (_ : Unit) (t : State) => ∃ (Pn_9 : PO), ((PH1 xp P Pn_9 ∧ PIK L Pn_9 cI cZ xp ∧ Pn_9.pn xp = P.pn xp ∧ (Pn_9.pt xp = P.pt xp ∧ Pn_9.pg xp = P.pg xp ∧ RSP9 P Pn_9 a19_replaced a19_byReg a19_by xp) ∧ PRQ xp P Pn_9)) ∧ va_P (dC, dI) vwQ ([(h0, .inr (16, [v19_0, v19_1, v19_2, v19_3, v19_4, v19_5, v19_6, v19_7, v19_8, v19_9, v19_10, v19_11, .ref q_1912, .ref q_1913, .ref q_1914, v19_15, v19_16, v19_17, v19_18, v19_19, v19_20, v19_21, v19_22, v19_23, v19_24, v19_25, v19_26, v19_27, v19_28, v19_29, v19_30, v19_31, v19_32, v19_33, v19_34, v19_35, v19_36, v19_37, v19_38, v19_39, v19_40])), (q_1912, .inl (cA_1912, 1002, .inl (fun j : Nat => zI (a19_replaced (j : Int))))), (q_1913, .inl (cA_1913, 1002, .inl (fun j : Nat => zI (a19_byReg (j : Int))))), (q_1914, .inl (cA_1914, 1002, .inl (fun j : Nat => zI (a19_by (j : Int)))))] ++ va_pl L (pE Pn_9)) t.heap ∧ va_K (dC, dI) vwQ [(cA_1912, .boolean), (cA_1913, .boolean), (cA_1914, .int), (cO, .object "java/lang/Object"), (cI, .int), (cZ, .boolean)] t ∧ va_D (va_A ([(h0, .inr (16, [v19_0, v19_1, v19_2, v19_3, v19_4, v19_5, v19_6, v19_7, v19_8, v19_9, v19_10, v19_11, .ref q_1912, .ref q_1913, .ref q_1914, v19_15, v19_16, v19_17, v19_18, v19_19, v19_20, v19_21, v19_22, v19_23, v19_24, v19_25, v19_26, v19_27, v19_28, v19_29, v19_30, v19_31, v19_32, v19_33, v19_34, v19_35, v19_36, v19_37, v19_38, v19_39, v19_40])), (q_1912, .inl (cA_1912, 1002, .inl (fun j : Nat => zI (a19_replaced (j : Int))))), (q_1913, .inl (cA_1913, 1002, .inl (fun j : Nat => zI (a19_byReg (j : Int))))), (q_1914, .inl (cA_1914, 1002, .inl (fun j : Nat => zI (a19_by (j : Int)))))] ++ va_pl L (pE P)) sz) ([(h0, .inr (16, [v19_0, v19_1, v19_2, v19_3, v19_4, v19_5, v19_6, v19_7, v19_8, v19_9, v19_10, v19_11, .ref q_1912, .ref q_1913, .ref q_1914, v19_15, v19_16, v19_17, v19_18, v19_19, v19_20, v19_21, v19_22, v19_23, v19_24, v19_25, v19_26, v19_27, v19_28, v19_29, v19_30, v19_31, v19_32, v19_33, v19_34, v19_35, v19_36, v19_37, v19_38, v19_39, v19_40])), (q_1912, .inl (cA_1912, 1002, .inl (fun j : Nat => zI (a19_replaced (j : Int))))), (q_1913, .inl (cA_1913, 1002, .inl (fun j : Nat => zI (a19_byReg (j : Int))))), (q_1914, .inl (cA_1914, 1002, .inl (fun j : Nat => zI (a19_by (j : Int)))))] ++ va_pl L (pE Pn_9))) (va_A ([(h0, .inr (16, [v19_0, v19_1, v19_2, v19_3, v19_4, v19_5, v19_6, v19_7, v19_8, v19_9, v19_10, v19_11, .ref q_1912, .ref q_1913, .ref q_1914, v19_15, v19_16, v19_17, v19_18, v19_19, v19_20, v19_21, v19_22, v19_23, v19_24, v19_25, v19_26, v19_27, v19_28, v19_29, v19_30, v19_31, v19_32, v19_33, v19_34, v19_35, v19_36, v19_37, v19_38, v19_39, v19_40])), (q_1912, .inl (cA_1912, 1002, .inl (fun j : Nat => zI (a19_replaced (j : Int))))), (q_1913, .inl (cA_1913, 1002, .inl (fun j : Nat => zI (a19_byReg (j : Int))))), (q_1914, .inl (cA_1914, 1002, .inl (fun j : Nat => zI (a19_by (j : Int)))))] ++ va_pl L (pE P)) sz)) 0 0 (va_A ([(h0, .inr (16, [v19_0, v19_1, v19_2, v19_3, v19_4, v19_5, v19_6, v19_7, v19_8, v19_9, v19_10, v19_11, .ref q_1912, .ref q_1913, .ref q_1914, v19_15, v19_16, v19_17, v19_18, v19_19, v19_20, v19_21, v19_22, v19_23, v19_24, v19_25, v19_26, v19_27, v19_28, v19_29, v19_30, v19_31, v19_32, v19_33, v19_34, v19_35, v19_36, v19_37, v19_38, v19_39, v19_40])), (q_1912, .inl (cA_1912, 1002, .inl (fun j : Nat => zI (a19_replaced (j : Int))))), (q_1913, .inl (cA_1913, 1002, .inl (fun j : Nat => zI (a19_byReg (j : Int))))), (q_1914, .inl (cA_1914, 1002, .inl (fun j : Nat => zI (a19_by (j : Int)))))] ++ va_pl L (pE P)) sz) := by
  refine Met.ofW (cc := cX19_resolve_) (maxL := 4) (ret := none) (by decide) rfl ?_
  intro p e s m args below meth c s₁ B hml hv
  obtain ⟨rfl, hsz, hP, hK, hD0⟩ := hv
  have hx := B.exec
  have hb := B.bytes
  have hr := B.returns
  have hts := atoms_spec (ws := v_P19_resolvePhiE) B.pre
  have hown : s.vm.findClass RX19 = some m.cls := findClass_of_methodNamed B.named
  have hlocks := B.notSynchronized
  have ow : ∀ {k : Nat} {w : Cond}, o_P19_resolvePhiE[k]? = some w → w.before ([.ref h0, .ref xp] : List Value).toArray s = true := fun h => hts _ (mow_P19_resolvePhiE _ (List.mem_of_getElem? h))
  subst hsz
  have hD := hD0.self (sz := s.heap.size)
  generalize hAe : va_A ([(h0, .inr (16, [v19_0, v19_1, v19_2, v19_3, v19_4, v19_5, v19_6, v19_7, v19_8, v19_9, v19_10, v19_11, .ref q_1912, .ref q_1913, .ref q_1914, v19_15, v19_16, v19_17, v19_18, v19_19, v19_20, v19_21, v19_22, v19_23, v19_24, v19_25, v19_26, v19_27, v19_28, v19_29, v19_30, v19_31, v19_32, v19_33, v19_34, v19_35, v19_36, v19_37, v19_38, v19_39, v19_40])), (q_1912, .inl (cA_1912, 1002, .inl (fun j : Nat => zI (a19_replaced (j : Int))))), (q_1913, .inl (cA_1913, 1002, .inl (fun j : Nat => zI (a19_byReg (j : Int))))), (q_1914, .inl (cA_1914, 1002, .inl (fun j : Nat => zI (a19_by (j : Int)))))] ++ va_pl L (pE P)) s.heap.size = A at hD ⊢
  have hA : ∀ q : Nat, s.heap.size ≤ q → A q := fun q h => by rw [← hAe]; exact Or.inr h
  have hS : va_S A s.heap s.heap [] := va_S.rf
  have hP : va_P (dC, dI) vwQ ([(h0, .inr (16, [v19_0, v19_1, v19_2, v19_3, v19_4, v19_5, v19_6, v19_7, v19_8, v19_9, v19_10, v19_11, .ref q_1912, .ref q_1913, .ref q_1914, v19_15, v19_16, v19_17, v19_18, v19_19, v19_20, v19_21, v19_22, v19_23, v19_24, v19_25, v19_26, v19_27, v19_28, v19_29, v19_30, v19_31, v19_32, v19_33, v19_34, v19_35, v19_36, v19_37, v19_38, v19_39, v19_40])), (q_1912, .inl (cA_1912, 1002, .inl (fun j : Nat => zI (a19_replaced (j : Int))))), (q_1913, .inl (cA_1913, 1002, .inl (fun j : Nat => zI (a19_byReg (j : Int))))), (q_1914, .inl (cA_1914, 1002, .inl (fun j : Nat => zI (a19_by (j : Int)))))] ++ va_pl L (pE P)) s.heap := hP
  have hl := lv_entry ([.ref h0, .ref xp]) (n := 4) (Nat.le_of_ble_eq_true rfl)
  rw [lg_entry_eq]
  generalize (lg_sl ([.ref h0, .ref xp]) ++ List.replicate (4 - (lg_sl ([.ref h0, .ref xp])).length) Slot.unset).toArray = ls at hl ⊢
  have hl : lv_has ls 4 [(0, .ref h0), (1, .ref xp)] := hl
  obtain ⟨H, hH⟩ : ∃ H, H = s.heap := ⟨_, rfl⟩
  rw [← hH] at hP
  have hS : va_S A s.heap H [] := by rw [hH]; exact hS
  rw [← hH]
  refine zW_cap (fun Q hQ => ?_)
  obtain ⟨qp, eqp⟩ : ∃ q9 : Nat, P.pp xp = q9 := ⟨_, rfl⟩
  have hoqp : qp ∈ L ∧ P.kd qp = 40 ∧ P.ac qp = cI ∧ P.ow qp = xp := (by rw [← eqp]; exact hX_p.2.1)
  have hnqp : P.an qp = P.an (P.pp xp) := (by rw [eqp])
  obtain ⟨qu, equ⟩ : ∃ q9 : Nat, P.pu xp = q9 := ⟨_, rfl⟩
  have hoqu : qu ∈ L ∧ P.kd qu = 41 ∧ P.ac qu = cI ∧ P.ow qu = xp := (by rw [← equ]; exact hX_p.2.2.1)
  have hnqu : P.an qu = P.an (P.pu xp) := (by rw [equ])
  obtain ⟨qz, eqz⟩ : ∃ q9 : Nat, P.pr xp = q9 := ⟨_, rfl⟩
  have hoqz : qz ∈ L ∧ P.kd qz = 42 ∧ P.ac qz = cZ ∧ P.ow qz = xp := (by rw [← eqz]; exact hX_p.2.2.2.1)
  have hnqz : P.an qz = P.an (P.pr xp) := (by rw [eqz])
  have hpn := hX_p.2.2.2.2.1
  have hpt := hX_p.2.2.2.2.2.1
  have hpa : ∀ i : Int, 0 ≤ i → i < P.pn xp → EF (P.ia qp i) (P.ia qu i) (P.ia qz i) := (fun i a b => by have q9 := hX_p.ef a b; unfold PEF at q9; rw [eqp, equ, eqz] at q9; exact q9)
  refine lv_iconst (v := 0) hx hb dX19_resolve__0 (by decide) ?_
  refine lv_istore_n (lv' := [(2, .int 0), (0, .ref h0), (1, .ref xp)]) hx hb dX19_resolve__1 rfl hl (by decide) rfl (fun ls hl => ?_)
  have key2 : ∀ n2 : Nat, ∀ (d2_2 : Int) (P2 : PO) (ls : Array Slot) (H : Heap) (locs : List Loc), (0 ≤ d2_2 ∧ d2_2 ≤ P.pn xp) → (PH1 xp P P2) → (P2.pn xp = P.pn xp ∧ P2.pt xp = P.pt xp ∧ P2.pg xp = P.pg xp) → (∀ i : Int, 0 ≤ i → i < P.pn xp → EF (P2.ia qp i) (P2.ia qu i) (P2.ia qz i)) → (PQ9 (P.ia qp) (P2.ia qp) (P.pn xp)) → (RSF (P.ia qz) (P.ia qu) (P2.ia qz) (P2.ia qu) a19_replaced a19_byReg a19_by (P.pn xp) (d2_2)) → (P2.ia qp = P.ia qp) → ((P.pn xp - d2_2 : Int).toNat) < n2 → lv_has ls 4 [(0, .ref h0), (1, .ref xp), (2, .int (zI (d2_2)))] → va_P (dC, dI) vwQ ([(h0, .inr (16, [v19_0, v19_1, v19_2, v19_3, v19_4, v19_5, v19_6, v19_7, v19_8, v19_9, v19_10, v19_11, .ref q_1912, .ref q_1913, .ref q_1914, v19_15, v19_16, v19_17, v19_18, v19_19, v19_20, v19_21, v19_22, v19_23, v19_24, v19_25, v19_26, v19_27, v19_28, v19_29, v19_30, v19_31, v19_32, v19_33, v19_34, v19_35, v19_36, v19_37, v19_38, v19_39, v19_40])), (q_1912, .inl (cA_1912, 1002, .inl (fun j : Nat => zI (a19_replaced (j : Int))))), (q_1913, .inl (cA_1913, 1002, .inl (fun j : Nat => zI (a19_byReg (j : Int))))), (q_1914, .inl (cA_1914, 1002, .inl (fun j : Nat => zI (a19_by (j : Int)))))] ++ va_pl L (pE P2)) H → va_D A ([(h0, .inr (16, [v19_0, v19_1, v19_2, v19_3, v19_4, v19_5, v19_6, v19_7, v19_8, v19_9, v19_10, v19_11, .ref q_1912, .ref q_1913, .ref q_1914, v19_15, v19_16, v19_17, v19_18, v19_19, v19_20, v19_21, v19_22, v19_23, v19_24, v19_25, v19_26, v19_27, v19_28, v19_29, v19_30, v19_31, v19_32, v19_33, v19_34, v19_35, v19_36, v19_37, v19_38, v19_39, v19_40])), (q_1912, .inl (cA_1912, 1002, .inl (fun j : Nat => zI (a19_replaced (j : Int))))), (q_1913, .inl (cA_1913, 1002, .inl (fun j : Nat => zI (a19_byReg (j : Int))))), (q_1914, .inl (cA_1914, 1002, .inl (fun j : Nat => zI (a19_by (j : Int)))))] ++ va_pl L (pE P2)) → va_S A s.heap H locs → W p l e (headSpec v_P19_resolvePhiE ({ frames := 1, cells := 0, slots := 0, locals := 23 })).room s m ([.ref h0, .ref xp] : List Value).toArray below meth c H locs 0 0 Q (F0 m 2 ls []) := by
    intro n2
    induction n2 with
    | zero => intro d2_2 P2 ls H locs jd2_2 wP2 jn2 jef2 jq2 jx2 jy2 hm2; exact absurd hm2 (by omega)
    | succ n2 ih2 =>
      intro d2_2 P2 ls H locs jd2_2 wP2 jn2 jef2 jq2 jx2 jy2 hm2 hl hP hD hS
      have hy_2001 : P2.kd xp = 15 := (congrFun (congrFun wP2.1.1 0) xp).trans hX_p.1.2
      have hy_2002 : P2.kd qp = 40 := (congrFun (congrFun wP2.1.1 0) qp).trans hoqp.2.1
      have hy_2003 : P2.kd qu = 41 := (congrFun (congrFun wP2.1.1 0) qu).trans hoqu.2.1
      have hy_2004 : P2.kd qz = 42 := (congrFun (congrFun wP2.1.1 0) qz).trans hoqz.2.1
      have hc_2005 : P2.ac qp = cI := (congrFun wP2.1.2.2 qp).trans hoqp.2.2.1
      have : P2.an qp = P.an qp := congrFun (congrFun wP2.1.1 1) qp
      have hc_2006 : P2.ac qu = cI := (congrFun wP2.1.2.2 qu).trans hoqu.2.2.1
      have : P2.an qu = P.an qu := congrFun (congrFun wP2.1.1 1) qu
      have hc_2007 : P2.ac qz = cZ := (congrFun wP2.1.2.2 qz).trans hoqz.2.2.1
      have : P2.an qz = P.an qz := congrFun (congrFun wP2.1.1 1) qz
      have ha_2008 : P2.pp xp = qp := (congrFun (congrFun wP2.1.1 1) xp).trans eqp
      have ha_2009 : P2.pu xp = qu := (congrFun (congrFun wP2.1.1 2) xp).trans equ
      have ha_2010 : P2.pr xp = qz := (congrFun (congrFun wP2.1.1 3) xp).trans eqz
      have ho_2011 : P2.ow qp = xp := (congrFun (congrFun wP2.1.1 9) qp).trans hoqp.2.2.2
      have ho_2012 : P2.ow qu = xp := (congrFun (congrFun wP2.1.1 9) qu).trans hoqu.2.2.2
      have ho_2013 : P2.ow qz = xp := (congrFun (congrFun wP2.1.1 9) qz).trans hoqz.2.2.2
      have hj9 := wP2
      refine lv_iload_n hx hb dX19_resolve__2 rfl (lv_at hl 2 rfl) ?_
      refine lv_aload_n hx hb dX19_resolve__3 rfl (lv_at hl 1 rfl) ?_
      obtain ⟨kp_2014, hkp_2014⟩ := va_pl_get (X := [(h0, .inr (16, [v19_0, v19_1, v19_2, v19_3, v19_4, v19_5, v19_6, v19_7, v19_8, v19_9, v19_10, v19_11, .ref q_1912, .ref q_1913, .ref q_1914, v19_15, v19_16, v19_17, v19_18, v19_19, v19_20, v19_21, v19_22, v19_23, v19_24, v19_25, v19_26, v19_27, v19_28, v19_29, v19_30, v19_31, v19_32, v19_33, v19_34, v19_35, v19_36, v19_37, v19_38, v19_39, v19_40])), (q_1912, .inl (cA_1912, 1002, .inl (fun j : Nat => zI (a19_replaced (j : Int))))), (q_1913, .inl (cA_1913, 1002, .inl (fun j : Nat => zI (a19_byReg (j : Int))))), (q_1914, .inl (cA_1914, 1002, .inl (fun j : Nat => zI (a19_by (j : Int)))))]) (f := pE P2) hX_p.1.1
      rw [pE_phi hy_2001] at hkp_2014
      refine va_get (D := (dC, dI)) (ci := 20) (v := .int (zI (P2.pn xp))) (C := RX15) (T := TX15) (N := 6) hx hb hts mem_P19_resolvePhiE_0 hown hK hP kp_2014 hkp_2014 rfl 1 (by decide) (ow (k := 0) rfl) (fun _ h9 => h9) rfl dX19_resolve__4 ?_
      refine lv_icmp_ge (tgt := 84) hx hb dX19_resolve__7 (by decide) (fun b7 => ?_) (fun b7 => ?_)
      · have yb7 : (P2.pn xp : Int) ≤ (d2_2 : Int) := (zI_le (a := P2.pn xp) (b := d2_2) (by omega) (by omega) (by omega) (by omega)).mp b7
        subst hQ
        refine W.widen (k := 0) (n := 0) (Nat.le_of_ble_eq_true rfl) (Nat.le_of_ble_eq_true rfl) ?_
        exact W.vret hx hb hr (fun t ht hW => ⟨⟨(), rfl, trivial, P2, ⟨wP2, hX_p.of wP2 (by omega) (by omega) (by omega) (fun i a b => by unfold PEF; rw [ha_2008, ha_2009, ha_2010]; exact jef2 i a (by omega)), by omega, ⟨by omega, by omega, ⟨(by rw [eqz, equ]; exact jx2.full (by omega)), (by rw [eqp]; exact jy2)⟩⟩, (fun n h i a b => by rw [ha_2008]; exact jq2 n (fun i a b => by have q9 := h i a b; rw [eqp] at q9; exact q9) i a (by omega))⟩, by rw [ht]; exact hP, va_K.moved hW.alike hK, hD⟩, hS.F ht⟩) hS.2.2 dX19_resolve__84
      · have yb7 : ¬ (P2.pn xp : Int) ≤ (d2_2 : Int) := fun q => b7 ((zI_le (a := P2.pn xp) (b := d2_2) (by omega) (by omega) (by omega) (by omega)).mpr q)
        refine lv_aload_n hx hb dX19_resolve__10 rfl (lv_at hl 1 rfl) ?_
        obtain ⟨kp_2015, hkp_2015⟩ := va_pl_get (X := [(h0, .inr (16, [v19_0, v19_1, v19_2, v19_3, v19_4, v19_5, v19_6, v19_7, v19_8, v19_9, v19_10, v19_11, .ref q_1912, .ref q_1913, .ref q_1914, v19_15, v19_16, v19_17, v19_18, v19_19, v19_20, v19_21, v19_22, v19_23, v19_24, v19_25, v19_26, v19_27, v19_28, v19_29, v19_30, v19_31, v19_32, v19_33, v19_34, v19_35, v19_36, v19_37, v19_38, v19_39, v19_40])), (q_1912, .inl (cA_1912, 1002, .inl (fun j : Nat => zI (a19_replaced (j : Int))))), (q_1913, .inl (cA_1913, 1002, .inl (fun j : Nat => zI (a19_byReg (j : Int))))), (q_1914, .inl (cA_1914, 1002, .inl (fun j : Nat => zI (a19_by (j : Int)))))]) (f := pE P2) hX_p.1.1
        rw [pE_phi hy_2001] at hkp_2015
        refine va_get (D := (dC, dI)) (ci := 20) (v := .ref (P2.pr xp)) (C := RX15) (T := TX15) (N := 6) hx hb hts mem_P19_resolvePhiE_0 hown hK hP kp_2015 hkp_2015 rfl 4 (by decide) (ow (k := 1) rfl) (fun _ h9 => h9) rfl dX19_resolve__11 ?_
        obtain ⟨pr_2016, epr_2016⟩ : ∃ q9 : Nat, q9 = P2.pr xp := ⟨_, rfl⟩
        rw [← epr_2016]
        obtain rfl : qz = pr_2016 := (by rw [epr_2016]; exact ha_2010.symm)
        refine lv_iload_n hx hb dX19_resolve__14 rfl (lv_at hl 2 rfl) ?_
        obtain ⟨kp_2017, hkp_2017⟩ := va_pl_get (X := [(h0, .inr (16, [v19_0, v19_1, v19_2, v19_3, v19_4, v19_5, v19_6, v19_7, v19_8, v19_9, v19_10, v19_11, .ref q_1912, .ref q_1913, .ref q_1914, v19_15, v19_16, v19_17, v19_18, v19_19, v19_20, v19_21, v19_22, v19_23, v19_24, v19_25, v19_26, v19_27, v19_28, v19_29, v19_30, v19_31, v19_32, v19_33, v19_34, v19_35, v19_36, v19_37, v19_38, v19_39, v19_40])), (q_1912, .inl (cA_1912, 1002, .inl (fun j : Nat => zI (a19_replaced (j : Int))))), (q_1913, .inl (cA_1913, 1002, .inl (fun j : Nat => zI (a19_byReg (j : Int))))), (q_1914, .inl (cA_1914, 1002, .inl (fun j : Nat => zI (a19_by (j : Int)))))]) (f := pE P2) hoqz.1
        rw [pE_n42 hy_2004, hc_2007] at hkp_2017
        refine va_zald hx hb hK hP kp_2017 5 hkp_2017 rfl (zI_in (a := d2_2) (n := P2.an qz) (by omega) (by omega) (by omega)) dX19_resolve__15 ?_
        refine lv_topi (fun z ez => ?_)
        obtain rfl : z = zI (P2.ia qz (d2_2)) := ez.trans (zI_ld (P2.ia qz) (by omega) (by omega))
        have : 0 ≤ P2.ia qz (d2_2) ∧ P2.ia qz (d2_2) ≤ 1 := (by exact (jef2 (d2_2) (by omega) (by omega)).2.2.1)
        refine lv_if_ne (tgt := 22) hx hb dX19_resolve__16 (by decide) (fun b16 => ?_) (fun b16 => ?_)
        · have yb16 : ¬ (P2.ia qz (d2_2) : Int) = (0 : Int) := fun q => b16 ((zI_eq (a := P2.ia qz (d2_2)) (b := 0) (by omega) (by omega) (by omega) (by omega)).mpr q)
          refine lv_aload_n hx hb dX19_resolve__22 rfl (lv_at hl 0 rfl) ?_
          refine lv_aload_n hx hb dX19_resolve__23 rfl (lv_at hl 1 rfl) ?_
          obtain ⟨kp_2018, hkp_2018⟩ := va_pl_get (X := [(h0, .inr (16, [v19_0, v19_1, v19_2, v19_3, v19_4, v19_5, v19_6, v19_7, v19_8, v19_9, v19_10, v19_11, .ref q_1912, .ref q_1913, .ref q_1914, v19_15, v19_16, v19_17, v19_18, v19_19, v19_20, v19_21, v19_22, v19_23, v19_24, v19_25, v19_26, v19_27, v19_28, v19_29, v19_30, v19_31, v19_32, v19_33, v19_34, v19_35, v19_36, v19_37, v19_38, v19_39, v19_40])), (q_1912, .inl (cA_1912, 1002, .inl (fun j : Nat => zI (a19_replaced (j : Int))))), (q_1913, .inl (cA_1913, 1002, .inl (fun j : Nat => zI (a19_byReg (j : Int))))), (q_1914, .inl (cA_1914, 1002, .inl (fun j : Nat => zI (a19_by (j : Int)))))]) (f := pE P2) hX_p.1.1
          rw [pE_phi hy_2001] at hkp_2018
          refine va_get (D := (dC, dI)) (ci := 20) (v := .ref (P2.pu xp)) (C := RX15) (T := TX15) (N := 6) hx hb hts mem_P19_resolvePhiE_0 hown hK hP kp_2018 hkp_2018 rfl 3 (by decide) (ow (k := 2) rfl) (fun _ h9 => h9) rfl dX19_resolve__24 ?_
          obtain ⟨pr_2019, epr_2019⟩ : ∃ q9 : Nat, q9 = P2.pu xp := ⟨_, rfl⟩
          rw [← epr_2019]
          obtain rfl : qu = pr_2019 := (by rw [epr_2019]; exact ha_2009.symm)
          refine lv_iload_n hx hb dX19_resolve__27 rfl (lv_at hl 2 rfl) ?_
          obtain ⟨kp_2020, hkp_2020⟩ := va_pl_get (X := [(h0, .inr (16, [v19_0, v19_1, v19_2, v19_3, v19_4, v19_5, v19_6, v19_7, v19_8, v19_9, v19_10, v19_11, .ref q_1912, .ref q_1913, .ref q_1914, v19_15, v19_16, v19_17, v19_18, v19_19, v19_20, v19_21, v19_22, v19_23, v19_24, v19_25, v19_26, v19_27, v19_28, v19_29, v19_30, v19_31, v19_32, v19_33, v19_34, v19_35, v19_36, v19_37, v19_38, v19_39, v19_40])), (q_1912, .inl (cA_1912, 1002, .inl (fun j : Nat => zI (a19_replaced (j : Int))))), (q_1913, .inl (cA_1913, 1002, .inl (fun j : Nat => zI (a19_byReg (j : Int))))), (q_1914, .inl (cA_1914, 1002, .inl (fun j : Nat => zI (a19_by (j : Int)))))]) (f := pE P2) hoqu.1
          rw [pE_n41 hy_2003, hc_2006] at hkp_2020
          refine va_iald hx hb hK hP kp_2020 4 hkp_2020 rfl (zI_in (a := d2_2) (n := P2.an qu) (by omega) (by omega) (by omega)) dX19_resolve__28 ?_
          refine lv_topi (fun z ez => ?_)
          obtain rfl : z = zI (P2.ia qu (d2_2)) := ez.trans (zI_ld (P2.ia qu) (by omega) (by omega))
          have : -2147483648 ≤ P2.ia qu (d2_2) ∧ P2.ia qu (d2_2) ≤ 2147483647 := (by exact (jef2 (d2_2) (by omega) (by omega)).2.1)
          have hef9 := (jef2 (d2_2) (by omega) (by omega)).2.2.2
          have hPc := hP.sub (ws' := [(h0, .inr (16, [v19_0, v19_1, v19_2, v19_3, v19_4, v19_5, v19_6, v19_7, v19_8, v19_9, v19_10, v19_11, .ref q_1912, .ref q_1913, .ref q_1914, v19_15, v19_16, v19_17, v19_18, v19_19, v19_20, v19_21, v19_22, v19_23, v19_24, v19_25, v19_26, v19_27, v19_28, v19_29, v19_30, v19_31, v19_32, v19_33, v19_34, v19_35, v19_36, v19_37, v19_38, v19_39, v19_40])), (q_1912, .inl (cA_1912, 1002, .inl (fun j : Nat => zI (a19_replaced (j : Int))))), (q_1913, .inl (cA_1913, 1002, .inl (fun j : Nat => zI (a19_byReg (j : Int))))), (q_1914, .inl (cA_1914, 1002, .inl (fun j : Nat => zI (a19_by (j : Int)))))]) [0, 1, 2, 3] rfl
          have hDc := hD.sub (ws' := [(h0, .inr (16, [v19_0, v19_1, v19_2, v19_3, v19_4, v19_5, v19_6, v19_7, v19_8, v19_9, v19_10, v19_11, .ref q_1912, .ref q_1913, .ref q_1914, v19_15, v19_16, v19_17, v19_18, v19_19, v19_20, v19_21, v19_22, v19_23, v19_24, v19_25, v19_26, v19_27, v19_28, v19_29, v19_30, v19_31, v19_32, v19_33, v19_34, v19_35, v19_36, v19_37, v19_38, v19_39, v19_40])), (q_1912, .inl (cA_1912, 1002, .inl (fun j : Nat => zI (a19_replaced (j : Int))))), (q_1913, .inl (cA_1913, 1002, .inl (fun j : Nat => zI (a19_byReg (j : Int))))), (q_1914, .inl (cA_1914, 1002, .inl (fun j : Nat => zI (a19_by (j : Int)))))]) [0, 1, 2, 3] (by decide) rfl
          have hKc := hK.sub (tys' := [(cA_1912, .boolean), (cA_1913, .boolean), (cA_1914, .int)]) [0, 1, 2] rfl
          have hFc := va_free (wc := [(h0, .inr (16, [v19_0, v19_1, v19_2, v19_3, v19_4, v19_5, v19_6, v19_7, v19_8, v19_9, v19_10, v19_11, .ref q_1912, .ref q_1913, .ref q_1914, v19_15, v19_16, v19_17, v19_18, v19_19, v19_20, v19_21, v19_22, v19_23, v19_24, v19_25, v19_26, v19_27, v19_28, v19_29, v19_30, v19_31, v19_32, v19_33, v19_34, v19_35, v19_36, v19_37, v19_38, v19_39, v19_40])), (q_1912, .inl (cA_1912, 1002, .inl (fun j : Nat => zI (a19_replaced (j : Int))))), (q_1913, .inl (cA_1913, 1002, .inl (fun j : Nat => zI (a19_byReg (j : Int))))), (q_1914, .inl (cA_1914, 1002, .inl (fun j : Nat => zI (a19_by (j : Int)))))]) hD hS hA [0, 1, 2, 3] rfl
          refine va_calli (va_runV (As := [.int (zI (P2.ia qu (d2_2)))]) (rest := []) ⟨hx, hb, hml, hown, hts⟩ (c_X19_lastE l dC dI h0 v19_0 v19_1 v19_2 v19_3 v19_4 v19_5 v19_6 v19_7 v19_8 v19_9 v19_10 v19_11 q_1912 cA_1912 a19_replaced q_1913 cA_1913 a19_byReg q_1914 cA_1914 a19_by v19_15 v19_16 v19_17 v19_18 v19_19 v19_20 v19_21 v19_22 v19_23 v19_24 v19_25 v19_26 v19_27 v19_28 v19_29 v19_30 v19_31 v19_32 v19_33 v19_34 v19_35 v19_36 v19_37 v19_38 v19_39 v19_40 (P2.ia qu (d2_2)) hR_a19_replaced hR_a19_byReg hR_a19_by (by omega) hX_R H.size) (cwV 1 hts g_P19_resolvePhiE_X19_lastE rfl rfl rfl (by decide +kernel) ⟨(Nat.le_of_ble_eq_true rfl), (Nat.le_of_ble_eq_true rfl)⟩) ⟨fun a U g mk q => by obtain ⟨q0, q1, qP, qK, qD⟩ := q; exact ⟨q0, q1, qP, va_K.moved (u := U) (U := U.calling g mk a) (Vm.Alike.refl U.vm) qK, qD⟩, va_recv hKc hPc (ci := 16) (q0 := 0) rfl rfl, fun U hU hW => ⟨rfl, by rw [hU], by rw [hU]; exact hPc, va_K.moved hW.alike hKc, hDc.weaken (fun _ _ _ _ => trivial)⟩⟩ rfl rfl hl.1 rfl (lv_room (Nat.le_of_ble_eq_true rfl)) dX19_resolve__29 ⟨(Nat.le_of_ble_eq_true rfl), (Nat.le_of_ble_eq_true rfl)⟩) hS (fun q _ h => hFc q h) hFc (fun r_2021 z_2022 t H1 locs ht hvm hw hB hz1 hk1 hS => ?_)
          obtain ⟨hxt_2022, hP1, hK1, hD1⟩ := hB
          rw [ht] at hP1
          have hK1 := va_K.moved hvm.symm hK1
          obtain ⟨hP, hD⟩ := va_joinQ (X := [(h0, .inr (16, [v19_0, v19_1, v19_2, v19_3, v19_4, v19_5, v19_6, v19_7, v19_8, v19_9, v19_10, v19_11, .ref q_1912, .ref q_1913, .ref q_1914, v19_15, v19_16, v19_17, v19_18, v19_19, v19_20, v19_21, v19_22, v19_23, v19_24, v19_25, v19_26, v19_27, v19_28, v19_29, v19_30, v19_31, v19_32, v19_33, v19_34, v19_35, v19_36, v19_37, v19_38, v19_39, v19_40])), (q_1912, .inl (cA_1912, 1002, .inl (fun j : Nat => zI (a19_replaced (j : Int))))), (q_1913, .inl (cA_1913, 1002, .inl (fun j : Nat => zI (a19_byReg (j : Int))))), (q_1914, .inl (cA_1914, 1002, .inl (fun j : Nat => zI (a19_by (j : Int)))))]) (cx := [(h0, .inr (16, [v19_0, v19_1, v19_2, v19_3, v19_4, v19_5, v19_6, v19_7, v19_8, v19_9, v19_10, v19_11, .ref q_1912, .ref q_1913, .ref q_1914, v19_15, v19_16, v19_17, v19_18, v19_19, v19_20, v19_21, v19_22, v19_23, v19_24, v19_25, v19_26, v19_27, v19_28, v19_29, v19_30, v19_31, v19_32, v19_33, v19_34, v19_35, v19_36, v19_37, v19_38, v19_39, v19_40])), (q_1912, .inl (cA_1912, 1002, .inl (fun j : Nat => zI (a19_replaced (j : Int))))), (q_1913, .inl (cA_1913, 1002, .inl (fun j : Nat => zI (a19_byReg (j : Int))))), (q_1914, .inl (cA_1914, 1002, .inl (fun j : Nat => zI (a19_by (j : Int)))))]) (wr := []) (w1 := [(h0, .inr (16, [v19_0, v19_1, v19_2, v19_3, v19_4, v19_5, v19_6, v19_7, v19_8, v19_9, v19_10, v19_11, .ref q_1912, .ref q_1913, .ref q_1914, v19_15, v19_16, v19_17, v19_18, v19_19, v19_20, v19_21, v19_22, v19_23, v19_24, v19_25, v19_26, v19_27, v19_28, v19_29, v19_30, v19_31, v19_32, v19_33, v19_34, v19_35, v19_36, v19_37, v19_38, v19_39, v19_40])), (q_1912, .inl (cA_1912, 1002, .inl (fun j : Nat => zI (a19_replaced (j : Int))))), (q_1913, .inl (cA_1913, 1002, .inl (fun j : Nat => zI (a19_byReg (j : Int))))), (q_1914, .inl (cA_1914, 1002, .inl (fun j : Nat => zI (a19_by (j : Int)))))]) (pl := va_pl L (pE P2)) hP hD [0, 1, 2, 3] [] rfl rfl (by decide) (by decide) hk1 hFc hP1 hD1
          have hK := (hK.sub (tys' := [(cO, .object "java/lang/Object"), (cI, .int), (cZ, .boolean)]) [3, 4, 5] rfl).app hK1
          generalize H1 = H at hP hS ⊢
          have hP : va_P (dC, dI) vwQ ([(h0, .inr (16, [v19_0, v19_1, v19_2, v19_3, v19_4, v19_5, v19_6, v19_7, v19_8, v19_9, v19_10, v19_11, .ref q_1912, .ref q_1913, .ref q_1914, v19_15, v19_16, v19_17, v19_18, v19_19, v19_20, v19_21, v19_22, v19_23, v19_24, v19_25, v19_26, v19_27, v19_28, v19_29, v19_30, v19_31, v19_32, v19_33, v19_34, v19_35, v19_36, v19_37, v19_38, v19_39, v19_40])), (q_1912, .inl (cA_1912, 1002, .inl (fun j : Nat => zI (a19_replaced (j : Int))))), (q_1913, .inl (cA_1913, 1002, .inl (fun j : Nat => zI (a19_byReg (j : Int))))), (q_1914, .inl (cA_1914, 1002, .inl (fun j : Nat => zI (a19_by (j : Int)))))] ++ va_pl L (pE P2)) H := hP
          have hD : va_D A ([(h0, .inr (16, [v19_0, v19_1, v19_2, v19_3, v19_4, v19_5, v19_6, v19_7, v19_8, v19_9, v19_10, v19_11, .ref q_1912, .ref q_1913, .ref q_1914, v19_15, v19_16, v19_17, v19_18, v19_19, v19_20, v19_21, v19_22, v19_23, v19_24, v19_25, v19_26, v19_27, v19_28, v19_29, v19_30, v19_31, v19_32, v19_33, v19_34, v19_35, v19_36, v19_37, v19_38, v19_39, v19_40])), (q_1912, .inl (cA_1912, 1002, .inl (fun j : Nat => zI (a19_replaced (j : Int))))), (q_1913, .inl (cA_1913, 1002, .inl (fun j : Nat => zI (a19_byReg (j : Int))))), (q_1914, .inl (cA_1914, 1002, .inl (fun j : Nat => zI (a19_by (j : Int)))))] ++ va_pl L (pE P2)) := hD
          have hK : va_K (dC, dI) vwQ [(cO, .object "java/lang/Object"), (cI, .int), (cZ, .boolean), (cA_1912, .boolean), (cA_1913, .boolean), (cA_1914, .int)] s := hK
          refine W.widen (k := 0) (n := 0) (Nat.le_of_ble_eq_true rfl) (Nat.le_of_ble_eq_true rfl) ?_
          obtain ⟨rfl, hzz_2022⟩ := hw
          have hcl9 := hxt_2022
          refine lv_istore_n (lv' := [(3, .int (zI (z_2022))), (0, .ref h0), (1, .ref xp), (2, .int (zI (d2_2)))]) hx hb dX19_resolve__32 rfl hl (by decide) rfl (fun ls hl => ?_)
          refine lv_aload_n hx hb dX19_resolve__33 rfl (lv_at hl 2 rfl) ?_
          obtain ⟨kp_2023, hkp_2023⟩ := va_pl_get (X := [(h0, .inr (16, [v19_0, v19_1, v19_2, v19_3, v19_4, v19_5, v19_6, v19_7, v19_8, v19_9, v19_10, v19_11, .ref q_1912, .ref q_1913, .ref q_1914, v19_15, v19_16, v19_17, v19_18, v19_19, v19_20, v19_21, v19_22, v19_23, v19_24, v19_25, v19_26, v19_27, v19_28, v19_29, v19_30, v19_31, v19_32, v19_33, v19_34, v19_35, v19_36, v19_37, v19_38, v19_39, v19_40])), (q_1912, .inl (cA_1912, 1002, .inl (fun j : Nat => zI (a19_replaced (j : Int))))), (q_1913, .inl (cA_1913, 1002, .inl (fun j : Nat => zI (a19_byReg (j : Int))))), (q_1914, .inl (cA_1914, 1002, .inl (fun j : Nat => zI (a19_by (j : Int)))))]) (f := pE P2) hX_p.1.1
          rw [pE_phi hy_2001] at hkp_2023
          refine va_get (D := (dC, dI)) (ci := 20) (v := .ref (P2.pr xp)) (C := RX15) (T := TX15) (N := 6) hx hb hts mem_P19_resolvePhiE_0 hown hK hP kp_2023 hkp_2023 rfl 4 (by decide) (ow (k := 1) rfl) (fun _ h9 => h9) rfl dX19_resolve__34 ?_
          obtain ⟨pr_2024, epr_2024⟩ : ∃ q9 : Nat, q9 = P2.pr xp := ⟨_, rfl⟩
          rw [← epr_2024]
          obtain rfl : qz = pr_2024 := (by rw [epr_2024]; exact ha_2010.symm)
          refine lv_iload_n hx hb dX19_resolve__37 rfl (lv_at hl 3 rfl) ?_
          refine lv_aload_n hx hb dX19_resolve__38 rfl (lv_at hl 1 rfl) ?_
          refine va_get (D := (dC, dI)) (ci := 16) (v := .ref q_1912) (C := RX19) (T := TX19) (N := 41) hx hb hts mem_P19_resolvePhiE_2 hown hK hP 0 rfl rfl 12 (by decide) (ow (k := 7) rfl) (fun _ h9 => h9) rfl dX19_resolve__39 ?_
          refine lv_iload_n hx hb dX19_resolve__42 rfl (lv_at hl 0 rfl) ?_
          refine va_zald hx hb hK hP 1 3 rfl rfl (zI_in (a := z_2022) (n := 1002) (by omega) (by omega) (by decide)) dX19_resolve__43 ?_
          refine lv_topi (fun z ez => ?_)
          obtain rfl : z = zI (a19_replaced (z_2022)) := ez.trans (zI_ld (a19_replaced) (by omega) (by omega))
          have k1 := hR_a19_replaced (z_2022)
          refine lv_if_ne (tgt := 51) hx hb dX19_resolve__44 (by decide) (fun b44 => ?_) (fun b44 => ?_)
          · have yb44 : ¬ (a19_replaced (z_2022) : Int) = (0 : Int) := fun q => b44 ((zI_eq (a := a19_replaced (z_2022)) (b := 0) (by omega) (by omega) (by omega) (by omega)).mpr q)
            refine lv_iconst (v := 0) hx hb dX19_resolve__51 (by decide) ?_
            refine lv_topi (fun z ez => ?_)
            obtain rfl : z = zI (0) := ez
            obtain ⟨kp_2025, gkp_2025⟩ := va_pl_get (X := [(h0, .inr (16, [v19_0, v19_1, v19_2, v19_3, v19_4, v19_5, v19_6, v19_7, v19_8, v19_9, v19_10, v19_11, .ref q_1912, .ref q_1913, .ref q_1914, v19_15, v19_16, v19_17, v19_18, v19_19, v19_20, v19_21, v19_22, v19_23, v19_24, v19_25, v19_26, v19_27, v19_28, v19_29, v19_30, v19_31, v19_32, v19_33, v19_34, v19_35, v19_36, v19_37, v19_38, v19_39, v19_40])), (q_1912, .inl (cA_1912, 1002, .inl (fun j : Nat => zI (a19_replaced (j : Int))))), (q_1913, .inl (cA_1913, 1002, .inl (fun j : Nat => zI (a19_byReg (j : Int))))), (q_1914, .inl (cA_1914, 1002, .inl (fun j : Nat => zI (a19_by (j : Int)))))]) (f := pE P2) hoqz.1
            have hkp_2025 := gkp_2025
            rw [pE_n42 hy_2004, hc_2007] at hkp_2025
            have hD0 := hD
            refine va_zast (i := zI (d2_2)) hx hb hK hP hD hS kp_2025 2 hkp_2025 rfl (zI_in (a := d2_2) (n := P2.an qz) (by omega) (by omega) (by omega)) dX19_resolve__52 (fun H locs hP hD hS => ?_)
            rw [show vp_nar .boolean (zI (0)) = zI (0) from zI_nar (a := 0) (by omega) (by omega)] at hP hD
            obtain ⟨Pw_2026, ePw_2026⟩ : ∃ q9 : PO, q9 = P2.ri9 qz (zup (P2.ia qz) (d2_2) (0)) := ⟨_, rfl⟩
            have eQ : upd (fun j : Nat => zI (P2.ia qz (j : Int))) (zI (d2_2)).toNatClampNeg (zI (0)) = (fun j : Nat => zI ((zup (P2.ia qz) (d2_2) (0)) (j : Int))) := zI_st (P2.ia qz) (e := d2_2) (v := 0) (by omega) (by omega)
            have eU : (([(h0, .inr (16, [v19_0, v19_1, v19_2, v19_3, v19_4, v19_5, v19_6, v19_7, v19_8, v19_9, v19_10, v19_11, .ref q_1912, .ref q_1913, .ref q_1914, v19_15, v19_16, v19_17, v19_18, v19_19, v19_20, v19_21, v19_22, v19_23, v19_24, v19_25, v19_26, v19_27, v19_28, v19_29, v19_30, v19_31, v19_32, v19_33, v19_34, v19_35, v19_36, v19_37, v19_38, v19_39, v19_40])), (q_1912, .inl (cA_1912, 1002, .inl (fun j : Nat => zI (a19_replaced (j : Int))))), (q_1913, .inl (cA_1913, 1002, .inl (fun j : Nat => zI (a19_byReg (j : Int))))), (q_1914, .inl (cA_1914, 1002, .inl (fun j : Nat => zI (a19_by (j : Int)))))] : va_W) ++ va_pl L (pE P2)).set kp_2025 (qz, (.inl (cZ, P2.an qz, .inl (upd (fun j : Nat => zI (P2.ia qz (j : Int))) (zI (d2_2)).toNatClampNeg (zI (0)))) : va_E)) = ([(h0, .inr (16, [v19_0, v19_1, v19_2, v19_3, v19_4, v19_5, v19_6, v19_7, v19_8, v19_9, v19_10, v19_11, .ref q_1912, .ref q_1913, .ref q_1914, v19_15, v19_16, v19_17, v19_18, v19_19, v19_20, v19_21, v19_22, v19_23, v19_24, v19_25, v19_26, v19_27, v19_28, v19_29, v19_30, v19_31, v19_32, v19_33, v19_34, v19_35, v19_36, v19_37, v19_38, v19_39, v19_40])), (q_1912, .inl (cA_1912, 1002, .inl (fun j : Nat => zI (a19_replaced (j : Int))))), (q_1913, .inl (cA_1913, 1002, .inl (fun j : Nat => zI (a19_byReg (j : Int))))), (q_1914, .inl (cA_1914, 1002, .inl (fun j : Nat => zI (a19_by (j : Int)))))] : va_W) ++ va_pl L (pE Pw_2026) := (by rw [eQ, va_pl_set hD0 hoqz.1 gkp_2025, ePw_2026]; exact congrArg (fun f9 => ([(h0, .inr (16, [v19_0, v19_1, v19_2, v19_3, v19_4, v19_5, v19_6, v19_7, v19_8, v19_9, v19_10, v19_11, .ref q_1912, .ref q_1913, .ref q_1914, v19_15, v19_16, v19_17, v19_18, v19_19, v19_20, v19_21, v19_22, v19_23, v19_24, v19_25, v19_26, v19_27, v19_28, v19_29, v19_30, v19_31, v19_32, v19_33, v19_34, v19_35, v19_36, v19_37, v19_38, v19_39, v19_40])), (q_1912, .inl (cA_1912, 1002, .inl (fun j : Nat => zI (a19_replaced (j : Int))))), (q_1913, .inl (cA_1913, 1002, .inl (fun j : Nat => zI (a19_byReg (j : Int))))), (q_1914, .inl (cA_1914, 1002, .inl (fun j : Nat => zI (a19_by (j : Int)))))] : va_W) ++ va_pl L f9) (by have h9 := putnum (P := P2) (x := qz) (a := zup (P2.ia qz) (d2_2) (0)) (by omega); rw [hc_2007] at h9; exact h9))
            have hP : va_P (dC, dI) vwQ ([(h0, .inr (16, [v19_0, v19_1, v19_2, v19_3, v19_4, v19_5, v19_6, v19_7, v19_8, v19_9, v19_10, v19_11, .ref q_1912, .ref q_1913, .ref q_1914, v19_15, v19_16, v19_17, v19_18, v19_19, v19_20, v19_21, v19_22, v19_23, v19_24, v19_25, v19_26, v19_27, v19_28, v19_29, v19_30, v19_31, v19_32, v19_33, v19_34, v19_35, v19_36, v19_37, v19_38, v19_39, v19_40])), (q_1912, .inl (cA_1912, 1002, .inl (fun j : Nat => zI (a19_replaced (j : Int))))), (q_1913, .inl (cA_1913, 1002, .inl (fun j : Nat => zI (a19_byReg (j : Int))))), (q_1914, .inl (cA_1914, 1002, .inl (fun j : Nat => zI (a19_by (j : Int)))))] ++ va_pl L (pE Pw_2026)) H := (by rw [← eU]; exact hP)
            have hD : va_D A ([(h0, .inr (16, [v19_0, v19_1, v19_2, v19_3, v19_4, v19_5, v19_6, v19_7, v19_8, v19_9, v19_10, v19_11, .ref q_1912, .ref q_1913, .ref q_1914, v19_15, v19_16, v19_17, v19_18, v19_19, v19_20, v19_21, v19_22, v19_23, v19_24, v19_25, v19_26, v19_27, v19_28, v19_29, v19_30, v19_31, v19_32, v19_33, v19_34, v19_35, v19_36, v19_37, v19_38, v19_39, v19_40])), (q_1912, .inl (cA_1912, 1002, .inl (fun j : Nat => zI (a19_replaced (j : Int))))), (q_1913, .inl (cA_1913, 1002, .inl (fun j : Nat => zI (a19_byReg (j : Int))))), (q_1914, .inl (cA_1914, 1002, .inl (fun j : Nat => zI (a19_by (j : Int)))))] ++ va_pl L (pE Pw_2026)) := (by rw [← eU]; exact hD)
            clear eU eQ hD0 gkp_2025 hkp_2025
            have wPw_2026 : PH1 xp P2 Pw_2026 := (by rw [ePw_2026]; exact PH1.num ho_2013)
            have hi_2027 : Pw_2026.ia qp = P2.ia qp := (by rw [ePw_2026]; exact ri9_of _ _ (kd_ne hy_2002 hy_2004 (by decide)))
            have hi_2028 : Pw_2026.ia qu = P2.ia qu := (by rw [ePw_2026]; exact ri9_of _ _ (kd_ne hy_2003 hy_2004 (by decide)))
            have hi_2029 : Pw_2026.ia qz = zup (P2.ia qz) (d2_2) (0) := (by rw [ePw_2026]; exact ri9_at _ _ _)
            have hy_2030 : Pw_2026.kd xp = 15 := (by rw [ePw_2026]; exact hy_2001)
            have : Pw_2026.pt xp = P2.pt xp := (by rw [ePw_2026]; rfl)
            have : Pw_2026.pn xp = P2.pn xp := (by rw [ePw_2026]; rfl)
            have : Pw_2026.pg xp = P2.pg xp := (by rw [ePw_2026]; rfl)
            have hy_2031 : Pw_2026.kd qp = 40 := (by rw [ePw_2026]; exact hy_2002)
            have hy_2032 : Pw_2026.kd qu = 41 := (by rw [ePw_2026]; exact hy_2003)
            have hy_2033 : Pw_2026.kd qz = 42 := (by rw [ePw_2026]; exact hy_2004)
            have hc_2034 : Pw_2026.ac qp = cI := (by rw [ePw_2026]; exact hc_2005)
            have : Pw_2026.an qp = P2.an qp := (by rw [ePw_2026]; rfl)
            have hc_2035 : Pw_2026.ac qu = cI := (by rw [ePw_2026]; exact hc_2006)
            have : Pw_2026.an qu = P2.an qu := (by rw [ePw_2026]; rfl)
            have hc_2036 : Pw_2026.ac qz = cZ := (by rw [ePw_2026]; exact hc_2007)
            have : Pw_2026.an qz = P2.an qz := (by rw [ePw_2026]; rfl)
            have ha_2037 : Pw_2026.pp xp = qp := (by rw [ePw_2026]; exact ha_2008)
            have ha_2038 : Pw_2026.pu xp = qu := (by rw [ePw_2026]; exact ha_2009)
            have ha_2039 : Pw_2026.pr xp = qz := (by rw [ePw_2026]; exact ha_2010)
            have ho_2040 : Pw_2026.ow qp = xp := (by rw [ePw_2026]; exact ho_2011)
            have ho_2041 : Pw_2026.ow qu = xp := (by rw [ePw_2026]; exact ho_2012)
            have ho_2042 : Pw_2026.ow qz = xp := (by rw [ePw_2026]; exact ho_2013)
            refine lv_aload_n hx hb dX19_resolve__53 rfl (lv_at hl 2 rfl) ?_
            obtain ⟨kp_2043, hkp_2043⟩ := va_pl_get (X := [(h0, .inr (16, [v19_0, v19_1, v19_2, v19_3, v19_4, v19_5, v19_6, v19_7, v19_8, v19_9, v19_10, v19_11, .ref q_1912, .ref q_1913, .ref q_1914, v19_15, v19_16, v19_17, v19_18, v19_19, v19_20, v19_21, v19_22, v19_23, v19_24, v19_25, v19_26, v19_27, v19_28, v19_29, v19_30, v19_31, v19_32, v19_33, v19_34, v19_35, v19_36, v19_37, v19_38, v19_39, v19_40])), (q_1912, .inl (cA_1912, 1002, .inl (fun j : Nat => zI (a19_replaced (j : Int))))), (q_1913, .inl (cA_1913, 1002, .inl (fun j : Nat => zI (a19_byReg (j : Int))))), (q_1914, .inl (cA_1914, 1002, .inl (fun j : Nat => zI (a19_by (j : Int)))))]) (f := pE Pw_2026) hX_p.1.1
            rw [pE_phi hy_2030] at hkp_2043
            refine va_get (D := (dC, dI)) (ci := 20) (v := .ref (Pw_2026.pu xp)) (C := RX15) (T := TX15) (N := 6) hx hb hts mem_P19_resolvePhiE_0 hown hK hP kp_2043 hkp_2043 rfl 3 (by decide) (ow (k := 2) rfl) (fun _ h9 => h9) rfl dX19_resolve__54 ?_
            obtain ⟨pr_2044, epr_2044⟩ : ∃ q9 : Nat, q9 = Pw_2026.pu xp := ⟨_, rfl⟩
            rw [← epr_2044]
            obtain rfl : qu = pr_2044 := (by rw [epr_2044]; exact ha_2038.symm)
            refine lv_iload_n hx hb dX19_resolve__57 rfl (lv_at hl 3 rfl) ?_
            refine lv_aload_n hx hb dX19_resolve__58 rfl (lv_at hl 1 rfl) ?_
            refine va_get (D := (dC, dI)) (ci := 16) (v := .ref q_1912) (C := RX19) (T := TX19) (N := 41) hx hb hts mem_P19_resolvePhiE_2 hown hK hP 0 rfl rfl 12 (by decide) (ow (k := 7) rfl) (fun _ h9 => h9) rfl dX19_resolve__59 ?_
            refine lv_iload_n hx hb dX19_resolve__62 rfl (lv_at hl 0 rfl) ?_
            refine va_zald hx hb hK hP 1 3 rfl rfl (zI_in (a := z_2022) (n := 1002) (by omega) (by omega) (by decide)) dX19_resolve__63 ?_
            refine lv_topi (fun z ez => ?_)
            obtain rfl : z = zI (a19_replaced (z_2022)) := ez.trans (zI_ld (a19_replaced) (by omega) (by omega))
            have k2 := hR_a19_replaced (z_2022)
            refine lv_if_eq (tgt := 76) hx hb dX19_resolve__64 (by decide) (fun b64 => ?_) (fun b64 => ?_)
            · have yb64 : (a19_replaced (z_2022) : Int) = (0 : Int) := (zI_eq (a := a19_replaced (z_2022)) (b := 0) (by omega) (by omega) (by omega) (by omega)).mp b64
              refine lv_iload_n hx hb dX19_resolve__76 rfl (lv_at hl 0 rfl) ?_
              obtain ⟨kp_2045, gkp_2045⟩ := va_pl_get (X := [(h0, .inr (16, [v19_0, v19_1, v19_2, v19_3, v19_4, v19_5, v19_6, v19_7, v19_8, v19_9, v19_10, v19_11, .ref q_1912, .ref q_1913, .ref q_1914, v19_15, v19_16, v19_17, v19_18, v19_19, v19_20, v19_21, v19_22, v19_23, v19_24, v19_25, v19_26, v19_27, v19_28, v19_29, v19_30, v19_31, v19_32, v19_33, v19_34, v19_35, v19_36, v19_37, v19_38, v19_39, v19_40])), (q_1912, .inl (cA_1912, 1002, .inl (fun j : Nat => zI (a19_replaced (j : Int))))), (q_1913, .inl (cA_1913, 1002, .inl (fun j : Nat => zI (a19_byReg (j : Int))))), (q_1914, .inl (cA_1914, 1002, .inl (fun j : Nat => zI (a19_by (j : Int)))))]) (f := pE Pw_2026) hoqu.1
              have hkp_2045 := gkp_2045
              rw [pE_n41 hy_2032, hc_2035] at hkp_2045
              have hD0 := hD
              refine va_iast (i := zI (d2_2)) hx hb hK hP hD hS kp_2045 1 hkp_2045 rfl (zI_in (a := d2_2) (n := Pw_2026.an qu) (by omega) (by omega) (by omega)) dX19_resolve__77 (fun H locs hP hD hS => ?_)
              obtain ⟨Pw_2046, ePw_2046⟩ : ∃ q9 : PO, q9 = Pw_2026.ri9 qu (zup (Pw_2026.ia qu) (d2_2) (z_2022)) := ⟨_, rfl⟩
              have eQ : upd (fun j : Nat => zI (Pw_2026.ia qu (j : Int))) (zI (d2_2)).toNatClampNeg (zI (z_2022)) = (fun j : Nat => zI ((zup (Pw_2026.ia qu) (d2_2) (z_2022)) (j : Int))) := zI_st (Pw_2026.ia qu) (e := d2_2) (v := z_2022) (by omega) (by omega)
              have eU : (([(h0, .inr (16, [v19_0, v19_1, v19_2, v19_3, v19_4, v19_5, v19_6, v19_7, v19_8, v19_9, v19_10, v19_11, .ref q_1912, .ref q_1913, .ref q_1914, v19_15, v19_16, v19_17, v19_18, v19_19, v19_20, v19_21, v19_22, v19_23, v19_24, v19_25, v19_26, v19_27, v19_28, v19_29, v19_30, v19_31, v19_32, v19_33, v19_34, v19_35, v19_36, v19_37, v19_38, v19_39, v19_40])), (q_1912, .inl (cA_1912, 1002, .inl (fun j : Nat => zI (a19_replaced (j : Int))))), (q_1913, .inl (cA_1913, 1002, .inl (fun j : Nat => zI (a19_byReg (j : Int))))), (q_1914, .inl (cA_1914, 1002, .inl (fun j : Nat => zI (a19_by (j : Int)))))] : va_W) ++ va_pl L (pE Pw_2026)).set kp_2045 (qu, (.inl (cI, Pw_2026.an qu, .inl (upd (fun j : Nat => zI (Pw_2026.ia qu (j : Int))) (zI (d2_2)).toNatClampNeg (zI (z_2022)))) : va_E)) = ([(h0, .inr (16, [v19_0, v19_1, v19_2, v19_3, v19_4, v19_5, v19_6, v19_7, v19_8, v19_9, v19_10, v19_11, .ref q_1912, .ref q_1913, .ref q_1914, v19_15, v19_16, v19_17, v19_18, v19_19, v19_20, v19_21, v19_22, v19_23, v19_24, v19_25, v19_26, v19_27, v19_28, v19_29, v19_30, v19_31, v19_32, v19_33, v19_34, v19_35, v19_36, v19_37, v19_38, v19_39, v19_40])), (q_1912, .inl (cA_1912, 1002, .inl (fun j : Nat => zI (a19_replaced (j : Int))))), (q_1913, .inl (cA_1913, 1002, .inl (fun j : Nat => zI (a19_byReg (j : Int))))), (q_1914, .inl (cA_1914, 1002, .inl (fun j : Nat => zI (a19_by (j : Int)))))] : va_W) ++ va_pl L (pE Pw_2046) := (by rw [eQ, va_pl_set hD0 hoqu.1 gkp_2045, ePw_2046]; exact congrArg (fun f9 => ([(h0, .inr (16, [v19_0, v19_1, v19_2, v19_3, v19_4, v19_5, v19_6, v19_7, v19_8, v19_9, v19_10, v19_11, .ref q_1912, .ref q_1913, .ref q_1914, v19_15, v19_16, v19_17, v19_18, v19_19, v19_20, v19_21, v19_22, v19_23, v19_24, v19_25, v19_26, v19_27, v19_28, v19_29, v19_30, v19_31, v19_32, v19_33, v19_34, v19_35, v19_36, v19_37, v19_38, v19_39, v19_40])), (q_1912, .inl (cA_1912, 1002, .inl (fun j : Nat => zI (a19_replaced (j : Int))))), (q_1913, .inl (cA_1913, 1002, .inl (fun j : Nat => zI (a19_byReg (j : Int))))), (q_1914, .inl (cA_1914, 1002, .inl (fun j : Nat => zI (a19_by (j : Int)))))] : va_W) ++ va_pl L f9) (by have h9 := putnum (P := Pw_2026) (x := qu) (a := zup (Pw_2026.ia qu) (d2_2) (z_2022)) (by omega); rw [hc_2035] at h9; exact h9))
              have hP : va_P (dC, dI) vwQ ([(h0, .inr (16, [v19_0, v19_1, v19_2, v19_3, v19_4, v19_5, v19_6, v19_7, v19_8, v19_9, v19_10, v19_11, .ref q_1912, .ref q_1913, .ref q_1914, v19_15, v19_16, v19_17, v19_18, v19_19, v19_20, v19_21, v19_22, v19_23, v19_24, v19_25, v19_26, v19_27, v19_28, v19_29, v19_30, v19_31, v19_32, v19_33, v19_34, v19_35, v19_36, v19_37, v19_38, v19_39, v19_40])), (q_1912, .inl (cA_1912, 1002, .inl (fun j : Nat => zI (a19_replaced (j : Int))))), (q_1913, .inl (cA_1913, 1002, .inl (fun j : Nat => zI (a19_byReg (j : Int))))), (q_1914, .inl (cA_1914, 1002, .inl (fun j : Nat => zI (a19_by (j : Int)))))] ++ va_pl L (pE Pw_2046)) H := (by rw [← eU]; exact hP)
              have hD : va_D A ([(h0, .inr (16, [v19_0, v19_1, v19_2, v19_3, v19_4, v19_5, v19_6, v19_7, v19_8, v19_9, v19_10, v19_11, .ref q_1912, .ref q_1913, .ref q_1914, v19_15, v19_16, v19_17, v19_18, v19_19, v19_20, v19_21, v19_22, v19_23, v19_24, v19_25, v19_26, v19_27, v19_28, v19_29, v19_30, v19_31, v19_32, v19_33, v19_34, v19_35, v19_36, v19_37, v19_38, v19_39, v19_40])), (q_1912, .inl (cA_1912, 1002, .inl (fun j : Nat => zI (a19_replaced (j : Int))))), (q_1913, .inl (cA_1913, 1002, .inl (fun j : Nat => zI (a19_byReg (j : Int))))), (q_1914, .inl (cA_1914, 1002, .inl (fun j : Nat => zI (a19_by (j : Int)))))] ++ va_pl L (pE Pw_2046)) := (by rw [← eU]; exact hD)
              clear eU eQ hD0 gkp_2045 hkp_2045
              have wPw_2046 : PH1 xp Pw_2026 Pw_2046 := (by rw [ePw_2046]; exact PH1.num ho_2041)
              have hi_2047 : Pw_2046.ia qp = Pw_2026.ia qp := (by rw [ePw_2046]; exact ri9_of _ _ (kd_ne hy_2031 hy_2032 (by decide)))
              have hi_2048 : Pw_2046.ia qu = zup (Pw_2026.ia qu) (d2_2) (z_2022) := (by rw [ePw_2046]; exact ri9_at _ _ _)
              have hi_2049 : Pw_2046.ia qz = Pw_2026.ia qz := (by rw [ePw_2046]; exact ri9_of _ _ (kd_ne hy_2033 hy_2032 (by decide)))
              have hy_2050 : Pw_2046.kd xp = 15 := (by rw [ePw_2046]; exact hy_2030)
              have : Pw_2046.pt xp = Pw_2026.pt xp := (by rw [ePw_2046]; rfl)
              have : Pw_2046.pn xp = Pw_2026.pn xp := (by rw [ePw_2046]; rfl)
              have : Pw_2046.pg xp = Pw_2026.pg xp := (by rw [ePw_2046]; rfl)
              have hy_2051 : Pw_2046.kd qp = 40 := (by rw [ePw_2046]; exact hy_2031)
              have hy_2052 : Pw_2046.kd qu = 41 := (by rw [ePw_2046]; exact hy_2032)
              have hy_2053 : Pw_2046.kd qz = 42 := (by rw [ePw_2046]; exact hy_2033)
              have hc_2054 : Pw_2046.ac qp = cI := (by rw [ePw_2046]; exact hc_2034)
              have : Pw_2046.an qp = Pw_2026.an qp := (by rw [ePw_2046]; rfl)
              have hc_2055 : Pw_2046.ac qu = cI := (by rw [ePw_2046]; exact hc_2035)
              have : Pw_2046.an qu = Pw_2026.an qu := (by rw [ePw_2046]; rfl)
              have hc_2056 : Pw_2046.ac qz = cZ := (by rw [ePw_2046]; exact hc_2036)
              have : Pw_2046.an qz = Pw_2026.an qz := (by rw [ePw_2046]; rfl)
              have ha_2057 : Pw_2046.pp xp = qp := (by rw [ePw_2046]; exact ha_2037)
              have ha_2058 : Pw_2046.pu xp = qu := (by rw [ePw_2046]; exact ha_2038)
              have ha_2059 : Pw_2046.pr xp = qz := (by rw [ePw_2046]; exact ha_2039)
              have ho_2060 : Pw_2046.ow qp = xp := (by rw [ePw_2046]; exact ho_2040)
              have ho_2061 : Pw_2046.ow qu = xp := (by rw [ePw_2046]; exact ho_2041)
              have ho_2062 : Pw_2046.ow qz = xp := (by rw [ePw_2046]; exact ho_2042)
              refine lv_iinc (v := zI (d2_2 + 1)) (lv' := [(2, .int (zI (d2_2 + 1))), (3, .int (zI (z_2022))), (0, .ref h0), (1, .ref xp)]) hx hb dX19_resolve__78 hl (k := 3) rfl (zI_add (d2_2) (1)) (by decide) rfl (fun ls hl => ?_)
              refine lv_goto (tgt := 2) hx hb dX19_resolve__81 (by decide) ?_
              exact ih2 (d2_2 + 1) Pw_2046 ls H _ (by omega) (wP2.trans (wPw_2026.trans (wPw_2046))) (by omega) (fun i a b => by rw [hi_2047, hi_2027, hi_2048, hi_2028, hi_2049, hi_2029]; exact EF.two (j := d2_2) (by have q9 := jef2 (d2_2) (by omega) (by omega); unfold EF at q9 ⊢; omega) (fun _ => jef2 i a b)) (by rw [hi_2047, hi_2027]; exact jq2) (by rw [hi_2049, hi_2029, hi_2048, hi_2028]; first | exact jx2.gone _ | exact jx2.reg (by omega) (by omega) (by omega) hcl9 (by omega) | (exfalso; omega)) (by rw [hi_2047, hi_2027]; exact jy2) (by omega) (lv_sub hl [2, 3, 0] rfl) hP hD hS
            · have yb64 : ¬ (a19_replaced (z_2022) : Int) = (0 : Int) := fun q => b64 ((zI_eq (a := a19_replaced (z_2022)) (b := 0) (by omega) (by omega) (by omega) (by omega)).mpr q)
              refine lv_aload_n hx hb dX19_resolve__67 rfl (lv_at hl 1 rfl) ?_
              refine va_get (D := (dC, dI)) (ci := 16) (v := .ref q_1914) (C := RX19) (T := TX19) (N := 41) hx hb hts mem_P19_resolvePhiE_2 hown hK hP 0 rfl rfl 14 (by decide) (ow (k := 8) rfl) (fun _ h9 => h9) rfl dX19_resolve__68 ?_
              refine lv_iload_n hx hb dX19_resolve__71 rfl (lv_at hl 0 rfl) ?_
              refine va_iald hx hb hK hP 3 5 rfl rfl (zI_in (a := z_2022) (n := 1002) (by omega) (by omega) (by decide)) dX19_resolve__72 ?_
              refine lv_topi (fun z ez => ?_)
              obtain rfl : z = zI (a19_by (z_2022)) := ez.trans (zI_ld (a19_by) (by omega) (by omega))
              have k3 := hR_a19_by (z_2022)
              refine lv_goto (tgt := 77) hx hb dX19_resolve__73 (by decide) ?_
              obtain ⟨kp_2063, gkp_2063⟩ := va_pl_get (X := [(h0, .inr (16, [v19_0, v19_1, v19_2, v19_3, v19_4, v19_5, v19_6, v19_7, v19_8, v19_9, v19_10, v19_11, .ref q_1912, .ref q_1913, .ref q_1914, v19_15, v19_16, v19_17, v19_18, v19_19, v19_20, v19_21, v19_22, v19_23, v19_24, v19_25, v19_26, v19_27, v19_28, v19_29, v19_30, v19_31, v19_32, v19_33, v19_34, v19_35, v19_36, v19_37, v19_38, v19_39, v19_40])), (q_1912, .inl (cA_1912, 1002, .inl (fun j : Nat => zI (a19_replaced (j : Int))))), (q_1913, .inl (cA_1913, 1002, .inl (fun j : Nat => zI (a19_byReg (j : Int))))), (q_1914, .inl (cA_1914, 1002, .inl (fun j : Nat => zI (a19_by (j : Int)))))]) (f := pE Pw_2026) hoqu.1
              have hkp_2063 := gkp_2063
              rw [pE_n41 hy_2032, hc_2035] at hkp_2063
              have hD0 := hD
              refine va_iast (i := zI (d2_2)) hx hb hK hP hD hS kp_2063 1 hkp_2063 rfl (zI_in (a := d2_2) (n := Pw_2026.an qu) (by omega) (by omega) (by omega)) dX19_resolve__77 (fun H locs hP hD hS => ?_)
              obtain ⟨Pw_2064, ePw_2064⟩ : ∃ q9 : PO, q9 = Pw_2026.ri9 qu (zup (Pw_2026.ia qu) (d2_2) (a19_by (z_2022))) := ⟨_, rfl⟩
              have eQ : upd (fun j : Nat => zI (Pw_2026.ia qu (j : Int))) (zI (d2_2)).toNatClampNeg (zI (a19_by (z_2022))) = (fun j : Nat => zI ((zup (Pw_2026.ia qu) (d2_2) (a19_by (z_2022))) (j : Int))) := zI_st (Pw_2026.ia qu) (e := d2_2) (v := a19_by (z_2022)) (by omega) (by omega)
              have eU : (([(h0, .inr (16, [v19_0, v19_1, v19_2, v19_3, v19_4, v19_5, v19_6, v19_7, v19_8, v19_9, v19_10, v19_11, .ref q_1912, .ref q_1913, .ref q_1914, v19_15, v19_16, v19_17, v19_18, v19_19, v19_20, v19_21, v19_22, v19_23, v19_24, v19_25, v19_26, v19_27, v19_28, v19_29, v19_30, v19_31, v19_32, v19_33, v19_34, v19_35, v19_36, v19_37, v19_38, v19_39, v19_40])), (q_1912, .inl (cA_1912, 1002, .inl (fun j : Nat => zI (a19_replaced (j : Int))))), (q_1913, .inl (cA_1913, 1002, .inl (fun j : Nat => zI (a19_byReg (j : Int))))), (q_1914, .inl (cA_1914, 1002, .inl (fun j : Nat => zI (a19_by (j : Int)))))] : va_W) ++ va_pl L (pE Pw_2026)).set kp_2063 (qu, (.inl (cI, Pw_2026.an qu, .inl (upd (fun j : Nat => zI (Pw_2026.ia qu (j : Int))) (zI (d2_2)).toNatClampNeg (zI (a19_by (z_2022))))) : va_E)) = ([(h0, .inr (16, [v19_0, v19_1, v19_2, v19_3, v19_4, v19_5, v19_6, v19_7, v19_8, v19_9, v19_10, v19_11, .ref q_1912, .ref q_1913, .ref q_1914, v19_15, v19_16, v19_17, v19_18, v19_19, v19_20, v19_21, v19_22, v19_23, v19_24, v19_25, v19_26, v19_27, v19_28, v19_29, v19_30, v19_31, v19_32, v19_33, v19_34, v19_35, v19_36, v19_37, v19_38, v19_39, v19_40])), (q_1912, .inl (cA_1912, 1002, .inl (fun j : Nat => zI (a19_replaced (j : Int))))), (q_1913, .inl (cA_1913, 1002, .inl (fun j : Nat => zI (a19_byReg (j : Int))))), (q_1914, .inl (cA_1914, 1002, .inl (fun j : Nat => zI (a19_by (j : Int)))))] : va_W) ++ va_pl L (pE Pw_2064) := (by rw [eQ, va_pl_set hD0 hoqu.1 gkp_2063, ePw_2064]; exact congrArg (fun f9 => ([(h0, .inr (16, [v19_0, v19_1, v19_2, v19_3, v19_4, v19_5, v19_6, v19_7, v19_8, v19_9, v19_10, v19_11, .ref q_1912, .ref q_1913, .ref q_1914, v19_15, v19_16, v19_17, v19_18, v19_19, v19_20, v19_21, v19_22, v19_23, v19_24, v19_25, v19_26, v19_27, v19_28, v19_29, v19_30, v19_31, v19_32, v19_33, v19_34, v19_35, v19_36, v19_37, v19_38, v19_39, v19_40])), (q_1912, .inl (cA_1912, 1002, .inl (fun j : Nat => zI (a19_replaced (j : Int))))), (q_1913, .inl (cA_1913, 1002, .inl (fun j : Nat => zI (a19_byReg (j : Int))))), (q_1914, .inl (cA_1914, 1002, .inl (fun j : Nat => zI (a19_by (j : Int)))))] : va_W) ++ va_pl L f9) (by have h9 := putnum (P := Pw_2026) (x := qu) (a := zup (Pw_2026.ia qu) (d2_2) (a19_by (z_2022))) (by omega); rw [hc_2035] at h9; exact h9))
              have hP : va_P (dC, dI) vwQ ([(h0, .inr (16, [v19_0, v19_1, v19_2, v19_3, v19_4, v19_5, v19_6, v19_7, v19_8, v19_9, v19_10, v19_11, .ref q_1912, .ref q_1913, .ref q_1914, v19_15, v19_16, v19_17, v19_18, v19_19, v19_20, v19_21, v19_22, v19_23, v19_24, v19_25, v19_26, v19_27, v19_28, v19_29, v19_30, v19_31, v19_32, v19_33, v19_34, v19_35, v19_36, v19_37, v19_38, v19_39, v19_40])), (q_1912, .inl (cA_1912, 1002, .inl (fun j : Nat => zI (a19_replaced (j : Int))))), (q_1913, .inl (cA_1913, 1002, .inl (fun j : Nat => zI (a19_byReg (j : Int))))), (q_1914, .inl (cA_1914, 1002, .inl (fun j : Nat => zI (a19_by (j : Int)))))] ++ va_pl L (pE Pw_2064)) H := (by rw [← eU]; exact hP)
              have hD : va_D A ([(h0, .inr (16, [v19_0, v19_1, v19_2, v19_3, v19_4, v19_5, v19_6, v19_7, v19_8, v19_9, v19_10, v19_11, .ref q_1912, .ref q_1913, .ref q_1914, v19_15, v19_16, v19_17, v19_18, v19_19, v19_20, v19_21, v19_22, v19_23, v19_24, v19_25, v19_26, v19_27, v19_28, v19_29, v19_30, v19_31, v19_32, v19_33, v19_34, v19_35, v19_36, v19_37, v19_38, v19_39, v19_40])), (q_1912, .inl (cA_1912, 1002, .inl (fun j : Nat => zI (a19_replaced (j : Int))))), (q_1913, .inl (cA_1913, 1002, .inl (fun j : Nat => zI (a19_byReg (j : Int))))), (q_1914, .inl (cA_1914, 1002, .inl (fun j : Nat => zI (a19_by (j : Int)))))] ++ va_pl L (pE Pw_2064)) := (by rw [← eU]; exact hD)
              clear eU eQ hD0 gkp_2063 hkp_2063
              have wPw_2064 : PH1 xp Pw_2026 Pw_2064 := (by rw [ePw_2064]; exact PH1.num ho_2041)
              have hi_2065 : Pw_2064.ia qp = Pw_2026.ia qp := (by rw [ePw_2064]; exact ri9_of _ _ (kd_ne hy_2031 hy_2032 (by decide)))
              have hi_2066 : Pw_2064.ia qu = zup (Pw_2026.ia qu) (d2_2) (a19_by (z_2022)) := (by rw [ePw_2064]; exact ri9_at _ _ _)
              have hi_2067 : Pw_2064.ia qz = Pw_2026.ia qz := (by rw [ePw_2064]; exact ri9_of _ _ (kd_ne hy_2033 hy_2032 (by decide)))
              have hy_2068 : Pw_2064.kd xp = 15 := (by rw [ePw_2064]; exact hy_2030)
              have : Pw_2064.pt xp = Pw_2026.pt xp := (by rw [ePw_2064]; rfl)
              have : Pw_2064.pn xp = Pw_2026.pn xp := (by rw [ePw_2064]; rfl)
              have : Pw_2064.pg xp = Pw_2026.pg xp := (by rw [ePw_2064]; rfl)
              have hy_2069 : Pw_2064.kd qp = 40 := (by rw [ePw_2064]; exact hy_2031)
              have hy_2070 : Pw_2064.kd qu = 41 := (by rw [ePw_2064]; exact hy_2032)
              have hy_2071 : Pw_2064.kd qz = 42 := (by rw [ePw_2064]; exact hy_2033)
              have hc_2072 : Pw_2064.ac qp = cI := (by rw [ePw_2064]; exact hc_2034)
              have : Pw_2064.an qp = Pw_2026.an qp := (by rw [ePw_2064]; rfl)
              have hc_2073 : Pw_2064.ac qu = cI := (by rw [ePw_2064]; exact hc_2035)
              have : Pw_2064.an qu = Pw_2026.an qu := (by rw [ePw_2064]; rfl)
              have hc_2074 : Pw_2064.ac qz = cZ := (by rw [ePw_2064]; exact hc_2036)
              have : Pw_2064.an qz = Pw_2026.an qz := (by rw [ePw_2064]; rfl)
              have ha_2075 : Pw_2064.pp xp = qp := (by rw [ePw_2064]; exact ha_2037)
              have ha_2076 : Pw_2064.pu xp = qu := (by rw [ePw_2064]; exact ha_2038)
              have ha_2077 : Pw_2064.pr xp = qz := (by rw [ePw_2064]; exact ha_2039)
              have ho_2078 : Pw_2064.ow qp = xp := (by rw [ePw_2064]; exact ho_2040)
              have ho_2079 : Pw_2064.ow qu = xp := (by rw [ePw_2064]; exact ho_2041)
              have ho_2080 : Pw_2064.ow qz = xp := (by rw [ePw_2064]; exact ho_2042)
              refine lv_iinc (v := zI (d2_2 + 1)) (lv' := [(2, .int (zI (d2_2 + 1))), (3, .int (zI (z_2022))), (0, .ref h0), (1, .ref xp)]) hx hb dX19_resolve__78 hl (k := 3) rfl (zI_add (d2_2) (1)) (by decide) rfl (fun ls hl => ?_)
              refine lv_goto (tgt := 2) hx hb dX19_resolve__81 (by decide) ?_
              exact ih2 (d2_2 + 1) Pw_2064 ls H _ (by omega) (wP2.trans (wPw_2026.trans (wPw_2064))) (by omega) (fun i a b => by rw [hi_2065, hi_2027, hi_2066, hi_2028, hi_2067, hi_2029]; exact EF.two (j := d2_2) (by have q9 := jef2 (d2_2) (by omega) (by omega); unfold EF at q9 ⊢; omega) (fun _ => jef2 i a b)) (by rw [hi_2065, hi_2027]; exact jq2) (by rw [hi_2067, hi_2029, hi_2066, hi_2028]; first | exact jx2.gone _ | exact jx2.reg (by omega) (by omega) (by omega) hcl9 (by omega) | (exfalso; omega)) (by rw [hi_2065, hi_2027]; exact jy2) (by omega) (lv_sub hl [2, 3, 0] rfl) hP hD hS
          · have yb44 : (a19_replaced (z_2022) : Int) = (0 : Int) := (zI_eq (a := a19_replaced (z_2022)) (b := 0) (by omega) (by omega) (by omega) (by omega)).mp b44
            refine lv_iconst (v := 1) hx hb dX19_resolve__47 (by decide) ?_
            refine lv_goto (tgt := 52) hx hb dX19_resolve__48 (by decide) ?_
            refine lv_topi (fun z ez => ?_)
            obtain rfl : z = zI (1) := ez
            obtain ⟨kp_2081, gkp_2081⟩ := va_pl_get (X := [(h0, .inr (16, [v19_0, v19_1, v19_2, v19_3, v19_4, v19_5, v19_6, v19_7, v19_8, v19_9, v19_10, v19_11, .ref q_1912, .ref q_1913, .ref q_1914, v19_15, v19_16, v19_17, v19_18, v19_19, v19_20, v19_21, v19_22, v19_23, v19_24, v19_25, v19_26, v19_27, v19_28, v19_29, v19_30, v19_31, v19_32, v19_33, v19_34, v19_35, v19_36, v19_37, v19_38, v19_39, v19_40])), (q_1912, .inl (cA_1912, 1002, .inl (fun j : Nat => zI (a19_replaced (j : Int))))), (q_1913, .inl (cA_1913, 1002, .inl (fun j : Nat => zI (a19_byReg (j : Int))))), (q_1914, .inl (cA_1914, 1002, .inl (fun j : Nat => zI (a19_by (j : Int)))))]) (f := pE P2) hoqz.1
            have hkp_2081 := gkp_2081
            rw [pE_n42 hy_2004, hc_2007] at hkp_2081
            have hD0 := hD
            refine va_zast (i := zI (d2_2)) hx hb hK hP hD hS kp_2081 2 hkp_2081 rfl (zI_in (a := d2_2) (n := P2.an qz) (by omega) (by omega) (by omega)) dX19_resolve__52 (fun H locs hP hD hS => ?_)
            rw [show vp_nar .boolean (zI (1)) = zI (1) from zI_nar (a := 1) (by omega) (by omega)] at hP hD
            obtain ⟨Pw_2082, ePw_2082⟩ : ∃ q9 : PO, q9 = P2.ri9 qz (zup (P2.ia qz) (d2_2) (1)) := ⟨_, rfl⟩
            have eQ : upd (fun j : Nat => zI (P2.ia qz (j : Int))) (zI (d2_2)).toNatClampNeg (zI (1)) = (fun j : Nat => zI ((zup (P2.ia qz) (d2_2) (1)) (j : Int))) := zI_st (P2.ia qz) (e := d2_2) (v := 1) (by omega) (by omega)
            have eU : (([(h0, .inr (16, [v19_0, v19_1, v19_2, v19_3, v19_4, v19_5, v19_6, v19_7, v19_8, v19_9, v19_10, v19_11, .ref q_1912, .ref q_1913, .ref q_1914, v19_15, v19_16, v19_17, v19_18, v19_19, v19_20, v19_21, v19_22, v19_23, v19_24, v19_25, v19_26, v19_27, v19_28, v19_29, v19_30, v19_31, v19_32, v19_33, v19_34, v19_35, v19_36, v19_37, v19_38, v19_39, v19_40])), (q_1912, .inl (cA_1912, 1002, .inl (fun j : Nat => zI (a19_replaced (j : Int))))), (q_1913, .inl (cA_1913, 1002, .inl (fun j : Nat => zI (a19_byReg (j : Int))))), (q_1914, .inl (cA_1914, 1002, .inl (fun j : Nat => zI (a19_by (j : Int)))))] : va_W) ++ va_pl L (pE P2)).set kp_2081 (qz, (.inl (cZ, P2.an qz, .inl (upd (fun j : Nat => zI (P2.ia qz (j : Int))) (zI (d2_2)).toNatClampNeg (zI (1)))) : va_E)) = ([(h0, .inr (16, [v19_0, v19_1, v19_2, v19_3, v19_4, v19_5, v19_6, v19_7, v19_8, v19_9, v19_10, v19_11, .ref q_1912, .ref q_1913, .ref q_1914, v19_15, v19_16, v19_17, v19_18, v19_19, v19_20, v19_21, v19_22, v19_23, v19_24, v19_25, v19_26, v19_27, v19_28, v19_29, v19_30, v19_31, v19_32, v19_33, v19_34, v19_35, v19_36, v19_37, v19_38, v19_39, v19_40])), (q_1912, .inl (cA_1912, 1002, .inl (fun j : Nat => zI (a19_replaced (j : Int))))), (q_1913, .inl (cA_1913, 1002, .inl (fun j : Nat => zI (a19_byReg (j : Int))))), (q_1914, .inl (cA_1914, 1002, .inl (fun j : Nat => zI (a19_by (j : Int)))))] : va_W) ++ va_pl L (pE Pw_2082) := (by rw [eQ, va_pl_set hD0 hoqz.1 gkp_2081, ePw_2082]; exact congrArg (fun f9 => ([(h0, .inr (16, [v19_0, v19_1, v19_2, v19_3, v19_4, v19_5, v19_6, v19_7, v19_8, v19_9, v19_10, v19_11, .ref q_1912, .ref q_1913, .ref q_1914, v19_15, v19_16, v19_17, v19_18, v19_19, v19_20, v19_21, v19_22, v19_23, v19_24, v19_25, v19_26, v19_27, v19_28, v19_29, v19_30, v19_31, v19_32, v19_33, v19_34, v19_35, v19_36, v19_37, v19_38, v19_39, v19_40])), (q_1912, .inl (cA_1912, 1002, .inl (fun j : Nat => zI (a19_replaced (j : Int))))), (q_1913, .inl (cA_1913, 1002, .inl (fun j : Nat => zI (a19_byReg (j : Int))))), (q_1914, .inl (cA_1914, 1002, .inl (fun j : Nat => zI (a19_by (j : Int)))))] : va_W) ++ va_pl L f9) (by have h9 := putnum (P := P2) (x := qz) (a := zup (P2.ia qz) (d2_2) (1)) (by omega); rw [hc_2007] at h9; exact h9))
            have hP : va_P (dC, dI) vwQ ([(h0, .inr (16, [v19_0, v19_1, v19_2, v19_3, v19_4, v19_5, v19_6, v19_7, v19_8, v19_9, v19_10, v19_11, .ref q_1912, .ref q_1913, .ref q_1914, v19_15, v19_16, v19_17, v19_18, v19_19, v19_20, v19_21, v19_22, v19_23, v19_24, v19_25, v19_26, v19_27, v19_28, v19_29, v19_30, v19_31, v19_32, v19_33, v19_34, v19_35, v19_36, v19_37, v19_38, v19_39, v19_40])), (q_1912, .inl (cA_1912, 1002, .inl (fun j : Nat => zI (a19_replaced (j : Int))))), (q_1913, .inl (cA_1913, 1002, .inl (fun j : Nat => zI (a19_byReg (j : Int))))), (q_1914, .inl (cA_1914, 1002, .inl (fun j : Nat => zI (a19_by (j : Int)))))] ++ va_pl L (pE Pw_2082)) H := (by rw [← eU]; exact hP)
            have hD : va_D A ([(h0, .inr (16, [v19_0, v19_1, v19_2, v19_3, v19_4, v19_5, v19_6, v19_7, v19_8, v19_9, v19_10, v19_11, .ref q_1912, .ref q_1913, .ref q_1914, v19_15, v19_16, v19_17, v19_18, v19_19, v19_20, v19_21, v19_22, v19_23, v19_24, v19_25, v19_26, v19_27, v19_28, v19_29, v19_30, v19_31, v19_32, v19_33, v19_34, v19_35, v19_36, v19_37, v19_38, v19_39, v19_40])), (q_1912, .inl (cA_1912, 1002, .inl (fun j : Nat => zI (a19_replaced (j : Int))))), (q_1913, .inl (cA_1913, 1002, .inl (fun j : Nat => zI (a19_byReg (j : Int))))), (q_1914, .inl (cA_1914, 1002, .inl (fun j : Nat => zI (a19_by (j : Int)))))] ++ va_pl L (pE Pw_2082)) := (by rw [← eU]; exact hD)
            clear eU eQ hD0 gkp_2081 hkp_2081
            have wPw_2082 : PH1 xp P2 Pw_2082 := (by rw [ePw_2082]; exact PH1.num ho_2013)
            have hi_2083 : Pw_2082.ia qp = P2.ia qp := (by rw [ePw_2082]; exact ri9_of _ _ (kd_ne hy_2002 hy_2004 (by decide)))
            have hi_2084 : Pw_2082.ia qu = P2.ia qu := (by rw [ePw_2082]; exact ri9_of _ _ (kd_ne hy_2003 hy_2004 (by decide)))
            have hi_2085 : Pw_2082.ia qz = zup (P2.ia qz) (d2_2) (1) := (by rw [ePw_2082]; exact ri9_at _ _ _)
            have hy_2086 : Pw_2082.kd xp = 15 := (by rw [ePw_2082]; exact hy_2001)
            have : Pw_2082.pt xp = P2.pt xp := (by rw [ePw_2082]; rfl)
            have : Pw_2082.pn xp = P2.pn xp := (by rw [ePw_2082]; rfl)
            have : Pw_2082.pg xp = P2.pg xp := (by rw [ePw_2082]; rfl)
            have hy_2087 : Pw_2082.kd qp = 40 := (by rw [ePw_2082]; exact hy_2002)
            have hy_2088 : Pw_2082.kd qu = 41 := (by rw [ePw_2082]; exact hy_2003)
            have hy_2089 : Pw_2082.kd qz = 42 := (by rw [ePw_2082]; exact hy_2004)
            have hc_2090 : Pw_2082.ac qp = cI := (by rw [ePw_2082]; exact hc_2005)
            have : Pw_2082.an qp = P2.an qp := (by rw [ePw_2082]; rfl)
            have hc_2091 : Pw_2082.ac qu = cI := (by rw [ePw_2082]; exact hc_2006)
            have : Pw_2082.an qu = P2.an qu := (by rw [ePw_2082]; rfl)
            have hc_2092 : Pw_2082.ac qz = cZ := (by rw [ePw_2082]; exact hc_2007)
            have : Pw_2082.an qz = P2.an qz := (by rw [ePw_2082]; rfl)
            have ha_2093 : Pw_2082.pp xp = qp := (by rw [ePw_2082]; exact ha_2008)
            have ha_2094 : Pw_2082.pu xp = qu := (by rw [ePw_2082]; exact ha_2009)
            have ha_2095 : Pw_2082.pr xp = qz := (by rw [ePw_2082]; exact ha_2010)
            have ho_2096 : Pw_2082.ow qp = xp := (by rw [ePw_2082]; exact ho_2011)
            have ho_2097 : Pw_2082.ow qu = xp := (by rw [ePw_2082]; exact ho_2012)
            have ho_2098 : Pw_2082.ow qz = xp := (by rw [ePw_2082]; exact ho_2013)
            refine lv_aload_n hx hb dX19_resolve__53 rfl (lv_at hl 2 rfl) ?_
            obtain ⟨kp_2099, hkp_2099⟩ := va_pl_get (X := [(h0, .inr (16, [v19_0, v19_1, v19_2, v19_3, v19_4, v19_5, v19_6, v19_7, v19_8, v19_9, v19_10, v19_11, .ref q_1912, .ref q_1913, .ref q_1914, v19_15, v19_16, v19_17, v19_18, v19_19, v19_20, v19_21, v19_22, v19_23, v19_24, v19_25, v19_26, v19_27, v19_28, v19_29, v19_30, v19_31, v19_32, v19_33, v19_34, v19_35, v19_36, v19_37, v19_38, v19_39, v19_40])), (q_1912, .inl (cA_1912, 1002, .inl (fun j : Nat => zI (a19_replaced (j : Int))))), (q_1913, .inl (cA_1913, 1002, .inl (fun j : Nat => zI (a19_byReg (j : Int))))), (q_1914, .inl (cA_1914, 1002, .inl (fun j : Nat => zI (a19_by (j : Int)))))]) (f := pE Pw_2082) hX_p.1.1
            rw [pE_phi hy_2086] at hkp_2099
            refine va_get (D := (dC, dI)) (ci := 20) (v := .ref (Pw_2082.pu xp)) (C := RX15) (T := TX15) (N := 6) hx hb hts mem_P19_resolvePhiE_0 hown hK hP kp_2099 hkp_2099 rfl 3 (by decide) (ow (k := 2) rfl) (fun _ h9 => h9) rfl dX19_resolve__54 ?_
            obtain ⟨pr_2100, epr_2100⟩ : ∃ q9 : Nat, q9 = Pw_2082.pu xp := ⟨_, rfl⟩
            rw [← epr_2100]
            obtain rfl : qu = pr_2100 := (by rw [epr_2100]; exact ha_2094.symm)
            refine lv_iload_n hx hb dX19_resolve__57 rfl (lv_at hl 3 rfl) ?_
            refine lv_aload_n hx hb dX19_resolve__58 rfl (lv_at hl 1 rfl) ?_
            refine va_get (D := (dC, dI)) (ci := 16) (v := .ref q_1912) (C := RX19) (T := TX19) (N := 41) hx hb hts mem_P19_resolvePhiE_2 hown hK hP 0 rfl rfl 12 (by decide) (ow (k := 7) rfl) (fun _ h9 => h9) rfl dX19_resolve__59 ?_
            refine lv_iload_n hx hb dX19_resolve__62 rfl (lv_at hl 0 rfl) ?_
            refine va_zald hx hb hK hP 1 3 rfl rfl (zI_in (a := z_2022) (n := 1002) (by omega) (by omega) (by decide)) dX19_resolve__63 ?_
            refine lv_topi (fun z ez => ?_)
            obtain rfl : z = zI (a19_replaced (z_2022)) := ez.trans (zI_ld (a19_replaced) (by omega) (by omega))
            have k4 := hR_a19_replaced (z_2022)
            refine lv_if_eq (tgt := 76) hx hb dX19_resolve__64 (by decide) (fun b64 => ?_) (fun b64 => ?_)
            · have yb64 : (a19_replaced (z_2022) : Int) = (0 : Int) := (zI_eq (a := a19_replaced (z_2022)) (b := 0) (by omega) (by omega) (by omega) (by omega)).mp b64
              refine lv_iload_n hx hb dX19_resolve__76 rfl (lv_at hl 0 rfl) ?_
              obtain ⟨kp_2101, gkp_2101⟩ := va_pl_get (X := [(h0, .inr (16, [v19_0, v19_1, v19_2, v19_3, v19_4, v19_5, v19_6, v19_7, v19_8, v19_9, v19_10, v19_11, .ref q_1912, .ref q_1913, .ref q_1914, v19_15, v19_16, v19_17, v19_18, v19_19, v19_20, v19_21, v19_22, v19_23, v19_24, v19_25, v19_26, v19_27, v19_28, v19_29, v19_30, v19_31, v19_32, v19_33, v19_34, v19_35, v19_36, v19_37, v19_38, v19_39, v19_40])), (q_1912, .inl (cA_1912, 1002, .inl (fun j : Nat => zI (a19_replaced (j : Int))))), (q_1913, .inl (cA_1913, 1002, .inl (fun j : Nat => zI (a19_byReg (j : Int))))), (q_1914, .inl (cA_1914, 1002, .inl (fun j : Nat => zI (a19_by (j : Int)))))]) (f := pE Pw_2082) hoqu.1
              have hkp_2101 := gkp_2101
              rw [pE_n41 hy_2088, hc_2091] at hkp_2101
              have hD0 := hD
              refine va_iast (i := zI (d2_2)) hx hb hK hP hD hS kp_2101 1 hkp_2101 rfl (zI_in (a := d2_2) (n := Pw_2082.an qu) (by omega) (by omega) (by omega)) dX19_resolve__77 (fun H locs hP hD hS => ?_)
              obtain ⟨Pw_2102, ePw_2102⟩ : ∃ q9 : PO, q9 = Pw_2082.ri9 qu (zup (Pw_2082.ia qu) (d2_2) (z_2022)) := ⟨_, rfl⟩
              have eQ : upd (fun j : Nat => zI (Pw_2082.ia qu (j : Int))) (zI (d2_2)).toNatClampNeg (zI (z_2022)) = (fun j : Nat => zI ((zup (Pw_2082.ia qu) (d2_2) (z_2022)) (j : Int))) := zI_st (Pw_2082.ia qu) (e := d2_2) (v := z_2022) (by omega) (by omega)
              have eU : (([(h0, .inr (16, [v19_0, v19_1, v19_2, v19_3, v19_4, v19_5, v19_6, v19_7, v19_8, v19_9, v19_10, v19_11, .ref q_1912, .ref q_1913, .ref q_1914, v19_15, v19_16, v19_17, v19_18, v19_19, v19_20, v19_21, v19_22, v19_23, v19_24, v19_25, v19_26, v19_27, v19_28, v19_29, v19_30, v19_31, v19_32, v19_33, v19_34, v19_35, v19_36, v19_37, v19_38, v19_39, v19_40])), (q_1912, .inl (cA_1912, 1002, .inl (fun j : Nat => zI (a19_replaced (j : Int))))), (q_1913, .inl (cA_1913, 1002, .inl (fun j : Nat => zI (a19_byReg (j : Int))))), (q_1914, .inl (cA_1914, 1002, .inl (fun j : Nat => zI (a19_by (j : Int)))))] : va_W) ++ va_pl L (pE Pw_2082)).set kp_2101 (qu, (.inl (cI, Pw_2082.an qu, .inl (upd (fun j : Nat => zI (Pw_2082.ia qu (j : Int))) (zI (d2_2)).toNatClampNeg (zI (z_2022)))) : va_E)) = ([(h0, .inr (16, [v19_0, v19_1, v19_2, v19_3, v19_4, v19_5, v19_6, v19_7, v19_8, v19_9, v19_10, v19_11, .ref q_1912, .ref q_1913, .ref q_1914, v19_15, v19_16, v19_17, v19_18, v19_19, v19_20, v19_21, v19_22, v19_23, v19_24, v19_25, v19_26, v19_27, v19_28, v19_29, v19_30, v19_31, v19_32, v19_33, v19_34, v19_35, v19_36, v19_37, v19_38, v19_39, v19_40])), (q_1912, .inl (cA_1912, 1002, .inl (fun j : Nat => zI (a19_replaced (j : Int))))), (q_1913, .inl (cA_1913, 1002, .inl (fun j : Nat => zI (a19_byReg (j : Int))))), (q_1914, .inl (cA_1914, 1002, .inl (fun j : Nat => zI (a19_by (j : Int)))))] : va_W) ++ va_pl L (pE Pw_2102) := (by rw [eQ, va_pl_set hD0 hoqu.1 gkp_2101, ePw_2102]; exact congrArg (fun f9 => ([(h0, .inr (16, [v19_0, v19_1, v19_2, v19_3, v19_4, v19_5, v19_6, v19_7, v19_8, v19_9, v19_10, v19_11, .ref q_1912, .ref q_1913, .ref q_1914, v19_15, v19_16, v19_17, v19_18, v19_19, v19_20, v19_21, v19_22, v19_23, v19_24, v19_25, v19_26, v19_27, v19_28, v19_29, v19_30, v19_31, v19_32, v19_33, v19_34, v19_35, v19_36, v19_37, v19_38, v19_39, v19_40])), (q_1912, .inl (cA_1912, 1002, .inl (fun j : Nat => zI (a19_replaced (j : Int))))), (q_1913, .inl (cA_1913, 1002, .inl (fun j : Nat => zI (a19_byReg (j : Int))))), (q_1914, .inl (cA_1914, 1002, .inl (fun j : Nat => zI (a19_by (j : Int)))))] : va_W) ++ va_pl L f9) (by have h9 := putnum (P := Pw_2082) (x := qu) (a := zup (Pw_2082.ia qu) (d2_2) (z_2022)) (by omega); rw [hc_2091] at h9; exact h9))
              have hP : va_P (dC, dI) vwQ ([(h0, .inr (16, [v19_0, v19_1, v19_2, v19_3, v19_4, v19_5, v19_6, v19_7, v19_8, v19_9, v19_10, v19_11, .ref q_1912, .ref q_1913, .ref q_1914, v19_15, v19_16, v19_17, v19_18, v19_19, v19_20, v19_21, v19_22, v19_23, v19_24, v19_25, v19_26, v19_27, v19_28, v19_29, v19_30, v19_31, v19_32, v19_33, v19_34, v19_35, v19_36, v19_37, v19_38, v19_39, v19_40])), (q_1912, .inl (cA_1912, 1002, .inl (fun j : Nat => zI (a19_replaced (j : Int))))), (q_1913, .inl (cA_1913, 1002, .inl (fun j : Nat => zI (a19_byReg (j : Int))))), (q_1914, .inl (cA_1914, 1002, .inl (fun j : Nat => zI (a19_by (j : Int)))))] ++ va_pl L (pE Pw_2102)) H := (by rw [← eU]; exact hP)
              have hD : va_D A ([(h0, .inr (16, [v19_0, v19_1, v19_2, v19_3, v19_4, v19_5, v19_6, v19_7, v19_8, v19_9, v19_10, v19_11, .ref q_1912, .ref q_1913, .ref q_1914, v19_15, v19_16, v19_17, v19_18, v19_19, v19_20, v19_21, v19_22, v19_23, v19_24, v19_25, v19_26, v19_27, v19_28, v19_29, v19_30, v19_31, v19_32, v19_33, v19_34, v19_35, v19_36, v19_37, v19_38, v19_39, v19_40])), (q_1912, .inl (cA_1912, 1002, .inl (fun j : Nat => zI (a19_replaced (j : Int))))), (q_1913, .inl (cA_1913, 1002, .inl (fun j : Nat => zI (a19_byReg (j : Int))))), (q_1914, .inl (cA_1914, 1002, .inl (fun j : Nat => zI (a19_by (j : Int)))))] ++ va_pl L (pE Pw_2102)) := (by rw [← eU]; exact hD)
              clear eU eQ hD0 gkp_2101 hkp_2101
              have wPw_2102 : PH1 xp Pw_2082 Pw_2102 := (by rw [ePw_2102]; exact PH1.num ho_2097)
              have hi_2103 : Pw_2102.ia qp = Pw_2082.ia qp := (by rw [ePw_2102]; exact ri9_of _ _ (kd_ne hy_2087 hy_2088 (by decide)))
              have hi_2104 : Pw_2102.ia qu = zup (Pw_2082.ia qu) (d2_2) (z_2022) := (by rw [ePw_2102]; exact ri9_at _ _ _)
              have hi_2105 : Pw_2102.ia qz = Pw_2082.ia qz := (by rw [ePw_2102]; exact ri9_of _ _ (kd_ne hy_2089 hy_2088 (by decide)))
              have hy_2106 : Pw_2102.kd xp = 15 := (by rw [ePw_2102]; exact hy_2086)
              have : Pw_2102.pt xp = Pw_2082.pt xp := (by rw [ePw_2102]; rfl)
              have : Pw_2102.pn xp = Pw_2082.pn xp := (by rw [ePw_2102]; rfl)
              have : Pw_2102.pg xp = Pw_2082.pg xp := (by rw [ePw_2102]; rfl)
              have hy_2107 : Pw_2102.kd qp = 40 := (by rw [ePw_2102]; exact hy_2087)
              have hy_2108 : Pw_2102.kd qu = 41 := (by rw [ePw_2102]; exact hy_2088)
              have hy_2109 : Pw_2102.kd qz = 42 := (by rw [ePw_2102]; exact hy_2089)
              have hc_2110 : Pw_2102.ac qp = cI := (by rw [ePw_2102]; exact hc_2090)
              have : Pw_2102.an qp = Pw_2082.an qp := (by rw [ePw_2102]; rfl)
              have hc_2111 : Pw_2102.ac qu = cI := (by rw [ePw_2102]; exact hc_2091)
              have : Pw_2102.an qu = Pw_2082.an qu := (by rw [ePw_2102]; rfl)
              have hc_2112 : Pw_2102.ac qz = cZ := (by rw [ePw_2102]; exact hc_2092)
              have : Pw_2102.an qz = Pw_2082.an qz := (by rw [ePw_2102]; rfl)
              have ha_2113 : Pw_2102.pp xp = qp := (by rw [ePw_2102]; exact ha_2093)
              have ha_2114 : Pw_2102.pu xp = qu := (by rw [ePw_2102]; exact ha_2094)
              have ha_2115 : Pw_2102.pr xp = qz := (by rw [ePw_2102]; exact ha_2095)
              have ho_2116 : Pw_2102.ow qp = xp := (by rw [ePw_2102]; exact ho_2096)
              have ho_2117 : Pw_2102.ow qu = xp := (by rw [ePw_2102]; exact ho_2097)
              have ho_2118 : Pw_2102.ow qz = xp := (by rw [ePw_2102]; exact ho_2098)
              refine lv_iinc (v := zI (d2_2 + 1)) (lv' := [(2, .int (zI (d2_2 + 1))), (3, .int (zI (z_2022))), (0, .ref h0), (1, .ref xp)]) hx hb dX19_resolve__78 hl (k := 3) rfl (zI_add (d2_2) (1)) (by decide) rfl (fun ls hl => ?_)
              refine lv_goto (tgt := 2) hx hb dX19_resolve__81 (by decide) ?_
              exact ih2 (d2_2 + 1) Pw_2102 ls H _ (by omega) (wP2.trans (wPw_2082.trans (wPw_2102))) (by omega) (fun i a b => by rw [hi_2103, hi_2083, hi_2104, hi_2084, hi_2105, hi_2085]; exact EF.two (j := d2_2) (by have q9 := jef2 (d2_2) (by omega) (by omega); unfold EF at q9 ⊢; omega) (fun _ => jef2 i a b)) (by rw [hi_2103, hi_2083]; exact jq2) (by rw [hi_2105, hi_2085, hi_2104, hi_2084]; first | exact jx2.gone _ | exact jx2.reg (by omega) (by omega) (by omega) hcl9 (by omega) | (exfalso; omega)) (by rw [hi_2103, hi_2083]; exact jy2) (by omega) (lv_sub hl [2, 3, 0] rfl) hP hD hS
            · have yb64 : ¬ (a19_replaced (z_2022) : Int) = (0 : Int) := fun q => b64 ((zI_eq (a := a19_replaced (z_2022)) (b := 0) (by omega) (by omega) (by omega) (by omega)).mpr q)
              refine lv_aload_n hx hb dX19_resolve__67 rfl (lv_at hl 1 rfl) ?_
              refine va_get (D := (dC, dI)) (ci := 16) (v := .ref q_1914) (C := RX19) (T := TX19) (N := 41) hx hb hts mem_P19_resolvePhiE_2 hown hK hP 0 rfl rfl 14 (by decide) (ow (k := 8) rfl) (fun _ h9 => h9) rfl dX19_resolve__68 ?_
              refine lv_iload_n hx hb dX19_resolve__71 rfl (lv_at hl 0 rfl) ?_
              refine va_iald hx hb hK hP 3 5 rfl rfl (zI_in (a := z_2022) (n := 1002) (by omega) (by omega) (by decide)) dX19_resolve__72 ?_
              refine lv_topi (fun z ez => ?_)
              obtain rfl : z = zI (a19_by (z_2022)) := ez.trans (zI_ld (a19_by) (by omega) (by omega))
              have k5 := hR_a19_by (z_2022)
              refine lv_goto (tgt := 77) hx hb dX19_resolve__73 (by decide) ?_
              obtain ⟨kp_2119, gkp_2119⟩ := va_pl_get (X := [(h0, .inr (16, [v19_0, v19_1, v19_2, v19_3, v19_4, v19_5, v19_6, v19_7, v19_8, v19_9, v19_10, v19_11, .ref q_1912, .ref q_1913, .ref q_1914, v19_15, v19_16, v19_17, v19_18, v19_19, v19_20, v19_21, v19_22, v19_23, v19_24, v19_25, v19_26, v19_27, v19_28, v19_29, v19_30, v19_31, v19_32, v19_33, v19_34, v19_35, v19_36, v19_37, v19_38, v19_39, v19_40])), (q_1912, .inl (cA_1912, 1002, .inl (fun j : Nat => zI (a19_replaced (j : Int))))), (q_1913, .inl (cA_1913, 1002, .inl (fun j : Nat => zI (a19_byReg (j : Int))))), (q_1914, .inl (cA_1914, 1002, .inl (fun j : Nat => zI (a19_by (j : Int)))))]) (f := pE Pw_2082) hoqu.1
              have hkp_2119 := gkp_2119
              rw [pE_n41 hy_2088, hc_2091] at hkp_2119
              have hD0 := hD
              refine va_iast (i := zI (d2_2)) hx hb hK hP hD hS kp_2119 1 hkp_2119 rfl (zI_in (a := d2_2) (n := Pw_2082.an qu) (by omega) (by omega) (by omega)) dX19_resolve__77 (fun H locs hP hD hS => ?_)
              obtain ⟨Pw_2120, ePw_2120⟩ : ∃ q9 : PO, q9 = Pw_2082.ri9 qu (zup (Pw_2082.ia qu) (d2_2) (a19_by (z_2022))) := ⟨_, rfl⟩
              have eQ : upd (fun j : Nat => zI (Pw_2082.ia qu (j : Int))) (zI (d2_2)).toNatClampNeg (zI (a19_by (z_2022))) = (fun j : Nat => zI ((zup (Pw_2082.ia qu) (d2_2) (a19_by (z_2022))) (j : Int))) := zI_st (Pw_2082.ia qu) (e := d2_2) (v := a19_by (z_2022)) (by omega) (by omega)
              have eU : (([(h0, .inr (16, [v19_0, v19_1, v19_2, v19_3, v19_4, v19_5, v19_6, v19_7, v19_8, v19_9, v19_10, v19_11, .ref q_1912, .ref q_1913, .ref q_1914, v19_15, v19_16, v19_17, v19_18, v19_19, v19_20, v19_21, v19_22, v19_23, v19_24, v19_25, v19_26, v19_27, v19_28, v19_29, v19_30, v19_31, v19_32, v19_33, v19_34, v19_35, v19_36, v19_37, v19_38, v19_39, v19_40])), (q_1912, .inl (cA_1912, 1002, .inl (fun j : Nat => zI (a19_replaced (j : Int))))), (q_1913, .inl (cA_1913, 1002, .inl (fun j : Nat => zI (a19_byReg (j : Int))))), (q_1914, .inl (cA_1914, 1002, .inl (fun j : Nat => zI (a19_by (j : Int)))))] : va_W) ++ va_pl L (pE Pw_2082)).set kp_2119 (qu, (.inl (cI, Pw_2082.an qu, .inl (upd (fun j : Nat => zI (Pw_2082.ia qu (j : Int))) (zI (d2_2)).toNatClampNeg (zI (a19_by (z_2022))))) : va_E)) = ([(h0, .inr (16, [v19_0, v19_1, v19_2, v19_3, v19_4, v19_5, v19_6, v19_7, v19_8, v19_9, v19_10, v19_11, .ref q_1912, .ref q_1913, .ref q_1914, v19_15, v19_16, v19_17, v19_18, v19_19, v19_20, v19_21, v19_22, v19_23, v19_24, v19_25, v19_26, v19_27, v19_28, v19_29, v19_30, v19_31, v19_32, v19_33, v19_34, v19_35, v19_36, v19_37, v19_38, v19_39, v19_40])), (q_1912, .inl (cA_1912, 1002, .inl (fun j : Nat => zI (a19_replaced (j : Int))))), (q_1913, .inl (cA_1913, 1002, .inl (fun j : Nat => zI (a19_byReg (j : Int))))), (q_1914, .inl (cA_1914, 1002, .inl (fun j : Nat => zI (a19_by (j : Int)))))] : va_W) ++ va_pl L (pE Pw_2120) := (by rw [eQ, va_pl_set hD0 hoqu.1 gkp_2119, ePw_2120]; exact congrArg (fun f9 => ([(h0, .inr (16, [v19_0, v19_1, v19_2, v19_3, v19_4, v19_5, v19_6, v19_7, v19_8, v19_9, v19_10, v19_11, .ref q_1912, .ref q_1913, .ref q_1914, v19_15, v19_16, v19_17, v19_18, v19_19, v19_20, v19_21, v19_22, v19_23, v19_24, v19_25, v19_26, v19_27, v19_28, v19_29, v19_30, v19_31, v19_32, v19_33, v19_34, v19_35, v19_36, v19_37, v19_38, v19_39, v19_40])), (q_1912, .inl (cA_1912, 1002, .inl (fun j : Nat => zI (a19_replaced (j : Int))))), (q_1913, .inl (cA_1913, 1002, .inl (fun j : Nat => zI (a19_byReg (j : Int))))), (q_1914, .inl (cA_1914, 1002, .inl (fun j : Nat => zI (a19_by (j : Int)))))] : va_W) ++ va_pl L f9) (by have h9 := putnum (P := Pw_2082) (x := qu) (a := zup (Pw_2082.ia qu) (d2_2) (a19_by (z_2022))) (by omega); rw [hc_2091] at h9; exact h9))
              have hP : va_P (dC, dI) vwQ ([(h0, .inr (16, [v19_0, v19_1, v19_2, v19_3, v19_4, v19_5, v19_6, v19_7, v19_8, v19_9, v19_10, v19_11, .ref q_1912, .ref q_1913, .ref q_1914, v19_15, v19_16, v19_17, v19_18, v19_19, v19_20, v19_21, v19_22, v19_23, v19_24, v19_25, v19_26, v19_27, v19_28, v19_29, v19_30, v19_31, v19_32, v19_33, v19_34, v19_35, v19_36, v19_37, v19_38, v19_39, v19_40])), (q_1912, .inl (cA_1912, 1002, .inl (fun j : Nat => zI (a19_replaced (j : Int))))), (q_1913, .inl (cA_1913, 1002, .inl (fun j : Nat => zI (a19_byReg (j : Int))))), (q_1914, .inl (cA_1914, 1002, .inl (fun j : Nat => zI (a19_by (j : Int)))))] ++ va_pl L (pE Pw_2120)) H := (by rw [← eU]; exact hP)
              have hD : va_D A ([(h0, .inr (16, [v19_0, v19_1, v19_2, v19_3, v19_4, v19_5, v19_6, v19_7, v19_8, v19_9, v19_10, v19_11, .ref q_1912, .ref q_1913, .ref q_1914, v19_15, v19_16, v19_17, v19_18, v19_19, v19_20, v19_21, v19_22, v19_23, v19_24, v19_25, v19_26, v19_27, v19_28, v19_29, v19_30, v19_31, v19_32, v19_33, v19_34, v19_35, v19_36, v19_37, v19_38, v19_39, v19_40])), (q_1912, .inl (cA_1912, 1002, .inl (fun j : Nat => zI (a19_replaced (j : Int))))), (q_1913, .inl (cA_1913, 1002, .inl (fun j : Nat => zI (a19_byReg (j : Int))))), (q_1914, .inl (cA_1914, 1002, .inl (fun j : Nat => zI (a19_by (j : Int)))))] ++ va_pl L (pE Pw_2120)) := (by rw [← eU]; exact hD)
              clear eU eQ hD0 gkp_2119 hkp_2119
              have wPw_2120 : PH1 xp Pw_2082 Pw_2120 := (by rw [ePw_2120]; exact PH1.num ho_2097)
              have hi_2121 : Pw_2120.ia qp = Pw_2082.ia qp := (by rw [ePw_2120]; exact ri9_of _ _ (kd_ne hy_2087 hy_2088 (by decide)))
              have hi_2122 : Pw_2120.ia qu = zup (Pw_2082.ia qu) (d2_2) (a19_by (z_2022)) := (by rw [ePw_2120]; exact ri9_at _ _ _)
              have hi_2123 : Pw_2120.ia qz = Pw_2082.ia qz := (by rw [ePw_2120]; exact ri9_of _ _ (kd_ne hy_2089 hy_2088 (by decide)))
              have hy_2124 : Pw_2120.kd xp = 15 := (by rw [ePw_2120]; exact hy_2086)
              have : Pw_2120.pt xp = Pw_2082.pt xp := (by rw [ePw_2120]; rfl)
              have : Pw_2120.pn xp = Pw_2082.pn xp := (by rw [ePw_2120]; rfl)
              have : Pw_2120.pg xp = Pw_2082.pg xp := (by rw [ePw_2120]; rfl)
              have hy_2125 : Pw_2120.kd qp = 40 := (by rw [ePw_2120]; exact hy_2087)
              have hy_2126 : Pw_2120.kd qu = 41 := (by rw [ePw_2120]; exact hy_2088)
              have hy_2127 : Pw_2120.kd qz = 42 := (by rw [ePw_2120]; exact hy_2089)
              have hc_2128 : Pw_2120.ac qp = cI := (by rw [ePw_2120]; exact hc_2090)
              have : Pw_2120.an qp = Pw_2082.an qp := (by rw [ePw_2120]; rfl)
              have hc_2129 : Pw_2120.ac qu = cI := (by rw [ePw_2120]; exact hc_2091)
              have : Pw_2120.an qu = Pw_2082.an qu := (by rw [ePw_2120]; rfl)
              have hc_2130 : Pw_2120.ac qz = cZ := (by rw [ePw_2120]; exact hc_2092)
              have : Pw_2120.an qz = Pw_2082.an qz := (by rw [ePw_2120]; rfl)
              have ha_2131 : Pw_2120.pp xp = qp := (by rw [ePw_2120]; exact ha_2093)
              have ha_2132 : Pw_2120.pu xp = qu := (by rw [ePw_2120]; exact ha_2094)
              have ha_2133 : Pw_2120.pr xp = qz := (by rw [ePw_2120]; exact ha_2095)
              have ho_2134 : Pw_2120.ow qp = xp := (by rw [ePw_2120]; exact ho_2096)
              have ho_2135 : Pw_2120.ow qu = xp := (by rw [ePw_2120]; exact ho_2097)
              have ho_2136 : Pw_2120.ow qz = xp := (by rw [ePw_2120]; exact ho_2098)
              refine lv_iinc (v := zI (d2_2 + 1)) (lv' := [(2, .int (zI (d2_2 + 1))), (3, .int (zI (z_2022))), (0, .ref h0), (1, .ref xp)]) hx hb dX19_resolve__78 hl (k := 3) rfl (zI_add (d2_2) (1)) (by decide) rfl (fun ls hl => ?_)
              refine lv_goto (tgt := 2) hx hb dX19_resolve__81 (by decide) ?_
              exact ih2 (d2_2 + 1) Pw_2120 ls H _ (by omega) (wP2.trans (wPw_2082.trans (wPw_2120))) (by omega) (fun i a b => by rw [hi_2121, hi_2083, hi_2122, hi_2084, hi_2123, hi_2085]; exact EF.two (j := d2_2) (by have q9 := jef2 (d2_2) (by omega) (by omega); unfold EF at q9 ⊢; omega) (fun _ => jef2 i a b)) (by rw [hi_2121, hi_2083]; exact jq2) (by rw [hi_2123, hi_2085, hi_2122, hi_2084]; first | exact jx2.gone _ | exact jx2.reg (by omega) (by omega) (by omega) hcl9 (by omega) | (exfalso; omega)) (by rw [hi_2121, hi_2083]; exact jy2) (by omega) (lv_sub hl [2, 3, 0] rfl) hP hD hS
        · have yb16 : (P2.ia qz (d2_2) : Int) = (0 : Int) := (zI_eq (a := P2.ia qz (d2_2)) (b := 0) (by omega) (by omega) (by omega) (by omega)).mp b16
          refine lv_goto (tgt := 78) hx hb dX19_resolve__19 (by decide) ?_
          refine lv_iinc (v := zI (d2_2 + 1)) (lv' := [(2, .int (zI (d2_2 + 1))), (0, .ref h0), (1, .ref xp)]) hx hb dX19_resolve__78 hl (k := 2) rfl (zI_add (d2_2) (1)) (by decide) rfl (fun ls hl => ?_)
          refine lv_goto (tgt := 2) hx hb dX19_resolve__81 (by decide) ?_
          exact ih2 (d2_2 + 1) P2 ls H _ (by omega) (wP2) (by omega) jef2 jq2 (jx2.skip (by omega) (by omega) (by omega)) jy2 (by omega) (lv_sub hl [1, 2, 0] rfl) hP hD hS
  exact key2 ((P.pn xp - 0 : Int).toNat + 1) 0 P ls H _ (by omega) (PH1.refl _ _) (by omega) hpa (PQ9.refl _ _) (RSF.first _ _ _ _ _ _) rfl (by omega) (lv_sub hl [1, 2, 0] rfl) hP hD hS
